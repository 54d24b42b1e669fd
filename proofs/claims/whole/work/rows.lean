section
-- ===== PART A: goes FIRST, ahead of the names: the tables' words, and 'selects' of the private methods out of them =====
/-- a private method of a class that the tables say can be made, by its rows of tables_1 -/
def lw_okq (q : MethodName × Nat) : Prop := (q.1.cls ≠ "java/lang/invoke/MethodHandle" ∧ q.1.cls ≠ "java/lang/invoke/VarHandle") ∧ Cond.instantiable q.1.cls q.2 ∈ tables_1 ∧ Cond.privateMethod q.1 ∈ tables_1 ∧ Cond.instanceMethod q.1 ∈ tables_1
theorem lw_p0 : lw_okq (⟨"PointShelf", "restore", "()V"⟩, 8) := ⟨⟨by decide +kernel, by decide +kernel⟩, List.mem_of_getElem? (i := 15) (by decide +kernel), List.mem_of_getElem? (i := 104) (by decide +kernel), List.mem_of_getElem? (i := 105) (by decide +kernel)⟩
theorem lw_p1 : lw_okq (⟨"PointShelf", "setCorner", "(III)V"⟩, 8) := ⟨⟨by decide +kernel, by decide +kernel⟩, List.mem_of_getElem? (i := 15) (by decide +kernel), List.mem_of_getElem? (i := 119) (by decide +kernel), List.mem_of_getElem? (i := 120) (by decide +kernel)⟩
theorem lw_p2 : lw_okq (⟨"PointShelf", "freePages", "()I"⟩, 8) := ⟨⟨by decide +kernel, by decide +kernel⟩, List.mem_of_getElem? (i := 15) (by decide +kernel), List.mem_of_getElem? (i := 135) (by decide +kernel), List.mem_of_getElem? (i := 136) (by decide +kernel)⟩
theorem lw_p3 : lw_okq (⟨"PointShelf$Tree", "beginsPage", "(I)Z"⟩, 9) := ⟨⟨by decide +kernel, by decide +kernel⟩, List.mem_of_getElem? (i := 23) (by decide +kernel), List.mem_of_getElem? (i := 143) (by decide +kernel), List.mem_of_getElem? (i := 144) (by decide +kernel)⟩
theorem lw_p4 : lw_okq (⟨"java/lang/Throwable", "fillInStackTrace", "(I)Ljava/lang/Throwable;"⟩, 6) := ⟨⟨by decide +kernel, by decide +kernel⟩, List.mem_of_getElem? (i := 214) (by decide +kernel), List.mem_of_getElem? (i := 212) (by decide +kernel), List.mem_of_getElem? (i := 213) (by decide +kernel)⟩
theorem lw_p5 : lw_okq (⟨"PointShelf$Tree", "pointsAbove", "(J)I"⟩, 9) := ⟨⟨by decide +kernel, by decide +kernel⟩, List.mem_of_getElem? (i := 23) (by decide +kernel), List.mem_of_getElem? (i := 270) (by decide +kernel), List.mem_of_getElem? (i := 271) (by decide +kernel)⟩
theorem lw_p6 : lw_okq (⟨"PointShelf$Tree", "moveTail", "(II)V"⟩, 9) := ⟨⟨by decide +kernel, by decide +kernel⟩, List.mem_of_getElem? (i := 23) (by decide +kernel), List.mem_of_getElem? (i := 274) (by decide +kernel), List.mem_of_getElem? (i := 275) (by decide +kernel)⟩
theorem lw_p7 : lw_okq (⟨"PointShelf$Tree", "settleFrom", "(I)V"⟩, 9) := ⟨⟨by decide +kernel, by decide +kernel⟩, List.mem_of_getElem? (i := 23) (by decide +kernel), List.mem_of_getElem? (i := 278) (by decide +kernel), List.mem_of_getElem? (i := 279) (by decide +kernel)⟩
theorem lw_p8 : lw_okq (⟨"PointShelf$Tree", "settle", "(I)V"⟩, 9) := ⟨⟨by decide +kernel, by decide +kernel⟩, List.mem_of_getElem? (i := 23) (by decide +kernel), List.mem_of_getElem? (i := 282) (by decide +kernel), List.mem_of_getElem? (i := 283) (by decide +kernel)⟩
theorem lw_p9 : lw_okq (⟨"PointShelf$Tree", "keptBefore", "(II)I"⟩, 9) := ⟨⟨by decide +kernel, by decide +kernel⟩, List.mem_of_getElem? (i := 23) (by decide +kernel), List.mem_of_getElem? (i := 286) (by decide +kernel), List.mem_of_getElem? (i := 287) (by decide +kernel)⟩
theorem lw_p10 : lw_okq (⟨"PointShelf$Tree", "isInCube", "(IIIII)Z"⟩, 9) := ⟨⟨by decide +kernel, by decide +kernel⟩, List.mem_of_getElem? (i := 23) (by decide +kernel), List.mem_of_getElem? (i := 293) (by decide +kernel), List.mem_of_getElem? (i := 294) (by decide +kernel)⟩
theorem lw_p11 : lw_okq (⟨"PointShelf", "findPoint", "(I)I"⟩, 8) := ⟨⟨by decide +kernel, by decide +kernel⟩, List.mem_of_getElem? (i := 15) (by decide +kernel), List.mem_of_getElem? (i := 309) (by decide +kernel), List.mem_of_getElem? (i := 310) (by decide +kernel)⟩
theorem lw_p12 : lw_okq (⟨"PointShelf", "isInBox", "(IIII)Z"⟩, 8) := ⟨⟨by decide +kernel, by decide +kernel⟩, List.mem_of_getElem? (i := 15) (by decide +kernel), List.mem_of_getElem? (i := 386) (by decide +kernel), List.mem_of_getElem? (i := 387) (by decide +kernel)⟩
theorem lw_p13 : lw_okq (⟨"PointShelf$Tree", "leastKeyAbove", "(JIII)J"⟩, 9) := ⟨⟨by decide +kernel, by decide +kernel⟩, List.mem_of_getElem? (i := 23) (by decide +kernel), List.mem_of_getElem? (i := 442) (by decide +kernel), List.mem_of_getElem? (i := 443) (by decide +kernel)⟩
theorem lw_p14 : lw_okq (⟨"PointShelf$Tree", "distanceKey", "(IIII)J"⟩, 9) := ⟨⟨by decide +kernel, by decide +kernel⟩, List.mem_of_getElem? (i := 23) (by decide +kernel), List.mem_of_getElem? (i := 447) (by decide +kernel), List.mem_of_getElem? (i := 448) (by decide +kernel)⟩
theorem lw_p15 : lw_okq (⟨"PointShelf$Tree", "keepsAlike", "(LPointShelf$Tree;I)Z"⟩, 9) := ⟨⟨by decide +kernel, by decide +kernel⟩, List.mem_of_getElem? (i := 23) (by decide +kernel), List.mem_of_getElem? (i := 483) (by decide +kernel), List.mem_of_getElem? (i := 484) (by decide +kernel)⟩
def lw_privs_1 : List (MethodName × Nat) := [(⟨"PointShelf", "restore", "()V"⟩, 8), (⟨"PointShelf", "setCorner", "(III)V"⟩, 8), (⟨"PointShelf", "freePages", "()I"⟩, 8), (⟨"PointShelf$Tree", "beginsPage", "(I)Z"⟩, 9), (⟨"java/lang/Throwable", "fillInStackTrace", "(I)Ljava/lang/Throwable;"⟩, 6), (⟨"PointShelf$Tree", "pointsAbove", "(J)I"⟩, 9), (⟨"PointShelf$Tree", "moveTail", "(II)V"⟩, 9), (⟨"PointShelf$Tree", "settleFrom", "(I)V"⟩, 9), (⟨"PointShelf$Tree", "settle", "(I)V"⟩, 9), (⟨"PointShelf$Tree", "keptBefore", "(II)I"⟩, 9), (⟨"PointShelf$Tree", "isInCube", "(IIIII)Z"⟩, 9), (⟨"PointShelf", "findPoint", "(I)I"⟩, 8), (⟨"PointShelf", "isInBox", "(IIII)Z"⟩, 8), (⟨"PointShelf$Tree", "leastKeyAbove", "(JIII)J"⟩, 9), (⟨"PointShelf$Tree", "distanceKey", "(IIII)J"⟩, 9), (⟨"PointShelf$Tree", "keepsAlike", "(LPointShelf$Tree;I)Z"⟩, 9)]
theorem lw_r1 : ∀ q ∈ lw_privs_1, lw_okq q := List.forall_mem_cons.mpr ⟨lw_p0, List.forall_mem_cons.mpr ⟨lw_p1, List.forall_mem_cons.mpr ⟨lw_p2, List.forall_mem_cons.mpr ⟨lw_p3, List.forall_mem_cons.mpr ⟨lw_p4, List.forall_mem_cons.mpr ⟨lw_p5, List.forall_mem_cons.mpr ⟨lw_p6, List.forall_mem_cons.mpr ⟨lw_p7, List.forall_mem_cons.mpr ⟨lw_p8, List.forall_mem_cons.mpr ⟨lw_p9, List.forall_mem_cons.mpr ⟨lw_p10, List.forall_mem_cons.mpr ⟨lw_p11, List.forall_mem_cons.mpr ⟨lw_p12, List.forall_mem_cons.mpr ⟨lw_p13, List.forall_mem_cons.mpr ⟨lw_p14, List.forall_mem_cons.mpr ⟨lw_p15, fun _ h => absurd h List.not_mem_nil⟩⟩⟩⟩⟩⟩⟩⟩⟩⟩⟩⟩⟩⟩⟩⟩
theorem lw_p16 : lw_okq (⟨"PointShelf$Tree", "isNodeClean", "(ILPointShelf$Tree;)Z"⟩, 9) := ⟨⟨by decide +kernel, by decide +kernel⟩, List.mem_of_getElem? (i := 23) (by decide +kernel), List.mem_of_getElem? (i := 492) (by decide +kernel), List.mem_of_getElem? (i := 493) (by decide +kernel)⟩
theorem lw_p17 : lw_okq (⟨"PointShelf$Tree", "hasChange", "(IIII)Z"⟩, 9) := ⟨⟨by decide +kernel, by decide +kernel⟩, List.mem_of_getElem? (i := 23) (by decide +kernel), List.mem_of_getElem? (i := 496) (by decide +kernel), List.mem_of_getElem? (i := 497) (by decide +kernel)⟩
theorem lw_p18 : lw_okq (⟨"PointShelf", "losePower", "()V"⟩, 8) := ⟨⟨by decide +kernel, by decide +kernel⟩, List.mem_of_getElem? (i := 15) (by decide +kernel), List.mem_of_getElem? (i := 501) (by decide +kernel), List.mem_of_getElem? (i := 502) (by decide +kernel)⟩
theorem lw_p19 : lw_okq (⟨"PointShelf", "writePages", "(I)V"⟩, 8) := ⟨⟨by decide +kernel, by decide +kernel⟩, List.mem_of_getElem? (i := 15) (by decide +kernel), List.mem_of_getElem? (i := 505) (by decide +kernel), List.mem_of_getElem? (i := 506) (by decide +kernel)⟩
theorem lw_p20 : lw_okq (⟨"PointShelfModel", "fails", "(I)I"⟩, 17) := ⟨⟨by decide +kernel, by decide +kernel⟩, List.mem_of_getElem? (i := 533) (by decide +kernel), List.mem_of_getElem? (i := 614) (by decide +kernel), List.mem_of_getElem? (i := 615) (by decide +kernel)⟩
theorem lw_p21 : lw_okq (⟨"PointShelfModel", "find", "(I)I"⟩, 17) := ⟨⟨by decide +kernel, by decide +kernel⟩, List.mem_of_getElem? (i := 533) (by decide +kernel), List.mem_of_getElem? (i := 618) (by decide +kernel), List.mem_of_getElem? (i := 619) (by decide +kernel)⟩
theorem lw_p22 : lw_okq (⟨"PointShelfModel", "settle", "()V"⟩, 17) := ⟨⟨by decide +kernel, by decide +kernel⟩, List.mem_of_getElem? (i := 533) (by decide +kernel), List.mem_of_getElem? (i := 625) (by decide +kernel), List.mem_of_getElem? (i := 626) (by decide +kernel)⟩
theorem lw_p23 : lw_okq (⟨"PointShelfModel", "greatest", "()I"⟩, 17) := ⟨⟨by decide +kernel, by decide +kernel⟩, List.mem_of_getElem? (i := 533) (by decide +kernel), List.mem_of_getElem? (i := 629) (by decide +kernel), List.mem_of_getElem? (i := 630) (by decide +kernel)⟩
theorem lw_p24 : lw_okq (⟨"PointShelfModel", "keeps", "(II)I"⟩, 17) := ⟨⟨by decide +kernel, by decide +kernel⟩, List.mem_of_getElem? (i := 533) (by decide +kernel), List.mem_of_getElem? (i := 633) (by decide +kernel), List.mem_of_getElem? (i := 634) (by decide +kernel)⟩
theorem lw_p25 : lw_okq (⟨"PointShelfModel", "isIn", "(II)Z"⟩, 17) := ⟨⟨by decide +kernel, by decide +kernel⟩, List.mem_of_getElem? (i := 533) (by decide +kernel), List.mem_of_getElem? (i := 663) (by decide +kernel), List.mem_of_getElem? (i := 664) (by decide +kernel)⟩
theorem lw_p26 : lw_okq (⟨"PointShelfModel", "isClean", "(II)Z"⟩, 17) := ⟨⟨by decide +kernel, by decide +kernel⟩, List.mem_of_getElem? (i := 533) (by decide +kernel), List.mem_of_getElem? (i := 693) (by decide +kernel), List.mem_of_getElem? (i := 694) (by decide +kernel)⟩
theorem lw_p27 : lw_okq (⟨"PointShelfModel", "isCommitted", "(I)Z"⟩, 17) := ⟨⟨by decide +kernel, by decide +kernel⟩, List.mem_of_getElem? (i := 533) (by decide +kernel), List.mem_of_getElem? (i := 697) (by decide +kernel), List.mem_of_getElem? (i := 698) (by decide +kernel)⟩
theorem lw_p28 : lw_okq (⟨"PointShelfModel", "pagesToWrite", "()I"⟩, 17) := ⟨⟨by decide +kernel, by decide +kernel⟩, List.mem_of_getElem? (i := 533) (by decide +kernel), List.mem_of_getElem? (i := 701) (by decide +kernel), List.mem_of_getElem? (i := 702) (by decide +kernel)⟩
theorem lw_p29 : lw_okq (⟨"PointShelfModel", "isFirst", "(I)Z"⟩, 17) := ⟨⟨by decide +kernel, by decide +kernel⟩, List.mem_of_getElem? (i := 533) (by decide +kernel), List.mem_of_getElem? (i := 705) (by decide +kernel), List.mem_of_getElem? (i := 706) (by decide +kernel)⟩
theorem lw_p30 : lw_okq (⟨"PointShelfModel", "takenPages", "()I"⟩, 17) := ⟨⟨by decide +kernel, by decide +kernel⟩, List.mem_of_getElem? (i := 533) (by decide +kernel), List.mem_of_getElem? (i := 712) (by decide +kernel), List.mem_of_getElem? (i := 713) (by decide +kernel)⟩
theorem lw_p31 : lw_okq (⟨"PointShelfModel", "isFirstKept", "(I)Z"⟩, 17) := ⟨⟨by decide +kernel, by decide +kernel⟩, List.mem_of_getElem? (i := 533) (by decide +kernel), List.mem_of_getElem? (i := 716) (by decide +kernel), List.mem_of_getElem? (i := 717) (by decide +kernel)⟩
def lw_privs_2 : List (MethodName × Nat) := [(⟨"PointShelf$Tree", "isNodeClean", "(ILPointShelf$Tree;)Z"⟩, 9), (⟨"PointShelf$Tree", "hasChange", "(IIII)Z"⟩, 9), (⟨"PointShelf", "losePower", "()V"⟩, 8), (⟨"PointShelf", "writePages", "(I)V"⟩, 8), (⟨"PointShelfModel", "fails", "(I)I"⟩, 17), (⟨"PointShelfModel", "find", "(I)I"⟩, 17), (⟨"PointShelfModel", "settle", "()V"⟩, 17), (⟨"PointShelfModel", "greatest", "()I"⟩, 17), (⟨"PointShelfModel", "keeps", "(II)I"⟩, 17), (⟨"PointShelfModel", "isIn", "(II)Z"⟩, 17), (⟨"PointShelfModel", "isClean", "(II)Z"⟩, 17), (⟨"PointShelfModel", "isCommitted", "(I)Z"⟩, 17), (⟨"PointShelfModel", "pagesToWrite", "()I"⟩, 17), (⟨"PointShelfModel", "isFirst", "(I)Z"⟩, 17), (⟨"PointShelfModel", "takenPages", "()I"⟩, 17), (⟨"PointShelfModel", "isFirstKept", "(I)Z"⟩, 17)]
theorem lw_r2 : ∀ q ∈ lw_privs_2, lw_okq q := List.forall_mem_cons.mpr ⟨lw_p16, List.forall_mem_cons.mpr ⟨lw_p17, List.forall_mem_cons.mpr ⟨lw_p18, List.forall_mem_cons.mpr ⟨lw_p19, List.forall_mem_cons.mpr ⟨lw_p20, List.forall_mem_cons.mpr ⟨lw_p21, List.forall_mem_cons.mpr ⟨lw_p22, List.forall_mem_cons.mpr ⟨lw_p23, List.forall_mem_cons.mpr ⟨lw_p24, List.forall_mem_cons.mpr ⟨lw_p25, List.forall_mem_cons.mpr ⟨lw_p26, List.forall_mem_cons.mpr ⟨lw_p27, List.forall_mem_cons.mpr ⟨lw_p28, List.forall_mem_cons.mpr ⟨lw_p29, List.forall_mem_cons.mpr ⟨lw_p30, List.forall_mem_cons.mpr ⟨lw_p31, fun _ h => absurd h List.not_mem_nil⟩⟩⟩⟩⟩⟩⟩⟩⟩⟩⟩⟩⟩⟩⟩⟩
def lw_privs : List (MethodName × Nat) := lw_privs_1 ++ (lw_privs_2)
def lw_tbl : List Cond := k2_sels lw_privs ++ tables_1
theorem lw_privs_ok : ∀ q ∈ lw_privs, lw_okq q := by
  show ∀ q ∈ lw_privs_1 ++ (lw_privs_2), lw_okq q
  exact List.forall_mem_append.mpr ⟨lw_r1, lw_r2⟩
end
section
/-! ===== BEGIN words of one list among another's, by their places ===== -/
theorem goodIn_r {big : List Cond} (ws : List Cond) (ps : List Nat) (hp : ws = ps.filterMap (fun i => big[i]?)) (h : ws.all goodWord = true) : GoodIn big ws := by
  intro w hw
  have h1 := List.all_eq_true.mp h w hw
  rw [hp] at hw
  obtain ⟨i, -, hi⟩ := List.mem_filterMap.mp hw
  have hm : w ∈ big := by first | exact List.mem_of_getElem? hi | exact List.getElem?_mem hi
  exact ⟨hm, good_of_word h1⟩
theorem goodIn_app {big a b : List Cond} (ha : GoodIn big a) (hb : GoodIn big b) : GoodIn big (a ++ b) := fun w h => (List.mem_append.mp h).elim (ha w) (hb w)
theorem goodIn_ca {big a b : List Cond} {c : Cond} (ha : GoodIn big (c :: a)) (hb : GoodIn big b) : GoodIn big (c :: (a ++ b)) := fun w h => (List.mem_cons.mp h).elim (fun e => ha w (List.mem_cons.mpr (Or.inl e))) (fun h => (List.mem_append.mp h).elim (fun h => ha w (List.mem_cons.mpr (Or.inr h))) (hb w))
theorem goodIn_sub {big ws : List Cond} (hm : ∀ w ∈ ws, w ∈ big) (h : ws.all goodWord = true) : GoodIn big ws := fun w hw => ⟨hm w hw, good_of_word (List.all_eq_true.mp h w hw)⟩
/-! ===== END ===== -/

/-! ===== BEGIN exceptions that leave a method, and their catching by the caller (launches without stack traces) ===== -/
section VXA
/-! The laws vx_back, vx_callV, vx_callS, vx_callSW, vx_throw0, vx_throwS follow proofs of the library, with one case more: JvmDerived/Free/Laws.lean (Back.of_free), Shelf42/LK1.lean (callV, callS), Shelf/KitTraced.lean (throwNew0V, throwNewS). -/
/-- where a method has thrown q: the class by its name, the cell, what was written, the world -/
def vx_T (XC : String → State → State → Prop) (st : State) (q : Addr) (t : State) (mc ms : Nat) (free : Addr → Prop) : Prop :=
  ∃ (E : String) (ce : Cell) (L : List Loc), XC E st t ∧ t.heap[q]? = some ce ∧ ce.vm = .none ∧ st.vm.findClass E = some ce.cls ∧ st.WarmedH t.vm ∧ st.sameButNew ({ t with vm := st.vm } : State) L mc ms ∧ ∀ z ∈ L, free z.base
def vx_Q (Qc : Array Value → State → Outcome → State → Prop) (XC : String → State → State → Prop) (mc ms : Nat) (free : Addr → Prop) : Array Value → State → Outcome → State → Prop := fun a st o t =>
  (Qc a st o t ∧ ∃ L, FrameEnd st o t L mc ms ∧ ∀ q ∈ L, free q.base) ∨ ∃ q, o = .threw q ∧ vx_T XC st q t mc ms free
/-- a callee that returns or throws -/
def vx_Met (l : Launch) (y : MethodName) (ws : List Cond) (rm : Room) (Pc : Array Value → State → Prop) (Qc : Array Value → State → Outcome → State → Prop) (XC : String → State → State → Prop) (mc ms : Nat) (free : Addr → Prop) : Prop :=
  MetFree l y (headSpec ws rm) Pc (fun _ _ _ _ _ => True) (vx_Q Qc XC mc ms free)
def vx_Post (XC : String → State → State → Prop) (mc ms : Nat) (free : Addr → Prop) : Pt → Array Value → Addr → Pt → Prop := fun A a q B =>
  ∃ (g : JFrame) (mk : MethodId) (t : State) (L : List Loc) (E : String) (ce : Cell), B.U.heap = t.heap ∧ B.U.vm = t.vm ∧ XC E (A.U.calling g mk a) t ∧ t.heap[q]? = some ce ∧ ce.vm = .none ∧ A.U.vm.findClass E = some ce.cls ∧ B.locs = A.locs ++ L ∧ (∀ z ∈ L, free z.base) ∧ B.cells = A.cells + mc ∧ B.slots = A.slots + ms
def vx_Back (l : Launch) (R : Room) (p : Program) (e : Env) (below : List Frame) (s : State) (sargs : Array Value) (y : MethodName) (len W9 : Nat)
    (Pre : Pt → Array Value → Prop) (Post : Pt → Array Value → Option Value → Pt → Prop) (PostX : Pt → Array Value → Addr → Pt → Prop) : Prop :=
  ∀ (m : MethodId) (meth : Method) (c : Code) (A : Pt) (g : JFrame) (ig : Instr) (mk : MethodId) (a : Array Value),
    Stand p l e R s m sargs below meth c A.U A.locs A.cells A.slots → g.method = m → g.locals.size = c.maxLocals → decode c.code g.pc = .ok (ig, len) →
    2 * g.monitorRoom + (g.stack.map fun v => v.category).sum ≤ W9 → A.U.methodNamed? y = some mk → Pre A a →
    (∃ (v : Option Value) (B : Pt), Stand p l e R s m sargs below meth c B.U B.locs B.cells B.slots ∧ Post A a v B ∧
      Steps p.tables e below (doInvoke e (A.U.setTop g) [] mk a).1 (B.U.setTop { g with pc := g.pc + len, stack := v.toList ++ g.stack })) ∨
    (∃ (q : Addr) (B : Pt), Stand p l e R s m sargs below meth c B.U B.locs B.cells B.slots ∧ PostX A a q B ∧
      Steps p.tables e below (doInvoke e (A.U.setTop g) [] mk a).1 ((B.U.setTop g).pushFrame (.throwing q)))
section Payer
variable {l : Launch} {R : Room} {p : Program} {e : Env} {below : List Frame} {s : State} {sargs : Array Value} {y : MethodName} {len W9 : Nat}
theorem vx_back {ws : List Cond} {rm : Room} {Pc : Array Value → State → Prop} {Qc : Array Value → State → Outcome → State → Prop} {XC : String → State → State → Prop} {mc ms : Nat} {free : Addr → Prop} {bytes : ByteArray} {maxL : Nat} {ret : Option FieldType}
    (hM : vx_Met l y ws rm Pc Qc XC mc ms free) (hblind : FrameBlind Pc) (hrc : rm.cells = mc) (hrs : rm.slots = ms)
    (hframes : rm.frames + 1 ≤ R.frames) (hlocals : W9 + (maxL + 11) + rm.locals ≤ R.locals)
    (hws : ∀ w ∈ ws, ∀ a' U, s.WarmedH U.vm → w.before a' U = true) (hcode : Cond.code y bytes maxL ret ∈ ws) (hinit : ∀ a' U, s.WarmedH U.vm → (Cond.initialized y.cls).before a' U = true) :
    vx_Back l R p e below s sargs y len W9 (PreOf R mc ms Pc) (PostOf Qc mc ms free) (vx_Post XC mc ms free) := by
  intro m meth c A g ig mk a X hg hsize hdg hW hn hp
  have h1 : (headSpec ws rm).pre.before a A.U = true := atoms_intro fun w hw => hws w hw _ _ X.warmed
  have h2 : (Cond.code y bytes maxL ret).before a A.U = true := hws _ hcode _ _ X.warmed
  have h3 : (Cond.initialized y.cls).before a A.U = true := hinit _ _ X.warmed
  have h4 : A.cells + (headSpec ws rm).room.cells ≤ R.cells := by rw [show (headSpec ws rm).room.cells = mc from hrc]; exact hp.1
  have h5 : A.slots + (headSpec ws rm).room.slots ≤ R.slots := by rw [show (headSpec ws rm).room.slots = ms from hrs]; exact hp.2.1
  have hPc : Pc a (A.U.calling g mk a) := hblind _ _ _ _ hp.2.2
  obtain ⟨U, Ls, c0, s0⟩ := A
  dsimp only [Pt.U, Pt.locs, Pt.cells, Pt.slots] at h1 h2 h3 h4 h5 X hn hPc ⊢
  obtain ⟨methY, cY, hmY, hcY, -, hlY, -, -, -, -⟩ := Cond.code_spec hn h2
  obtain ⟨kY, hkY, -⟩ := className_of_methodNamed hn
  have hinitY : kY.init = .initialized := Cond.initialized_spec (findClass_of_methodNamed hn) hkY h3
  have h : At U g.method c below := by rw [hg]; exact X.here
  have hlocals9 : W9 + (maxL + 11) + (headSpec ws rm).room.locals ≤ R.locals := hlocals
  have happ : (headSpec ws rm).appliesLoose y e.platform (U.calling g mk a) = true :=
    Spec.appliesLoose_calling (g := g) h hdg hn hkY hinitY
      (X.room_calling (g := g) (R' := (headSpec ws rm).room) hsize hmY hcY hframes (by rw [hlY]; omega) h4 h5) h1
  obtain ⟨mid, hmid⟩ := h.above
  have hfr : (U.setTop g).frames = (.java g :: mid) ++ below := by rw [State.frames_setTop' g h.top, hmid]; rfl
  obtain ⟨o, s₂, hsteps, -, hend, hq⟩ := Steps.callFree hM p X.admits X.cas X.clock (acts := []) hfr happ hPc trivial
  have hq' : vx_Q Qc XC mc ms free a (U.calling g mk a) o s₂ := hq
  rw [State.frames_setTop' g h.top] at hend
  obtain ⟨g₀, hg0⟩ := Option.isSome_iff_exists.mp h.top
  obtain ⟨r, hr⟩ := State.topJava?_eq_some.mp hg0
  have hr' : (({ U with heap := s₂.heap, slotsUsed := s₂.slotsUsed } : State).setVm s₂.vm).frames = .java g₀ :: r := hr
  rcases hq' with ⟨hqc, L, hfe, hL⟩ | ⟨q, rfl, E, ce, L, hx, hce, hcv, hcl, hW₂, hsm, hL⟩
  · obtain ⟨⟨v, rfl⟩, hW₂, e2, q2, q3, q4, q5, q6⟩ := id hfe
    have e3 : s₂ = ({ (U.calling g mk a).setFrames s₂.frames with heap := s₂.heap, slotsUsed := s₂.slotsUsed } : State).setVm s₂.vm := by
      have : s₂ = ({ s₂ with vm := (U.calling g mk a).vm } : State).setVm s₂.vm := rfl
      rw [e2] at this
      exact this
    obtain ⟨c₂, i₂, len₂, hc₂, hd₂, hf₂⟩ := hend
    have hW' : U.WarmedH s₂.vm := hW₂
    have hcc : c₂ = c := by
      have h1 : s₂.code? g.method = U.code? g.method := by
        rw [State.code?_eq, State.code?_eq, hW'.alike.method?]
      exact Option.some.inj (hc₂.symm.trans (h1.trans h.code))
    subst hcc
    have hlen : len₂ = len := by rw [hdg] at hd₂; cases hd₂; rfl
    subst hlen
    have hs₂ : s₂ = (({ U with heap := s₂.heap, slotsUsed := s₂.slotsUsed } : State).setVm s₂.vm).setTop { g with pc := g.pc + len₂, stack := v.toList ++ g.stack } := by
      refine e3.trans ?_
      rw [hf₂, State.calling_eq h.top, State.setFrames_setFrames, State.setTop_of_frames _ hr', hr]
      rfl
    have hsame : U.sameButNew ({ U with heap := s₂.heap, slotsUsed := s₂.slotsUsed } : State) L mc ms := by
      refine ⟨?_, q2, q3, q4, q5, q6⟩
      obtain ⟨t, ht, -⟩ := State.frames_cons hr
      show ({ U with heap := s₂.heap, slotsUsed := s₂.slotsUsed } : State) = { U.setFrames U.frames with heap := s₂.heap, slotsUsed := s₂.slotsUsed }
      rw [State.setFrames_self ht]
    subst hg
    refine Or.inl ⟨v, ⟨(({ U with heap := s₂.heap, slotsUsed := s₂.slotsUsed } : State).setVm s₂.vm), Ls ++ L, c0 + mc, s0 + ms⟩,
      ⟨X.admits, X.cas, X.clock, X.frames, X.room, X.hears, X.method, X.code, (X.here.setHeapUsed s₂.heap s₂.slotsUsed).setVm hW'.alike, X.tail, State.WarmedH.trans X.warmed hW', X.limits, X.bytes, X.same.trans (hsame.setVm s.vm)⟩,
      ⟨g, mk, s₂, L, rfl, rfl, hqc, rfl, hL, rfl, rfl⟩, ?_⟩
    show Steps p.tables e below _ ((({ U with heap := s₂.heap, slotsUsed := s₂.slotsUsed } : State).setVm s₂.vm).setTop { g with pc := g.pc + len₂, stack := v.toList ++ g.stack })
    rw [← hs₂]
    exact hsteps
  · obtain ⟨e2, q2, q3, q4, q5, q6⟩ := id hsm
    have e3 : s₂ = ({ (U.calling g mk a).setFrames s₂.frames with heap := s₂.heap, slotsUsed := s₂.slotsUsed } : State).setVm s₂.vm := by
      have : s₂ = ({ s₂ with vm := (U.calling g mk a).vm } : State).setVm s₂.vm := rfl
      rw [e2] at this
      exact this
    have hf₂ : s₂.frames = .throwing q :: .java g :: U.frames.tail := hend
    have hW' : U.WarmedH s₂.vm := hW₂
    have hs₂ : s₂ = ((({ U with heap := s₂.heap, slotsUsed := s₂.slotsUsed } : State).setVm s₂.vm).setTop g).pushFrame (.throwing q) := by
      refine e3.trans ?_
      rw [hf₂, State.calling_eq h.top, State.setFrames_setFrames, State.pushFrame, State.frames_setTop _ hr', State.setTop_of_frames _ hr', State.setFrames_setFrames, hr]
      rfl
    have hsame : U.sameButNew ({ U with heap := s₂.heap, slotsUsed := s₂.slotsUsed } : State) L mc ms := by
      refine ⟨?_, q2, q3, q4, q5, q6⟩
      obtain ⟨t, ht, -⟩ := State.frames_cons hr
      show ({ U with heap := s₂.heap, slotsUsed := s₂.slotsUsed } : State) = { U.setFrames U.frames with heap := s₂.heap, slotsUsed := s₂.slotsUsed }
      rw [State.setFrames_self ht]
    subst hg
    refine Or.inr ⟨q, ⟨(({ U with heap := s₂.heap, slotsUsed := s₂.slotsUsed } : State).setVm s₂.vm), Ls ++ L, c0 + mc, s0 + ms⟩,
      ⟨X.admits, X.cas, X.clock, X.frames, X.room, X.hears, X.method, X.code, (X.here.setHeapUsed s₂.heap s₂.slotsUsed).setVm hW'.alike, X.tail, State.WarmedH.trans X.warmed hW', X.limits, X.bytes, X.same.trans (hsame.setVm s.vm)⟩,
      ⟨g, mk, s₂, L, E, ce, rfl, rfl, hx, hce, hcv, hcl, rfl, hL, rfl, rfl⟩, ?_⟩
    show Steps p.tables e below _ (((({ U with heap := s₂.heap, slotsUsed := s₂.slotsUsed } : State).setVm s₂.vm).setTop g).pushFrame (.throwing q))
    rw [← hs₂]
    exact hsteps
end Payer
section Calls
variable {p : Program} {l : Launch} {e : Env} {R : Room} {s : State} {m : MethodId} {args : Array Value} {below : List Frame} {meth : Method} {c : Code} {T : State} {locs : List Loc} {cells slots : Nat}
theorem vx_callV (X : Stand p l e R s m args below meth c T locs cells slots) (hexec : p.tables.exec = Jvm.exec) {own C : String} {index : Nat} {y : MethodName} {bytes : ByteArray} {maxL : Nat} {ret : Option FieldType}
    (hown : s.vm.findClass own = some m.cls) (hlink : (Cond.methodLink own index y).before args s = true) (hinst : (Cond.instanceMethod y).before args s = true) (hsel : (Cond.selects C y y).before args s = true)
    (hcode : (Cond.code y bytes maxL ret).before args s = true) (hy : y.cls ≠ "java/lang/invoke/MethodHandle" ∧ y.cls ≠ "java/lang/invoke/VarHandle")
    {W9 : Nat} {Pre : Pt → Array Value → Prop} {Post : Pt → Array Value → Option Value → Pt → Prop} {PostX : Pt → Array Value → Addr → Pt → Prop} (hK : vx_Back l R p e below s args y 3 W9 Pre Post PostX)
    {b : Addr} {cellB : Cell} (hcell : T.heap[b]? = some cellB) (hobj : cellB.vm.isStatics = false) (hcls : s.vm.findClass C = some cellB.cls)
    {g : JFrame} (hg : g.method = m) (hsize : g.locals.size = c.maxLocals) {argsL rest : List Value} (hlen : ∀ sig, parseMethodDescriptor y.desc = some sig → argsL.length = sig.parameters.length)
    (hstack : g.stack = argsL.reverse ++ .ref b :: rest) (hW : 2 * g.monitorRoom + (rest.map fun v => v.category).sum ≤ W9) (hdg : decode c.code g.pc = .ok (.invokevirtual index, 3))
    (hpre : ∀ vm₁, s.WarmedH vm₁ → Pre ⟨T.setVm vm₁, locs, cells, slots⟩ (Value.ref b :: argsL).toArray) :
    (∃ (v : Option Value) (vm₁ : Vm) (B : Pt), s.WarmedH vm₁ ∧ Stand p l e R s m args below meth c B.U B.locs B.cells B.slots ∧ Post ⟨T.setVm vm₁, locs, cells, slots⟩ (Value.ref b :: argsL).toArray v B ∧
      ∀ target, Steps p.tables e below (B.U.setTop { g with pc := g.pc + 3, stack := v.toList ++ rest }) target → Steps p.tables e below (T.setTop g) target) ∨
    (∃ (q : Addr) (vm₁ : Vm) (B : Pt), s.WarmedH vm₁ ∧ Stand p l e R s m args below meth c B.U B.locs B.cells B.slots ∧ PostX ⟨T.setVm vm₁, locs, cells, slots⟩ (Value.ref b :: argsL).toArray q B ∧
      Steps p.tables e below (T.setTop g) ((B.U.setTop { g with stack := rest }).pushFrame (.throwing q))) := by
  obtain ⟨mk, methM, hnamed, hmethM, hstM, habM⟩ := Cond.instanceMethod_spec hinst
  obtain ⟨methM', cM, hmethM', -, -, -, -, -, -, hsigM⟩ := Cond.code_spec hnamed hcode
  cases hmethM.symm.trans hmethM'
  obtain ⟨c2, r2, m2, q1, q2, q3, q4, kP, hkP, hkPi⟩ := Cond.selects_spec hsel
  cases hcls.symm.trans q1
  cases (State.methodFound?_of_named hnamed hy).symm.trans q2
  cases hnamed.symm.trans q3
  have hselP : selectMethod e.platform s.vm cellB.cls mk = .method mk := by rw [Launch.admits_selectMethod X.admits]; exact q4
  obtain ⟨vm₁, X₁, hstep₁⟩ := X.invokevirtual hexec hown hlink hnamed hmethM hstM hkP hkPi hy (a := b) (cell := cellB) hcell
    (fun z h => by rw [h] at hobj; cases hobj) hselP hmethM habM hkP hkPi (g := g) hg (argsL := argsL) (rest := rest) (hlen _ hsigM) hstack hdg
  rcases hK m meth c ⟨T.setVm vm₁, locs, cells, slots⟩ { g with stack := rest } (.invokevirtual index) mk (Value.ref b :: argsL).toArray X₁ hg hsize hdg hW (X₁.named hnamed) (hpre vm₁ X₁.warmed) with ⟨v, B, X', hpost, hsteps⟩ | ⟨q, B, X', hpost, hsteps⟩
  · exact Or.inl ⟨v, vm₁, B, X₁.warmed, X', hpost, fun target h => hstep₁ _ fun acts => by rw [doInvoke_state]; exact hsteps.trans h⟩
  · exact Or.inr ⟨q, vm₁, B, X₁.warmed, X', hpost, hstep₁ _ fun acts => by rw [doInvoke_state]; exact hsteps⟩
theorem vx_callS (X : Stand p l e R s m args below meth c T locs cells slots) (hexec : p.tables.exec = Jvm.exec) {own : String} {index : Nat} {y : MethodName} {bytes : ByteArray} {maxL : Nat} {ret : Option FieldType}
    (hown : s.vm.findClass own = some m.cls) (hlink : (Cond.methodLink own index y).before args s = true) (hstat : (Cond.static y).before args s = true) (hinit : (Cond.initialized y.cls).before args s = true)
    (hcode : (Cond.code y bytes maxL ret).before args s = true) (hy : y.cls ≠ "java/lang/invoke/MethodHandle" ∧ y.cls ≠ "java/lang/invoke/VarHandle")
    {W9 : Nat} {Pre : Pt → Array Value → Prop} {Post : Pt → Array Value → Option Value → Pt → Prop} {PostX : Pt → Array Value → Addr → Pt → Prop} (hK : vx_Back l R p e below s args y 3 W9 Pre Post PostX)
    {g : JFrame} (hg : g.method = m) (hsize : g.locals.size = c.maxLocals) {argsL rest : List Value} (hlen : ∀ sig, parseMethodDescriptor y.desc = some sig → argsL.length = sig.parameters.length)
    (hstack : g.stack = argsL.reverse ++ rest) (hW : 2 * g.monitorRoom + (rest.map fun v => v.category).sum ≤ W9) (hdg : decode c.code g.pc = .ok (.invokestatic index, 3))
    (hpre : ∀ vm₁, s.WarmedH vm₁ → Pre ⟨T.setVm vm₁, locs, cells, slots⟩ argsL.toArray) :
    (∃ (v : Option Value) (vm₁ : Vm) (B : Pt), s.WarmedH vm₁ ∧ Stand p l e R s m args below meth c B.U B.locs B.cells B.slots ∧ Post ⟨T.setVm vm₁, locs, cells, slots⟩ argsL.toArray v B ∧
      ∀ target, Steps p.tables e below (B.U.setTop { g with pc := g.pc + 3, stack := v.toList ++ rest }) target → Steps p.tables e below (T.setTop g) target) ∨
    (∃ (q : Addr) (vm₁ : Vm) (B : Pt), s.WarmedH vm₁ ∧ Stand p l e R s m args below meth c B.U B.locs B.cells B.slots ∧ PostX ⟨T.setVm vm₁, locs, cells, slots⟩ argsL.toArray q B ∧
      Steps p.tables e below (T.setTop g) ((B.U.setTop { g with stack := rest }).pushFrame (.throwing q))) := by
  obtain ⟨mk, hnamed⟩ := Cond.code_named hcode
  obtain ⟨methM, cM, hmethM, -, -, -, -, -, -, hsigM⟩ := Cond.code_spec hnamed hcode
  have hstatic : methM.isStatic = true := Cond.static_spec hnamed hmethM hstat
  obtain ⟨kP, hkP, -⟩ := className_of_methodNamed hnamed
  have hinitP : kP.init = .initialized := Cond.initialized_spec (findClass_of_methodNamed hnamed) hkP hinit
  obtain ⟨vm₁, X₁, hstep₁⟩ := X.invokestatic hexec hown hlink hnamed hmethM hstatic hkP hinitP hy (g := g) hg (argsL := argsL) (rest := rest) (hlen _ hsigM) hstack hdg
  rcases hK m meth c ⟨T.setVm vm₁, locs, cells, slots⟩ { g with stack := rest } (.invokestatic index) mk argsL.toArray X₁ hg hsize hdg hW (X₁.named hnamed) (hpre vm₁ X₁.warmed) with ⟨v, B, X', hpost, hsteps⟩ | ⟨q, B, X', hpost, hsteps⟩
  · exact Or.inl ⟨v, vm₁, B, X₁.warmed, X', hpost, fun target h => hstep₁ _ fun acts => by rw [doInvoke_state]; exact hsteps.trans h⟩
  · exact Or.inr ⟨q, vm₁, B, X₁.warmed, X', hpost, hstep₁ _ fun acts => by rw [doInvoke_state]; exact hsteps⟩
end Calls
theorem vx_cls {s : State} {T : State} {vm₁ : Vm} {E : String} {k : ClassId} (hW : s.WarmedH vm₁) (h : (T.setVm vm₁).vm.findClass E = some k) : s.vm.findClass E = some k := by
  have h1 : vm₁.findClass E = some k := h
  rw [hW.alike.findClass] at h1
  exact h1
/-- the method's frame g, with q thrown over it -/
def vx_W (p : Program) (l : Launch) (e : Env) (R : Room) (s : State) (m : MethodId) (args : Array Value) (below : List Frame) (meth : Method) (c : Code) (H : Heap) (locs : List Loc) (cells slots : Nat) (Q : State → Prop) (g : JFrame) (q : Addr) : Prop :=
  ∀ T : State, T.heap = H → Stand p l e R s m args below meth c T locs cells slots → ∃ t, Steps p.tables e below ((T.setTop g).pushFrame (.throwing q)) t ∧ Q t
def vx_Run (p : Program) (l : Launch) (e : Env) (R : Room) (s : State) (m : MethodId) (args : Array Value) (below : List Frame) (meth : Method) (c : Code) (H : Heap) (locs : List Loc) (cells slots mc ms : Nat) (g : JFrame) (rest : List Value) (Qa : State → Outcome → State → Prop) (XC : String → State → State → Prop) (free : Addr → Prop) : Prop :=
  ∀ T : State, T.heap = H → Stand p l e R s m args below meth c T locs cells slots →
    (∃ (v : Option Value) (st₀ t T' : State) (L : List Loc), st₀.heap = H ∧ Stand p l e R s m args below meth c T' (locs ++ L) (cells + mc) (slots + ms) ∧ (∀ q ∈ L, free q.base) ∧ T'.heap = t.heap ∧ T'.vm = t.vm ∧ Qa st₀ (.returned v) t ∧
      Goes p e below T g T' { g with pc := g.pc + 3, stack := v.toList ++ rest }) ∨
    (∃ (q : Addr) (st₀ t T' : State) (L : List Loc) (E : String) (ce : Cell), st₀.heap = H ∧ Stand p l e R s m args below meth c T' (locs ++ L) (cells + mc) (slots + ms) ∧ (∀ z ∈ L, free z.base) ∧ T'.heap = t.heap ∧ T'.vm = t.vm ∧ XC E st₀ t ∧ t.heap[q]? = some ce ∧ ce.vm = .none ∧ s.vm.findClass E = some ce.cls ∧
      Steps p.tables e below (T.setTop g) ((T'.setTop { g with stack := rest }).pushFrame (.throwing q)))
def vx_X {S : Type} (px : S → Prop) (B : String → S → State → Prop) (A : Nat → Prop) : String → State → State → Prop := fun E st t => ∃ u : S, px u ∧ B E u t ∧ va_F A st t
section Runs
variable {p : Program} {l : Launch} {e : Env} {R : Room} {s : State} {m : MethodId} {args : Array Value} {below : List Frame} {meth : Method} {c : Code} {H : Heap} {locs : List Loc} {cells slots : Nat}
variable {y : MethodName} {bytes cc : ByteArray} {maxL nL mc ms n index : Nat} {ret : Option FieldType} {ws : List Cond} {rm : Room} {Pc : Array Value → State → Prop} {Qc : Array Value → State → Outcome → State → Prop} {XC : String → State → State → Prop} {free : Addr → Prop} {Ts : List Cond} {own C : String} {b : Addr} {As rest : List Value} {g : JFrame}
theorem vx_callBack (cb : CallB R s args own index y bytes maxL ret ws rm mc ms n) (hM : vx_Met l y ws rm Pc Qc XC mc ms free) (hbl : FrameBlind Pc) : vx_Back l R p e below s args y 3 8 (PreOf R mc ms Pc) (PostOf Qc mc ms free) (vx_Post XC mc ms free) := by
  obtain ⟨hrc, hrs, hfr, hlo, hws, hcw, -, hini, -⟩ := cb
  exact vx_back (bytes := bytes) (maxL := maxL) (ret := ret) hM hbl hrc hrs hfr hlo hws hcw (fun a' U hW => word_at hW (Or.inl (by first | rfl | simp [Cond.onTables, Cond.keeps, Cond.steady])) hini)
theorem vx_runV (S : CallFix p m c cc nL s args Ts own) (hM : vx_Met l y ws rm Pc Qc XC mc ms free) (cw : CallW R s args own C index y bytes maxL ret ws rm mc ms n) (hp : PreV s H C b Pc As)
    (hg : g.method = m) (hn : As.length = n) (hsize : g.locals.size = nL) (hstack : g.stack = As.reverse ++ .ref b :: rest) (hW : 2 * g.monitorRoom + (rest.map fun v => v.category).sum ≤ 8) (hdg : decode cc g.pc = .ok (.invokevirtual index, 3)) (hf : cells + mc ≤ R.cells ∧ slots + ms ≤ R.slots) :
    vx_Run p l e R s m args below meth c H locs cells slots mc ms g rest (Qc (Value.ref b :: As).toArray) XC free := by
  have hK : vx_Back l R p e below s args y 3 8 (PreOf R mc ms Pc) (PostOf Qc mc ms free) (vx_Post XC mc ms free) := vx_callBack cw.1 hM hp.1
  obtain ⟨⟨-, -, -, -, -, -, hcode, -, hy, hlen, hl⟩, hin, hse⟩ := cw
  obtain ⟨hx, hb, hml, ho, -⟩ := S
  obtain ⟨-, ⟨cellB, hcB, hoB, hclB⟩, hPc⟩ := hp
  intro T hT X
  rcases vx_callV X hx (C := C) (bytes := bytes) (maxL := maxL) (ret := ret) ho hl hin hse hcode hy hK (by rw [hT]; exact hcB) hoB hclB hg (hsize.trans hml.symm) (argsL := As) (rest := rest) (fun sig h => hn.trans (hlen sig h)) hstack hW (by rw [hb]; exact hdg)
    (fun vm₁ hW₁ => ⟨hf.1, hf.2, hPc (T.setVm vm₁) hT hW₁⟩) with ⟨v, vm₁, ⟨U', l2, c2, s2⟩, hW₁, X', ⟨g', mk, t, L, e1, e2, hq, h1, hL, h2, h3⟩, st⟩ | ⟨q, vm₁, ⟨U', l2, c2, s2⟩, hW₁, X', ⟨g', mk, t, L, E, ce, e1, e2, hq, hce, hcv, hcl, h1, hL, h2, h3⟩, st⟩
  · dsimp only [Pt.U, Pt.locs, Pt.cells, Pt.slots] at X' e1 e2 h1 h2 h3 st
    subst h1; subst h2; subst h3
    exact Or.inl ⟨v, (T.setVm vm₁).calling g' mk (Value.ref b :: As).toArray, t, U', L, hT, X', hL, e1, e2, hq, st⟩
  · dsimp only [Pt.U, Pt.locs, Pt.cells, Pt.slots] at X' e1 e2 h1 h2 h3 st hcl
    subst h1; subst h2; subst h3
    exact Or.inr ⟨q, (T.setVm vm₁).calling g' mk (Value.ref b :: As).toArray, t, U', L, E, ce, hT, X', hL, e1, e2, hq, hce, hcv, vx_cls hW₁ hcl, st⟩
theorem vx_runS (S : CallFix p m c cc nL s args Ts own) (hM : vx_Met l y ws rm Pc Qc XC mc ms free) (cw : CallB R s args own index y bytes maxL ret ws rm mc ms n ∧ (Cond.static y).before args s = true) (hp : PreS s H Pc As)
    (hg : g.method = m) (hn : As.length = n) (hsize : g.locals.size = nL) (hstack : g.stack = As.reverse ++ rest) (hW : 2 * g.monitorRoom + (rest.map fun v => v.category).sum ≤ 8) (hdg : decode cc g.pc = .ok (.invokestatic index, 3)) (hf : cells + mc ≤ R.cells ∧ slots + ms ≤ R.slots) :
    vx_Run p l e R s m args below meth c H locs cells slots mc ms g rest (Qc As.toArray) XC free := by
  have hK : vx_Back l R p e below s args y 3 8 (PreOf R mc ms Pc) (PostOf Qc mc ms free) (vx_Post XC mc ms free) := vx_callBack cw.1 hM hp.1
  obtain ⟨⟨-, -, -, -, -, -, hcode, hini, hy, hlen, hl⟩, hstt⟩ := cw
  obtain ⟨hx, hb, hml, ho, -⟩ := S
  intro T hT X
  rcases vx_callS X hx (bytes := bytes) (maxL := maxL) (ret := ret) ho hl hstt hini hcode hy hK hg (hsize.trans hml.symm) (argsL := As) (rest := rest) (fun sig h => hn.trans (hlen sig h)) hstack hW (by rw [hb]; exact hdg)
    (fun vm₁ hW₁ => ⟨hf.1, hf.2, hp.2 (T.setVm vm₁) hT hW₁⟩) with ⟨v, vm₁, ⟨U', l2, c2, s2⟩, hW₁, X', ⟨g', mk, t, L, e1, e2, hq, h1, hL, h2, h3⟩, st⟩ | ⟨q, vm₁, ⟨U', l2, c2, s2⟩, hW₁, X', ⟨g', mk, t, L, E, ce, e1, e2, hq, hce, hcv, hcl, h1, hL, h2, h3⟩, st⟩
  · dsimp only [Pt.U, Pt.locs, Pt.cells, Pt.slots] at X' e1 e2 h1 h2 h3 st
    subst h1; subst h2; subst h3
    exact Or.inl ⟨v, (T.setVm vm₁).calling g' mk As.toArray, t, U', L, hT, X', hL, e1, e2, hq, st⟩
  · dsimp only [Pt.U, Pt.locs, Pt.cells, Pt.slots] at X' e1 e2 h1 h2 h3 st hcl
    subst h1; subst h2; subst h3
    exact Or.inr ⟨q, (T.setVm vm₁).calling g' mk As.toArray, t, U', L, E, ce, hT, X', hL, e1, e2, hq, hce, hcv, vx_cls hW₁ hcl, st⟩
end Runs
section Rows
variable {p : Program} {l : Launch} {e : Env} {R : Room} {s : State} {m : MethodId} {args : Array Value} {below : List Frame} {meth : Method} {c : Code} {H : Heap} {locs : List Loc} {cells slots : Nat} {Q : State → Prop}
variable {mc ms : Nat} {free : Addr → Prop} {A0 A1 : Nat → Prop} {H0 : Heap} {a : Array Value} {pc : Nat} {ls : Array Slot} {st0 rest : List Value}
theorem vx_keep {st₀ t T' : State} {L : List Loc} (h0 : st₀.heap = H) (e1 : T'.heap = t.heap) (hS : va_S A0 H0 H locs) (hA : ∀ q, q < H.size → A1 q → A0 q) (hf : ∀ q, free q → A0 q) (hL : ∀ q ∈ L, free q.base) (hF : va_F A1 st₀ t) :
    H.size ≤ T'.heap.size ∧ (∀ q : Nat, q < H.size → ¬ A1 q → T'.heap[q]? = H[q]?) ∧ va_S A0 H0 T'.heap (locs ++ L) := by
  obtain ⟨hz, hk⟩ := hF
  rw [h0] at hz hk
  exact ⟨by rw [e1]; exact hz, fun q h1 h2 => by rw [e1]; exact hk q h1 h2,
    ⟨Nat.le_trans hS.1 (by rw [e1]; exact hz), fun q h1 h2 => by rw [e1, hk q (Nat.lt_of_lt_of_le h1 hS.1) (fun z => h2 (hA q (Nat.lt_of_lt_of_le h1 hS.1) z))]; exact hS.2.1 q h1 h2, fun q hq => by
      rcases List.mem_append.mp hq with h | h
      · exact hS.2.2 q h
      · exact hf _ (hL q h)⟩⟩
theorem vx_calli {S SX : Type} {post : Int32 → S → Prop} {px : SX → Prop} {B : S → State → Prop} {BX : String → SX → State → Prop} {AX : Nat → Prop} (hr : vx_Run p l e R s m args below meth c H locs cells slots mc ms (F0 m pc ls st0) rest (va_Qi post B A1 a) (vx_X px BX AX) free) (hS : va_S A0 H0 H locs) (hA : ∀ q, q < H.size → A1 q → A0 q) (hf : ∀ q, free q → A0 q) (hAX : ∀ q, q < H.size → AX q → A0 q)
    (kx : ∀ (E : String) (ce : Cell) (q9 : Addr) (u : SX) (t : State) (H1 : Heap) (locs1 : List Loc), t.heap = H1 → s.vm.Alike t.vm → px u → BX E u t → H.size ≤ H1.size → (∀ q : Nat, q < H.size → ¬ AX q → H1[q]? = H[q]?) → va_S A0 H0 H1 locs1 → H1[q9]? = some ce → ce.vm = .none → s.vm.findClass E = some ce.cls → vx_W p l e R s m args below meth c H1 locs1 (cells + mc) (slots + ms) Q (F0 m pc ls rest) q9)
    (kk : ∀ (r : Int32) (u : S) (t : State) (H1 : Heap) (locs1 : List Loc), t.heap = H1 → s.vm.Alike t.vm → post r u → B u t → H.size ≤ H1.size → (∀ q : Nat, q < H.size → ¬ A1 q → H1[q]? = H[q]?) → va_S A0 H0 H1 locs1 → W p l e R s m args below meth c H1 locs1 (cells + mc) (slots + ms) Q (F0 m (pc + 3) ls (.int r :: rest))) : W p l e R s m args below meth c H locs cells slots Q (F0 m pc ls st0) := by
  intro T hT X
  rcases hr T hT X with ⟨v, st₀, t, T', L, h0, X', hL, e1, e2, ⟨⟨r, u, hv, hp, hb⟩, hF⟩, st⟩ | ⟨q, st₀, t, T', L, E, ce, h0, X', hL, e1, e2, ⟨u, hp, hb, hF⟩, hce, hcv, hcl, st⟩
  · cases hv
    obtain ⟨k1, k2, k3⟩ := vx_keep h0 e1 hS hA hf hL hF
    obtain ⟨t2, a1, b1⟩ := kk r u t T'.heap (locs ++ L) e1.symm (by rw [← e2]; exact X'.warmed.alike) hp hb k1 k2 k3 T' rfl X'
    exact ⟨t2, st t2 a1, b1⟩
  · obtain ⟨k1, k2, k3⟩ := vx_keep h0 e1 hS hAX hf hL hF
    obtain ⟨t2, a1, b1⟩ := kx E ce q u t T'.heap (locs ++ L) e1.symm (by rw [← e2]; exact X'.warmed.alike) hp hb k1 k2 k3 (by rw [e1]; exact hce) hcv hcl T' rfl X'
    exact ⟨t2, st.trans a1, b1⟩
theorem vx_calll {S SX : Type} {post : Int64 → S → Prop} {px : SX → Prop} {B : S → State → Prop} {BX : String → SX → State → Prop} {AX : Nat → Prop} (hr : vx_Run p l e R s m args below meth c H locs cells slots mc ms (F0 m pc ls st0) rest (va_Ql post B A1 a) (vx_X px BX AX) free) (hS : va_S A0 H0 H locs) (hA : ∀ q, q < H.size → A1 q → A0 q) (hf : ∀ q, free q → A0 q) (hAX : ∀ q, q < H.size → AX q → A0 q)
    (kx : ∀ (E : String) (ce : Cell) (q9 : Addr) (u : SX) (t : State) (H1 : Heap) (locs1 : List Loc), t.heap = H1 → s.vm.Alike t.vm → px u → BX E u t → H.size ≤ H1.size → (∀ q : Nat, q < H.size → ¬ AX q → H1[q]? = H[q]?) → va_S A0 H0 H1 locs1 → H1[q9]? = some ce → ce.vm = .none → s.vm.findClass E = some ce.cls → vx_W p l e R s m args below meth c H1 locs1 (cells + mc) (slots + ms) Q (F0 m pc ls rest) q9)
    (kk : ∀ (r : Int64) (u : S) (t : State) (H1 : Heap) (locs1 : List Loc), t.heap = H1 → s.vm.Alike t.vm → post r u → B u t → H.size ≤ H1.size → (∀ q : Nat, q < H.size → ¬ A1 q → H1[q]? = H[q]?) → va_S A0 H0 H1 locs1 → W p l e R s m args below meth c H1 locs1 (cells + mc) (slots + ms) Q (F0 m (pc + 3) ls (.long r :: rest))) : W p l e R s m args below meth c H locs cells slots Q (F0 m pc ls st0) := by
  intro T hT X
  rcases hr T hT X with ⟨v, st₀, t, T', L, h0, X', hL, e1, e2, ⟨⟨r, u, hv, hp, hb⟩, hF⟩, st⟩ | ⟨q, st₀, t, T', L, E, ce, h0, X', hL, e1, e2, ⟨u, hp, hb, hF⟩, hce, hcv, hcl, st⟩
  · cases hv
    obtain ⟨k1, k2, k3⟩ := vx_keep h0 e1 hS hA hf hL hF
    obtain ⟨t2, a1, b1⟩ := kk r u t T'.heap (locs ++ L) e1.symm (by rw [← e2]; exact X'.warmed.alike) hp hb k1 k2 k3 T' rfl X'
    exact ⟨t2, st t2 a1, b1⟩
  · obtain ⟨k1, k2, k3⟩ := vx_keep h0 e1 hS hAX hf hL hF
    obtain ⟨t2, a1, b1⟩ := kx E ce q u t T'.heap (locs ++ L) e1.symm (by rw [← e2]; exact X'.warmed.alike) hp hb k1 k2 k3 (by rw [e1]; exact hce) hcv hcl T' rfl X'
    exact ⟨t2, st.trans a1, b1⟩
theorem vx_callf {S SX : Type} {post : UInt32 → S → Prop} {px : SX → Prop} {B : S → State → Prop} {BX : String → SX → State → Prop} {AX : Nat → Prop} (hr : vx_Run p l e R s m args below meth c H locs cells slots mc ms (F0 m pc ls st0) rest (va_Qf post B A1 a) (vx_X px BX AX) free) (hS : va_S A0 H0 H locs) (hA : ∀ q, q < H.size → A1 q → A0 q) (hf : ∀ q, free q → A0 q) (hAX : ∀ q, q < H.size → AX q → A0 q)
    (kx : ∀ (E : String) (ce : Cell) (q9 : Addr) (u : SX) (t : State) (H1 : Heap) (locs1 : List Loc), t.heap = H1 → s.vm.Alike t.vm → px u → BX E u t → H.size ≤ H1.size → (∀ q : Nat, q < H.size → ¬ AX q → H1[q]? = H[q]?) → va_S A0 H0 H1 locs1 → H1[q9]? = some ce → ce.vm = .none → s.vm.findClass E = some ce.cls → vx_W p l e R s m args below meth c H1 locs1 (cells + mc) (slots + ms) Q (F0 m pc ls rest) q9)
    (kk : ∀ (r : UInt32) (u : S) (t : State) (H1 : Heap) (locs1 : List Loc), t.heap = H1 → s.vm.Alike t.vm → post r u → B u t → H.size ≤ H1.size → (∀ q : Nat, q < H.size → ¬ A1 q → H1[q]? = H[q]?) → va_S A0 H0 H1 locs1 → W p l e R s m args below meth c H1 locs1 (cells + mc) (slots + ms) Q (F0 m (pc + 3) ls (.float r :: rest))) : W p l e R s m args below meth c H locs cells slots Q (F0 m pc ls st0) := by
  intro T hT X
  rcases hr T hT X with ⟨v, st₀, t, T', L, h0, X', hL, e1, e2, ⟨⟨r, u, hv, hp, hb⟩, hF⟩, st⟩ | ⟨q, st₀, t, T', L, E, ce, h0, X', hL, e1, e2, ⟨u, hp, hb, hF⟩, hce, hcv, hcl, st⟩
  · cases hv
    obtain ⟨k1, k2, k3⟩ := vx_keep h0 e1 hS hA hf hL hF
    obtain ⟨t2, a1, b1⟩ := kk r u t T'.heap (locs ++ L) e1.symm (by rw [← e2]; exact X'.warmed.alike) hp hb k1 k2 k3 T' rfl X'
    exact ⟨t2, st t2 a1, b1⟩
  · obtain ⟨k1, k2, k3⟩ := vx_keep h0 e1 hS hAX hf hL hF
    obtain ⟨t2, a1, b1⟩ := kx E ce q u t T'.heap (locs ++ L) e1.symm (by rw [← e2]; exact X'.warmed.alike) hp hb k1 k2 k3 (by rw [e1]; exact hce) hcv hcl T' rfl X'
    exact ⟨t2, st.trans a1, b1⟩
theorem vx_calld {S SX : Type} {post : UInt64 → S → Prop} {px : SX → Prop} {B : S → State → Prop} {BX : String → SX → State → Prop} {AX : Nat → Prop} (hr : vx_Run p l e R s m args below meth c H locs cells slots mc ms (F0 m pc ls st0) rest (va_Qd post B A1 a) (vx_X px BX AX) free) (hS : va_S A0 H0 H locs) (hA : ∀ q, q < H.size → A1 q → A0 q) (hf : ∀ q, free q → A0 q) (hAX : ∀ q, q < H.size → AX q → A0 q)
    (kx : ∀ (E : String) (ce : Cell) (q9 : Addr) (u : SX) (t : State) (H1 : Heap) (locs1 : List Loc), t.heap = H1 → s.vm.Alike t.vm → px u → BX E u t → H.size ≤ H1.size → (∀ q : Nat, q < H.size → ¬ AX q → H1[q]? = H[q]?) → va_S A0 H0 H1 locs1 → H1[q9]? = some ce → ce.vm = .none → s.vm.findClass E = some ce.cls → vx_W p l e R s m args below meth c H1 locs1 (cells + mc) (slots + ms) Q (F0 m pc ls rest) q9)
    (kk : ∀ (r : UInt64) (u : S) (t : State) (H1 : Heap) (locs1 : List Loc), t.heap = H1 → s.vm.Alike t.vm → post r u → B u t → H.size ≤ H1.size → (∀ q : Nat, q < H.size → ¬ A1 q → H1[q]? = H[q]?) → va_S A0 H0 H1 locs1 → W p l e R s m args below meth c H1 locs1 (cells + mc) (slots + ms) Q (F0 m (pc + 3) ls (.double r :: rest))) : W p l e R s m args below meth c H locs cells slots Q (F0 m pc ls st0) := by
  intro T hT X
  rcases hr T hT X with ⟨v, st₀, t, T', L, h0, X', hL, e1, e2, ⟨⟨r, u, hv, hp, hb⟩, hF⟩, st⟩ | ⟨q, st₀, t, T', L, E, ce, h0, X', hL, e1, e2, ⟨u, hp, hb, hF⟩, hce, hcv, hcl, st⟩
  · cases hv
    obtain ⟨k1, k2, k3⟩ := vx_keep h0 e1 hS hA hf hL hF
    obtain ⟨t2, a1, b1⟩ := kk r u t T'.heap (locs ++ L) e1.symm (by rw [← e2]; exact X'.warmed.alike) hp hb k1 k2 k3 T' rfl X'
    exact ⟨t2, st t2 a1, b1⟩
  · obtain ⟨k1, k2, k3⟩ := vx_keep h0 e1 hS hAX hf hL hF
    obtain ⟨t2, a1, b1⟩ := kx E ce q u t T'.heap (locs ++ L) e1.symm (by rw [← e2]; exact X'.warmed.alike) hp hb k1 k2 k3 (by rw [e1]; exact hce) hcv hcl T' rfl X'
    exact ⟨t2, st.trans a1, b1⟩
theorem vx_callv {S SX : Type} {post : S → Prop} {px : SX → Prop} {B : S → State → Prop} {BX : String → SX → State → Prop} {AX : Nat → Prop} (hr : vx_Run p l e R s m args below meth c H locs cells slots mc ms (F0 m pc ls st0) rest (va_Qv post B A1 a) (vx_X px BX AX) free) (hS : va_S A0 H0 H locs) (hA : ∀ q, q < H.size → A1 q → A0 q) (hf : ∀ q, free q → A0 q) (hAX : ∀ q, q < H.size → AX q → A0 q)
    (kx : ∀ (E : String) (ce : Cell) (q9 : Addr) (u : SX) (t : State) (H1 : Heap) (locs1 : List Loc), t.heap = H1 → s.vm.Alike t.vm → px u → BX E u t → H.size ≤ H1.size → (∀ q : Nat, q < H.size → ¬ AX q → H1[q]? = H[q]?) → va_S A0 H0 H1 locs1 → H1[q9]? = some ce → ce.vm = .none → s.vm.findClass E = some ce.cls → vx_W p l e R s m args below meth c H1 locs1 (cells + mc) (slots + ms) Q (F0 m pc ls rest) q9)
    (kk : ∀ (u : S) (t : State) (H1 : Heap) (locs1 : List Loc), t.heap = H1 → s.vm.Alike t.vm → post u → B u t → H.size ≤ H1.size → (∀ q : Nat, q < H.size → ¬ A1 q → H1[q]? = H[q]?) → va_S A0 H0 H1 locs1 → W p l e R s m args below meth c H1 locs1 (cells + mc) (slots + ms) Q (F0 m (pc + 3) ls (rest))) : W p l e R s m args below meth c H locs cells slots Q (F0 m pc ls st0) := by
  intro T hT X
  rcases hr T hT X with ⟨v, st₀, t, T', L, h0, X', hL, e1, e2, ⟨⟨u, hv, hp, hb⟩, hF⟩, st⟩ | ⟨q, st₀, t, T', L, E, ce, h0, X', hL, e1, e2, ⟨u, hp, hb, hF⟩, hce, hcv, hcl, st⟩
  · cases hv
    obtain ⟨k1, k2, k3⟩ := vx_keep h0 e1 hS hA hf hL hF
    obtain ⟨t2, a1, b1⟩ := kk u t T'.heap (locs ++ L) e1.symm (by rw [← e2]; exact X'.warmed.alike) hp hb k1 k2 k3 T' rfl X'
    exact ⟨t2, st t2 a1, b1⟩
  · obtain ⟨k1, k2, k3⟩ := vx_keep h0 e1 hS hAX hf hL hF
    obtain ⟨t2, a1, b1⟩ := kx E ce q u t T'.heap (locs ++ L) e1.symm (by rw [← e2]; exact X'.warmed.alike) hp hb k1 k2 k3 (by rw [e1]; exact hce) hcv hcl T' rfl X'
    exact ⟨t2, st.trans a1, b1⟩
/-- caught by the row x of this method's table; the rows ahead don't take it -/
theorem vx_catch {own name : String} {E : String} {ce : Cell} {q : Addr} (hown : s.vm.findClass own = some m.cls) (pre : List ExceptionTableEntry) (x : ExceptionTableEntry) (suf : List ExceptionTableEntry) (hsplit : c.exceptionTable.toList = pre ++ x :: suf)
    (hpass : ∀ z ∈ pre, covers z pc = false ∨ (z.catchType ≠ 0 ∧ ∃ nm : String, (Cond.classLink own z.catchType nm).before args s = true ∧ va_Nc E nm s)) (hx : covers x pc = true) (h0 : x.catchType ≠ 0)
    (hlink : (Cond.classLink own x.catchType name).before args s = true) (hcast : (Cond.castable E name).before args s = true) (hcell : H[q]? = some ce) (hv : ce.vm = .none) (hcl : s.vm.findClass E = some ce.cls)
    (kk : W p l e R s m args below meth c H locs cells slots Q (F0 m x.handlerPc ls [.ref q])) : vx_W p l e R s m args below meth c H locs cells slots Q (F0 m pc ls rest) q := by
  intro T hT X
  have hpl : e.platform.magicAccessors = ({} : Platform).magicAccessors := by rw [X.admits.platform]
  obtain ⟨c3, c4, hc3, hc4, hasg⟩ := Cond.castable_spec hcast
  cases Option.some.inj (hc3.symm.trans hcl)
  obtain ⟨c5, hc5, hcl5⟩ := Cond.classLink_spec hown hlink e.platform hpl
  cases Option.some.inj (hc4.symm.trans hc5)
  obtain ⟨vm', X', st⟩ := X.thenCaughtThrough q (g := F0 m pc ls rest) rfl (Steps.refl _) (by rw [hT]; exact hcell) (by rw [hv]; rfl) (by obtain ⟨k9, h9, -⟩ := Vm.findClass_spec hcl; exact ⟨k9, h9⟩) pre x suf hsplit
    (fun z hz => by
      rcases hpass z hz with h | ⟨hz0, nm, hl1, hn1⟩
      · exact Or.inl h
      · obtain ⟨c6, hc6, hcl6⟩ := Cond.classLink_spec hown hl1 e.platform hpl
        obtain ⟨a8, b8, h1, h2, h3⟩ := hn1
        cases Option.some.inj (h1.symm.trans hcl)
        cases Option.some.inj (h2.symm.trans hc6)
        exact Or.inr ⟨hz0, _, hcl6, h3⟩) hx (Or.inr ⟨h0, c4, hcl5, hasg⟩)
  obtain ⟨t, a1, b1⟩ := kk (T.setVm vm') hT X'
  exact ⟨t, st.trans a1, b1⟩
end Rows
section Ends
variable {p : Program} {l : Launch} {e : Env} {R : Room} {s : State} {m : MethodId} {args : Array Value} {below : List Frame} {meth : Method} {c : Code} {H : Heap} {locs : List Loc} {cells slots : Nat} {Q : State → Prop}
variable {mc ms : Nat} {free : Addr → Prop} {A0 A1 : Nat → Prop} {H0 : Heap} {a : Array Value} {ls : Array Slot} {st0 rest : List Value}
variable {Qc : Array Value → State → Outcome → State → Prop} {XC : String → State → State → Prop}
/-- what a body that may throw owes at its end -/
def vx_MQ (below : List Frame) (Qc : Array Value → State → Outcome → State → Prop) (XC : String → State → State → Prop) (a : Array Value) (s : State) (mc ms : Nat) (free : Addr → Prop) : State → Prop := fun t =>
  ∃ o, t.status = .running ∧ Ended t below o ∧ vx_Q Qc XC mc ms free a s o t
theorem vx_ret {g : JFrame} {mc ms : Nat} (k : W p l e R s m args below meth c H locs cells slots (MQ below Qc args s mc ms free) g) : W p l e R s m args below meth c H locs cells slots (vx_MQ below Qc XC args s mc ms free) g := by
  intro T hT X
  obtain ⟨t, a1, o, b1, b2, b3, b4⟩ := k T hT X
  exact ⟨t, a1, o, b1, b2, Or.inl ⟨b3, b4⟩⟩
/-- not caught here: it goes on to the caller -/
theorem vx_widen {g : JFrame} {q : Addr} {k n : Nat} (h1 : cells ≤ k) (h2 : slots ≤ n) (kk : vx_W p l e R s m args below meth c H locs k n Q g q) : vx_W p l e R s m args below meth c H locs cells slots Q g q := fun T hT X => kk T hT (stand_widen X h1 h2)
theorem vx_out {pc : Nat} {E : String} {ce : Cell} {q : Addr} {mc ms : Nat} (hout : ∀ x ∈ c.exceptionTable.toList, covers x pc = false) (hlocks : meth.locks = false) (hcell : H[q]? = some ce) (hv : ce.vm = .none) (hcl : s.vm.findClass E = some ce.cls)
    (hx : ∀ t : State, t.heap = H → s.vm.Alike t.vm → XC E s t) (hf : ∀ z ∈ locs, free z.base) (hc : cells ≤ mc) (hs : slots ≤ ms) :
    vx_W p l e R s m args below meth c H locs cells slots (vx_MQ below Qc XC args s mc ms free) (F0 m pc ls rest) q := by
  intro T hT X
  obtain ⟨st1, hrun, hend, hW, hsm⟩ := X.leaveThrown q (g := F0 m pc ls rest) rfl rfl rfl hout hlocks
  have hcell9 : (T.setFrames (.throwing q :: below)).heap[q]? = some ce := by
    show T.heap[q]? = some ce
    rw [hT]; exact hcell
  exact ⟨_, st1, .threw q, hrun, hend, Or.inr ⟨q, rfl, E, ce, locs, hx _ hT hW.alike, hcell9, hv, hcl, hW, hsm.mono hc hs, hf⟩⟩
theorem vx_frame {U : State} {k n : Nat} (h : s.sameButNew ({ U with vm := s.vm } : State) locs k n) : s.heap.size ≤ U.heap.size ∧ ∀ q : Nat, q < s.heap.size → (∀ z ∈ locs, z.base ≠ q) → U.heap[q]? = s.heap[q]? := by
  obtain ⟨-, h2, -, -, -, h6⟩ := h
  refine ⟨h2, fun q hq hz => ?_⟩
  obtain ⟨c9, e1, e2, e3, e4⟩ := h6 q _ (Array.getElem?_eq_getElem hq)
  have hs : c9.slots = (s.heap[q]).slots := Array.ext_getElem? fun i => e4 i fun hm => hz _ hm rfl
  have h9 : c9 = s.heap[q] := by
    rw [hs] at e2
    exact e2
  have e5 : U.heap[q]? = some c9 := e1
  rw [e5, h9, Array.getElem?_eq_getElem hq]
/-- the words of a throw but the four that speak of the heap -/
def vx_no (w : Cond) : Bool := decide (w ≠ .isRef (.static Bundle.tN "UNASSIGNED_STACK" Bundle.steD)) && decide (w ≠ .isRef (.static Bundle.tN "SUPPRESSED_SENTINEL" Bundle.listD)) && decide (w ≠ .laysStatic Bundle.tN "UNASSIGNED_STACK" Bundle.steD) && decide (w ≠ .laysStatic Bundle.tN "SUPPRESSED_SENTINEL" Bundle.listD)
def vx_at0 (own : String) (ic : Nat) (X : String) (names : List String) : List Cond := (Bundle.ownAtoms0 own ic X names).filter vx_no
def vx_atS (own : String) (ic : Nat) (X : String) (names : List String) : List Cond := (Bundle.ownAtoms own ic X names).filter vx_no
/-- a word that the tables alone decide, or a good one -/
def vx_ot (w : Cond) : Bool := w.onTables || goodWord w
theorem vx_ot_at {args a' : Array Value} {s U : State} {w : Cond} (hW : s.WarmedH U.vm) (hvm : s.vm = U.vm) (hg : vx_ot w = true) (h : w.before args s = true) : w.before a' U = true := by
  simp only [vx_ot, Bool.or_eq_true] at hg
  rcases hg with hg | hg
  · exact va_tabs hg hvm h
  · exact word_at hW (good_of_word hg) h
/-- a list's words: the good ones out of the method's own list, the others by premises of their own -/
theorem vx_hat {args : Array Value} {s : State} {L B : List Cond} (h1 : ∀ w ∈ L.filter goodWord, w.before args s = true) (h2 : ∀ w ∈ L.filter (fun w => !goodWord w), w ∈ B) (h3 : ∀ w ∈ B, w.before args s = true) : ∀ w ∈ L, w.before args s = true := by
  intro w hw
  by_cases g : goodWord w = true
  · exact h1 w (List.mem_filter.mpr ⟨hw, g⟩)
  · refine h3 w (h2 w (List.mem_filter.mpr ⟨hw, ?_⟩))
    show (!goodWord w) = true
    cases hgw : goodWord w
    · rfl
    · exact absurd hgw g
theorem vx_c {args : Array Value} {s : State} {w : Cond} {B : List Cond} (h : w.before args s = true) (t : ∀ w ∈ B, w.before args s = true) : ∀ w' ∈ w :: B, w'.before args s = true := fun w' h' => (List.mem_cons.mp h').elim (fun e => by rw [e]; exact h) (t w')
theorem vx_n {args : Array Value} {s : State} : ∀ w ∈ ([] : List Cond), w.before args s = true := fun _ h => nomatch h
theorem vx_own {args : Array Value} {s : State} {L : List Cond} (h1 : ∀ w ∈ L.filter vx_no, w.before args s = true)
    (hU : (Cond.isRef (.static Bundle.tN "UNASSIGNED_STACK" Bundle.steD)).before args s = true) (hN : (Cond.isRef (.static Bundle.tN "SUPPRESSED_SENTINEL" Bundle.listD)).before args s = true)
    (lU : (Cond.laysStatic Bundle.tN "UNASSIGNED_STACK" Bundle.steD).before args s = true) (lN : (Cond.laysStatic Bundle.tN "SUPPRESSED_SENTINEL" Bundle.listD).before args s = true) : ∀ w ∈ L, w.before args s = true := by
  intro w hw
  by_cases e1 : w = .isRef (.static Bundle.tN "UNASSIGNED_STACK" Bundle.steD)
  · rw [e1]; exact hU
  · by_cases e2 : w = .isRef (.static Bundle.tN "SUPPRESSED_SENTINEL" Bundle.listD)
    · rw [e2]; exact hN
    · by_cases e3 : w = .laysStatic Bundle.tN "UNASSIGNED_STACK" Bundle.steD
      · rw [e3]; exact lU
      · by_cases e4 : w = .laysStatic Bundle.tN "SUPPRESSED_SENTINEL" Bundle.listD
        · rw [e4]; exact lN
        · exact h1 w (List.mem_filter.mpr ⟨hw, by unfold vx_no; rw [decide_eq_true e1, decide_eq_true e2, decide_eq_true e3, decide_eq_true e4]; rfl⟩)
/-- where a static field lies, its class's statics cell in H -/
def vx_L (C n d : String) (A : Nat → Prop) (U : State) (H : Heap) : Prop := ∃ (c : ClassId) (k : Class) (i : Nat) (f : Field) (a : Nat) (cell : Cell), U.vm.findClass C = some c ∧ U.fieldFound? C n d = some (c, k, i, f) ∧ f.isStatic = true ∧ k.statics = some a ∧ H[a]? = some cell ∧ cell.vm.isStatics = true ∧ cell.cls = c ∧ f.slot < cell.slots.size ∧ k.staticTypes[f.slot]? = some f.type ∧ ¬ A a
theorem vx_L.moved {C n d : String} {A : Nat → Prop} {u U : State} {H : Heap} (hvm : u.vm.Alike U.vm) (h : vx_L C n d A u H) : vx_L C n d A U H := by
  obtain ⟨c, k, i, f, a, cell, h1, h2, h3, h4, h5, h6, h7, h8, h9, h10⟩ := h
  obtain ⟨k', hi', he⟩ := State.fieldFound?_setVm hvm h2
  exact ⟨c, k', i, f, a, cell, by rw [hvm.findClass]; exact h1, hi', h3, by rw [he]; exact h4, h5, h6, h7, h8, by rw [he]; exact h9, h10⟩
theorem vx_L.kept {C n d : String} {A : Nat → Prop} {U : State} {H H1 : Heap} (h : vx_L C n d A U H) (hq : ∀ a : Nat, a < H.size → ¬ A a → H1[a]? = H[a]?) : vx_L C n d A U H1 := by
  obtain ⟨c, k, i, f, a, cell, h1, h2, h3, h4, h5, h6, h7, h8, h9, h10⟩ := h
  exact ⟨c, k, i, f, a, cell, h1, h2, h3, h4, by rw [hq a (Array.getElem?_eq_some_iff.mp h5).1 h10]; exact h5, h6, h7, h8, h9, h10⟩
theorem vx_L.narrow {C n d : String} {A B : Nat → Prop} {U : State} {H : Heap} (h : vx_L C n d A U H) (hAB : ∀ q, B q → A q) : vx_L C n d B U H := by
  obtain ⟨c, k, i, f, a, cell, h1, h2, h3, h4, h5, h6, h7, h8, h9, h10⟩ := h
  exact ⟨c, k, i, f, a, cell, h1, h2, h3, h4, h5, h6, h7, h8, h9, fun z => h10 (hAB _ z)⟩
theorem vx_L.word {C n d : String} {A : Nat → Prop} {s : State} {args : Array Value} (h : vx_L C n d A s s.heap) : (Cond.laysStatic C n d).before args s = true := by
  obtain ⟨c, k, i, f, a, cell, h1, h2, h3, h4, h5, h6, h7, h8, h9, -⟩ := h
  show (Cond.laysStatic C n d).holds args s none s [] = true
  exact Cond.laysStatic_of h1 h2 h3 h4 h5 h6 h7 h8 h9
/-- .. and what it holds: null or some reference -/
def vx_Zq (C n d : String) (A : Nat → Prop) (U : State) (H : Heap) : Prop := va_Zq C n d A U H ∧ vx_L C n d A U H
theorem vx_Zq.moved {C n d : String} {A : Nat → Prop} {u U : State} {H : Heap} (hvm : u.vm.Alike U.vm) (h : vx_Zq C n d A u H) : vx_Zq C n d A U H := ⟨va_Zq.moved hvm h.1, vx_L.moved hvm h.2⟩
theorem vx_Zq.kept {C n d : String} {A : Nat → Prop} {U : State} {H H1 : Heap} (h : vx_Zq C n d A U H) (hq : ∀ a : Nat, a < H.size → ¬ A a → H1[a]? = H[a]?) : vx_Zq C n d A U H1 := ⟨va_Zq.kept h.1 hq, vx_L.kept h.2 hq⟩
theorem vx_Zq.narrow {C n d : String} {A B : Nat → Prop} {U : State} {H : Heap} (h : vx_Zq C n d A U H) (hAB : ∀ q, B q → A q) : vx_Zq C n d B U H := ⟨va_Zq.narrow h.1 hAB, vx_L.narrow h.2 hAB⟩
theorem vx_Zqof {args : Array Value} {s : State} {C n d : String} {A : Nat → Prop} (hl : (Cond.laysStatic C n d).before args s = true) (hini : (Cond.initialized C).before args s = true) (h : (Cond.isRef (.static C n d)).before args s = true) (hA : ∀ a : Nat, a < s.heap.size → ¬ A a) : vx_Zq C n d A s s.heap := by
  refine ⟨va_Zqof hl hini h hA, ?_⟩
  obtain ⟨c, k, i, f, a, cell, h1, h2, h3, h4, h5, h6, h7, h8, h9⟩ := Cond.laysStatic_spec hl
  exact ⟨c, k, i, f, a, cell, h1, h2, h3, h4, h5, h6, h7, h8, h9, hA a (Array.getElem?_eq_some_iff.mp h5).1⟩
theorem vx_isRef {C n d : String} {v : Value} {A : Nat → Prop} {s : State} {args : Array Value} (h : va_Z C n d v A s s.heap) (hv : v.isRef = true) : (Cond.isRef (.static C n d)).before args s = true := by
  obtain ⟨cf, kf, fi, f, a, cell, h1, h2, h3, h4, h5, h6, h7, -⟩ := h
  have he : (Term.static C n d).eval args s none [] s = some v := by
    simp [Term.eval, State.fieldNamed?, h1, h2, h4, h5, h6, h7]
  simp only [Cond.before, Cond.holds, Cond.value, he]
  cases v <;> simp_all [Value.isRef]
theorem vx_isRefq {C n d : String} {A : Nat → Prop} {s : State} {args : Array Value} (h : va_Zq C n d A s s.heap) : (Cond.isRef (.static C n d)).before args s = true := by
  rcases h with h | ⟨t, h⟩
  · exact vx_isRef h rfl
  · exact vx_isRef h rfl
/-- the same frame, seen from here: as if the method were called anew in this heap -/
theorem vx_rebase {T : State} (X : Stand p l e R s m args below meth c T locs cells slots) {R' : Room} (hf : R'.frames ≤ R.frames) (hl : R'.locals ≤ R.locals) (hc : cells + R'.cells ≤ R.cells) (hs : slots + R'.slots ≤ R.slots) :
    Stand p l e R' ((T.setVm s.vm).setFrames (.invoking m args :: below)) m args below meth c T [] 0 0 := by
  have htop : (T.setVm s.vm).topJava?.isSome := X.here.top
  have hF : ((T.setVm s.vm).setFrames (.invoking m args :: below)).frames = .invoking m args :: below := State.frames_setFrames _ (State.cur_lt_of_top htop)
  obtain ⟨g₀, hg0⟩ := Option.isSome_iff_exists.mp htop
  obtain ⟨r, hr⟩ := State.topJava?_eq_some.mp hg0
  have hl9 : e.platform.stackLimits (T.setVm s.vm).me = e.platform.stackLimits s.me := X.limits
  have hb9 : (T.setVm s.vm).me.stackBytes = s.me.stackBytes := X.bytes
  refine ⟨X.admits, X.cas, X.clock, hF, ?_, X.hears, X.method, X.code, X.here, X.tail, X.warmed, ?_, ?_, ?_⟩
  · have h := X.room
    have hU : ((T.setVm s.vm).setFrames (.invoking m args :: below)).localsInUse = s.localsInUse := by
      rw [State.localsInUse_invoking hF (meth := meth) (c := c) X.method X.code, State.localsInUse_invoking X.frames X.method X.code]
    simp only [State.hasRoom, Bool.and_eq_true, decide_eq_true_eq] at h ⊢
    obtain ⟨⟨⟨⟨h1, h2, h3, h4, h5, h6⟩, h7⟩, h8⟩, h9⟩ := h
    rw [X.frames, List.length_cons] at h2 h3
    have q1 := X.heapSize
    have q2 := X.used
    simp only [hF, hU, List.length_cons, State.stackLimits_setFrames, State.stackBytes_setFrames, hl9, hb9]
    refine ⟨⟨⟨⟨by omega, by omega, by omega, by omega, by omega, h6⟩, ?_⟩, ?_⟩, X.book⟩
    · show T.heap.size + R'.cells ≤ e.platform.maxCells
      omega
    · show T.slotsUsed + R'.slots ≤ e.platform.maxSlots
      omega
  · rw [State.stackLimits_setFrames]; rfl
  · rw [State.stackBytes_setFrames]; rfl
  · refine ⟨?_, Nat.le_refl _, Nat.le_refl _, ?_, ?_, fun a c9 h9 => ⟨c9, h9, rfl, rfl, fun _ _ => rfl⟩⟩
    · obtain ⟨t, ht, -⟩ := State.frames_cons hr
      show T.setVm s.vm = { ((T.setVm s.vm).setFrames (.invoking m args :: below)).setFrames (T.setVm s.vm).frames with heap := T.heap, slotsUsed := T.slotsUsed }
      rw [State.setFrames_setFrames, State.setFrames_self ht]
      rfl
    · show T.slotsUsed = T.slotsUsed + ((T.heap.toList.drop T.heap.size).map (·.slots.size)).sum
      rw [List.drop_eq_nil_of_le (Nat.le_of_eq Array.length_toList)]
      rfl
    · show ((T.heap.toList.drop T.heap.size).map (·.slots.size)).sum ≤ 0
      rw [List.drop_eq_nil_of_le (Nat.le_of_eq Array.length_toList)]
      exact Nat.le_refl _
/-- 'throw new E()': new; dup; invokespecial; athrow -/
theorem vx_throw0 {cc : ByteArray} {pc : Nat} (hexec : p.tables.exec = Jvm.exec) (hb : c.code = cc) (hl : l.stackTraces = false) {own cls : String} {names : List String} {ik ic mc ms : Nat} {A : Nat → Prop}
    (hown : s.vm.findClass own = some m.cls) (hcls : Bundle.fit cls = true) (hnames : ∀ n ∈ names, Bundle.fit n = true)
    (hk : (Cond.classLink own ik cls).before args s = true) (hini : (Cond.initialized cls).before args s = true) (hat : ∀ w ∈ vx_at0 own ic cls names, w.before args s = true)
    (hgood : ∀ w ∈ Cond.classLink own ik cls :: Cond.initialized cls :: vx_at0 own ic cls names, vx_ot w = true)
    (hU : vx_Zq Bundle.tN "UNASSIGNED_STACK" Bundle.steD A s s.heap) (hN : vx_Zq Bundle.tN "SUPPRESSED_SENTINEL" Bundle.listD A s s.heap) (hS : va_S A s.heap H locs) (hsize : ls.size = c.maxLocals)
    (d0 : decode cc pc = .ok (.new ik, 3)) (d3 : decode cc (pc + 3) = .ok (.dup, 1)) (d4 : decode cc (pc + 4) = .ok (.invokespecial ic, 3)) (d7 : decode cc (pc + 7) = .ok (.athrow, 1))
    (hout : ∀ x ∈ c.exceptionTable.toList, covers x (pc + 7) = false)
    (hRframes : names.length + 3 < R.frames) (hRlocals : (rest.map fun v => v.category).sum + (13 * (names.length + 1) + 42) ≤ R.locals) (hRcells : cells + 1 ≤ R.cells) (hRslots : slots + 6 ≤ R.slots) (hlocks : meth.locks = false)
    (hx : ∀ t : State, s.vm.Alike t.vm → H.size ≤ t.heap.size → (∀ q : Nat, q < H.size → t.heap[q]? = H[q]?) → XC cls s t)
    (hf : ∀ z ∈ locs, free z.base) (hc : cells + 1 ≤ mc) (hs : slots + 6 ≤ ms) :
    W p l e R s m args below meth c H locs cells slots (vx_MQ below Qc XC args s mc ms free) (F0 m pc ls rest) := by
  intro T hT X
  have htr : e.platform.stackTraces = false := (show e.platform.stackTraces = l.stackTraces by rw [X.admits.platform]).trans hl
  have Y := vx_rebase X (R' := { frames := R.frames, locals := R.locals, cells := 1, slots := 6 }) (Nat.le_refl _) (Nat.le_refl _) hRcells hRslots
  obtain ⟨s', hA⟩ : ∃ z, z = (T.setVm s.vm).setFrames (.invoking m args :: below) := ⟨_, rfl⟩
  rw [← hA] at Y
  have hvm : s'.vm = s.vm := by rw [hA]; rfl
  have hhp : s'.heap = H := by rw [hA]; exact hT
  have hW0 : s.WarmedH s'.vm := by rw [hvm]; exact State.WarmedH.refl s
  have hat' : ∀ w ∈ vx_at0 own ic cls names, w.before args s' = true := fun w hw => vx_ot_at hW0 hvm.symm (hgood w (List.mem_cons_of_mem _ (List.mem_cons_of_mem _ hw))) (hat w hw)
  have hk' : (Cond.classLink own ik cls).before args s' = true := vx_ot_at hW0 hvm.symm (hgood _ List.mem_cons_self) hk
  have hini' : (Cond.initialized cls).before args s' = true := vx_ot_at hW0 hvm.symm (hgood _ (List.mem_cons_of_mem _ List.mem_cons_self)) hini
  have hU' : vx_Zq Bundle.tN "UNASSIGNED_STACK" Bundle.steD A s' s'.heap := by rw [hhp]; exact vx_Zq.moved hW0.alike (hU.kept hS.2.1)
  have hN' : vx_Zq Bundle.tN "SUPPRESSED_SENTINEL" Bundle.listD A s' s'.heap := by rw [hhp]; exact vx_Zq.moved hW0.alike (hN.kept hS.2.1)
  have h : ∀ w ∈ Bundle.ownAtoms0 own ic cls names, w.before args s' = true := vx_own hat' (vx_isRefq hU'.1) (vx_isRefq hN'.1) hU'.2.word hN'.2.word
  have hown' : s'.vm.findClass own = some m.cls := by rw [hvm]; exact hown
  have hins : (Cond.instantiable cls 6).before args s' = true := h _ (by simp [Bundle.ownAtoms0])
  obtain ⟨vm₁, cX, kX, hfX, hkX, -, -, X₁, st1⟩ := Y.newCold hexec (own := own) (C := cls) (index := ik) (n := 6) hown' hk' hins hini'
    (g := F0 m pc ls rest) rfl (by rw [hb]; exact d0) (Nat.le_refl _) (Nat.le_refl _)
  generalize hT1 : (T.setVm vm₁).pushCell { cls := cX, slots := kX.instanceTypes.map defaultValue, vm := .none } = T1 at X₁ st1
  have hcat : (Value.ref T.heap.size).category = 1 := rfl
  have hcellA : T1.heap[T.heap.size]? = some (freshCell cX kX) := by rw [← hT1]; exact State.heap_pushCell_size _ _
  have d3' : decode c.code (pc + 3) = .ok (.dup, 1) := by rw [hb]; exact d3
  obtain ⟨U, hsteps, hrun, hend, hW, hsame, ce, hce, hO⟩ := X₁.ctorThrow0 hexec htr (own := own) (cls := cls) (names := names) (ic := ic) hown' hcls hnames h (fun x hx => nomatch hx) hfX hkX hcellA (by rw [hhp, hT]; exact Nat.le_refl _)
    (g := { method := m, pc := pc + 4, locals := ls, stack := .ref T.heap.size :: .ref T.heap.size :: rest, locked := none }) rfl hsize rfl rfl (rest := rest) rfl
    (by rw [hb]; exact d4) (by rw [hb]; exact d7) hout hRframes (by simp only [List.map_cons, List.sum_cons, hcat]; omega) hlocks
  obtain ⟨f1, f2⟩ := vx_frame hsame
  rw [hhp] at f1 f2
  have hWs : s.WarmedH U.vm := State.WarmedH.trans hW0 hW
  have hcl : s.vm.findClass cls = some ce.cls := by
    have h9 := hO.cls
    rw [hvm] at h9
    exact h9
  have hall : s.sameButNew ({ U with vm := s.vm } : State) locs mc ms := by
    subst hA
    obtain ⟨e1, e2⟩ := hsame
    rw [State.setFrames_setFrames] at e1
    have h2 : (T.setVm s.vm).sameButNew ({ U with vm := s.vm } : State) [] (0 + 1) (0 + 6) := ⟨e1, e2⟩
    have h3 := X.same.trans h2
    rw [List.append_nil] at h3
    exact h3.mono hc hs
  refine ⟨U, ?_, .threw T.heap.size, hrun, hend, Or.inr ⟨T.heap.size, rfl, cls, ce, locs, hx U hWs.alike f1 (fun q hq => f2 q hq (fun z hz => nomatch hz)), hce, hO.vm, hcl, hWs, hall, hf⟩⟩
  refine st1 _ ?_
  show Steps p.tables e below (T1.setTop { method := m, pc := pc + 3, locals := ls, stack := .ref T.heap.size :: rest, locked := none }) _
  jvm_step X₁.here [X₁.here.top, hexec, d3', Value.category]
  exact hsteps
/-- 'throw new E("text")': new; dup; ldc; invokespecial; athrow -/
theorem vx_throwS {cc : ByteArray} {pc : Nat} (hexec : p.tables.exec = Jvm.exec) (hb : c.code = cc) (hl : l.stackTraces = false) {own cls text : String} {names : List String} {ik is ic mc ms sa : Nat} {A : Nat → Prop}
    (hown : s.vm.findClass own = some m.cls) (hcls : Bundle.fit cls = true) (hnames : ∀ n ∈ names, Bundle.fit n = true)
    (hk : (Cond.classLink own ik cls).before args s = true) (hini : (Cond.initialized cls).before args s = true) (hstr : vk_R own is text sa s) (hat : ∀ w ∈ vx_atS own ic cls names, w.before args s = true)
    (hgood : ∀ w ∈ Cond.classLink own ik cls :: Cond.initialized cls :: vx_atS own ic cls names, vx_ot w = true)
    (hU : vx_Zq Bundle.tN "UNASSIGNED_STACK" Bundle.steD A s s.heap) (hN : vx_Zq Bundle.tN "SUPPRESSED_SENTINEL" Bundle.listD A s s.heap) (hS : va_S A s.heap H locs) (hsize : ls.size = c.maxLocals)
    (d0 : decode cc pc = .ok (.new ik, 3)) (d3 : decode cc (pc + 3) = .ok (.dup, 1)) (d4 : decode cc (pc + 4) = .ok (.ldc is, 2)) (d6 : decode cc (pc + 6) = .ok (.invokespecial ic, 3)) (d9 : decode cc (pc + 9) = .ok (.athrow, 1))
    (hout : ∀ x ∈ c.exceptionTable.toList, covers x (pc + 9) = false)
    (hRframes : names.length + 3 < R.frames) (hRlocals : (rest.map fun v => v.category).sum + (13 * (names.length + 1) + 43) ≤ R.locals) (hRcells : cells + 1 ≤ R.cells) (hRslots : slots + 6 ≤ R.slots) (hlocks : meth.locks = false)
    (hx : ∀ t : State, s.vm.Alike t.vm → H.size ≤ t.heap.size → (∀ q : Nat, q < H.size → t.heap[q]? = H[q]?) → XC cls s t)
    (hf : ∀ z ∈ locs, free z.base) (hc : cells + 1 ≤ mc) (hs : slots + 6 ≤ ms) :
    W p l e R s m args below meth c H locs cells slots (vx_MQ below Qc XC args s mc ms free) (F0 m pc ls rest) := by
  intro T hT X
  have htr : e.platform.stackTraces = false := (show e.platform.stackTraces = l.stackTraces by rw [X.admits.platform]).trans hl
  have Y := vx_rebase X (R' := { frames := R.frames, locals := R.locals, cells := 1, slots := 6 }) (Nat.le_refl _) (Nat.le_refl _) hRcells hRslots
  obtain ⟨s', hA⟩ : ∃ z, z = (T.setVm s.vm).setFrames (.invoking m args :: below) := ⟨_, rfl⟩
  rw [← hA] at Y
  have hvm : s'.vm = s.vm := by rw [hA]; rfl
  have hhp : s'.heap = H := by rw [hA]; exact hT
  have hW0 : s.WarmedH s'.vm := by rw [hvm]; exact State.WarmedH.refl s
  have hat' : ∀ w ∈ vx_atS own ic cls names, w.before args s' = true := fun w hw => vx_ot_at hW0 hvm.symm (hgood w (List.mem_cons_of_mem _ (List.mem_cons_of_mem _ hw))) (hat w hw)
  have hk' : (Cond.classLink own ik cls).before args s' = true := vx_ot_at hW0 hvm.symm (hgood _ List.mem_cons_self) hk
  have hini' : (Cond.initialized cls).before args s' = true := vx_ot_at hW0 hvm.symm (hgood _ (List.mem_cons_of_mem _ List.mem_cons_self)) hini
  have hU' : vx_Zq Bundle.tN "UNASSIGNED_STACK" Bundle.steD A s' s'.heap := by rw [hhp]; exact vx_Zq.moved hW0.alike (hU.kept hS.2.1)
  have hN' : vx_Zq Bundle.tN "SUPPRESSED_SENTINEL" Bundle.listD A s' s'.heap := by rw [hhp]; exact vx_Zq.moved hW0.alike (hN.kept hS.2.1)
  have h : ∀ w ∈ Bundle.ownAtoms own ic cls names, w.before args s' = true := vx_own hat' (vx_isRefq hU'.1) (vx_isRefq hN'.1) hU'.2.word hN'.2.word
  have hown' : s'.vm.findClass own = some m.cls := by rw [hvm]; exact hown
  have hins : (Cond.instantiable cls 6).before args s' = true := h _ (by simp [Bundle.ownAtoms])
  obtain ⟨vm₁, cX, kX, hfX, hkX, -, -, X₁, st1⟩ := Y.newCold hexec (own := own) (C := cls) (index := ik) (n := 6) hown' hk' hins hini'
    (g := F0 m pc ls rest) rfl (by rw [hb]; exact d0) (Nat.le_refl _) (Nat.le_refl _)
  generalize hT1 : (T.setVm vm₁).pushCell { cls := cX, slots := kX.instanceTypes.map defaultValue, vm := .none } = T1 at X₁ st1
  have hcat : (Value.ref T.heap.size).category = 1 := rfl
  have hcellA : T1.heap[T.heap.size]? = some (freshCell cX kX) := by rw [← hT1]; exact State.heap_pushCell_size _ _
  have d3' : decode c.code (pc + 3) = .ok (.dup, 1) := by rw [hb]; exact d3
  have d4' : decode c.code (pc + 4) = .ok (.ldc is, 2) := by rw [hb]; exact d4
  have hstr' : vk_R own is text sa s' := vk_R.warm hW0 hstr
  obtain ⟨U, hsteps, hrun, hend, hW, hsame, ce, hce, hO⟩ := X₁.ctorThrowS hexec htr (own := own) (cls := cls) (names := names) (ic := ic) hown' hcls hnames h (fun x hx => nomatch hx) hfX hkX hcellA (by rw [hhp, hT]; exact Nat.le_refl _) (msg := .ref sa) rfl
    (g := { method := m, pc := pc + 6, locals := ls, stack := .ref sa :: .ref T.heap.size :: .ref T.heap.size :: rest, locked := none }) rfl hsize rfl rfl (rest := rest) rfl
    (by rw [hb]; exact d6) (by rw [hb]; exact d9) hout hRframes (by simp only [List.map_cons, List.sum_cons, hcat]; omega) hlocks
  obtain ⟨f1, f2⟩ := vx_frame hsame
  rw [hhp] at f1 f2
  have hWs : s.WarmedH U.vm := State.WarmedH.trans hW0 hW
  have hcl : s.vm.findClass cls = some ce.cls := by
    have h9 := hO.cls
    rw [hvm] at h9
    exact h9
  have hall : s.sameButNew ({ U with vm := s.vm } : State) locs mc ms := by
    subst hA
    obtain ⟨e1, e2⟩ := hsame
    rw [State.setFrames_setFrames] at e1
    have h2 : (T.setVm s.vm).sameButNew ({ U with vm := s.vm } : State) [] (0 + 1) (0 + 6) := ⟨e1, e2⟩
    have h3 := X.same.trans h2
    rw [List.append_nil] at h3
    exact h3.mono hc hs
  refine ⟨U, ?_, .threw T.heap.size, hrun, hend, Or.inr ⟨T.heap.size, rfl, cls, ce, locs, hx U hWs.alike f1 (fun q hq => f2 q hq (fun z hz => nomatch hz)), hce, hO.vm, hcl, hWs, hall, hf⟩⟩
  refine st1 _ ?_
  show Steps p.tables e below (T1.setTop { method := m, pc := pc + 3, locals := ls, stack := .ref T.heap.size :: rest, locked := none }) _
  jvm_step X₁.here [X₁.here.top, hexec, d3', Value.category]
  exact X₁.ldcString hexec (own := own) (text := text) (index := is) (a := sa) hown' hstr'.1 hstr'.2
    (g := { method := m, pc := pc + 4, locals := ls, stack := .ref T.heap.size :: .ref T.heap.size :: rest, locked := none }) rfl d4' _ hsteps
/-- 'throw new E("text")', the text by a wide index -/
theorem vx_throwSW {cc : ByteArray} {pc : Nat} (hexec : p.tables.exec = Jvm.exec) (hb : c.code = cc) (hl : l.stackTraces = false) {own cls text : String} {names : List String} {ik is ic mc ms sa : Nat} {A : Nat → Prop}
    (hown : s.vm.findClass own = some m.cls) (hcls : Bundle.fit cls = true) (hnames : ∀ n ∈ names, Bundle.fit n = true)
    (hk : (Cond.classLink own ik cls).before args s = true) (hini : (Cond.initialized cls).before args s = true) (hstr : vk_R own is text sa s) (hat : ∀ w ∈ vx_atS own ic cls names, w.before args s = true)
    (hgood : ∀ w ∈ Cond.classLink own ik cls :: Cond.initialized cls :: vx_atS own ic cls names, vx_ot w = true)
    (hU : vx_Zq Bundle.tN "UNASSIGNED_STACK" Bundle.steD A s s.heap) (hN : vx_Zq Bundle.tN "SUPPRESSED_SENTINEL" Bundle.listD A s s.heap) (hS : va_S A s.heap H locs) (hsize : ls.size = c.maxLocals)
    (d0 : decode cc pc = .ok (.new ik, 3)) (d3 : decode cc (pc + 3) = .ok (.dup, 1)) (d4 : decode cc (pc + 4) = .ok (.ldc_w is, 3)) (d7 : decode cc (pc + 7) = .ok (.invokespecial ic, 3)) (d10 : decode cc (pc + 10) = .ok (.athrow, 1))
    (hout : ∀ x ∈ c.exceptionTable.toList, covers x (pc + 10) = false)
    (hRframes : names.length + 3 < R.frames) (hRlocals : (rest.map fun v => v.category).sum + (13 * (names.length + 1) + 43) ≤ R.locals) (hRcells : cells + 1 ≤ R.cells) (hRslots : slots + 6 ≤ R.slots) (hlocks : meth.locks = false)
    (hx : ∀ t : State, s.vm.Alike t.vm → H.size ≤ t.heap.size → (∀ q : Nat, q < H.size → t.heap[q]? = H[q]?) → XC cls s t)
    (hf : ∀ z ∈ locs, free z.base) (hc : cells + 1 ≤ mc) (hs : slots + 6 ≤ ms) :
    W p l e R s m args below meth c H locs cells slots (vx_MQ below Qc XC args s mc ms free) (F0 m pc ls rest) := by
  intro T hT X
  have htr : e.platform.stackTraces = false := (show e.platform.stackTraces = l.stackTraces by rw [X.admits.platform]).trans hl
  have Y := vx_rebase X (R' := { frames := R.frames, locals := R.locals, cells := 1, slots := 6 }) (Nat.le_refl _) (Nat.le_refl _) hRcells hRslots
  obtain ⟨s', hA⟩ : ∃ z, z = (T.setVm s.vm).setFrames (.invoking m args :: below) := ⟨_, rfl⟩
  rw [← hA] at Y
  have hvm : s'.vm = s.vm := by rw [hA]; rfl
  have hhp : s'.heap = H := by rw [hA]; exact hT
  have hW0 : s.WarmedH s'.vm := by rw [hvm]; exact State.WarmedH.refl s
  have hat' : ∀ w ∈ vx_atS own ic cls names, w.before args s' = true := fun w hw => vx_ot_at hW0 hvm.symm (hgood w (List.mem_cons_of_mem _ (List.mem_cons_of_mem _ hw))) (hat w hw)
  have hk' : (Cond.classLink own ik cls).before args s' = true := vx_ot_at hW0 hvm.symm (hgood _ List.mem_cons_self) hk
  have hini' : (Cond.initialized cls).before args s' = true := vx_ot_at hW0 hvm.symm (hgood _ (List.mem_cons_of_mem _ List.mem_cons_self)) hini
  have hU' : vx_Zq Bundle.tN "UNASSIGNED_STACK" Bundle.steD A s' s'.heap := by rw [hhp]; exact vx_Zq.moved hW0.alike (hU.kept hS.2.1)
  have hN' : vx_Zq Bundle.tN "SUPPRESSED_SENTINEL" Bundle.listD A s' s'.heap := by rw [hhp]; exact vx_Zq.moved hW0.alike (hN.kept hS.2.1)
  have h : ∀ w ∈ Bundle.ownAtoms own ic cls names, w.before args s' = true := vx_own hat' (vx_isRefq hU'.1) (vx_isRefq hN'.1) hU'.2.word hN'.2.word
  have hown' : s'.vm.findClass own = some m.cls := by rw [hvm]; exact hown
  have hins : (Cond.instantiable cls 6).before args s' = true := h _ (by simp [Bundle.ownAtoms])
  obtain ⟨vm₁, cX, kX, hfX, hkX, -, -, X₁, st1⟩ := Y.newCold hexec (own := own) (C := cls) (index := ik) (n := 6) hown' hk' hins hini'
    (g := F0 m pc ls rest) rfl (by rw [hb]; exact d0) (Nat.le_refl _) (Nat.le_refl _)
  generalize hT1 : (T.setVm vm₁).pushCell { cls := cX, slots := kX.instanceTypes.map defaultValue, vm := .none } = T1 at X₁ st1
  have hcat : (Value.ref T.heap.size).category = 1 := rfl
  have hcellA : T1.heap[T.heap.size]? = some (freshCell cX kX) := by rw [← hT1]; exact State.heap_pushCell_size _ _
  have d3' : decode c.code (pc + 3) = .ok (.dup, 1) := by rw [hb]; exact d3
  have d4' : decode c.code (pc + 4) = .ok (.ldc_w is, 3) := by rw [hb]; exact d4
  have hstr' : vk_R own is text sa s' := vk_R.warm hW0 hstr
  obtain ⟨U, hsteps, hrun, hend, hW, hsame, ce, hce, hO⟩ := X₁.ctorThrowS hexec htr (own := own) (cls := cls) (names := names) (ic := ic) hown' hcls hnames h (fun x hx => nomatch hx) hfX hkX hcellA (by rw [hhp, hT]; exact Nat.le_refl _) (msg := .ref sa) rfl
    (g := { method := m, pc := pc + 7, locals := ls, stack := .ref sa :: .ref T.heap.size :: .ref T.heap.size :: rest, locked := none }) rfl hsize rfl rfl (rest := rest) rfl
    (by rw [hb]; exact d7) (by rw [hb]; exact d10) hout hRframes (by simp only [List.map_cons, List.sum_cons, hcat]; omega) hlocks
  obtain ⟨f1, f2⟩ := vx_frame hsame
  rw [hhp] at f1 f2
  have hWs : s.WarmedH U.vm := State.WarmedH.trans hW0 hW
  have hcl : s.vm.findClass cls = some ce.cls := by
    have h9 := hO.cls
    rw [hvm] at h9
    exact h9
  have hall : s.sameButNew ({ U with vm := s.vm } : State) locs mc ms := by
    subst hA
    obtain ⟨e1, e2⟩ := hsame
    rw [State.setFrames_setFrames] at e1
    have h2 : (T.setVm s.vm).sameButNew ({ U with vm := s.vm } : State) [] (0 + 1) (0 + 6) := ⟨e1, e2⟩
    have h3 := X.same.trans h2
    rw [List.append_nil] at h3
    exact h3.mono hc hs
  refine ⟨U, ?_, .threw T.heap.size, hrun, hend, Or.inr ⟨T.heap.size, rfl, cls, ce, locs, hx U hWs.alike f1 (fun q hq => f2 q hq (fun z hz => nomatch hz)), hce, hO.vm, hcl, hWs, hall, hf⟩⟩
  refine st1 _ ?_
  show Steps p.tables e below (T1.setTop { method := m, pc := pc + 3, locals := ls, stack := .ref T.heap.size :: rest, locked := none }) _
  jvm_step X₁.here [X₁.here.top, hexec, d3', Value.category]
  exact X₁.ldcStringW hexec (own := own) (text := text) (index := is) (a := sa) hown' hstr'.1 hstr'.2
    (g := { method := m, pc := pc + 4, locals := ls, stack := .ref T.heap.size :: .ref T.heap.size :: rest, locked := none }) rfl d4' _ hsteps
end Ends
section Bodies
variable {l : Launch}
theorem vx_ofW {y : MethodName} {ws ws' : List Cond} {rm : Room} {Pc : Array Value → State → Prop} {Qc : Array Value → State → Outcome → State → Prop} {XC : String → State → State → Prop} {mc ms : Nat} {free : Addr → Prop} {cc : ByteArray} {maxL : Nat} {ret : Option FieldType}
    (hy : plainName y.cls = true) (hw : ws = Cond.code y cc maxL ret :: ws')
    (body : ∀ p e s m args below meth c s₁, BodyLoose p l y (headSpec ws rm) cc maxL ret e s m args below meth c s₁ → c.maxLocals = maxL → (∀ x ∈ c.exceptionTable.toList, False) → Pc args s →
      W p l e (headSpec ws rm).room s m args below meth c s.heap [] 0 0 (vx_MQ below Qc XC args s mc ms free) (entryFrame m args maxL)) : vx_Met l y ws rm Pc Qc XC mc ms free := by
  refine MetFree.of_bodyS (code := cc) (maxLocals := maxL) (ret := ret) hy ?_ ?_
  · intro args s m h hn
    obtain ⟨meth, c, h1, h2, h3, h4, h5, h6, -, -⟩ := Cond.code_spec hn (atoms_spec (ws := ws) h _ (by rw [hw]; exact List.mem_cons_self))
    exact ⟨meth, c, h1, h2, h3, h4, h5, h6⟩
  · intro p e s m args below meth c s₁ B hml hP _
    have hh0 : s₁.heap = s.heap := by rw [B.state]; rfl
    have ht : ∀ x ∈ c.exceptionTable.toList, False := by
      obtain ⟨meth9, c9, h1, h2, -, -, -, -, h7, -⟩ := Cond.code_spec B.named (atoms_spec (ws := ws) B.pre _ (by rw [hw]; exact List.mem_cons_self))
      cases Option.some.inj (h1.symm.trans B.method)
      cases Option.some.inj (h2.symm.trans (Stand.of_body B).code)
      intro x hx
      rw [Array.isEmpty_iff.mp h7] at hx
      cases hx
    obtain ⟨t, a1, o, b1, b2, b3⟩ := body p e s m args below meth c s₁ B hml ht hP s₁ hh0 (Stand.of_body B)
    exact ⟨t, o, a1, b1, b2, b3⟩
/-- the table of a body with handlers -/
theorem vx_table {p : Program} {x y : MethodName} {S : Spec} {cc bytes : ByteArray} {maxL maxL' : Nat} {ret ret' : Option FieldType} {e : Env} {s s₁ : State} {m : MethodId} {args : Array Value} {below : List Frame} {meth : Method} {c : Code} {hh : List (Nat × Nat × Nat × Nat)}
    (B : BodyLoose p l y S cc maxL ret e s m args below meth c s₁) (h : (Cond.codeWith y bytes maxL' ret' hh).before args s = true) : c.exceptionTable.toList = tableOf hh := by
  obtain ⟨m9, meth9, c9, hn9, h1, h2, -, -, h6, -⟩ := Cond.codeWith_spec h
  cases Option.some.inj (hn9.symm.trans B.named)
  cases Option.some.inj (h1.symm.trans B.method)
  cases Option.some.inj (h2.symm.trans (Stand.of_body B).code)
  rw [← h6, table_eq]
end Bodies
end VXA
/-! ===== END ===== -/
/-! ===== BEGIN a static call of a method with an exception table ===== -/
section VXS
variable {p : Program} {l : Launch} {e : Env} {R : Room} {s : State} {m : MethodId} {args : Array Value} {below : List Frame} {meth : Method} {c : Code} {T : State} {H : Heap} {locs : List Loc} {cells slots : Nat}
abbrev vx_CSW (R : Room) (s : State) (args : Array Value) (own : String) (index : Nat) (y : MethodName) (bytes : ByteArray) (maxL : Nat) (ret : Option FieldType) (hh : List (Nat × Nat × Nat × Nat)) (ws : List Cond) (rm : Room) (mc ms n : Nat) : Prop :=
  (rm.cells = mc ∧ rm.slots = ms ∧ rm.frames + 1 ≤ R.frames ∧ 8 + (maxL + 11) + rm.locals ≤ R.locals ∧ (∀ w ∈ ws, ∀ (a' : Array Value) (U : State), s.WarmedH U.vm → w.before a' U = true) ∧ Cond.codeWith y bytes maxL ret hh ∈ ws) ∧
  (Cond.codeWith y bytes maxL ret hh).before args s = true ∧ (Cond.initialized y.cls).before args s = true ∧ (y.cls ≠ "java/lang/invoke/MethodHandle" ∧ y.cls ≠ "java/lang/invoke/VarHandle") ∧
  (∀ sig, parseMethodDescriptor y.desc = some sig → n = sig.parameters.length) ∧ (Cond.methodLink own index y).before args s = true ∧ (Cond.static y).before args s = true
theorem vx_cwSW {own : String} {index maxL mc ms : Nat} {y : MethodName} {bytes : ByteArray} {ret : Option FieldType} {hh : List (Nat × Nat × Nat × Nat)} {Ts ws ws' : List Cond} {rm : Room} (n : Nat) (ht : ∀ w ∈ Ts, w.before args s = true) (hT : GoodIn Ts (va_wsS own index y ws)) (hw : ws = Cond.codeWith y bytes maxL ret hh :: ws') (hrc : rm.cells = mc) (hrs : rm.slots = ms)
    (hd : y.cls ≠ "java/lang/invoke/MethodHandle" ∧ y.cls ≠ "java/lang/invoke/VarHandle" ∧ (parseMethodDescriptor y.desc).map (fun d => d.parameters.length) = some n) (hR : rm.frames + 1 ≤ R.frames ∧ 8 + (maxL + 11) + rm.locals ≤ R.locals) :
    vx_CSW R s args own index y bytes maxL ret hh ws rm mc ms n := by
  have ok : ∀ w ∈ va_wsS own index y ws, w.before args s = true := fun w h => ht w (hT w h).1
  have hG : GoodIn Ts ws := fun w h => hT w (by unfold va_wsS; exact List.mem_append_right _ h)
  have hc : Cond.codeWith y bytes maxL ret hh ∈ ws := by rw [hw]; exact List.mem_cons_self
  refine ⟨⟨hrc, hrs, hR.1, hR.2, pay_in ht hG, hc⟩, ht _ (hG _ hc).1, ok _ (by simp [va_wsS]), ⟨hd.1, hd.2.1⟩, fun sig h => ?_, ok _ (by simp [va_wsS]), ok _ (by simp [va_wsS])⟩
  have h2 := hd.2.2
  rw [h] at h2
  exact (Option.some.inj h2).symm
theorem vx_callSW (X : Stand p l e R s m args below meth c T locs cells slots) (hexec : p.tables.exec = Jvm.exec) {own : String} {index : Nat} {y : MethodName} {bytes : ByteArray} {maxL : Nat} {ret : Option FieldType} {hh : List (Nat × Nat × Nat × Nat)}
    (hown : s.vm.findClass own = some m.cls) (hlink : (Cond.methodLink own index y).before args s = true) (hstat : (Cond.static y).before args s = true) (hinit : (Cond.initialized y.cls).before args s = true)
    (hcode : (Cond.codeWith y bytes maxL ret hh).before args s = true) (hy : y.cls ≠ "java/lang/invoke/MethodHandle" ∧ y.cls ≠ "java/lang/invoke/VarHandle")
    {W9 : Nat} {Pre : Pt → Array Value → Prop} {Post : Pt → Array Value → Option Value → Pt → Prop} (hK : Back l R p e below s args y 3 W9 Pre Post)
    {g : JFrame} (hg : g.method = m) (hsize : g.locals.size = c.maxLocals) {argsL rest : List Value} (hlen : ∀ sig, parseMethodDescriptor y.desc = some sig → argsL.length = sig.parameters.length)
    (hstack : g.stack = argsL.reverse ++ rest) (hW : 2 * g.monitorRoom + (rest.map fun v => v.category).sum ≤ W9) (hdg : decode c.code g.pc = .ok (.invokestatic index, 3))
    (hpre : ∀ vm₁, s.WarmedH vm₁ → Pre ⟨T.setVm vm₁, locs, cells, slots⟩ argsL.toArray) :
    ∃ (v : Option Value) (vm₁ : Vm) (B : Pt), s.WarmedH vm₁ ∧ Stand p l e R s m args below meth c B.U B.locs B.cells B.slots ∧ Post ⟨T.setVm vm₁, locs, cells, slots⟩ argsL.toArray v B ∧
      ∀ target, Steps p.tables e below (B.U.setTop { g with pc := g.pc + 3, stack := v.toList ++ rest }) target → Steps p.tables e below (T.setTop g) target := by
  obtain ⟨mk, methM, cM, hnamed, hmethM, -, -, -, -, -, -, hsigM⟩ := Cond.codeWith_spec hcode
  have hstatic : methM.isStatic = true := Cond.static_spec hnamed hmethM hstat
  obtain ⟨kP, hkP, -⟩ := className_of_methodNamed hnamed
  have hinitP : kP.init = .initialized := Cond.initialized_spec (findClass_of_methodNamed hnamed) hkP hinit
  obtain ⟨vm₁, X₁, hstep₁⟩ := X.invokestatic hexec hown hlink hnamed hmethM hstatic hkP hinitP hy (g := g) hg (argsL := argsL) (rest := rest) (hlen _ hsigM) hstack hdg
  obtain ⟨v, B, X', hpost, hsteps⟩ := hK m meth c ⟨T.setVm vm₁, locs, cells, slots⟩ { g with stack := rest } (.invokestatic index) mk argsL.toArray X₁ hg hsize hdg hW (X₁.named hnamed) (hpre vm₁ X₁.warmed)
  exact ⟨v, vm₁, B, X₁.warmed, X', hpost, fun target h => hstep₁ _ fun acts => by rw [doInvoke_state]; exact hsteps.trans h⟩
theorem vx_runSW {y : MethodName} {bytes cc : ByteArray} {maxL nL mc ms n index : Nat} {ret : Option FieldType} {hh : List (Nat × Nat × Nat × Nat)} {ws : List Cond} {rm : Room} {Pc : Array Value → State → Prop} {Qc : Array Value → State → Outcome → State → Prop} {free : Addr → Prop} {Ts : List Cond} {own : String} {As rest : List Value} {g : JFrame}
    (S : CallFix p m c cc nL s args Ts own) (hM : Met l y ws rm Pc Qc mc ms free) (cw : vx_CSW R s args own index y bytes maxL ret hh ws rm mc ms n) (hp : PreS s H Pc As)
    (hg : g.method = m) (hn : As.length = n) (hsize : g.locals.size = nL) (hstack : g.stack = As.reverse ++ rest) (hW : 2 * g.monitorRoom + (rest.map fun v => v.category).sum ≤ 8) (hdg : decode cc g.pc = .ok (.invokestatic index, 3)) (hf : cells + mc ≤ R.cells ∧ slots + ms ≤ R.slots) :
    va_Run p l e R s m args below meth c H locs cells slots mc ms g rest (Qc As.toArray) (free) := by
  obtain ⟨⟨hrc, hrs, hfr, hlo, hws, hcw⟩, hcode, hini, hy, hlen, hl, hstt⟩ := cw
  have hK : Back l R p e below s args y 3 8 (PreOf R mc ms Pc) (PostOf Qc mc ms free) := va_backW (hh := hh) (bytes := bytes) (maxL := maxL) (ret := ret) hM hp.1 hrc hrs hfr hlo hws hcw (fun a' U hW => word_at hW (Or.inl (by first | rfl | simp [Cond.onTables, Cond.keeps, Cond.steady])) hini)
  obtain ⟨hx, hb, hml, ho, -⟩ := S
  intro T hT X
  obtain ⟨v, vm₁, ⟨U', l2, c2, s2⟩, hW₁, X', ⟨g', mk, t, L, e1, e2, hq, h1, hL, h2, h3⟩, st⟩ := vx_callSW X hx (hh := hh) (bytes := bytes) (maxL := maxL) (ret := ret) ho hl hstt hini hcode hy hK hg (hsize.trans hml.symm) (argsL := As) (rest := rest) (fun sig h => hn.trans (hlen sig h)) hstack hW (by rw [hb]; exact hdg)
    (fun vm₁ hW₁ => ⟨hf.1, hf.2, hp.2 (T.setVm vm₁) hT hW₁⟩)
  dsimp only [Pt.U, Pt.locs, Pt.cells, Pt.slots] at X' e1 e2 h1 h2 h3 st
  subst h1; subst h2; subst h3
  exact ⟨v, (T.setVm vm₁).calling g' mk As.toArray, t, U', L, hT, X', hL, e1, e2, hq, st⟩
/-- not caught here, past rows that name other classes: it goes on to the caller -/
theorem vx_outP {p : Program} {l : Launch} {e : Env} {R : Room} {s : State} {m : MethodId} {args : Array Value} {below : List Frame} {meth : Method} {c : Code} {H : Heap} {locs : List Loc} {cells slots : Nat} {free : Addr → Prop} {ls : Array Slot} {rest : List Value} {Qc : Array Value → State → Outcome → State → Prop} {XC : String → State → State → Prop}
    {pc : Nat} {own E : String} {ce : Cell} {q : Addr} {mc ms : Nat} (hown : s.vm.findClass own = some m.cls) (hlocks : meth.locks = false)
    (hpass : ∀ z ∈ c.exceptionTable.toList, covers z pc = false ∨ (z.catchType ≠ 0 ∧ ∃ nm : String, (Cond.classLink own z.catchType nm).before args s = true ∧ va_Nc E nm s)) (hcell : H[q]? = some ce) (hv : ce.vm = .none) (hcl : s.vm.findClass E = some ce.cls)
    (hx : ∀ t : State, t.heap = H → s.vm.Alike t.vm → XC E s t) (hf : ∀ z ∈ locs, free z.base) (hc : cells ≤ mc) (hs : slots ≤ ms) :
    vx_W p l e R s m args below meth c H locs cells slots (vx_MQ below Qc XC args s mc ms free) (F0 m pc ls rest) q := by
  intro T hT X
  have hpl : e.platform.magicAccessors = ({} : Platform).magicAccessors := by rw [X.admits.platform]
  obtain ⟨vm', hW', X', st⟩ := X.outThrough hlocks q (g := F0 m pc ls rest) rfl rfl rfl (cell := ce) (by rw [hT]; exact hcell) (by rw [hv]; rfl)
    (by obtain ⟨k9, h9, -⟩ := Vm.findClass_spec hcl; exact ⟨k9, h9⟩) (fun z hz => by
      rcases hpass z hz with h | ⟨hz0, nm, hl1, hn1⟩
      · exact Or.inl h
      · obtain ⟨c6, hc6, hcl6⟩ := Cond.classLink_spec hown hl1 e.platform hpl
        obtain ⟨a8, b8, h1, h2, h3⟩ := hn1
        cases Option.some.inj (h1.symm.trans hcl)
        cases Option.some.inj (h2.symm.trans hc6)
        exact Or.inr ⟨hz0, _, hcl6, h3⟩)
  obtain ⟨g₀, hfr⟩ := X'.frames_eq
  have hcell9 : ((T.setVm vm').setFrames (.throwing q :: below)).heap[q]? = some ce := by
    show T.heap[q]? = some ce
    rw [hT]; exact hcell
  have hend : Ended ((T.setVm vm').setFrames (.throwing q :: below)) below (.threw q) := State.frames_setFrames _ (State.cur_lt_of_frames hfr)
  refine ⟨(T.setVm vm').setFrames (.throwing q :: below), ?_, .threw q, X'.here.running, hend, Or.inr ⟨q, rfl, E, ce, locs, hx _ hT (X'.ends _).1.alike, hcell9, hv, hcl, (X'.ends _).1, (X'.ends _).2.mono hc hs, hf⟩⟩
  rw [X.pushThrowing_eq]
  exact st
/-- a thing of a world lies in the heap -/
theorem vx_lt {D : va_G} {cl : List vw_C} {ws : va_W} {H1 : Heap} (h : va_P D cl ws H1) {k : Nat} {q : Nat × va_E} (hk : ws[k]? = some q) : q.1 < H1.size := (h k q hk).lt
end VXS
/-! ===== END ===== -/
/-! ===== BEGIN methods with a table of their own: called by a name, returning or throwing ===== -/
section VXH
/-! vx_backW, vx_callVX, vx_callSX, vx_callVW, vx_runVW, vx_runVX, vx_runSX, vx_ofWH follow the same proofs as their sisters above (Free/Laws.lean, Shelf42/LK1.lean); vx_outP calls Shelf42/NT130.lean (outThrough). -/
section
variable {l : Launch} {R : Room} {p : Program} {e : Env} {below : List Frame} {s : State} {sargs : Array Value} {y : MethodName} {len W9 : Nat}
theorem vx_backW {ws : List Cond} {rm : Room} {Pc : Array Value → State → Prop} {Qc : Array Value → State → Outcome → State → Prop} {XC : String → State → State → Prop} {mc ms : Nat} {free : Addr → Prop} {bytes : ByteArray} {maxL : Nat} {ret : Option FieldType} {hh : List (Nat × Nat × Nat × Nat)}
    (hM : vx_Met l y ws rm Pc Qc XC mc ms free) (hblind : FrameBlind Pc) (hrc : rm.cells = mc) (hrs : rm.slots = ms)
    (hframes : rm.frames + 1 ≤ R.frames) (hlocals : W9 + (maxL + 11) + rm.locals ≤ R.locals)
    (hws : ∀ w ∈ ws, ∀ a' U, s.WarmedH U.vm → w.before a' U = true) (hcode : Cond.codeWith y bytes maxL ret hh ∈ ws) (hinit : ∀ a' U, s.WarmedH U.vm → (Cond.initialized y.cls).before a' U = true) :
    vx_Back l R p e below s sargs y len W9 (PreOf R mc ms Pc) (PostOf Qc mc ms free) (vx_Post XC mc ms free) := by
  intro m meth c A g ig mk a X hg hsize hdg hW hn hp
  have h1 : (headSpec ws rm).pre.before a A.U = true := atoms_intro fun w hw => hws w hw _ _ X.warmed
  have h2 : (Cond.codeWith y bytes maxL ret hh).before a A.U = true := hws _ hcode _ _ X.warmed
  have h3 : (Cond.initialized y.cls).before a A.U = true := hinit _ _ X.warmed
  have h4 : A.cells + (headSpec ws rm).room.cells ≤ R.cells := by rw [show (headSpec ws rm).room.cells = mc from hrc]; exact hp.1
  have h5 : A.slots + (headSpec ws rm).room.slots ≤ R.slots := by rw [show (headSpec ws rm).room.slots = ms from hrs]; exact hp.2.1
  have hPc : Pc a (A.U.calling g mk a) := hblind _ _ _ _ hp.2.2
  obtain ⟨U, Ls, c0, s0⟩ := A
  dsimp only [Pt.U, Pt.locs, Pt.cells, Pt.slots] at h1 h2 h3 h4 h5 X hn hPc ⊢
  obtain ⟨m9, methY, cY, hn9, hmY, hcY, -, hlY, -⟩ := Cond.codeWith_spec h2
  cases Option.some.inj (hn9.symm.trans hn)
  obtain ⟨kY, hkY, -⟩ := className_of_methodNamed hn
  have hinitY : kY.init = .initialized := Cond.initialized_spec (findClass_of_methodNamed hn) hkY h3
  have h : At U g.method c below := by rw [hg]; exact X.here
  have hlocals9 : W9 + (maxL + 11) + (headSpec ws rm).room.locals ≤ R.locals := hlocals
  have happ : (headSpec ws rm).appliesLoose y e.platform (U.calling g mk a) = true :=
    Spec.appliesLoose_calling (g := g) h hdg hn hkY hinitY
      (X.room_calling (g := g) (R' := (headSpec ws rm).room) hsize hmY hcY hframes (by rw [hlY]; omega) h4 h5) h1
  obtain ⟨mid, hmid⟩ := h.above
  have hfr : (U.setTop g).frames = (.java g :: mid) ++ below := by rw [State.frames_setTop' g h.top, hmid]; rfl
  obtain ⟨o, s₂, hsteps, -, hend, hq⟩ := Steps.callFree hM p X.admits X.cas X.clock (acts := []) hfr happ hPc trivial
  have hq' : vx_Q Qc XC mc ms free a (U.calling g mk a) o s₂ := hq
  rw [State.frames_setTop' g h.top] at hend
  obtain ⟨g₀, hg0⟩ := Option.isSome_iff_exists.mp h.top
  obtain ⟨r, hr⟩ := State.topJava?_eq_some.mp hg0
  have hr' : (({ U with heap := s₂.heap, slotsUsed := s₂.slotsUsed } : State).setVm s₂.vm).frames = .java g₀ :: r := hr
  rcases hq' with ⟨hqc, L, hfe, hL⟩ | ⟨q, rfl, E, ce, L, hx, hce, hcv, hcl, hW₂, hsm, hL⟩
  · obtain ⟨⟨v, rfl⟩, hW₂, e2, q2, q3, q4, q5, q6⟩ := id hfe
    have e3 : s₂ = ({ (U.calling g mk a).setFrames s₂.frames with heap := s₂.heap, slotsUsed := s₂.slotsUsed } : State).setVm s₂.vm := by
      have : s₂ = ({ s₂ with vm := (U.calling g mk a).vm } : State).setVm s₂.vm := rfl
      rw [e2] at this
      exact this
    obtain ⟨c₂, i₂, len₂, hc₂, hd₂, hf₂⟩ := hend
    have hW' : U.WarmedH s₂.vm := hW₂
    have hcc : c₂ = c := by
      have h1 : s₂.code? g.method = U.code? g.method := by
        rw [State.code?_eq, State.code?_eq, hW'.alike.method?]
      exact Option.some.inj (hc₂.symm.trans (h1.trans h.code))
    subst hcc
    have hlen : len₂ = len := by rw [hdg] at hd₂; cases hd₂; rfl
    subst hlen
    have hs₂ : s₂ = (({ U with heap := s₂.heap, slotsUsed := s₂.slotsUsed } : State).setVm s₂.vm).setTop { g with pc := g.pc + len₂, stack := v.toList ++ g.stack } := by
      refine e3.trans ?_
      rw [hf₂, State.calling_eq h.top, State.setFrames_setFrames, State.setTop_of_frames _ hr', hr]
      rfl
    have hsame : U.sameButNew ({ U with heap := s₂.heap, slotsUsed := s₂.slotsUsed } : State) L mc ms := by
      refine ⟨?_, q2, q3, q4, q5, q6⟩
      obtain ⟨t, ht, -⟩ := State.frames_cons hr
      show ({ U with heap := s₂.heap, slotsUsed := s₂.slotsUsed } : State) = { U.setFrames U.frames with heap := s₂.heap, slotsUsed := s₂.slotsUsed }
      rw [State.setFrames_self ht]
    subst hg
    refine Or.inl ⟨v, ⟨(({ U with heap := s₂.heap, slotsUsed := s₂.slotsUsed } : State).setVm s₂.vm), Ls ++ L, c0 + mc, s0 + ms⟩,
      ⟨X.admits, X.cas, X.clock, X.frames, X.room, X.hears, X.method, X.code, (X.here.setHeapUsed s₂.heap s₂.slotsUsed).setVm hW'.alike, X.tail, State.WarmedH.trans X.warmed hW', X.limits, X.bytes, X.same.trans (hsame.setVm s.vm)⟩,
      ⟨g, mk, s₂, L, rfl, rfl, hqc, rfl, hL, rfl, rfl⟩, ?_⟩
    show Steps p.tables e below _ ((({ U with heap := s₂.heap, slotsUsed := s₂.slotsUsed } : State).setVm s₂.vm).setTop { g with pc := g.pc + len₂, stack := v.toList ++ g.stack })
    rw [← hs₂]
    exact hsteps
  · obtain ⟨e2, q2, q3, q4, q5, q6⟩ := id hsm
    have e3 : s₂ = ({ (U.calling g mk a).setFrames s₂.frames with heap := s₂.heap, slotsUsed := s₂.slotsUsed } : State).setVm s₂.vm := by
      have : s₂ = ({ s₂ with vm := (U.calling g mk a).vm } : State).setVm s₂.vm := rfl
      rw [e2] at this
      exact this
    have hf₂ : s₂.frames = .throwing q :: .java g :: U.frames.tail := hend
    have hW' : U.WarmedH s₂.vm := hW₂
    have hs₂ : s₂ = ((({ U with heap := s₂.heap, slotsUsed := s₂.slotsUsed } : State).setVm s₂.vm).setTop g).pushFrame (.throwing q) := by
      refine e3.trans ?_
      rw [hf₂, State.calling_eq h.top, State.setFrames_setFrames, State.pushFrame, State.frames_setTop _ hr', State.setTop_of_frames _ hr', State.setFrames_setFrames, hr]
      rfl
    have hsame : U.sameButNew ({ U with heap := s₂.heap, slotsUsed := s₂.slotsUsed } : State) L mc ms := by
      refine ⟨?_, q2, q3, q4, q5, q6⟩
      obtain ⟨t, ht, -⟩ := State.frames_cons hr
      show ({ U with heap := s₂.heap, slotsUsed := s₂.slotsUsed } : State) = { U.setFrames U.frames with heap := s₂.heap, slotsUsed := s₂.slotsUsed }
      rw [State.setFrames_self ht]
    subst hg
    refine Or.inr ⟨q, ⟨(({ U with heap := s₂.heap, slotsUsed := s₂.slotsUsed } : State).setVm s₂.vm), Ls ++ L, c0 + mc, s0 + ms⟩,
      ⟨X.admits, X.cas, X.clock, X.frames, X.room, X.hears, X.method, X.code, (X.here.setHeapUsed s₂.heap s₂.slotsUsed).setVm hW'.alike, X.tail, State.WarmedH.trans X.warmed hW', X.limits, X.bytes, X.same.trans (hsame.setVm s.vm)⟩,
      ⟨g, mk, s₂, L, E, ce, rfl, rfl, hx, hce, hcv, hcl, rfl, hL, rfl, rfl⟩, ?_⟩
    show Steps p.tables e below _ (((({ U with heap := s₂.heap, slotsUsed := s₂.slotsUsed } : State).setVm s₂.vm).setTop g).pushFrame (.throwing q))
    rw [← hs₂]
    exact hsteps
end
variable {p : Program} {l : Launch} {e : Env} {R : Room} {s : State} {m : MethodId} {args : Array Value} {below : List Frame} {meth : Method} {c : Code} {T : State} {H : Heap} {locs : List Loc} {cells slots : Nat}
theorem vx_callVX (X : Stand p l e R s m args below meth c T locs cells slots) (hexec : p.tables.exec = Jvm.exec) {own C : String} {index : Nat} {y : MethodName} {bytes : ByteArray} {maxL : Nat} {ret : Option FieldType} {hh : List (Nat × Nat × Nat × Nat)}
    (hown : s.vm.findClass own = some m.cls) (hlink : (Cond.methodLink own index y).before args s = true) (hinst : (Cond.instanceMethod y).before args s = true) (hsel : (Cond.selects C y y).before args s = true)
    (hcode : (Cond.codeWith y bytes maxL ret hh).before args s = true) (hy : y.cls ≠ "java/lang/invoke/MethodHandle" ∧ y.cls ≠ "java/lang/invoke/VarHandle")
    {W9 : Nat} {Pre : Pt → Array Value → Prop} {Post : Pt → Array Value → Option Value → Pt → Prop} {PostX : Pt → Array Value → Addr → Pt → Prop} (hK : vx_Back l R p e below s args y 3 W9 Pre Post PostX)
    {b : Addr} {cellB : Cell} (hcell : T.heap[b]? = some cellB) (hobj : cellB.vm.isStatics = false) (hcls : s.vm.findClass C = some cellB.cls)
    {g : JFrame} (hg : g.method = m) (hsize : g.locals.size = c.maxLocals) {argsL rest : List Value} (hlen : ∀ sig, parseMethodDescriptor y.desc = some sig → argsL.length = sig.parameters.length)
    (hstack : g.stack = argsL.reverse ++ .ref b :: rest) (hW : 2 * g.monitorRoom + (rest.map fun v => v.category).sum ≤ W9) (hdg : decode c.code g.pc = .ok (.invokevirtual index, 3))
    (hpre : ∀ vm₁, s.WarmedH vm₁ → Pre ⟨T.setVm vm₁, locs, cells, slots⟩ (Value.ref b :: argsL).toArray) :
    (∃ (v : Option Value) (vm₁ : Vm) (B : Pt), s.WarmedH vm₁ ∧ Stand p l e R s m args below meth c B.U B.locs B.cells B.slots ∧ Post ⟨T.setVm vm₁, locs, cells, slots⟩ (Value.ref b :: argsL).toArray v B ∧
      ∀ target, Steps p.tables e below (B.U.setTop { g with pc := g.pc + 3, stack := v.toList ++ rest }) target → Steps p.tables e below (T.setTop g) target) ∨
    (∃ (q : Addr) (vm₁ : Vm) (B : Pt), s.WarmedH vm₁ ∧ Stand p l e R s m args below meth c B.U B.locs B.cells B.slots ∧ PostX ⟨T.setVm vm₁, locs, cells, slots⟩ (Value.ref b :: argsL).toArray q B ∧
      Steps p.tables e below (T.setTop g) ((B.U.setTop { g with stack := rest }).pushFrame (.throwing q))) := by
  obtain ⟨mk, methM, hnamed, hmethM, hstM, habM⟩ := Cond.instanceMethod_spec hinst
  obtain ⟨m8, methM', cM, hn8, hmethM', -, -, -, -, -, -, hsigM⟩ := Cond.codeWith_spec hcode
  cases Option.some.inj (hn8.symm.trans hnamed)
  cases hmethM.symm.trans hmethM'
  obtain ⟨c2, r2, m2, q1, q2, q3, q4, kP, hkP, hkPi⟩ := Cond.selects_spec hsel
  cases hcls.symm.trans q1
  cases (State.methodFound?_of_named hnamed hy).symm.trans q2
  cases hnamed.symm.trans q3
  have hselP : selectMethod e.platform s.vm cellB.cls mk = .method mk := by rw [Launch.admits_selectMethod X.admits]; exact q4
  obtain ⟨vm₁, X₁, hstep₁⟩ := X.invokevirtual hexec hown hlink hnamed hmethM hstM hkP hkPi hy (a := b) (cell := cellB) hcell
    (fun z h => by rw [h] at hobj; cases hobj) hselP hmethM habM hkP hkPi (g := g) hg (argsL := argsL) (rest := rest) (hlen _ hsigM) hstack hdg
  rcases hK m meth c ⟨T.setVm vm₁, locs, cells, slots⟩ { g with stack := rest } (.invokevirtual index) mk (Value.ref b :: argsL).toArray X₁ hg hsize hdg hW (X₁.named hnamed) (hpre vm₁ X₁.warmed) with ⟨v, B, X', hpost, hsteps⟩ | ⟨q, B, X', hpost, hsteps⟩
  · exact Or.inl ⟨v, vm₁, B, X₁.warmed, X', hpost, fun target h => hstep₁ _ fun acts => by rw [doInvoke_state]; exact hsteps.trans h⟩
  · exact Or.inr ⟨q, vm₁, B, X₁.warmed, X', hpost, hstep₁ _ fun acts => by rw [doInvoke_state]; exact hsteps⟩
theorem vx_callSX (X : Stand p l e R s m args below meth c T locs cells slots) (hexec : p.tables.exec = Jvm.exec) {own : String} {index : Nat} {y : MethodName} {bytes : ByteArray} {maxL : Nat} {ret : Option FieldType} {hh : List (Nat × Nat × Nat × Nat)}
    (hown : s.vm.findClass own = some m.cls) (hlink : (Cond.methodLink own index y).before args s = true) (hstat : (Cond.static y).before args s = true) (hinit : (Cond.initialized y.cls).before args s = true)
    (hcode : (Cond.codeWith y bytes maxL ret hh).before args s = true) (hy : y.cls ≠ "java/lang/invoke/MethodHandle" ∧ y.cls ≠ "java/lang/invoke/VarHandle")
    {W9 : Nat} {Pre : Pt → Array Value → Prop} {Post : Pt → Array Value → Option Value → Pt → Prop} {PostX : Pt → Array Value → Addr → Pt → Prop} (hK : vx_Back l R p e below s args y 3 W9 Pre Post PostX)
    {g : JFrame} (hg : g.method = m) (hsize : g.locals.size = c.maxLocals) {argsL rest : List Value} (hlen : ∀ sig, parseMethodDescriptor y.desc = some sig → argsL.length = sig.parameters.length)
    (hstack : g.stack = argsL.reverse ++ rest) (hW : 2 * g.monitorRoom + (rest.map fun v => v.category).sum ≤ W9) (hdg : decode c.code g.pc = .ok (.invokestatic index, 3))
    (hpre : ∀ vm₁, s.WarmedH vm₁ → Pre ⟨T.setVm vm₁, locs, cells, slots⟩ argsL.toArray) :
    (∃ (v : Option Value) (vm₁ : Vm) (B : Pt), s.WarmedH vm₁ ∧ Stand p l e R s m args below meth c B.U B.locs B.cells B.slots ∧ Post ⟨T.setVm vm₁, locs, cells, slots⟩ argsL.toArray v B ∧
      ∀ target, Steps p.tables e below (B.U.setTop { g with pc := g.pc + 3, stack := v.toList ++ rest }) target → Steps p.tables e below (T.setTop g) target) ∨
    (∃ (q : Addr) (vm₁ : Vm) (B : Pt), s.WarmedH vm₁ ∧ Stand p l e R s m args below meth c B.U B.locs B.cells B.slots ∧ PostX ⟨T.setVm vm₁, locs, cells, slots⟩ argsL.toArray q B ∧
      Steps p.tables e below (T.setTop g) ((B.U.setTop { g with stack := rest }).pushFrame (.throwing q))) := by
  obtain ⟨mk, methM, cM, hnamed, hmethM, -, -, -, -, -, -, hsigM⟩ := Cond.codeWith_spec hcode
  have hstatic : methM.isStatic = true := Cond.static_spec hnamed hmethM hstat
  obtain ⟨kP, hkP, -⟩ := className_of_methodNamed hnamed
  have hinitP : kP.init = .initialized := Cond.initialized_spec (findClass_of_methodNamed hnamed) hkP hinit
  obtain ⟨vm₁, X₁, hstep₁⟩ := X.invokestatic hexec hown hlink hnamed hmethM hstatic hkP hinitP hy (g := g) hg (argsL := argsL) (rest := rest) (hlen _ hsigM) hstack hdg
  rcases hK m meth c ⟨T.setVm vm₁, locs, cells, slots⟩ { g with stack := rest } (.invokestatic index) mk argsL.toArray X₁ hg hsize hdg hW (X₁.named hnamed) (hpre vm₁ X₁.warmed) with ⟨v, B, X', hpost, hsteps⟩ | ⟨q, B, X', hpost, hsteps⟩
  · exact Or.inl ⟨v, vm₁, B, X₁.warmed, X', hpost, fun target h => hstep₁ _ fun acts => by rw [doInvoke_state]; exact hsteps.trans h⟩
  · exact Or.inr ⟨q, vm₁, B, X₁.warmed, X', hpost, hstep₁ _ fun acts => by rw [doInvoke_state]; exact hsteps⟩
theorem vx_callVW (X : Stand p l e R s m args below meth c T locs cells slots) (hexec : p.tables.exec = Jvm.exec) {own C : String} {index : Nat} {y : MethodName} {bytes : ByteArray} {maxL : Nat} {ret : Option FieldType} {hh : List (Nat × Nat × Nat × Nat)}
    (hown : s.vm.findClass own = some m.cls) (hlink : (Cond.methodLink own index y).before args s = true) (hinst : (Cond.instanceMethod y).before args s = true) (hsel : (Cond.selects C y y).before args s = true)
    (hcode : (Cond.codeWith y bytes maxL ret hh).before args s = true) (hy : y.cls ≠ "java/lang/invoke/MethodHandle" ∧ y.cls ≠ "java/lang/invoke/VarHandle")
    {W9 : Nat} {Pre : Pt → Array Value → Prop} {Post : Pt → Array Value → Option Value → Pt → Prop} (hK : Back l R p e below s args y 3 W9 Pre Post)
    {b : Addr} {cellB : Cell} (hcell : T.heap[b]? = some cellB) (hobj : cellB.vm.isStatics = false) (hcls : s.vm.findClass C = some cellB.cls)
    {g : JFrame} (hg : g.method = m) (hsize : g.locals.size = c.maxLocals) {argsL rest : List Value} (hlen : ∀ sig, parseMethodDescriptor y.desc = some sig → argsL.length = sig.parameters.length)
    (hstack : g.stack = argsL.reverse ++ .ref b :: rest) (hW : 2 * g.monitorRoom + (rest.map fun v => v.category).sum ≤ W9) (hdg : decode c.code g.pc = .ok (.invokevirtual index, 3))
    (hpre : ∀ vm₁, s.WarmedH vm₁ → Pre ⟨T.setVm vm₁, locs, cells, slots⟩ (Value.ref b :: argsL).toArray) :
    ∃ (v : Option Value) (vm₁ : Vm) (B : Pt), s.WarmedH vm₁ ∧ Stand p l e R s m args below meth c B.U B.locs B.cells B.slots ∧ Post ⟨T.setVm vm₁, locs, cells, slots⟩ (Value.ref b :: argsL).toArray v B ∧
      ∀ target, Steps p.tables e below (B.U.setTop { g with pc := g.pc + 3, stack := v.toList ++ rest }) target → Steps p.tables e below (T.setTop g) target := by
  obtain ⟨mk, methM, hnamed, hmethM, hstM, habM⟩ := Cond.instanceMethod_spec hinst
  obtain ⟨m8, methM', cM, hn8, hmethM', -, -, -, -, -, -, hsigM⟩ := Cond.codeWith_spec hcode
  cases Option.some.inj (hn8.symm.trans hnamed)
  cases hmethM.symm.trans hmethM'
  obtain ⟨c2, r2, m2, q1, q2, q3, q4, kP, hkP, hkPi⟩ := Cond.selects_spec hsel
  cases hcls.symm.trans q1
  cases (State.methodFound?_of_named hnamed hy).symm.trans q2
  cases hnamed.symm.trans q3
  have hselP : selectMethod e.platform s.vm cellB.cls mk = .method mk := by rw [Launch.admits_selectMethod X.admits]; exact q4
  obtain ⟨vm₁, X₁, hstep₁⟩ := X.invokevirtual hexec hown hlink hnamed hmethM hstM hkP hkPi hy (a := b) (cell := cellB) hcell
    (fun z h => by rw [h] at hobj; cases hobj) hselP hmethM habM hkP hkPi (g := g) hg (argsL := argsL) (rest := rest) (hlen _ hsigM) hstack hdg
  obtain ⟨v, B, X', hpost, hsteps⟩ := hK m meth c ⟨T.setVm vm₁, locs, cells, slots⟩ { g with stack := rest } (.invokevirtual index) mk (Value.ref b :: argsL).toArray X₁ hg hsize hdg hW (X₁.named hnamed) (hpre vm₁ X₁.warmed)
  exact ⟨v, vm₁, B, X₁.warmed, X', hpost, fun target h => hstep₁ _ fun acts => by rw [doInvoke_state]; exact hsteps.trans h⟩
abbrev vx_CVW (R : Room) (s : State) (args : Array Value) (own C : String) (index : Nat) (y : MethodName) (bytes : ByteArray) (maxL : Nat) (ret : Option FieldType) (hh : List (Nat × Nat × Nat × Nat)) (ws : List Cond) (rm : Room) (mc ms n : Nat) : Prop :=
  (rm.cells = mc ∧ rm.slots = ms ∧ rm.frames + 1 ≤ R.frames ∧ 8 + (maxL + 11) + rm.locals ≤ R.locals ∧ (∀ w ∈ ws, ∀ (a' : Array Value) (U : State), s.WarmedH U.vm → w.before a' U = true) ∧ Cond.codeWith y bytes maxL ret hh ∈ ws) ∧
  (Cond.codeWith y bytes maxL ret hh).before args s = true ∧ (Cond.initialized y.cls).before args s = true ∧ (y.cls ≠ "java/lang/invoke/MethodHandle" ∧ y.cls ≠ "java/lang/invoke/VarHandle") ∧
  (∀ sig, parseMethodDescriptor y.desc = some sig → n = sig.parameters.length) ∧ (Cond.methodLink own index y).before args s = true ∧ (Cond.instanceMethod y).before args s = true ∧ (Cond.selects C y y).before args s = true
theorem vx_cwVW {own C : String} {index maxL mc ms : Nat} {y : MethodName} {bytes : ByteArray} {ret : Option FieldType} {hh : List (Nat × Nat × Nat × Nat)} {Ts ws ws' : List Cond} {rm : Room} (n : Nat) (ht : ∀ w ∈ Ts, w.before args s = true) (hT : GoodIn Ts (wsV own index C y ws)) (hw : ws = Cond.codeWith y bytes maxL ret hh :: ws') (hrc : rm.cells = mc) (hrs : rm.slots = ms)
    (hd : y.cls = C ∧ y.cls ≠ "java/lang/invoke/MethodHandle" ∧ y.cls ≠ "java/lang/invoke/VarHandle" ∧ (parseMethodDescriptor y.desc).map (fun d => d.parameters.length) = some n) (hR : rm.frames + 1 ≤ R.frames ∧ 8 + (maxL + 11) + rm.locals ≤ R.locals) :
    vx_CVW R s args own C index y bytes maxL ret hh ws rm mc ms n := by
  obtain ⟨hC, hd⟩ := hd
  subst hC
  have ok : ∀ w ∈ wsV own index y.cls y ws, w.before args s = true := fun w h => ht w (hT w h).1
  have hG : GoodIn Ts ws := fun w h => hT w (by unfold wsV; exact List.mem_append_right _ h)
  have hc : Cond.codeWith y bytes maxL ret hh ∈ ws := by rw [hw]; exact List.mem_cons_self
  refine ⟨⟨hrc, hrs, hR.1, hR.2, pay_in ht hG, hc⟩, ht _ (hG _ hc).1, ok _ (by simp [wsV]), ⟨hd.1, hd.2.1⟩, fun sig h => ?_, ok _ (by simp [wsV]), ok _ (by simp [wsV]), ok _ (by simp [wsV])⟩
  have h2 := hd.2.2
  rw [h] at h2
  exact (Option.some.inj h2).symm
theorem vx_runVW {y : MethodName} {bytes cc : ByteArray} {maxL nL mc ms n index : Nat} {ret : Option FieldType} {hh : List (Nat × Nat × Nat × Nat)} {ws : List Cond} {rm : Room} {Pc : Array Value → State → Prop} {Qc : Array Value → State → Outcome → State → Prop} {free : Addr → Prop} {Ts : List Cond} {own C : String} {b : Addr} {As rest : List Value} {g : JFrame}
    (S : CallFix p m c cc nL s args Ts own) (hM : Met l y ws rm Pc Qc mc ms free) (cw : vx_CVW R s args own C index y bytes maxL ret hh ws rm mc ms n) (hp : PreV s H C b Pc As)
    (hg : g.method = m) (hn : As.length = n) (hsize : g.locals.size = nL) (hstack : g.stack = As.reverse ++ .ref b :: rest) (hW : 2 * g.monitorRoom + (rest.map fun v => v.category).sum ≤ 8) (hdg : decode cc g.pc = .ok (.invokevirtual index, 3)) (hf : cells + mc ≤ R.cells ∧ slots + ms ≤ R.slots) :
    va_Run p l e R s m args below meth c H locs cells slots mc ms g rest (Qc (Value.ref b :: As).toArray) free := by
  obtain ⟨⟨hrc, hrs, hfr, hlo, hws, hcw⟩, hcode, hini, hy, hlen, hl, hin, hse⟩ := cw
  have hK : Back l R p e below s args y 3 8 (PreOf R mc ms Pc) (PostOf Qc mc ms free) := va_backW (hh := hh) (bytes := bytes) (maxL := maxL) (ret := ret) hM hp.1 hrc hrs hfr hlo hws hcw (fun a' U hW => word_at hW (Or.inl (by first | rfl | simp [Cond.onTables, Cond.keeps, Cond.steady])) hini)
  obtain ⟨hx, hb, hml, ho, -⟩ := S
  obtain ⟨-, ⟨cellB, hcB, hoB, hclB⟩, hPc⟩ := hp
  intro T hT X
  obtain ⟨v, vm₁, ⟨U', l2, c2, s2⟩, hW₁, X', ⟨g', mk, t, L, e1, e2, hq, h1, hL, h2, h3⟩, st⟩ := vx_callVW X hx (C := C) (hh := hh) (bytes := bytes) (maxL := maxL) (ret := ret) ho hl hin hse hcode hy hK (by rw [hT]; exact hcB) hoB hclB hg (hsize.trans hml.symm) (argsL := As) (rest := rest) (fun sig h => hn.trans (hlen sig h)) hstack hW (by rw [hb]; exact hdg)
    (fun vm₁ hW₁ => ⟨hf.1, hf.2, hPc (T.setVm vm₁) hT hW₁⟩)
  dsimp only [Pt.U, Pt.locs, Pt.cells, Pt.slots] at X' e1 e2 h1 h2 h3 st
  subst h1; subst h2; subst h3
  exact ⟨v, (T.setVm vm₁).calling g' mk (Value.ref b :: As).toArray, t, U', L, hT, X', hL, e1, e2, hq, st⟩
section
variable {y : MethodName} {bytes cc : ByteArray} {maxL nL mc ms n index : Nat} {ret : Option FieldType} {ws : List Cond} {rm : Room} {Pc : Array Value → State → Prop} {Qc : Array Value → State → Outcome → State → Prop} {XC : String → State → State → Prop} {free : Addr → Prop} {Ts : List Cond} {own C : String} {b : Addr} {As rest : List Value} {g : JFrame}
theorem vx_runVX {hh : List (Nat × Nat × Nat × Nat)} (S : CallFix p m c cc nL s args Ts own) (hM : vx_Met l y ws rm Pc Qc XC mc ms free) (cw : vx_CVW R s args own C index y bytes maxL ret hh ws rm mc ms n) (hp : PreV s H C b Pc As)
    (hg : g.method = m) (hn : As.length = n) (hsize : g.locals.size = nL) (hstack : g.stack = As.reverse ++ .ref b :: rest) (hW : 2 * g.monitorRoom + (rest.map fun v => v.category).sum ≤ 8) (hdg : decode cc g.pc = .ok (.invokevirtual index, 3)) (hf : cells + mc ≤ R.cells ∧ slots + ms ≤ R.slots) :
    vx_Run p l e R s m args below meth c H locs cells slots mc ms g rest (Qc (Value.ref b :: As).toArray) XC free := by
  obtain ⟨⟨hrc, hrs, hfr, hlo, hws, hcw⟩, hcode, hini, hy, hlen, hl, hin, hse⟩ := cw
  have hK : vx_Back l R p e below s args y 3 8 (PreOf R mc ms Pc) (PostOf Qc mc ms free) (vx_Post XC mc ms free) := vx_backW (hh := hh) (bytes := bytes) (maxL := maxL) (ret := ret) hM hp.1 hrc hrs hfr hlo hws hcw (fun a' U hW => word_at hW (Or.inl (by first | rfl | simp [Cond.onTables, Cond.keeps, Cond.steady])) hini)
  obtain ⟨hx, hb, hml, ho, -⟩ := S
  obtain ⟨-, ⟨cellB, hcB, hoB, hclB⟩, hPc⟩ := hp
  intro T hT X
  rcases vx_callVX X hx (C := C) (hh := hh) (bytes := bytes) (maxL := maxL) (ret := ret) ho hl hin hse hcode hy hK (by rw [hT]; exact hcB) hoB hclB hg (hsize.trans hml.symm) (argsL := As) (rest := rest) (fun sig h => hn.trans (hlen sig h)) hstack hW (by rw [hb]; exact hdg)
    (fun vm₁ hW₁ => ⟨hf.1, hf.2, hPc (T.setVm vm₁) hT hW₁⟩) with ⟨v, vm₁, ⟨U', l2, c2, s2⟩, hW₁, X', ⟨g', mk, t, L, e1, e2, hq, h1, hL, h2, h3⟩, st⟩ | ⟨q, vm₁, ⟨U', l2, c2, s2⟩, hW₁, X', ⟨g', mk, t, L, E, ce, e1, e2, hq, hce, hcv, hcl, h1, hL, h2, h3⟩, st⟩
  · dsimp only [Pt.U, Pt.locs, Pt.cells, Pt.slots] at X' e1 e2 h1 h2 h3 st
    subst h1; subst h2; subst h3
    exact Or.inl ⟨v, (T.setVm vm₁).calling g' mk (Value.ref b :: As).toArray, t, U', L, hT, X', hL, e1, e2, hq, st⟩
  · dsimp only [Pt.U, Pt.locs, Pt.cells, Pt.slots] at X' e1 e2 h1 h2 h3 st hcl
    subst h1; subst h2; subst h3
    exact Or.inr ⟨q, (T.setVm vm₁).calling g' mk (Value.ref b :: As).toArray, t, U', L, E, ce, hT, X', hL, e1, e2, hq, hce, hcv, vx_cls hW₁ hcl, st⟩
theorem vx_runSX {hh : List (Nat × Nat × Nat × Nat)} (S : CallFix p m c cc nL s args Ts own) (hM : vx_Met l y ws rm Pc Qc XC mc ms free) (cw : vx_CSW R s args own index y bytes maxL ret hh ws rm mc ms n) (hp : PreS s H Pc As)
    (hg : g.method = m) (hn : As.length = n) (hsize : g.locals.size = nL) (hstack : g.stack = As.reverse ++ rest) (hW : 2 * g.monitorRoom + (rest.map fun v => v.category).sum ≤ 8) (hdg : decode cc g.pc = .ok (.invokestatic index, 3)) (hf : cells + mc ≤ R.cells ∧ slots + ms ≤ R.slots) :
    vx_Run p l e R s m args below meth c H locs cells slots mc ms g rest (Qc As.toArray) XC free := by
  obtain ⟨⟨hrc, hrs, hfr, hlo, hws, hcw⟩, hcode, hini, hy, hlen, hl, hstt⟩ := cw
  have hK : vx_Back l R p e below s args y 3 8 (PreOf R mc ms Pc) (PostOf Qc mc ms free) (vx_Post XC mc ms free) := vx_backW (hh := hh) (bytes := bytes) (maxL := maxL) (ret := ret) hM hp.1 hrc hrs hfr hlo hws hcw (fun a' U hW => word_at hW (Or.inl (by first | rfl | simp [Cond.onTables, Cond.keeps, Cond.steady])) hini)
  obtain ⟨hx, hb, hml, ho, -⟩ := S
  intro T hT X
  rcases vx_callSX X hx (hh := hh) (bytes := bytes) (maxL := maxL) (ret := ret) ho hl hstt hini hcode hy hK hg (hsize.trans hml.symm) (argsL := As) (rest := rest) (fun sig h => hn.trans (hlen sig h)) hstack hW (by rw [hb]; exact hdg)
    (fun vm₁ hW₁ => ⟨hf.1, hf.2, hp.2 (T.setVm vm₁) hT hW₁⟩) with ⟨v, vm₁, ⟨U', l2, c2, s2⟩, hW₁, X', ⟨g', mk, t, L, e1, e2, hq, h1, hL, h2, h3⟩, st⟩ | ⟨q, vm₁, ⟨U', l2, c2, s2⟩, hW₁, X', ⟨g', mk, t, L, E, ce, e1, e2, hq, hce, hcv, hcl, h1, hL, h2, h3⟩, st⟩
  · dsimp only [Pt.U, Pt.locs, Pt.cells, Pt.slots] at X' e1 e2 h1 h2 h3 st
    subst h1; subst h2; subst h3
    exact Or.inl ⟨v, (T.setVm vm₁).calling g' mk As.toArray, t, U', L, hT, X', hL, e1, e2, hq, st⟩
  · dsimp only [Pt.U, Pt.locs, Pt.cells, Pt.slots] at X' e1 e2 h1 h2 h3 st hcl
    subst h1; subst h2; subst h3
    exact Or.inr ⟨q, (T.setVm vm₁).calling g' mk As.toArray, t, U', L, E, ce, hT, X', hL, e1, e2, hq, hce, hcv, vx_cls hW₁ hcl, st⟩
end
end VXH
theorem vx_ofWH {l : Launch} {y : MethodName} {ws ws' : List Cond} {rm : Room} {Pc : Array Value → State → Prop} {Qc : Array Value → State → Outcome → State → Prop} {XC : String → State → State → Prop} {mc ms : Nat} {free : Addr → Prop} {cc : ByteArray} {maxL : Nat} {ret : Option FieldType} {hh : List (Nat × Nat × Nat × Nat)}
    (hy : plainName y.cls = true) (hw : ws = Cond.codeWith y cc maxL ret hh :: ws')
    (body : ∀ p e s m args below meth c s₁, BodyLoose p l y (headSpec ws rm) cc maxL ret e s m args below meth c s₁ → c.maxLocals = maxL → Pc args s →
      W p l e (headSpec ws rm).room s m args below meth c s.heap [] 0 0 (vx_MQ below Qc XC args s mc ms free) (entryFrame m args maxL)) : vx_Met l y ws rm Pc Qc XC mc ms free := by
  refine MetFree.of_bodyS (code := cc) (maxLocals := maxL) (ret := ret) hy ?_ ?_
  · intro args s m h hn
    obtain ⟨m9, meth, c, hn9, h1, h2, h3, h4, -, h5, h6, -⟩ := Cond.codeWith_spec (atoms_spec (ws := ws) h _ (by rw [hw]; exact List.mem_cons_self))
    cases hn.symm.trans hn9
    exact ⟨meth, c, h1, h2, h3, h4, h5, h6⟩
  · intro p e s m args below meth c s₁ B hml hP _
    have hh0 : s₁.heap = s.heap := by rw [B.state]; rfl
    obtain ⟨t, a1, o, b1, b2, b3⟩ := body p e s m args below meth c s₁ B hml hP s₁ hh0 (Stand.of_body B)
    exact ⟨t, o, a1, b1, b2, b3⟩
/-! ===== END ===== -/
end
section
/-! names: classes, fields, methods; the tables' words that all methods share (ps_T), by their places in lw_tbl. By wip/names.py. -/
def RX0 : String := "PointShelf$Listing"
def TX0 : u_T := fun k => match k with
  | 0 => ("PointShelf$Listing", "ids", "[I", true)
  | 1 => ("PointShelf$Listing", "first", "I", false)
  | _ => ("PointShelf$Listing", "end", "I", false)
def tyX0 : Nat → FieldType := fun k => match k with
  | 0 => .array .int
  | 1 => .int
  | _ => .int
theorem nmX0 : ∀ a, a < 3 → ∀ b, b < 3 → a ≠ b → (TX0 a).2.1 ≠ (TX0 b).2.1 := by decide +kernel
theorem tyX0_ok : ∀ k, k < 3 → parseFieldDescriptor (TX0 k).2.2.1 = some (tyX0 k) := by decide +kernel
def RX1 : String := "PointShelf$Tree"
def TX1 : u_T := fun k => match k with
  | 0 => ("PointShelf$Tree", "ids", "[I", true)
  | 1 => ("PointShelf$Tree", "xs", "[I", true)
  | 2 => ("PointShelf$Tree", "ys", "[I", true)
  | 3 => ("PointShelf$Tree", "zs", "[I", true)
  | 4 => ("PointShelf$Tree", "colours", "[I", true)
  | 5 => ("PointShelf$Tree", "depths", "[I", true)
  | 6 => ("PointShelf$Tree", "places", "[I", true)
  | 7 => ("PointShelf$Tree", "changed", "[Z", true)
  | _ => ("PointShelf$Tree", "size", "I", false)
def tyX1 : Nat → FieldType := fun k => match k with
  | 0 => .array .int
  | 1 => .array .int
  | 2 => .array .int
  | 3 => .array .int
  | 4 => .array .int
  | 5 => .array .int
  | 6 => .array .int
  | 7 => .array .boolean
  | _ => .int
theorem nmX1 : ∀ a, a < 9 → ∀ b, b < 9 → a ≠ b → (TX1 a).2.1 ≠ (TX1 b).2.1 := by decide +kernel
theorem tyX1_ok : ∀ k, k < 9 → parseFieldDescriptor (TX1 k).2.2.1 = some (tyX1 k) := by decide +kernel
def RX2 : String := "PointShelf"
def TX2 : u_T := fun k => match k with
  | 0 => ("PointShelf", "present", "LPointShelf$Tree;", true)
  | 1 => ("PointShelf", "committed", "LPointShelf$Tree;", true)
  | 2 => ("PointShelf", "listing", "LPointShelf$Listing;", true)
  | 3 => ("PointShelf", "cornerX", "I", false)
  | 4 => ("PointShelf", "cornerY", "I", false)
  | 5 => ("PointShelf", "cornerZ", "I", false)
  | 6 => ("PointShelf", "pagesLeft", "I", false)
  | _ => ("PointShelf", "pagesWritten", "I", false)
def tyX2 : Nat → FieldType := fun k => match k with
  | 0 => .object "PointShelf$Tree"
  | 1 => .object "PointShelf$Tree"
  | 2 => .object "PointShelf$Listing"
  | 3 => .int
  | 4 => .int
  | 5 => .int
  | 6 => .int
  | _ => .int
theorem nmX2 : ∀ a, a < 8 → ∀ b, b < 8 → a ≠ b → (TX2 a).2.1 ≠ (TX2 b).2.1 := by decide +kernel
theorem tyX2_ok : ∀ k, k < 8 → parseFieldDescriptor (TX2 k).2.2.1 = some (tyX2 k) := by decide +kernel
def RX3 : String := "PointShelfModel"
def TX3 : u_T := fun k => match k with
  | 0 => ("PointShelfModel", "thrown", "I", false)
  | 1 => ("PointShelfModel", "many", "I", false)
  | 2 => ("PointShelfModel", "id", "[I", true)
  | 3 => ("PointShelfModel", "place", "[I", true)
  | 4 => ("PointShelfModel", "colour", "[I", true)
  | 5 => ("PointShelfModel", "depth", "[I", true)
  | 6 => ("PointShelfModel", "kept", "I", false)
  | 7 => ("PointShelfModel", "keptId", "[I", true)
  | 8 => ("PointShelfModel", "keptPlace", "[I", true)
  | 9 => ("PointShelfModel", "keptColour", "[I", true)
  | 10 => ("PointShelfModel", "keptDepth", "[I", true)
  | 11 => ("PointShelfModel", "done", "[Z", true)
  | 12 => ("PointShelfModel", "corner", "I", false)
  | 13 => ("PointShelfModel", "listed", "I", false)
  | 14 => ("PointShelfModel", "list", "[I", true)
  | 15 => ("PointShelfModel", "written", "I", false)
  | _ => ("PointShelfModel", "left", "I", false)
def tyX3 : Nat → FieldType := fun k => match k with
  | 0 => .int
  | 1 => .int
  | 2 => .array .int
  | 3 => .array .int
  | 4 => .array .int
  | 5 => .array .int
  | 6 => .int
  | 7 => .array .int
  | 8 => .array .int
  | 9 => .array .int
  | 10 => .array .int
  | 11 => .array .boolean
  | 12 => .int
  | 13 => .int
  | 14 => .array .int
  | 15 => .int
  | _ => .int
theorem nmX3 : ∀ a, a < 17 → ∀ b, b < 17 → a ≠ b → (TX3 a).2.1 ≠ (TX3 b).2.1 := by decide +kernel
theorem tyX3_ok : ∀ k, k < 17 → parseFieldDescriptor (TX3 k).2.2.1 = some (tyX3 k) := by decide +kernel
def RL : String := "PointShelfLaw"
abbrev vwCl : List vw_C := [(RX0, TX0, 3), (RX1, TX1, 9), (RX2, TX2, 8), (RX3, TX3, 17)]
abbrev cX2_init : ByteArray := prog_1_method_1_code
def yX2_init : MethodName := ⟨RX2, "<init>", "()V"⟩
abbrev cX1_init : ByteArray := prog_3_method_1_code
def yX1_init : MethodName := ⟨RX1, "<init>", "()V"⟩
abbrev cX0_init : ByteArray := prog_2_method_1_code
def yX0_init : MethodName := ⟨RX0, "<init>", "()V"⟩
abbrev cX2_open : ByteArray := prog_1_method_14_code
def yX2_open : MethodName := ⟨RX2, "open", "()I"⟩
abbrev cX2_restore : ByteArray := prog_1_method_31_code
def yX2_restore : MethodName := ⟨RX2, "restore", "()V"⟩
abbrev cX1_copyFrom : ByteArray := prog_3_method_14_code
def yX1_copyFrom : MethodName := ⟨RX1, "copyFrom", "(LPointShelf$Tree;)V"⟩
abbrev cX0_clear : ByteArray := prog_2_method_3_code
def yX0_clear : MethodName := ⟨RX0, "clear", "()V"⟩
abbrev cX2_setCorner : ByteArray := prog_1_method_27_code
def yX2_setCorner : MethodName := ⟨RX2, "setCorner", "(III)V"⟩
abbrev cX1_size : ByteArray := prog_3_method_2_code
def yX1_size : MethodName := ⟨RX1, "size", "()I"⟩
abbrev cX2_state : ByteArray := prog_1_method_15_code
def yX2_state : MethodName := ⟨RX2, "state", "(I)I"⟩
abbrev cX1_nodes : ByteArray := prog_3_method_16_code
def yX1_nodes : MethodName := ⟨RX1, "nodes", "()I"⟩
abbrev cX2_freePages : ByteArray := prog_1_method_28_code
def yX2_freePages : MethodName := ⟨RX2, "freePages", "()I"⟩
abbrev cX1_pages : ByteArray := prog_3_method_17_code
def yX1_pages : MethodName := ⟨RX1, "pages", "()I"⟩
abbrev cX1_beginsPage : ByteArray := prog_3_method_26_code
def yX1_beginsPage : MethodName := ⟨RX1, "beginsPage", "(I)Z"⟩
abbrev cX0_size : ByteArray := prog_2_method_2_code
def yX0_size : MethodName := ⟨RX0, "size", "()I"⟩
abbrev cX2_rank : ByteArray := prog_1_method_16_code
def yX2_rank : MethodName := ⟨RX2, "rank", "(I)J"⟩
abbrev cX2_rankOf : ByteArray := prog_1_method_17_code
def yX2_rankOf : MethodName := ⟨RX2, "rankOf", "(I)J"⟩
abbrev cL_add : ByteArray := method_3_code
def yL_add : MethodName := ⟨RL, "add", "(LPointShelf;IIIII[J)I"⟩
abbrev hhL_add : List (Nat × Nat × Nat × Nat) := [(0, 16, 19, 13), (0, 16, 23, 15)]
abbrev cX2_add : ByteArray := prog_1_method_2_code
def yX2_add : MethodName := ⟨RX2, "add", "(IIIII)I"⟩
abbrev cX2_requirePlace : ByteArray := prog_1_method_18_code
def yX2_requirePlace : MethodName := ⟨RX2, "requirePlace", "(III)V"⟩
abbrev cX2_isCoordinate : ByteArray := prog_1_method_19_code
def yX2_isCoordinate : MethodName := ⟨RX2, "isCoordinate", "(I)Z"⟩
abbrev cX1_find : ByteArray := prog_3_method_10_code
def yX1_find : MethodName := ⟨RX1, "find", "(I)I"⟩
abbrev cX1_insert : ByteArray := prog_3_method_12_code
def yX1_insert : MethodName := ⟨RX1, "insert", "(IIIII)I"⟩
abbrev cX1_pointsAbove : ByteArray := prog_3_method_20_code
def yX1_pointsAbove : MethodName := ⟨RX1, "pointsAbove", "(J)I"⟩
abbrev cX1_moveTail : ByteArray := prog_3_method_21_code
def yX1_moveTail : MethodName := ⟨RX1, "moveTail", "(II)V"⟩
abbrev cX1_settleFrom : ByteArray := prog_3_method_22_code
def yX1_settleFrom : MethodName := ⟨RX1, "settleFrom", "(I)V"⟩
abbrev cX1_settle : ByteArray := prog_3_method_23_code
def yX1_settle : MethodName := ⟨RX1, "settle", "(I)V"⟩
abbrev cX1_keptBefore : ByteArray := prog_3_method_24_code
def yX1_keptBefore : MethodName := ⟨RX1, "keptBefore", "(II)I"⟩
abbrev cX2_cubeIndex : ByteArray := prog_1_method_23_code
def yX2_cubeIndex : MethodName := ⟨RX2, "cubeIndex", "(II)I"⟩
abbrev cX1_isInCube : ByteArray := prog_3_method_25_code
def yX1_isInCube : MethodName := ⟨RX1, "isInCube", "(IIIII)Z"⟩
abbrev cX1_depthOf : ByteArray := prog_3_method_8_code
def yX1_depthOf : MethodName := ⟨RX1, "depthOf", "(I)I"⟩
abbrev cL_remove : ByteArray := method_4_code
def yL_remove : MethodName := ⟨RL, "remove", "(LPointShelf;I[J)I"⟩
abbrev hhL_remove : List (Nat × Nat × Nat × Nat) := [(0, 9, 12, 21)]
abbrev cX2_remove : ByteArray := prog_1_method_3_code
def yX2_remove : MethodName := ⟨RX2, "remove", "(I)I"⟩
abbrev cX2_findPoint : ByteArray := prog_1_method_26_code
def yX2_findPoint : MethodName := ⟨RX2, "findPoint", "(I)I"⟩
abbrev cX1_delete : ByteArray := prog_3_method_13_code
def yX1_delete : MethodName := ⟨RX1, "delete", "(I)V"⟩
abbrev cL_recolour : ByteArray := method_5_code
def yL_recolour : MethodName := ⟨RL, "recolour", "(LPointShelf;II[J)I"⟩
abbrev hhL_recolour : List (Nat × Nat × Nat × Nat) := [(0, 10, 13, 21)]
abbrev cX2_recolour : ByteArray := prog_1_method_4_code
def yX2_recolour : MethodName := ⟨RX2, "recolour", "(II)I"⟩
abbrev cX1_colourOf : ByteArray := prog_3_method_7_code
def yX1_colourOf : MethodName := ⟨RX1, "colourOf", "(I)I"⟩
abbrev cX1_setColour : ByteArray := prog_3_method_9_code
def yX1_setColour : MethodName := ⟨RX1, "setColour", "(II)V"⟩
abbrev cL_field : ByteArray := method_6_code
def yL_field : MethodName := ⟨RL, "field", "(LPointShelf;II[J)I"⟩
abbrev hhL_field : List (Nat × Nat × Nat × Nat) := [(0, 10, 13, 13), (0, 10, 17, 21)]
abbrev cX2_field : ByteArray := prog_1_method_5_code
def yX2_field : MethodName := ⟨RX2, "field", "(II)I"⟩
abbrev cX1_xOf : ByteArray := prog_3_method_4_code
def yX1_xOf : MethodName := ⟨RX1, "xOf", "(I)I"⟩
abbrev cX1_yOf : ByteArray := prog_3_method_5_code
def yX1_yOf : MethodName := ⟨RX1, "yOf", "(I)I"⟩
abbrev cX1_zOf : ByteArray := prog_3_method_6_code
def yX1_zOf : MethodName := ⟨RX1, "zOf", "(I)I"⟩
abbrev cL_corner : ByteArray := method_7_code
def yL_corner : MethodName := ⟨RL, "corner", "(LPointShelf;III)I"⟩
abbrev hhL_corner : List (Nat × Nat × Nat × Nat) := [(0, 7, 10, 13)]
abbrev cX2_corner : ByteArray := prog_1_method_6_code
def yX2_corner : MethodName := ⟨RX2, "corner", "(III)V"⟩
abbrev cL_box : ByteArray := method_8_code
def yL_box : MethodName := ⟨RL, "box", "(LPointShelf;IIII[J)I"⟩
abbrev hhL_box : List (Nat × Nat × Nat × Nat) := [(0, 14, 17, 13)]
abbrev cX2_box : ByteArray := prog_1_method_7_code
def yX2_box : MethodName := ⟨RX2, "box", "(IIII)I"⟩
abbrev cX2_isDepth : ByteArray := prog_1_method_20_code
def yX2_isDepth : MethodName := ⟨RX2, "isDepth", "(I)Z"⟩
abbrev cX2_isInBox : ByteArray := prog_1_method_25_code
def yX2_isInBox : MethodName := ⟨RX2, "isInBox", "(IIII)Z"⟩
abbrev cX2_isBetween : ByteArray := prog_1_method_24_code
def yX2_isBetween : MethodName := ⟨RX2, "isBetween", "(III)Z"⟩
abbrev cX1_idOf : ByteArray := prog_3_method_3_code
def yX1_idOf : MethodName := ⟨RX1, "idOf", "(I)I"⟩
abbrev cX0_insert : ByteArray := prog_2_method_4_code
def yX0_insert : MethodName := ⟨RX0, "insert", "(I)V"⟩
abbrev cL_next : ByteArray := method_9_code
def yL_next : MethodName := ⟨RL, "next", "(LPointShelf;[J)I"⟩
abbrev hhL_next : List (Nat × Nat × Nat × Nat) := [(0, 8, 11, 21)]
abbrev cX2_next : ByteArray := prog_1_method_8_code
def yX2_next : MethodName := ⟨RX2, "next", "()I"⟩
abbrev cX0_takeFirst : ByteArray := prog_2_method_5_code
def yX0_takeFirst : MethodName := ⟨RX0, "takeFirst", "()I"⟩
abbrev cL_count : ByteArray := method_10_code
def yL_count : MethodName := ⟨RL, "count", "(LPointShelf;III[J)I"⟩
abbrev hhL_count : List (Nat × Nat × Nat × Nat) := [(0, 12, 15, 13)]
abbrev cX2_count : ByteArray := prog_1_method_9_code
def yX2_count : MethodName := ⟨RX2, "count", "(III)I"⟩
abbrev cL_nearest : ByteArray := method_11_code
def yL_nearest : MethodName := ⟨RL, "nearest", "(LPointShelf;IIII[J)I"⟩
abbrev hhL_nearest : List (Nat × Nat × Nat × Nat) := [(0, 14, 17, 13), (0, 14, 21, 21)]
abbrev cX2_nearest : ByteArray := prog_1_method_10_code
def yX2_nearest : MethodName := ⟨RX2, "nearest", "(IIII)I"⟩
abbrev cX1_idByDistance : ByteArray := prog_3_method_15_code
def yX1_idByDistance : MethodName := ⟨RX1, "idByDistance", "(IIII)I"⟩
abbrev cX1_leastKeyAbove : ByteArray := prog_3_method_30_code
def yX1_leastKeyAbove : MethodName := ⟨RX1, "leastKeyAbove", "(JIII)J"⟩
abbrev cX1_distanceKey : ByteArray := prog_3_method_31_code
def yX1_distanceKey : MethodName := ⟨RX1, "distanceKey", "(IIII)J"⟩
abbrev cL_kept : ByteArray := method_12_code
def yL_kept : MethodName := ⟨RL, "kept", "(LPointShelf;IIIII[J)I"⟩
abbrev hhL_kept : List (Nat × Nat × Nat × Nat) := [(0, 16, 19, 13), (0, 16, 23, 21)]
abbrev cX2_kept : ByteArray := prog_1_method_11_code
def yX2_kept : MethodName := ⟨RX2, "kept", "(IIIII)I"⟩
abbrev cX2_isCube : ByteArray := prog_1_method_21_code
def yX2_isCube : MethodName := ⟨RX2, "isCube", "(IIII)Z"⟩
abbrev cX2_isCubeIndex : ByteArray := prog_1_method_22_code
def yX2_isCubeIndex : MethodName := ⟨RX2, "isCubeIndex", "(II)Z"⟩
abbrev cX1_findKept : ByteArray := prog_3_method_11_code
def yX1_findKept : MethodName := ⟨RX1, "findKept", "(IIIII)I"⟩
abbrev cL_commit : ByteArray := method_13_code
def yL_commit : MethodName := ⟨RL, "commit", "(LPointShelf;[J)I"⟩
abbrev hhL_commit : List (Nat × Nat × Nat × Nat) := [(0, 8, 11, 15), (0, 8, 14, 55)]
abbrev cX2_commit : ByteArray := prog_1_method_12_code
def yX2_commit : MethodName := ⟨RX2, "commit", "()I"⟩
abbrev cX1_markChanges : ByteArray := prog_3_method_18_code
def yX1_markChanges : MethodName := ⟨RX1, "markChanges", "(LPointShelf$Tree;)I"⟩
abbrev cX1_keepsAlike : ByteArray := prog_3_method_27_code
def yX1_keepsAlike : MethodName := ⟨RX1, "keepsAlike", "(LPointShelf$Tree;I)Z"⟩
abbrev cX1_pagesToWrite : ByteArray := prog_3_method_19_code
def yX1_pagesToWrite : MethodName := ⟨RX1, "pagesToWrite", "(LPointShelf$Tree;)I"⟩
abbrev cX1_isNodeClean : ByteArray := prog_3_method_28_code
def yX1_isNodeClean : MethodName := ⟨RX1, "isNodeClean", "(ILPointShelf$Tree;)Z"⟩
abbrev cX1_hasChange : ByteArray := prog_3_method_29_code
def yX1_hasChange : MethodName := ⟨RX1, "hasChange", "(IIII)Z"⟩
abbrev cX2_losePower : ByteArray := prog_1_method_30_code
def yX2_losePower : MethodName := ⟨RX2, "losePower", "()V"⟩
abbrev cX2_writePages : ByteArray := prog_1_method_29_code
def yX2_writePages : MethodName := ⟨RX2, "writePages", "(I)V"⟩
abbrev cL_charge : ByteArray := method_14_code
def yL_charge : MethodName := ⟨RL, "charge", "(LPointShelf;I)I"⟩
abbrev hhL_charge : List (Nat × Nat × Nat × Nat) := [(0, 5, 8, 13)]
abbrev cX2_charge : ByteArray := prog_1_method_13_code
def yX2_charge : MethodName := ⟨RX2, "charge", "(I)V"⟩
abbrev cX3_init : ByteArray := prog_5_method_1_code
def yX3_init : MethodName := ⟨RX3, "<init>", "()V"⟩
abbrev cX3_thrown : ByteArray := prog_5_method_2_code
def yX3_thrown : MethodName := ⟨RX3, "thrown", "()I"⟩
abbrev cX3_rank : ByteArray := prog_5_method_9_code
def yX3_rank : MethodName := ⟨RX3, "rank", "(I)J"⟩
abbrev cX3_rankOf : ByteArray := prog_5_method_8_code
def yX3_rankOf : MethodName := ⟨RX3, "rankOf", "(I)J"⟩
abbrev cX3_add : ByteArray := prog_5_method_17_code
def yX3_add : MethodName := ⟨RX3, "add", "(IIIII)I"⟩
abbrev cX3_isPlace : ByteArray := prog_5_method_5_code
def yX3_isPlace : MethodName := ⟨RX3, "isPlace", "(III)Z"⟩
abbrev cX3_in : ByteArray := prog_5_method_4_code
def yX3_in : MethodName := ⟨RX3, "in", "(III)Z"⟩
abbrev cX3_fails : ByteArray := prog_5_method_3_code
def yX3_fails : MethodName := ⟨RX3, "fails", "(I)I"⟩
abbrev cX3_find : ByteArray := prog_5_method_10_code
def yX3_find : MethodName := ⟨RX3, "find", "(I)I"⟩
abbrev cX3_packed : ByteArray := prog_5_method_6_code
def yX3_packed : MethodName := ⟨RX3, "packed", "(III)I"⟩
abbrev cX3_settle : ByteArray := prog_5_method_14_code
def yX3_settle : MethodName := ⟨RX3, "settle", "()V"⟩
abbrev cX3_greatest : ByteArray := prog_5_method_13_code
def yX3_greatest : MethodName := ⟨RX3, "greatest", "()I"⟩
abbrev cX3_keeps : ByteArray := prog_5_method_12_code
def yX3_keeps : MethodName := ⟨RX3, "keeps", "(II)I"⟩
abbrev cX3_isOne : ByteArray := prog_5_method_11_code
def yX3_isOne : MethodName := ⟨RX3, "isOne", "(III)Z"⟩
abbrev cX3_axis : ByteArray := prog_5_method_7_code
def yX3_axis : MethodName := ⟨RX3, "axis", "(II)I"⟩
abbrev cX3_remove : ByteArray := prog_5_method_18_code
def yX3_remove : MethodName := ⟨RX3, "remove", "(I)I"⟩
abbrev cX3_recolour : ByteArray := prog_5_method_19_code
def yX3_recolour : MethodName := ⟨RX3, "recolour", "(II)I"⟩
abbrev cX3_field : ByteArray := prog_5_method_20_code
def yX3_field : MethodName := ⟨RX3, "field", "(II)I"⟩
abbrev cX3_corner : ByteArray := prog_5_method_21_code
def yX3_corner : MethodName := ⟨RX3, "corner", "(III)V"⟩
abbrev cX3_box : ByteArray := prog_5_method_24_code
def yX3_box : MethodName := ⟨RX3, "box", "(IIII)I"⟩
abbrev cX3_isIn : ByteArray := prog_5_method_23_code
def yX3_isIn : MethodName := ⟨RX3, "isIn", "(II)Z"⟩
abbrev cX3_between : ByteArray := prog_5_method_22_code
def yX3_between : MethodName := ⟨RX3, "between", "(III)Z"⟩
abbrev cX3_next : ByteArray := prog_5_method_25_code
def yX3_next : MethodName := ⟨RX3, "next", "()I"⟩
abbrev cX3_count : ByteArray := prog_5_method_26_code
def yX3_count : MethodName := ⟨RX3, "count", "(III)I"⟩
abbrev cX3_nearest : ByteArray := prog_5_method_28_code
def yX3_nearest : MethodName := ⟨RX3, "nearest", "(IIII)I"⟩
abbrev cX3_distance : ByteArray := prog_5_method_27_code
def yX3_distance : MethodName := ⟨RX3, "distance", "(II)I"⟩
abbrev cX3_kept : ByteArray := prog_5_method_29_code
def yX3_kept : MethodName := ⟨RX3, "kept", "(IIIII)I"⟩
abbrev cX3_commit : ByteArray := prog_5_method_35_code
def yX3_commit : MethodName := ⟨RX3, "commit", "()I"⟩
abbrev cX3_isClean : ByteArray := prog_5_method_33_code
def yX3_isClean : MethodName := ⟨RX3, "isClean", "(II)Z"⟩
abbrev cX3_isCommitted : ByteArray := prog_5_method_32_code
def yX3_isCommitted : MethodName := ⟨RX3, "isCommitted", "(I)Z"⟩
abbrev cX3_pagesToWrite : ByteArray := prog_5_method_34_code
def yX3_pagesToWrite : MethodName := ⟨RX3, "pagesToWrite", "()I"⟩
abbrev cX3_isFirst : ByteArray := prog_5_method_15_code
def yX3_isFirst : MethodName := ⟨RX3, "isFirst", "(I)Z"⟩
abbrev cX3_pagesFor : ByteArray := prog_5_method_30_code
def yX3_pagesFor : MethodName := ⟨RX3, "pagesFor", "(I)I"⟩
abbrev cX3_takenPages : ByteArray := prog_5_method_31_code
def yX3_takenPages : MethodName := ⟨RX3, "takenPages", "()I"⟩
abbrev cX3_isFirstKept : ByteArray := prog_5_method_16_code
def yX3_isFirstKept : MethodName := ⟨RX3, "isFirstKept", "(I)Z"⟩
abbrev cX3_open : ByteArray := prog_5_method_37_code
def yX3_open : MethodName := ⟨RX3, "open", "()I"⟩
abbrev cX3_charge : ByteArray := prog_5_method_36_code
def yX3_charge : MethodName := ⟨RX3, "charge", "(I)V"⟩
abbrev cX3_state : ByteArray := prog_5_method_38_code
def yX3_state : MethodName := ⟨RX3, "state", "(I)I"⟩
abbrev cL_law : ByteArray := code
def yL_law : MethodName := ⟨RL, "law", "([I)Z"⟩
/-- the words of the tables that a callee can be handed -/
def ps_T : List Cond := lw_tbl.filter goodWord
theorem ps_mem {w : Cond} (i : Nat) (h : lw_tbl[i]? = some w) (g : goodWord w = true) : w ∈ ps_T := List.mem_filter.mpr ⟨List.mem_of_getElem? h, g⟩
theorem ps_T_good : GoodIn lw_tbl ps_T := fun w h => ⟨(List.mem_filter.mp h).1, good_of_word (List.mem_filter.mp h).2⟩
theorem ps_T_self : GoodIn ps_T ps_T := fun w h => ⟨h, good_of_word (List.mem_filter.mp h).2⟩
theorem inX0 : ∀ w ∈ u_ws RX0 TX0 3, w ∈ ps_T := by decide +kernel
theorem inX1 : ∀ w ∈ u_ws RX1 TX1 9, w ∈ ps_T := by decide +kernel
theorem inX2 : ∀ w ∈ u_ws RX2 TX2 8, w ∈ ps_T := by decide +kernel
theorem inX3 : ∀ w ∈ u_ws RX3 TX3 17, w ∈ ps_T := by decide +kernel
theorem tw_se_X2_restore : (.selects RX2 yX2_restore yX2_restore : Cond) ∈ ps_T := ps_mem 0 (by decide +kernel) rfl
theorem tw_se_X2_setCorner : (.selects RX2 yX2_setCorner yX2_setCorner : Cond) ∈ ps_T := ps_mem 1 (by decide +kernel) rfl
theorem tw_se_X2_freePages : (.selects RX2 yX2_freePages yX2_freePages : Cond) ∈ ps_T := ps_mem 2 (by decide +kernel) rfl
theorem tw_se_X1_beginsPage : (.selects RX1 yX1_beginsPage yX1_beginsPage : Cond) ∈ ps_T := ps_mem 3 (by decide +kernel) rfl
theorem tw_se_X1_pointsAbove : (.selects RX1 yX1_pointsAbove yX1_pointsAbove : Cond) ∈ ps_T := ps_mem 5 (by decide +kernel) rfl
theorem tw_se_X1_moveTail : (.selects RX1 yX1_moveTail yX1_moveTail : Cond) ∈ ps_T := ps_mem 6 (by decide +kernel) rfl
theorem tw_se_X1_settleFrom : (.selects RX1 yX1_settleFrom yX1_settleFrom : Cond) ∈ ps_T := ps_mem 7 (by decide +kernel) rfl
theorem tw_se_X1_settle : (.selects RX1 yX1_settle yX1_settle : Cond) ∈ ps_T := ps_mem 8 (by decide +kernel) rfl
theorem tw_se_X1_keptBefore : (.selects RX1 yX1_keptBefore yX1_keptBefore : Cond) ∈ ps_T := ps_mem 9 (by decide +kernel) rfl
theorem tw_se_X1_isInCube : (.selects RX1 yX1_isInCube yX1_isInCube : Cond) ∈ ps_T := ps_mem 10 (by decide +kernel) rfl
theorem tw_se_X2_findPoint : (.selects RX2 yX2_findPoint yX2_findPoint : Cond) ∈ ps_T := ps_mem 11 (by decide +kernel) rfl
theorem tw_se_X2_isInBox : (.selects RX2 yX2_isInBox yX2_isInBox : Cond) ∈ ps_T := ps_mem 12 (by decide +kernel) rfl
theorem tw_se_X1_leastKeyAbove : (.selects RX1 yX1_leastKeyAbove yX1_leastKeyAbove : Cond) ∈ ps_T := ps_mem 13 (by decide +kernel) rfl
theorem tw_se_X1_distanceKey : (.selects RX1 yX1_distanceKey yX1_distanceKey : Cond) ∈ ps_T := ps_mem 14 (by decide +kernel) rfl
theorem tw_se_X1_keepsAlike : (.selects RX1 yX1_keepsAlike yX1_keepsAlike : Cond) ∈ ps_T := ps_mem 15 (by decide +kernel) rfl
theorem tw_se_X1_isNodeClean : (.selects RX1 yX1_isNodeClean yX1_isNodeClean : Cond) ∈ ps_T := ps_mem 16 (by decide +kernel) rfl
theorem tw_se_X1_hasChange : (.selects RX1 yX1_hasChange yX1_hasChange : Cond) ∈ ps_T := ps_mem 17 (by decide +kernel) rfl
theorem tw_se_X2_losePower : (.selects RX2 yX2_losePower yX2_losePower : Cond) ∈ ps_T := ps_mem 18 (by decide +kernel) rfl
theorem tw_se_X2_writePages : (.selects RX2 yX2_writePages yX2_writePages : Cond) ∈ ps_T := ps_mem 19 (by decide +kernel) rfl
theorem tw_se_X3_fails : (.selects RX3 yX3_fails yX3_fails : Cond) ∈ ps_T := ps_mem 20 (by decide +kernel) rfl
theorem tw_se_X3_find : (.selects RX3 yX3_find yX3_find : Cond) ∈ ps_T := ps_mem 21 (by decide +kernel) rfl
theorem tw_se_X3_settle : (.selects RX3 yX3_settle yX3_settle : Cond) ∈ ps_T := ps_mem 22 (by decide +kernel) rfl
theorem tw_se_X3_greatest : (.selects RX3 yX3_greatest yX3_greatest : Cond) ∈ ps_T := ps_mem 23 (by decide +kernel) rfl
theorem tw_se_X3_keeps : (.selects RX3 yX3_keeps yX3_keeps : Cond) ∈ ps_T := ps_mem 24 (by decide +kernel) rfl
theorem tw_se_X3_isIn : (.selects RX3 yX3_isIn yX3_isIn : Cond) ∈ ps_T := ps_mem 25 (by decide +kernel) rfl
theorem tw_se_X3_isClean : (.selects RX3 yX3_isClean yX3_isClean : Cond) ∈ ps_T := ps_mem 26 (by decide +kernel) rfl
theorem tw_se_X3_isCommitted : (.selects RX3 yX3_isCommitted yX3_isCommitted : Cond) ∈ ps_T := ps_mem 27 (by decide +kernel) rfl
theorem tw_se_X3_pagesToWrite : (.selects RX3 yX3_pagesToWrite yX3_pagesToWrite : Cond) ∈ ps_T := ps_mem 28 (by decide +kernel) rfl
theorem tw_se_X3_isFirst : (.selects RX3 yX3_isFirst yX3_isFirst : Cond) ∈ ps_T := ps_mem 29 (by decide +kernel) rfl
theorem tw_se_X3_takenPages : (.selects RX3 yX3_takenPages yX3_takenPages : Cond) ∈ ps_T := ps_mem 30 (by decide +kernel) rfl
theorem tw_se_X3_isFirstKept : (.selects RX3 yX3_isFirstKept yX3_isFirstKept : Cond) ∈ ps_T := ps_mem 31 (by decide +kernel) rfl
theorem tw_in_L : (.initialized RL : Cond) ∈ ps_T := ps_mem 32 (by decide +kernel) rfl
theorem tw_in_X2 : (.initialized RX2 : Cond) ∈ ps_T := ps_mem 33 (by decide +kernel) rfl
theorem tw_in_X1 : (.initialized RX1 : Cond) ∈ ps_T := ps_mem 34 (by decide +kernel) rfl
theorem tw_in_X0 : (.initialized RX0 : Cond) ∈ ps_T := ps_mem 35 (by decide +kernel) rfl
theorem tw_in_X3 : (.initialized RX3 : Cond) ∈ ps_T := ps_mem 36 (by decide +kernel) rfl
theorem tw_in_Throwable : (.initialized "java/lang/Throwable" : Cond) ∈ ps_T := ps_mem 37 (by decide +kernel) rfl
theorem tw_in_Exception : (.initialized "java/lang/Exception" : Cond) ∈ ps_T := ps_mem 38 (by decide +kernel) rfl
theorem tw_in_RuntimeException : (.initialized "java/lang/RuntimeException" : Cond) ∈ ps_T := ps_mem 39 (by decide +kernel) rfl
theorem tw_in_IllegalArgumentException : (.initialized "java/lang/IllegalArgumentException" : Cond) ∈ ps_T := ps_mem 40 (by decide +kernel) rfl
theorem tw_in_IllegalStateException : (.initialized "java/lang/IllegalStateException" : Cond) ∈ ps_T := ps_mem 41 (by decide +kernel) rfl
theorem tw_in_System : (.initialized "java/lang/System" : Cond) ∈ ps_T := ps_mem 42 (by decide +kernel) rfl
theorem tw_in_NoSuchElementException : (.initialized "java/util/NoSuchElementException" : Cond) ∈ ps_T := ps_mem 43 (by decide +kernel) rfl
theorem tw_in_Math : (.initialized "java/lang/Math" : Cond) ∈ ps_T := ps_mem 44 (by decide +kernel) rfl
theorem tw_in_UnsupportedOperationException : (.initialized "java/lang/UnsupportedOperationException" : Cond) ∈ ps_T := ps_mem 45 (by decide +kernel) rfl
theorem tw_cl_L_8 : (.classLink RL 8 RX2 : Cond) ∈ ps_T := ps_mem 46 (by decide +kernel) rfl
theorem tw_it_X2 : (.instantiable RX2 8 : Cond) ∈ ps_T := ps_mem 47 (by decide +kernel) rfl
theorem tw_ml_L_61 : (.methodLink RL 61 yX2_init : Cond) ∈ ps_T := ps_mem 48 (by decide +kernel) rfl
theorem tw_im_X2_init : (.instanceMethod yX2_init : Cond) ∈ ps_T := ps_mem 49 (by decide +kernel) rfl
theorem tw_co_X2_init : (.code yX2_init cX2_init 1 none : Cond) ∈ ps_T := ps_mem 50 (by decide +kernel) rfl
theorem tw_ml_X2_1 : (.methodLink RX2 1 objectInit : Cond) ∈ ps_T := ps_mem 51 (by decide +kernel) rfl
theorem tw_im_Object_init : (.instanceMethod objectInit : Cond) ∈ ps_T := ps_mem 52 (by decide +kernel) rfl
theorem tw_co_Object_init : (.code objectInit ⟨#[0xb1]⟩ 1 none : Cond) ∈ ps_T := ps_mem 53 (by decide +kernel) rfl
theorem tw_cl_X2_7 : (.classLink RX2 7 RX1 : Cond) ∈ ps_T := ps_mem 54 (by decide +kernel) rfl
theorem tw_it_X1 : (.instantiable RX1 9 : Cond) ∈ ps_T := ps_mem 55 (by decide +kernel) rfl
theorem tw_im_X1_init : (.instanceMethod yX1_init : Cond) ∈ ps_T := ps_mem 57 (by decide +kernel) rfl
theorem tw_co_X1_init : (.code yX1_init cX1_init 1 none : Cond) ∈ ps_T := ps_mem 58 (by decide +kernel) rfl
theorem tw_ml_X1_3 : (.methodLink RX1 3 objectInit : Cond) ∈ ps_T := ps_mem 59 (by decide +kernel) rfl
theorem tw_fl_X1_9 : (.fieldLink RX1 9 "PointShelf$Tree" "ids" "[I" : Cond) ∈ ps_T := ps_mem 60 (by decide +kernel) rfl
theorem tw_fl_X1_15 : (.fieldLink RX1 15 "PointShelf$Tree" "xs" "[I" : Cond) ∈ ps_T := ps_mem 61 (by decide +kernel) rfl
theorem tw_fl_X1_18 : (.fieldLink RX1 18 "PointShelf$Tree" "ys" "[I" : Cond) ∈ ps_T := ps_mem 62 (by decide +kernel) rfl
theorem tw_fl_X1_21 : (.fieldLink RX1 21 "PointShelf$Tree" "zs" "[I" : Cond) ∈ ps_T := ps_mem 63 (by decide +kernel) rfl
theorem tw_fl_X1_24 : (.fieldLink RX1 24 "PointShelf$Tree" "colours" "[I" : Cond) ∈ ps_T := ps_mem 64 (by decide +kernel) rfl
theorem tw_fl_X1_27 : (.fieldLink RX1 27 "PointShelf$Tree" "depths" "[I" : Cond) ∈ ps_T := ps_mem 65 (by decide +kernel) rfl
theorem tw_fl_X1_30 : (.fieldLink RX1 30 "PointShelf$Tree" "places" "[I" : Cond) ∈ ps_T := ps_mem 66 (by decide +kernel) rfl
theorem tw_fl_X1_33 : (.fieldLink RX1 33 "PointShelf$Tree" "changed" "[Z" : Cond) ∈ ps_T := ps_mem 67 (by decide +kernel) rfl
theorem tw_fl_X1_37 : (.fieldLink RX1 37 "PointShelf$Tree" "size" "I" : Cond) ∈ ps_T := ps_mem 68 (by decide +kernel) rfl
theorem tw_ac_int : (.arrayClass .int : Cond) ∈ ps_T := ps_mem 88 (by decide +kernel) rfl
theorem tw_ac_boolean : (.arrayClass .boolean : Cond) ∈ ps_T := ps_mem 89 (by decide +kernel) rfl
theorem tw_cl_X2_19 : (.classLink RX2 19 RX0 : Cond) ∈ ps_T := ps_mem 90 (by decide +kernel) rfl
theorem tw_it_X0 : (.instantiable RX0 3 : Cond) ∈ ps_T := ps_mem 91 (by decide +kernel) rfl
theorem tw_im_X0_init : (.instanceMethod yX0_init : Cond) ∈ ps_T := ps_mem 93 (by decide +kernel) rfl
theorem tw_co_X0_init : (.code yX0_init cX0_init 1 none : Cond) ∈ ps_T := ps_mem 94 (by decide +kernel) rfl
theorem tw_ml_X0_3 : (.methodLink RX0 3 objectInit : Cond) ∈ ps_T := ps_mem 95 (by decide +kernel) rfl
theorem tw_fl_X0_9 : (.fieldLink RX0 9 "PointShelf$Listing" "ids" "[I" : Cond) ∈ ps_T := ps_mem 96 (by decide +kernel) rfl
theorem tw_fl_X0_19 : (.fieldLink RX0 19 "PointShelf$Listing" "first" "I" : Cond) ∈ ps_T := ps_mem 97 (by decide +kernel) rfl
theorem tw_fl_X0_15 : (.fieldLink RX0 15 "PointShelf$Listing" "end" "I" : Cond) ∈ ps_T := ps_mem 98 (by decide +kernel) rfl
theorem tw_fl_X2_10 : (.fieldLink RX2 10 "PointShelf" "present" "LPointShelf$Tree;" : Cond) ∈ ps_T := ps_mem 106 (by decide +kernel) rfl
theorem tw_fl_X2_16 : (.fieldLink RX2 16 "PointShelf" "committed" "LPointShelf$Tree;" : Cond) ∈ ps_T := ps_mem 107 (by decide +kernel) rfl
theorem tw_fl_X2_22 : (.fieldLink RX2 22 "PointShelf" "listing" "LPointShelf$Listing;" : Cond) ∈ ps_T := ps_mem 108 (by decide +kernel) rfl
theorem tw_fl_X2_195 : (.fieldLink RX2 195 "PointShelf" "cornerX" "I" : Cond) ∈ ps_T := ps_mem 109 (by decide +kernel) rfl
theorem tw_fl_X2_202 : (.fieldLink RX2 202 "PointShelf" "cornerY" "I" : Cond) ∈ ps_T := ps_mem 110 (by decide +kernel) rfl
theorem tw_fl_X2_205 : (.fieldLink RX2 205 "PointShelf" "cornerZ" "I" : Cond) ∈ ps_T := ps_mem 111 (by decide +kernel) rfl
theorem tw_fl_X2_26 : (.fieldLink RX2 26 "PointShelf" "pagesLeft" "I" : Cond) ∈ ps_T := ps_mem 112 (by decide +kernel) rfl
theorem tw_fl_X2_167 : (.fieldLink RX2 167 "PointShelf" "pagesWritten" "I" : Cond) ∈ ps_T := ps_mem 113 (by decide +kernel) rfl
theorem tw_ml_L_114 : (.methodLink RL 114 yX2_open : Cond) ∈ ps_T := ps_mem 131 (by decide +kernel) rfl
theorem tw_im_X2_open : (.instanceMethod yX2_open : Cond) ∈ ps_T := ps_mem 132 (by decide +kernel) rfl
theorem tw_se_X2_open : (.selects RX2 yX2_open yX2_open : Cond) ∈ ps_T := ps_mem 133 (by decide +kernel) rfl
theorem tw_co_X2_open : (.code yX2_open cX2_open 1 (some .int) : Cond) ∈ ps_T := ps_mem 134 (by decide +kernel) rfl
theorem tw_ml_X2_161 : (.methodLink RX2 161 yX2_restore : Cond) ∈ ps_T := ps_mem 135 (by decide +kernel) rfl
theorem tw_im_X2_restore : (.instanceMethod yX2_restore : Cond) ∈ ps_T := ps_mem 137 (by decide +kernel) rfl
theorem tw_co_X2_restore : (.code yX2_restore cX2_restore 1 none : Cond) ∈ ps_T := ps_mem 138 (by decide +kernel) rfl
theorem tw_ml_X2_155 : (.methodLink RX2 155 yX1_copyFrom : Cond) ∈ ps_T := ps_mem 139 (by decide +kernel) rfl
theorem tw_im_X1_copyFrom : (.instanceMethod yX1_copyFrom : Cond) ∈ ps_T := ps_mem 140 (by decide +kernel) rfl
theorem tw_se_X1_copyFrom : (.selects RX1 yX1_copyFrom yX1_copyFrom : Cond) ∈ ps_T := ps_mem 141 (by decide +kernel) rfl
theorem tw_co_X1_copyFrom : (.code yX1_copyFrom cX1_copyFrom 2 none : Cond) ∈ ps_T := ps_mem 142 (by decide +kernel) rfl
theorem tw_ml_X1_61 : (.methodLink RX1 61 arraycopyName : Cond) ∈ ps_T := ps_mem 143 (by decide +kernel) rfl
theorem tw_st_System_arraycopy : (.static arraycopyName : Cond) ∈ ps_T := ps_mem 144 (by decide +kernel) rfl
theorem tw_na_System_arraycopy : (.native arraycopyName : Cond) ∈ ps_T := ps_mem 145 (by decide +kernel) rfl
theorem tw_ml_X2_95 : (.methodLink RX2 95 yX0_clear : Cond) ∈ ps_T := ps_mem 146 (by decide +kernel) rfl
theorem tw_im_X0_clear : (.instanceMethod yX0_clear : Cond) ∈ ps_T := ps_mem 147 (by decide +kernel) rfl
theorem tw_se_X0_clear : (.selects RX0 yX0_clear yX0_clear : Cond) ∈ ps_T := ps_mem 148 (by decide +kernel) rfl
theorem tw_co_X0_clear : (.code yX0_clear cX0_clear 1 none : Cond) ∈ ps_T := ps_mem 149 (by decide +kernel) rfl
theorem tw_ml_X2_86 : (.methodLink RX2 86 yX2_setCorner : Cond) ∈ ps_T := ps_mem 150 (by decide +kernel) rfl
theorem tw_im_X2_setCorner : (.instanceMethod yX2_setCorner : Cond) ∈ ps_T := ps_mem 152 (by decide +kernel) rfl
theorem tw_co_X2_setCorner : (.code yX2_setCorner cX2_setCorner 4 none : Cond) ∈ ps_T := ps_mem 153 (by decide +kernel) rfl
theorem tw_ml_X2_45 : (.methodLink RX2 45 yX1_size : Cond) ∈ ps_T := ps_mem 154 (by decide +kernel) rfl
theorem tw_im_X1_size : (.instanceMethod yX1_size : Cond) ∈ ps_T := ps_mem 155 (by decide +kernel) rfl
theorem tw_se_X1_size : (.selects RX1 yX1_size yX1_size : Cond) ∈ ps_T := ps_mem 156 (by decide +kernel) rfl
theorem tw_co_X1_size : (.code yX1_size cX1_size 1 (some .int) : Cond) ∈ ps_T := ps_mem 157 (by decide +kernel) rfl
theorem tw_ml_L_118 : (.methodLink RL 118 yX2_state : Cond) ∈ ps_T := ps_mem 158 (by decide +kernel) rfl
theorem tw_im_X2_state : (.instanceMethod yX2_state : Cond) ∈ ps_T := ps_mem 159 (by decide +kernel) rfl
theorem tw_se_X2_state : (.selects RX2 yX2_state yX2_state : Cond) ∈ ps_T := ps_mem 160 (by decide +kernel) rfl
theorem tw_co_X2_state : (.code yX2_state cX2_state 2 (some .int) : Cond) ∈ ps_T := ps_mem 161 (by decide +kernel) rfl
theorem tw_ml_X2_164 : (.methodLink RX2 164 yX1_nodes : Cond) ∈ ps_T := ps_mem 162 (by decide +kernel) rfl
theorem tw_im_X1_nodes : (.instanceMethod yX1_nodes : Cond) ∈ ps_T := ps_mem 163 (by decide +kernel) rfl
theorem tw_se_X1_nodes : (.selects RX1 yX1_nodes yX1_nodes : Cond) ∈ ps_T := ps_mem 164 (by decide +kernel) rfl
theorem tw_co_X1_nodes : (.code yX1_nodes cX1_nodes 3 (some .int) : Cond) ∈ ps_T := ps_mem 165 (by decide +kernel) rfl
theorem tw_ml_X2_139 : (.methodLink RX2 139 yX2_freePages : Cond) ∈ ps_T := ps_mem 166 (by decide +kernel) rfl
theorem tw_im_X2_freePages : (.instanceMethod yX2_freePages : Cond) ∈ ps_T := ps_mem 168 (by decide +kernel) rfl
theorem tw_co_X2_freePages : (.code yX2_freePages cX2_freePages 1 (some .int) : Cond) ∈ ps_T := ps_mem 169 (by decide +kernel) rfl
theorem tw_ml_X2_210 : (.methodLink RX2 210 yX1_pages : Cond) ∈ ps_T := ps_mem 170 (by decide +kernel) rfl
theorem tw_im_X1_pages : (.instanceMethod yX1_pages : Cond) ∈ ps_T := ps_mem 171 (by decide +kernel) rfl
theorem tw_se_X1_pages : (.selects RX1 yX1_pages yX1_pages : Cond) ∈ ps_T := ps_mem 172 (by decide +kernel) rfl
theorem tw_co_X1_pages : (.code yX1_pages cX1_pages 3 (some .int) : Cond) ∈ ps_T := ps_mem 173 (by decide +kernel) rfl
theorem tw_ml_X1_75 : (.methodLink RX1 75 yX1_beginsPage : Cond) ∈ ps_T := ps_mem 174 (by decide +kernel) rfl
theorem tw_im_X1_beginsPage : (.instanceMethod yX1_beginsPage : Cond) ∈ ps_T := ps_mem 176 (by decide +kernel) rfl
theorem tw_co_X1_beginsPage : (.code yX1_beginsPage cX1_beginsPage 2 (some .boolean) : Cond) ∈ ps_T := ps_mem 177 (by decide +kernel) rfl
theorem tw_ml_X2_107 : (.methodLink RX2 107 yX0_size : Cond) ∈ ps_T := ps_mem 178 (by decide +kernel) rfl
theorem tw_im_X0_size : (.instanceMethod yX0_size : Cond) ∈ ps_T := ps_mem 179 (by decide +kernel) rfl
theorem tw_se_X0_size : (.selects RX0 yX0_size yX0_size : Cond) ∈ ps_T := ps_mem 180 (by decide +kernel) rfl
theorem tw_co_X0_size : (.code yX0_size cX0_size 1 (some .int) : Cond) ∈ ps_T := ps_mem 181 (by decide +kernel) rfl
theorem tw_ml_L_122 : (.methodLink RL 122 yX2_rank : Cond) ∈ ps_T := ps_mem 182 (by decide +kernel) rfl
theorem tw_im_X2_rank : (.instanceMethod yX2_rank : Cond) ∈ ps_T := ps_mem 183 (by decide +kernel) rfl
theorem tw_se_X2_rank : (.selects RX2 yX2_rank yX2_rank : Cond) ∈ ps_T := ps_mem 184 (by decide +kernel) rfl
theorem tw_co_X2_rank : (.code yX2_rank cX2_rank 2 (some .long) : Cond) ∈ ps_T := ps_mem 185 (by decide +kernel) rfl
theorem tw_ml_X2_170 : (.methodLink RX2 170 yX2_rankOf : Cond) ∈ ps_T := ps_mem 186 (by decide +kernel) rfl
theorem tw_st_X2_rankOf : (.static yX2_rankOf : Cond) ∈ ps_T := ps_mem 187 (by decide +kernel) rfl
theorem tw_co_X2_rankOf : (.code yX2_rankOf cX2_rankOf 3 (some .long) : Cond) ∈ ps_T := ps_mem 188 (by decide +kernel) rfl
theorem tw_kc_X2_174 : (.constant RX2 174 (-1640531535) : Cond) ∈ ps_T := ps_mem 189 (by decide +kernel) rfl
theorem tw_kl_X2_175 : (.constantLong RX2 175 (4294967295) : Cond) ∈ ps_T := ps_mem 190 (by decide +kernel) rfl
theorem tw_ml_L_65 : (.methodLink RL 65 yL_add : Cond) ∈ ps_T := ps_mem 191 (by decide +kernel) rfl
theorem tw_st_L_add : (.static yL_add : Cond) ∈ ps_T := ps_mem 192 (by decide +kernel) rfl
theorem tw_cw_L_add : (.codeWith yL_add cL_add 8 (some .int) hhL_add : Cond) ∈ ps_T := ps_mem 193 (by decide +kernel) rfl
theorem tw_cl_L_13 : (.classLink RL 13 "java/lang/IllegalArgumentException" : Cond) ∈ ps_T := ps_mem 194 (by decide +kernel) rfl
theorem tw_cl_L_15 : (.classLink RL 15 "java/lang/IllegalStateException" : Cond) ∈ ps_T := ps_mem 195 (by decide +kernel) rfl
theorem tw_ml_L_7 : (.methodLink RL 7 yX2_add : Cond) ∈ ps_T := ps_mem 196 (by decide +kernel) rfl
theorem tw_im_X2_add : (.instanceMethod yX2_add : Cond) ∈ ps_T := ps_mem 197 (by decide +kernel) rfl
theorem tw_se_X2_add : (.selects RX2 yX2_add yX2_add : Cond) ∈ ps_T := ps_mem 198 (by decide +kernel) rfl
theorem tw_co_X2_add : (.code yX2_add cX2_add 6 (some .int) : Cond) ∈ ps_T := ps_mem 199 (by decide +kernel) rfl
theorem tw_ml_X2_30 : (.methodLink RX2 30 yX2_requirePlace : Cond) ∈ ps_T := ps_mem 200 (by decide +kernel) rfl
theorem tw_st_X2_requirePlace : (.static yX2_requirePlace : Cond) ∈ ps_T := ps_mem 201 (by decide +kernel) rfl
theorem tw_co_X2_requirePlace : (.code yX2_requirePlace cX2_requirePlace 3 none : Cond) ∈ ps_T := ps_mem 202 (by decide +kernel) rfl
theorem tw_ml_X2_177 : (.methodLink RX2 177 yX2_isCoordinate : Cond) ∈ ps_T := ps_mem 203 (by decide +kernel) rfl
theorem tw_st_X2_isCoordinate : (.static yX2_isCoordinate : Cond) ∈ ps_T := ps_mem 204 (by decide +kernel) rfl
theorem tw_co_X2_isCoordinate : (.code yX2_isCoordinate cX2_isCoordinate 1 (some .boolean) : Cond) ∈ ps_T := ps_mem 205 (by decide +kernel) rfl
theorem tw_cl_X2_72 : (.classLink RX2 72 "java/lang/IllegalArgumentException" : Cond) ∈ ps_T := ps_mem 206 (by decide +kernel) rfl
theorem tw_it_IllegalArgumentException : (.instantiable "java/lang/IllegalArgumentException" 6 : Cond) ∈ ps_T := ps_mem 207 (by decide +kernel) rfl
theorem tw_se_Throwable_fillInStackTrace : (.selects "java/lang/IllegalArgumentException" ⟨"java/lang/Throwable", "fillInStackTrace", "(I)Ljava/lang/Throwable;"⟩ ⟨"java/lang/Throwable", "fillInStackTrace", "(I)Ljava/lang/Throwable;"⟩ : Cond) ∈ ps_T := ps_mem 215 (by decide +kernel) rfl
theorem tw_fl_Throwable_198 : (.fieldLink "java/lang/Throwable" 198 "java/lang/Throwable" "backtrace" "Ljava/lang/Object;" : Cond) ∈ ps_T := ps_mem 227 (by decide +kernel) rfl
theorem tw_im_Throwable_init : (.instanceMethod ⟨"java/lang/Throwable", "<init>", "()V"⟩ : Cond) ∈ ps_T := ps_mem 229 (by decide +kernel) rfl
theorem tw_ml_Throwable_1 : (.methodLink "java/lang/Throwable" 1 objectInit : Cond) ∈ ps_T := ps_mem 231 (by decide +kernel) rfl
theorem tw_fl_Throwable_13 : (.fieldLink "java/lang/Throwable" 13 "java/lang/Throwable" "UNASSIGNED_STACK" "[Ljava/lang/StackTraceElement;" : Cond) ∈ ps_T := ps_mem 232 (by decide +kernel) rfl
theorem tw_fl_Throwable_20 : (.fieldLink "java/lang/Throwable" 20 "java/lang/Throwable" "SUPPRESSED_SENTINEL" "Ljava/util/List;" : Cond) ∈ ps_T := ps_mem 234 (by decide +kernel) rfl
theorem tw_ml_Throwable_27 : (.methodLink "java/lang/Throwable" 27 ⟨"java/lang/Throwable", "fillInStackTrace", "()Ljava/lang/Throwable;"⟩ : Cond) ∈ ps_T := ps_mem 236 (by decide +kernel) rfl
theorem tw_im_Throwable_fillInStackTrace : (.instanceMethod ⟨"java/lang/Throwable", "fillInStackTrace", "()Ljava/lang/Throwable;"⟩ : Cond) ∈ ps_T := ps_mem 237 (by decide +kernel) rfl
theorem tw_ml_Throwable_202 : (.methodLink "java/lang/Throwable" 202 ⟨"java/lang/Throwable", "fillInStackTrace", "(I)Ljava/lang/Throwable;"⟩ : Cond) ∈ ps_T := ps_mem 243 (by decide +kernel) rfl
theorem tw_it_Throwable : (.instantiable "java/lang/Throwable" 6 : Cond) ∈ ps_T := ps_mem 246 (by decide +kernel) rfl
theorem tw_na_Throwable_fillInStackTrace : (.native ⟨"java/lang/Throwable", "fillInStackTrace", "(I)Ljava/lang/Throwable;"⟩ : Cond) ∈ ps_T := ps_mem 247 (by decide +kernel) rfl
theorem tw_ml_X2_76 : (.methodLink RX2 76 ⟨"java/lang/IllegalArgumentException", "<init>", "(Ljava/lang/String;)V"⟩ : Cond) ∈ ps_T := ps_mem 249 (by decide +kernel) rfl
theorem tw_im_IllegalArgumentException_init : (.instanceMethod ⟨"java/lang/IllegalArgumentException", "<init>", "(Ljava/lang/String;)V"⟩ : Cond) ∈ ps_T := ps_mem 250 (by decide +kernel) rfl
theorem tw_ml_IllegalArgumentException_7 : (.methodLink "java/lang/IllegalArgumentException" 7 ⟨"java/lang/RuntimeException", "<init>", "(Ljava/lang/String;)V"⟩ : Cond) ∈ ps_T := ps_mem 252 (by decide +kernel) rfl
theorem tw_im_RuntimeException_init : (.instanceMethod ⟨"java/lang/RuntimeException", "<init>", "(Ljava/lang/String;)V"⟩ : Cond) ∈ ps_T := ps_mem 253 (by decide +kernel) rfl
theorem tw_ml_RuntimeException_7 : (.methodLink "java/lang/RuntimeException" 7 ⟨"java/lang/Exception", "<init>", "(Ljava/lang/String;)V"⟩ : Cond) ∈ ps_T := ps_mem 255 (by decide +kernel) rfl
theorem tw_im_Exception_init : (.instanceMethod ⟨"java/lang/Exception", "<init>", "(Ljava/lang/String;)V"⟩ : Cond) ∈ ps_T := ps_mem 256 (by decide +kernel) rfl
theorem tw_ml_Exception_7 : (.methodLink "java/lang/Exception" 7 ⟨"java/lang/Throwable", "<init>", "(Ljava/lang/String;)V"⟩ : Cond) ∈ ps_T := ps_mem 258 (by decide +kernel) rfl
theorem tw_fl_Throwable_31 : (.fieldLink "java/lang/Throwable" 31 "java/lang/Throwable" "detailMessage" "Ljava/lang/String;" : Cond) ∈ ps_T := ps_mem 262 (by decide +kernel) rfl
theorem tw_fl_Throwable_7 : (.fieldLink "java/lang/Throwable" 7 "java/lang/Throwable" "cause" "Ljava/lang/Throwable;" : Cond) ∈ ps_T := ps_mem 263 (by decide +kernel) rfl
theorem tw_fl_Throwable_17 : (.fieldLink "java/lang/Throwable" 17 "java/lang/Throwable" "stackTrace" "[Ljava/lang/StackTraceElement;" : Cond) ∈ ps_T := ps_mem 264 (by decide +kernel) rfl
theorem tw_fl_Throwable_24 : (.fieldLink "java/lang/Throwable" 24 "java/lang/Throwable" "suppressedExceptions" "Ljava/util/List;" : Cond) ∈ ps_T := ps_mem 265 (by decide +kernel) rfl
theorem tw_ac_byte : (.arrayClass .byte : Cond) ∈ ps_T := ps_mem 274 (by decide +kernel) rfl
theorem tw_ml_X2_34 : (.methodLink RX2 34 yX1_find : Cond) ∈ ps_T := ps_mem 275 (by decide +kernel) rfl
theorem tw_im_X1_find : (.instanceMethod yX1_find : Cond) ∈ ps_T := ps_mem 276 (by decide +kernel) rfl
theorem tw_se_X1_find : (.selects RX1 yX1_find yX1_find : Cond) ∈ ps_T := ps_mem 277 (by decide +kernel) rfl
theorem tw_co_X1_find : (.code yX1_find cX1_find 3 (some .int) : Cond) ∈ ps_T := ps_mem 278 (by decide +kernel) rfl
theorem tw_cl_X2_38 : (.classLink RX2 38 "java/lang/IllegalStateException" : Cond) ∈ ps_T := ps_mem 279 (by decide +kernel) rfl
theorem tw_it_IllegalStateException : (.instantiable "java/lang/IllegalStateException" 6 : Cond) ∈ ps_T := ps_mem 280 (by decide +kernel) rfl
theorem tw_ml_X2_42 : (.methodLink RX2 42 ⟨"java/lang/IllegalStateException", "<init>", "(Ljava/lang/String;)V"⟩ : Cond) ∈ ps_T := ps_mem 289 (by decide +kernel) rfl
theorem tw_im_IllegalStateException_init : (.instanceMethod ⟨"java/lang/IllegalStateException", "<init>", "(Ljava/lang/String;)V"⟩ : Cond) ∈ ps_T := ps_mem 290 (by decide +kernel) rfl
theorem tw_ml_IllegalStateException_7 : (.methodLink "java/lang/IllegalStateException" 7 ⟨"java/lang/RuntimeException", "<init>", "(Ljava/lang/String;)V"⟩ : Cond) ∈ ps_T := ps_mem 292 (by decide +kernel) rfl
theorem tw_ml_X2_51 : (.methodLink RX2 51 yX1_insert : Cond) ∈ ps_T := ps_mem 296 (by decide +kernel) rfl
theorem tw_im_X1_insert : (.instanceMethod yX1_insert : Cond) ∈ ps_T := ps_mem 297 (by decide +kernel) rfl
theorem tw_se_X1_insert : (.selects RX1 yX1_insert yX1_insert : Cond) ∈ ps_T := ps_mem 298 (by decide +kernel) rfl
theorem tw_co_X1_insert : (.code yX1_insert cX1_insert 7 (some .int) : Cond) ∈ ps_T := ps_mem 299 (by decide +kernel) rfl
theorem tw_ml_X1_49 : (.methodLink RX1 49 yX1_pointsAbove : Cond) ∈ ps_T := ps_mem 301 (by decide +kernel) rfl
theorem tw_im_X1_pointsAbove : (.instanceMethod yX1_pointsAbove : Cond) ∈ ps_T := ps_mem 303 (by decide +kernel) rfl
theorem tw_co_X1_pointsAbove : (.code yX1_pointsAbove cX1_pointsAbove 5 (some .int) : Cond) ∈ ps_T := ps_mem 304 (by decide +kernel) rfl
theorem tw_ml_X1_53 : (.methodLink RX1 53 yX1_moveTail : Cond) ∈ ps_T := ps_mem 305 (by decide +kernel) rfl
theorem tw_im_X1_moveTail : (.instanceMethod yX1_moveTail : Cond) ∈ ps_T := ps_mem 307 (by decide +kernel) rfl
theorem tw_co_X1_moveTail : (.code yX1_moveTail cX1_moveTail 4 none : Cond) ∈ ps_T := ps_mem 308 (by decide +kernel) rfl
theorem tw_ml_X1_57 : (.methodLink RX1 57 yX1_settleFrom : Cond) ∈ ps_T := ps_mem 309 (by decide +kernel) rfl
theorem tw_im_X1_settleFrom : (.instanceMethod yX1_settleFrom : Cond) ∈ ps_T := ps_mem 311 (by decide +kernel) rfl
theorem tw_co_X1_settleFrom : (.code yX1_settleFrom cX1_settleFrom 3 none : Cond) ∈ ps_T := ps_mem 312 (by decide +kernel) rfl
theorem tw_ml_X1_87 : (.methodLink RX1 87 yX1_settle : Cond) ∈ ps_T := ps_mem 313 (by decide +kernel) rfl
theorem tw_im_X1_settle : (.instanceMethod yX1_settle : Cond) ∈ ps_T := ps_mem 315 (by decide +kernel) rfl
theorem tw_co_X1_settle : (.code yX1_settle cX1_settle 4 none : Cond) ∈ ps_T := ps_mem 316 (by decide +kernel) rfl
theorem tw_ml_X1_90 : (.methodLink RX1 90 yX1_keptBefore : Cond) ∈ ps_T := ps_mem 317 (by decide +kernel) rfl
theorem tw_im_X1_keptBefore : (.instanceMethod yX1_keptBefore : Cond) ∈ ps_T := ps_mem 319 (by decide +kernel) rfl
theorem tw_co_X1_keptBefore : (.code yX1_keptBefore cX1_keptBefore 8 (some .int) : Cond) ∈ ps_T := ps_mem 320 (by decide +kernel) rfl
theorem tw_st_X2_cubeIndex : (.static yX2_cubeIndex : Cond) ∈ ps_T := ps_mem 322 (by decide +kernel) rfl
theorem tw_co_X2_cubeIndex : (.code yX2_cubeIndex cX2_cubeIndex 2 (some .int) : Cond) ∈ ps_T := ps_mem 323 (by decide +kernel) rfl
theorem tw_ml_X1_41 : (.methodLink RX1 41 yX1_isInCube : Cond) ∈ ps_T := ps_mem 324 (by decide +kernel) rfl
theorem tw_im_X1_isInCube : (.instanceMethod yX1_isInCube : Cond) ∈ ps_T := ps_mem 326 (by decide +kernel) rfl
theorem tw_co_X1_isInCube : (.code yX1_isInCube cX1_isInCube 6 (some .boolean) : Cond) ∈ ps_T := ps_mem 327 (by decide +kernel) rfl
theorem tw_ml_X2_55 : (.methodLink RX2 55 yX1_depthOf : Cond) ∈ ps_T := ps_mem 328 (by decide +kernel) rfl
theorem tw_im_X1_depthOf : (.instanceMethod yX1_depthOf : Cond) ∈ ps_T := ps_mem 329 (by decide +kernel) rfl
theorem tw_se_X1_depthOf : (.selects RX1 yX1_depthOf yX1_depthOf : Cond) ∈ ps_T := ps_mem 330 (by decide +kernel) rfl
theorem tw_co_X1_depthOf : (.code yX1_depthOf cX1_depthOf 2 (some .int) : Cond) ∈ ps_T := ps_mem 331 (by decide +kernel) rfl
theorem tw_ml_L_74 : (.methodLink RL 74 yL_remove : Cond) ∈ ps_T := ps_mem 332 (by decide +kernel) rfl
theorem tw_st_L_remove : (.static yL_remove : Cond) ∈ ps_T := ps_mem 333 (by decide +kernel) rfl
theorem tw_cw_L_remove : (.codeWith yL_remove cL_remove 4 (some .int) hhL_remove : Cond) ∈ ps_T := ps_mem 334 (by decide +kernel) rfl
theorem tw_cl_L_21 : (.classLink RL 21 "java/util/NoSuchElementException" : Cond) ∈ ps_T := ps_mem 335 (by decide +kernel) rfl
theorem tw_ml_L_17 : (.methodLink RL 17 yX2_remove : Cond) ∈ ps_T := ps_mem 336 (by decide +kernel) rfl
theorem tw_im_X2_remove : (.instanceMethod yX2_remove : Cond) ∈ ps_T := ps_mem 337 (by decide +kernel) rfl
theorem tw_se_X2_remove : (.selects RX2 yX2_remove yX2_remove : Cond) ∈ ps_T := ps_mem 338 (by decide +kernel) rfl
theorem tw_co_X2_remove : (.code yX2_remove cX2_remove 4 (some .int) : Cond) ∈ ps_T := ps_mem 339 (by decide +kernel) rfl
theorem tw_ml_X2_58 : (.methodLink RX2 58 yX2_findPoint : Cond) ∈ ps_T := ps_mem 340 (by decide +kernel) rfl
theorem tw_im_X2_findPoint : (.instanceMethod yX2_findPoint : Cond) ∈ ps_T := ps_mem 342 (by decide +kernel) rfl
theorem tw_co_X2_findPoint : (.code yX2_findPoint cX2_findPoint 3 (some .int) : Cond) ∈ ps_T := ps_mem 343 (by decide +kernel) rfl
theorem tw_cl_X2_113 : (.classLink RX2 113 "java/util/NoSuchElementException" : Cond) ∈ ps_T := ps_mem 344 (by decide +kernel) rfl
theorem tw_it_NoSuchElementException : (.instantiable "java/util/NoSuchElementException" 6 : Cond) ∈ ps_T := ps_mem 345 (by decide +kernel) rfl
theorem tw_ml_X2_117 : (.methodLink RX2 117 ⟨"java/util/NoSuchElementException", "<init>", "(Ljava/lang/String;)V"⟩ : Cond) ∈ ps_T := ps_mem 354 (by decide +kernel) rfl
theorem tw_im_NoSuchElementException_init : (.instanceMethod ⟨"java/util/NoSuchElementException", "<init>", "(Ljava/lang/String;)V"⟩ : Cond) ∈ ps_T := ps_mem 355 (by decide +kernel) rfl
theorem tw_ml_NoSuchElementException_13 : (.methodLink "java/util/NoSuchElementException" 13 ⟨"java/lang/RuntimeException", "<init>", "(Ljava/lang/String;)V"⟩ : Cond) ∈ ps_T := ps_mem 357 (by decide +kernel) rfl
theorem tw_ml_X2_61 : (.methodLink RX2 61 yX1_delete : Cond) ∈ ps_T := ps_mem 360 (by decide +kernel) rfl
theorem tw_im_X1_delete : (.instanceMethod yX1_delete : Cond) ∈ ps_T := ps_mem 361 (by decide +kernel) rfl
theorem tw_se_X1_delete : (.selects RX1 yX1_delete yX1_delete : Cond) ∈ ps_T := ps_mem 362 (by decide +kernel) rfl
theorem tw_co_X1_delete : (.code yX1_delete cX1_delete 2 none : Cond) ∈ ps_T := ps_mem 363 (by decide +kernel) rfl
theorem tw_ml_L_78 : (.methodLink RL 78 yL_recolour : Cond) ∈ ps_T := ps_mem 364 (by decide +kernel) rfl
theorem tw_st_L_recolour : (.static yL_recolour : Cond) ∈ ps_T := ps_mem 365 (by decide +kernel) rfl
theorem tw_cw_L_recolour : (.codeWith yL_recolour cL_recolour 5 (some .int) hhL_recolour : Cond) ∈ ps_T := ps_mem 366 (by decide +kernel) rfl
theorem tw_ml_L_23 : (.methodLink RL 23 yX2_recolour : Cond) ∈ ps_T := ps_mem 367 (by decide +kernel) rfl
theorem tw_im_X2_recolour : (.instanceMethod yX2_recolour : Cond) ∈ ps_T := ps_mem 368 (by decide +kernel) rfl
theorem tw_se_X2_recolour : (.selects RX2 yX2_recolour yX2_recolour : Cond) ∈ ps_T := ps_mem 369 (by decide +kernel) rfl
theorem tw_co_X2_recolour : (.code yX2_recolour cX2_recolour 5 (some .int) : Cond) ∈ ps_T := ps_mem 370 (by decide +kernel) rfl
theorem tw_ml_X2_65 : (.methodLink RX2 65 yX1_colourOf : Cond) ∈ ps_T := ps_mem 371 (by decide +kernel) rfl
theorem tw_im_X1_colourOf : (.instanceMethod yX1_colourOf : Cond) ∈ ps_T := ps_mem 372 (by decide +kernel) rfl
theorem tw_se_X1_colourOf : (.selects RX1 yX1_colourOf yX1_colourOf : Cond) ∈ ps_T := ps_mem 373 (by decide +kernel) rfl
theorem tw_co_X1_colourOf : (.code yX1_colourOf cX1_colourOf 2 (some .int) : Cond) ∈ ps_T := ps_mem 374 (by decide +kernel) rfl
theorem tw_ml_X2_68 : (.methodLink RX2 68 yX1_setColour : Cond) ∈ ps_T := ps_mem 375 (by decide +kernel) rfl
theorem tw_im_X1_setColour : (.instanceMethod yX1_setColour : Cond) ∈ ps_T := ps_mem 376 (by decide +kernel) rfl
theorem tw_se_X1_setColour : (.selects RX1 yX1_setColour yX1_setColour : Cond) ∈ ps_T := ps_mem 377 (by decide +kernel) rfl
theorem tw_co_X1_setColour : (.code yX1_setColour cX1_setColour 3 none : Cond) ∈ ps_T := ps_mem 378 (by decide +kernel) rfl
theorem tw_ml_L_82 : (.methodLink RL 82 yL_field : Cond) ∈ ps_T := ps_mem 379 (by decide +kernel) rfl
theorem tw_st_L_field : (.static yL_field : Cond) ∈ ps_T := ps_mem 380 (by decide +kernel) rfl
theorem tw_cw_L_field : (.codeWith yL_field cL_field 5 (some .int) hhL_field : Cond) ∈ ps_T := ps_mem 381 (by decide +kernel) rfl
theorem tw_ml_L_27 : (.methodLink RL 27 yX2_field : Cond) ∈ ps_T := ps_mem 382 (by decide +kernel) rfl
theorem tw_im_X2_field : (.instanceMethod yX2_field : Cond) ∈ ps_T := ps_mem 383 (by decide +kernel) rfl
theorem tw_se_X2_field : (.selects RX2 yX2_field yX2_field : Cond) ∈ ps_T := ps_mem 384 (by decide +kernel) rfl
theorem tw_co_X2_field : (.code yX2_field cX2_field 4 (some .int) : Cond) ∈ ps_T := ps_mem 385 (by decide +kernel) rfl
theorem tw_ml_X2_77 : (.methodLink RX2 77 yX1_xOf : Cond) ∈ ps_T := ps_mem 387 (by decide +kernel) rfl
theorem tw_im_X1_xOf : (.instanceMethod yX1_xOf : Cond) ∈ ps_T := ps_mem 388 (by decide +kernel) rfl
theorem tw_se_X1_xOf : (.selects RX1 yX1_xOf yX1_xOf : Cond) ∈ ps_T := ps_mem 389 (by decide +kernel) rfl
theorem tw_co_X1_xOf : (.code yX1_xOf cX1_xOf 2 (some .int) : Cond) ∈ ps_T := ps_mem 390 (by decide +kernel) rfl
theorem tw_ml_X2_80 : (.methodLink RX2 80 yX1_yOf : Cond) ∈ ps_T := ps_mem 391 (by decide +kernel) rfl
theorem tw_im_X1_yOf : (.instanceMethod yX1_yOf : Cond) ∈ ps_T := ps_mem 392 (by decide +kernel) rfl
theorem tw_se_X1_yOf : (.selects RX1 yX1_yOf yX1_yOf : Cond) ∈ ps_T := ps_mem 393 (by decide +kernel) rfl
theorem tw_co_X1_yOf : (.code yX1_yOf cX1_yOf 2 (some .int) : Cond) ∈ ps_T := ps_mem 394 (by decide +kernel) rfl
theorem tw_ml_X2_83 : (.methodLink RX2 83 yX1_zOf : Cond) ∈ ps_T := ps_mem 395 (by decide +kernel) rfl
theorem tw_im_X1_zOf : (.instanceMethod yX1_zOf : Cond) ∈ ps_T := ps_mem 396 (by decide +kernel) rfl
theorem tw_se_X1_zOf : (.selects RX1 yX1_zOf yX1_zOf : Cond) ∈ ps_T := ps_mem 397 (by decide +kernel) rfl
theorem tw_co_X1_zOf : (.code yX1_zOf cX1_zOf 2 (some .int) : Cond) ∈ ps_T := ps_mem 398 (by decide +kernel) rfl
theorem tw_ml_L_85 : (.methodLink RL 85 yL_corner : Cond) ∈ ps_T := ps_mem 399 (by decide +kernel) rfl
theorem tw_st_L_corner : (.static yL_corner : Cond) ∈ ps_T := ps_mem 400 (by decide +kernel) rfl
theorem tw_cw_L_corner : (.codeWith yL_corner cL_corner 5 (some .int) hhL_corner : Cond) ∈ ps_T := ps_mem 401 (by decide +kernel) rfl
theorem tw_ml_L_30 : (.methodLink RL 30 yX2_corner : Cond) ∈ ps_T := ps_mem 402 (by decide +kernel) rfl
theorem tw_im_X2_corner : (.instanceMethod yX2_corner : Cond) ∈ ps_T := ps_mem 403 (by decide +kernel) rfl
theorem tw_se_X2_corner : (.selects RX2 yX2_corner yX2_corner : Cond) ∈ ps_T := ps_mem 404 (by decide +kernel) rfl
theorem tw_co_X2_corner : (.code yX2_corner cX2_corner 4 none : Cond) ∈ ps_T := ps_mem 405 (by decide +kernel) rfl
theorem tw_ml_L_89 : (.methodLink RL 89 yL_box : Cond) ∈ ps_T := ps_mem 406 (by decide +kernel) rfl
theorem tw_st_L_box : (.static yL_box : Cond) ∈ ps_T := ps_mem 407 (by decide +kernel) rfl
theorem tw_cw_L_box : (.codeWith yL_box cL_box 7 (some .int) hhL_box : Cond) ∈ ps_T := ps_mem 408 (by decide +kernel) rfl
theorem tw_ml_L_34 : (.methodLink RL 34 yX2_box : Cond) ∈ ps_T := ps_mem 409 (by decide +kernel) rfl
theorem tw_im_X2_box : (.instanceMethod yX2_box : Cond) ∈ ps_T := ps_mem 410 (by decide +kernel) rfl
theorem tw_se_X2_box : (.selects RX2 yX2_box yX2_box : Cond) ∈ ps_T := ps_mem 411 (by decide +kernel) rfl
theorem tw_co_X2_box : (.code yX2_box cX2_box 6 (some .int) : Cond) ∈ ps_T := ps_mem 412 (by decide +kernel) rfl
theorem tw_ml_X2_89 : (.methodLink RX2 89 yX2_isDepth : Cond) ∈ ps_T := ps_mem 413 (by decide +kernel) rfl
theorem tw_st_X2_isDepth : (.static yX2_isDepth : Cond) ∈ ps_T := ps_mem 414 (by decide +kernel) rfl
theorem tw_co_X2_isDepth : (.code yX2_isDepth cX2_isDepth 1 (some .boolean) : Cond) ∈ ps_T := ps_mem 415 (by decide +kernel) rfl
theorem tw_ml_X2_98 : (.methodLink RX2 98 yX2_isInBox : Cond) ∈ ps_T := ps_mem 417 (by decide +kernel) rfl
theorem tw_im_X2_isInBox : (.instanceMethod yX2_isInBox : Cond) ∈ ps_T := ps_mem 419 (by decide +kernel) rfl
theorem tw_co_X2_isInBox : (.code yX2_isInBox cX2_isInBox 5 (some .boolean) : Cond) ∈ ps_T := ps_mem 420 (by decide +kernel) rfl
theorem tw_ml_X2_198 : (.methodLink RX2 198 yX2_isBetween : Cond) ∈ ps_T := ps_mem 421 (by decide +kernel) rfl
theorem tw_st_X2_isBetween : (.static yX2_isBetween : Cond) ∈ ps_T := ps_mem 422 (by decide +kernel) rfl
theorem tw_co_X2_isBetween : (.code yX2_isBetween cX2_isBetween 3 (some .boolean) : Cond) ∈ ps_T := ps_mem 423 (by decide +kernel) rfl
theorem tw_ml_X2_186 : (.methodLink RX2 186 Lib.Math.min.name : Cond) ∈ ps_T := ps_mem 424 (by decide +kernel) rfl
theorem tw_st_Math_min : (.static Lib.Math.min.name : Cond) ∈ ps_T := ps_mem 425 (by decide +kernel) rfl
theorem tw_co_Math_min : (.code Lib.Math.min.name Lib.Math.min.code 2 (some .int) : Cond) ∈ ps_T := ps_mem 426 (by decide +kernel) rfl
theorem tw_ml_X2_192 : (.methodLink RX2 192 Lib.Math.max.name : Cond) ∈ ps_T := ps_mem 427 (by decide +kernel) rfl
theorem tw_st_Math_max : (.static Lib.Math.max.name : Cond) ∈ ps_T := ps_mem 428 (by decide +kernel) rfl
theorem tw_co_Math_max : (.code Lib.Math.max.name Lib.Math.max.code 2 (some .int) : Cond) ∈ ps_T := ps_mem 429 (by decide +kernel) rfl
theorem tw_ml_X2_102 : (.methodLink RX2 102 yX1_idOf : Cond) ∈ ps_T := ps_mem 430 (by decide +kernel) rfl
theorem tw_im_X1_idOf : (.instanceMethod yX1_idOf : Cond) ∈ ps_T := ps_mem 431 (by decide +kernel) rfl
theorem tw_se_X1_idOf : (.selects RX1 yX1_idOf yX1_idOf : Cond) ∈ ps_T := ps_mem 432 (by decide +kernel) rfl
theorem tw_co_X1_idOf : (.code yX1_idOf cX1_idOf 2 (some .int) : Cond) ∈ ps_T := ps_mem 433 (by decide +kernel) rfl
theorem tw_ml_X2_105 : (.methodLink RX2 105 yX0_insert : Cond) ∈ ps_T := ps_mem 434 (by decide +kernel) rfl
theorem tw_im_X0_insert : (.instanceMethod yX0_insert : Cond) ∈ ps_T := ps_mem 435 (by decide +kernel) rfl
theorem tw_se_X0_insert : (.selects RX0 yX0_insert yX0_insert : Cond) ∈ ps_T := ps_mem 436 (by decide +kernel) rfl
theorem tw_co_X0_insert : (.code yX0_insert cX0_insert 3 none : Cond) ∈ ps_T := ps_mem 437 (by decide +kernel) rfl
theorem tw_ml_L_93 : (.methodLink RL 93 yL_next : Cond) ∈ ps_T := ps_mem 438 (by decide +kernel) rfl
theorem tw_st_L_next : (.static yL_next : Cond) ∈ ps_T := ps_mem 439 (by decide +kernel) rfl
theorem tw_cw_L_next : (.codeWith yL_next cL_next 3 (some .int) hhL_next : Cond) ∈ ps_T := ps_mem 440 (by decide +kernel) rfl
theorem tw_ml_L_38 : (.methodLink RL 38 yX2_next : Cond) ∈ ps_T := ps_mem 441 (by decide +kernel) rfl
theorem tw_im_X2_next : (.instanceMethod yX2_next : Cond) ∈ ps_T := ps_mem 442 (by decide +kernel) rfl
theorem tw_se_X2_next : (.selects RX2 yX2_next yX2_next : Cond) ∈ ps_T := ps_mem 443 (by decide +kernel) rfl
theorem tw_co_X2_next : (.code yX2_next cX2_next 1 (some .int) : Cond) ∈ ps_T := ps_mem 444 (by decide +kernel) rfl
theorem tw_ml_X2_108 : (.methodLink RX2 108 yX0_takeFirst : Cond) ∈ ps_T := ps_mem 445 (by decide +kernel) rfl
theorem tw_im_X0_takeFirst : (.instanceMethod yX0_takeFirst : Cond) ∈ ps_T := ps_mem 446 (by decide +kernel) rfl
theorem tw_se_X0_takeFirst : (.selects RX0 yX0_takeFirst yX0_takeFirst : Cond) ∈ ps_T := ps_mem 447 (by decide +kernel) rfl
theorem tw_co_X0_takeFirst : (.code yX0_takeFirst cX0_takeFirst 2 (some .int) : Cond) ∈ ps_T := ps_mem 448 (by decide +kernel) rfl
theorem tw_cl_X0_22 : (.classLink RX0 22 "java/util/NoSuchElementException" : Cond) ∈ ps_T := ps_mem 449 (by decide +kernel) rfl
theorem tw_ml_X0_26 : (.methodLink RX0 26 ⟨"java/util/NoSuchElementException", "<init>", "(Ljava/lang/String;)V"⟩ : Cond) ∈ ps_T := ps_mem 451 (by decide +kernel) rfl
theorem tw_ml_L_97 : (.methodLink RL 97 yL_count : Cond) ∈ ps_T := ps_mem 452 (by decide +kernel) rfl
theorem tw_st_L_count : (.static yL_count : Cond) ∈ ps_T := ps_mem 453 (by decide +kernel) rfl
theorem tw_cw_L_count : (.codeWith yL_count cL_count 6 (some .int) hhL_count : Cond) ∈ ps_T := ps_mem 454 (by decide +kernel) rfl
theorem tw_ml_L_42 : (.methodLink RL 42 yX2_count : Cond) ∈ ps_T := ps_mem 455 (by decide +kernel) rfl
theorem tw_im_X2_count : (.instanceMethod yX2_count : Cond) ∈ ps_T := ps_mem 456 (by decide +kernel) rfl
theorem tw_se_X2_count : (.selects RX2 yX2_count yX2_count : Cond) ∈ ps_T := ps_mem 457 (by decide +kernel) rfl
theorem tw_co_X2_count : (.code yX2_count cX2_count 6 (some .int) : Cond) ∈ ps_T := ps_mem 458 (by decide +kernel) rfl
theorem tw_ml_L_101 : (.methodLink RL 101 yL_nearest : Cond) ∈ ps_T := ps_mem 459 (by decide +kernel) rfl
theorem tw_st_L_nearest : (.static yL_nearest : Cond) ∈ ps_T := ps_mem 460 (by decide +kernel) rfl
theorem tw_cw_L_nearest : (.codeWith yL_nearest cL_nearest 7 (some .int) hhL_nearest : Cond) ∈ ps_T := ps_mem 461 (by decide +kernel) rfl
theorem tw_ml_L_46 : (.methodLink RL 46 yX2_nearest : Cond) ∈ ps_T := ps_mem 462 (by decide +kernel) rfl
theorem tw_im_X2_nearest : (.instanceMethod yX2_nearest : Cond) ∈ ps_T := ps_mem 463 (by decide +kernel) rfl
theorem tw_se_X2_nearest : (.selects RX2 yX2_nearest yX2_nearest : Cond) ∈ ps_T := ps_mem 464 (by decide +kernel) rfl
theorem tw_co_X2_nearest : (.code yX2_nearest cX2_nearest 5 (some .int) : Cond) ∈ ps_T := ps_mem 465 (by decide +kernel) rfl
theorem tw_ml_X2_118 : (.methodLink RX2 118 yX1_idByDistance : Cond) ∈ ps_T := ps_mem 468 (by decide +kernel) rfl
theorem tw_im_X1_idByDistance : (.instanceMethod yX1_idByDistance : Cond) ∈ ps_T := ps_mem 469 (by decide +kernel) rfl
theorem tw_se_X1_idByDistance : (.selects RX1 yX1_idByDistance yX1_idByDistance : Cond) ∈ ps_T := ps_mem 470 (by decide +kernel) rfl
theorem tw_co_X1_idByDistance : (.code yX1_idByDistance cX1_idByDistance 8 (some .int) : Cond) ∈ ps_T := ps_mem 471 (by decide +kernel) rfl
theorem tw_kl_X1_69 : (.constantLong RX1 69 (-9223372036854775808) : Cond) ∈ ps_T := ps_mem 472 (by decide +kernel) rfl
theorem tw_ml_X1_71 : (.methodLink RX1 71 yX1_leastKeyAbove : Cond) ∈ ps_T := ps_mem 473 (by decide +kernel) rfl
theorem tw_im_X1_leastKeyAbove : (.instanceMethod yX1_leastKeyAbove : Cond) ∈ ps_T := ps_mem 475 (by decide +kernel) rfl
theorem tw_co_X1_leastKeyAbove : (.code yX1_leastKeyAbove cX1_leastKeyAbove 11 (some .long) : Cond) ∈ ps_T := ps_mem 476 (by decide +kernel) rfl
theorem tw_kl_X1_105 : (.constantLong RX1 105 (9223372036854775807) : Cond) ∈ ps_T := ps_mem 477 (by decide +kernel) rfl
theorem tw_ml_X1_107 : (.methodLink RX1 107 yX1_distanceKey : Cond) ∈ ps_T := ps_mem 478 (by decide +kernel) rfl
theorem tw_im_X1_distanceKey : (.instanceMethod yX1_distanceKey : Cond) ∈ ps_T := ps_mem 480 (by decide +kernel) rfl
theorem tw_co_X1_distanceKey : (.code yX1_distanceKey cX1_distanceKey 8 (some .long) : Cond) ∈ ps_T := ps_mem 481 (by decide +kernel) rfl
theorem tw_kl_X1_111 : (.constantLong RX1 111 (4294967296) : Cond) ∈ ps_T := ps_mem 482 (by decide +kernel) rfl
theorem tw_ml_L_104 : (.methodLink RL 104 yL_kept : Cond) ∈ ps_T := ps_mem 483 (by decide +kernel) rfl
theorem tw_st_L_kept : (.static yL_kept : Cond) ∈ ps_T := ps_mem 484 (by decide +kernel) rfl
theorem tw_cw_L_kept : (.codeWith yL_kept cL_kept 8 (some .int) hhL_kept : Cond) ∈ ps_T := ps_mem 485 (by decide +kernel) rfl
theorem tw_ml_L_49 : (.methodLink RL 49 yX2_kept : Cond) ∈ ps_T := ps_mem 486 (by decide +kernel) rfl
theorem tw_im_X2_kept : (.instanceMethod yX2_kept : Cond) ∈ ps_T := ps_mem 487 (by decide +kernel) rfl
theorem tw_se_X2_kept : (.selects RX2 yX2_kept yX2_kept : Cond) ∈ ps_T := ps_mem 488 (by decide +kernel) rfl
theorem tw_co_X2_kept : (.code yX2_kept cX2_kept 7 (some .int) : Cond) ∈ ps_T := ps_mem 489 (by decide +kernel) rfl
theorem tw_ml_X2_122 : (.methodLink RX2 122 yX2_isCube : Cond) ∈ ps_T := ps_mem 490 (by decide +kernel) rfl
theorem tw_st_X2_isCube : (.static yX2_isCube : Cond) ∈ ps_T := ps_mem 491 (by decide +kernel) rfl
theorem tw_co_X2_isCube : (.code yX2_isCube cX2_isCube 4 (some .boolean) : Cond) ∈ ps_T := ps_mem 492 (by decide +kernel) rfl
theorem tw_ml_X2_182 : (.methodLink RX2 182 yX2_isCubeIndex : Cond) ∈ ps_T := ps_mem 493 (by decide +kernel) rfl
theorem tw_st_X2_isCubeIndex : (.static yX2_isCubeIndex : Cond) ∈ ps_T := ps_mem 494 (by decide +kernel) rfl
theorem tw_co_X2_isCubeIndex : (.code yX2_isCubeIndex cX2_isCubeIndex 2 (some .boolean) : Cond) ∈ ps_T := ps_mem 495 (by decide +kernel) rfl
theorem tw_ml_X2_127 : (.methodLink RX2 127 yX1_findKept : Cond) ∈ ps_T := ps_mem 497 (by decide +kernel) rfl
theorem tw_im_X1_findKept : (.instanceMethod yX1_findKept : Cond) ∈ ps_T := ps_mem 498 (by decide +kernel) rfl
theorem tw_se_X1_findKept : (.selects RX1 yX1_findKept yX1_findKept : Cond) ∈ ps_T := ps_mem 499 (by decide +kernel) rfl
theorem tw_co_X1_findKept : (.code yX1_findKept cX1_findKept 7 (some .int) : Cond) ∈ ps_T := ps_mem 500 (by decide +kernel) rfl
theorem tw_ml_L_107 : (.methodLink RL 107 yL_commit : Cond) ∈ ps_T := ps_mem 502 (by decide +kernel) rfl
theorem tw_st_L_commit : (.static yL_commit : Cond) ∈ ps_T := ps_mem 503 (by decide +kernel) rfl
theorem tw_cw_L_commit : (.codeWith yL_commit cL_commit 3 (some .int) hhL_commit : Cond) ∈ ps_T := ps_mem 504 (by decide +kernel) rfl
theorem tw_cl_L_55 : (.classLink RL 55 "java/lang/UnsupportedOperationException" : Cond) ∈ ps_T := ps_mem 505 (by decide +kernel) rfl
theorem tw_ml_L_52 : (.methodLink RL 52 yX2_commit : Cond) ∈ ps_T := ps_mem 506 (by decide +kernel) rfl
theorem tw_im_X2_commit : (.instanceMethod yX2_commit : Cond) ∈ ps_T := ps_mem 507 (by decide +kernel) rfl
theorem tw_se_X2_commit : (.selects RX2 yX2_commit yX2_commit : Cond) ∈ ps_T := ps_mem 508 (by decide +kernel) rfl
theorem tw_co_X2_commit : (.code yX2_commit cX2_commit 4 (some .int) : Cond) ∈ ps_T := ps_mem 509 (by decide +kernel) rfl
theorem tw_ml_X2_132 : (.methodLink RX2 132 yX1_markChanges : Cond) ∈ ps_T := ps_mem 510 (by decide +kernel) rfl
theorem tw_im_X1_markChanges : (.instanceMethod yX1_markChanges : Cond) ∈ ps_T := ps_mem 511 (by decide +kernel) rfl
theorem tw_se_X1_markChanges : (.selects RX1 yX1_markChanges yX1_markChanges : Cond) ∈ ps_T := ps_mem 512 (by decide +kernel) rfl
theorem tw_co_X1_markChanges : (.code yX1_markChanges cX1_markChanges 4 (some .int) : Cond) ∈ ps_T := ps_mem 513 (by decide +kernel) rfl
theorem tw_ml_X1_79 : (.methodLink RX1 79 yX1_keepsAlike : Cond) ∈ ps_T := ps_mem 514 (by decide +kernel) rfl
theorem tw_im_X1_keepsAlike : (.instanceMethod yX1_keepsAlike : Cond) ∈ ps_T := ps_mem 516 (by decide +kernel) rfl
theorem tw_co_X1_keepsAlike : (.code yX1_keepsAlike cX1_keepsAlike 4 (some .boolean) : Cond) ∈ ps_T := ps_mem 517 (by decide +kernel) rfl
theorem tw_ml_X1_97 : (.methodLink RX1 97 yX1_find : Cond) ∈ ps_T := ps_mem 518 (by decide +kernel) rfl
theorem tw_ml_X2_136 : (.methodLink RX2 136 yX1_pagesToWrite : Cond) ∈ ps_T := ps_mem 519 (by decide +kernel) rfl
theorem tw_im_X1_pagesToWrite : (.instanceMethod yX1_pagesToWrite : Cond) ∈ ps_T := ps_mem 520 (by decide +kernel) rfl
theorem tw_se_X1_pagesToWrite : (.selects RX1 yX1_pagesToWrite yX1_pagesToWrite : Cond) ∈ ps_T := ps_mem 521 (by decide +kernel) rfl
theorem tw_co_X1_pagesToWrite : (.code yX1_pagesToWrite cX1_pagesToWrite 4 (some .int) : Cond) ∈ ps_T := ps_mem 522 (by decide +kernel) rfl
theorem tw_ml_X1_83 : (.methodLink RX1 83 yX1_isNodeClean : Cond) ∈ ps_T := ps_mem 523 (by decide +kernel) rfl
theorem tw_im_X1_isNodeClean : (.instanceMethod yX1_isNodeClean : Cond) ∈ ps_T := ps_mem 525 (by decide +kernel) rfl
theorem tw_co_X1_isNodeClean : (.code yX1_isNodeClean cX1_isNodeClean 7 (some .boolean) : Cond) ∈ ps_T := ps_mem 526 (by decide +kernel) rfl
theorem tw_ml_X1_101 : (.methodLink RX1 101 yX1_hasChange : Cond) ∈ ps_T := ps_mem 527 (by decide +kernel) rfl
theorem tw_im_X1_hasChange : (.instanceMethod yX1_hasChange : Cond) ∈ ps_T := ps_mem 529 (by decide +kernel) rfl
theorem tw_co_X1_hasChange : (.code yX1_hasChange cX1_hasChange 6 (some .boolean) : Cond) ∈ ps_T := ps_mem 530 (by decide +kernel) rfl
theorem tw_ml_X2_144 : (.methodLink RX2 144 yX2_losePower : Cond) ∈ ps_T := ps_mem 532 (by decide +kernel) rfl
theorem tw_im_X2_losePower : (.instanceMethod yX2_losePower : Cond) ∈ ps_T := ps_mem 534 (by decide +kernel) rfl
theorem tw_co_X2_losePower : (.code yX2_losePower cX2_losePower 1 none : Cond) ∈ ps_T := ps_mem 535 (by decide +kernel) rfl
theorem tw_ml_X2_152 : (.methodLink RX2 152 yX2_writePages : Cond) ∈ ps_T := ps_mem 536 (by decide +kernel) rfl
theorem tw_im_X2_writePages : (.instanceMethod yX2_writePages : Cond) ∈ ps_T := ps_mem 538 (by decide +kernel) rfl
theorem tw_co_X2_writePages : (.code yX2_writePages cX2_writePages 2 none : Cond) ∈ ps_T := ps_mem 539 (by decide +kernel) rfl
theorem tw_cl_X2_147 : (.classLink RX2 147 "java/lang/UnsupportedOperationException" : Cond) ∈ ps_T := ps_mem 540 (by decide +kernel) rfl
theorem tw_it_UnsupportedOperationException : (.instantiable "java/lang/UnsupportedOperationException" 6 : Cond) ∈ ps_T := ps_mem 541 (by decide +kernel) rfl
theorem tw_ml_X2_151 : (.methodLink RX2 151 ⟨"java/lang/UnsupportedOperationException", "<init>", "(Ljava/lang/String;)V"⟩ : Cond) ∈ ps_T := ps_mem 550 (by decide +kernel) rfl
theorem tw_im_UnsupportedOperationException_init : (.instanceMethod ⟨"java/lang/UnsupportedOperationException", "<init>", "(Ljava/lang/String;)V"⟩ : Cond) ∈ ps_T := ps_mem 551 (by decide +kernel) rfl
theorem tw_ml_UnsupportedOperationException_7 : (.methodLink "java/lang/UnsupportedOperationException" 7 ⟨"java/lang/RuntimeException", "<init>", "(Ljava/lang/String;)V"⟩ : Cond) ∈ ps_T := ps_mem 553 (by decide +kernel) rfl
theorem tw_ml_L_110 : (.methodLink RL 110 yL_charge : Cond) ∈ ps_T := ps_mem 556 (by decide +kernel) rfl
theorem tw_st_L_charge : (.static yL_charge : Cond) ∈ ps_T := ps_mem 557 (by decide +kernel) rfl
theorem tw_cw_L_charge : (.codeWith yL_charge cL_charge 3 (some .int) hhL_charge : Cond) ∈ ps_T := ps_mem 558 (by decide +kernel) rfl
theorem tw_ml_L_57 : (.methodLink RL 57 yX2_charge : Cond) ∈ ps_T := ps_mem 559 (by decide +kernel) rfl
theorem tw_im_X2_charge : (.instanceMethod yX2_charge : Cond) ∈ ps_T := ps_mem 560 (by decide +kernel) rfl
theorem tw_se_X2_charge : (.selects RX2 yX2_charge yX2_charge : Cond) ∈ ps_T := ps_mem 561 (by decide +kernel) rfl
theorem tw_co_X2_charge : (.code yX2_charge cX2_charge 2 none : Cond) ∈ ps_T := ps_mem 562 (by decide +kernel) rfl
theorem tw_cl_L_62 : (.classLink RL 62 RX3 : Cond) ∈ ps_T := ps_mem 564 (by decide +kernel) rfl
theorem tw_it_X3 : (.instantiable RX3 17 : Cond) ∈ ps_T := ps_mem 565 (by decide +kernel) rfl
theorem tw_ml_L_64 : (.methodLink RL 64 yX3_init : Cond) ∈ ps_T := ps_mem 566 (by decide +kernel) rfl
theorem tw_im_X3_init : (.instanceMethod yX3_init : Cond) ∈ ps_T := ps_mem 567 (by decide +kernel) rfl
theorem tw_co_X3_init : (.code yX3_init cX3_init 1 none : Cond) ∈ ps_T := ps_mem 568 (by decide +kernel) rfl
theorem tw_ml_X3_1 : (.methodLink RX3 1 objectInit : Cond) ∈ ps_T := ps_mem 569 (by decide +kernel) rfl
theorem tw_fl_X3_45 : (.fieldLink RX3 45 "PointShelfModel" "thrown" "I" : Cond) ∈ ps_T := ps_mem 570 (by decide +kernel) rfl
theorem tw_fl_X3_59 : (.fieldLink RX3 59 "PointShelfModel" "many" "I" : Cond) ∈ ps_T := ps_mem 571 (by decide +kernel) rfl
theorem tw_fl_X3_7 : (.fieldLink RX3 7 "PointShelfModel" "id" "[I" : Cond) ∈ ps_T := ps_mem 572 (by decide +kernel) rfl
theorem tw_fl_X3_13 : (.fieldLink RX3 13 "PointShelfModel" "place" "[I" : Cond) ∈ ps_T := ps_mem 573 (by decide +kernel) rfl
theorem tw_fl_X3_16 : (.fieldLink RX3 16 "PointShelfModel" "colour" "[I" : Cond) ∈ ps_T := ps_mem 574 (by decide +kernel) rfl
theorem tw_fl_X3_19 : (.fieldLink RX3 19 "PointShelfModel" "depth" "[I" : Cond) ∈ ps_T := ps_mem 575 (by decide +kernel) rfl
theorem tw_fl_X3_109 : (.fieldLink RX3 109 "PointShelfModel" "kept" "I" : Cond) ∈ ps_T := ps_mem 576 (by decide +kernel) rfl
theorem tw_fl_X3_22 : (.fieldLink RX3 22 "PointShelfModel" "keptId" "[I" : Cond) ∈ ps_T := ps_mem 577 (by decide +kernel) rfl
theorem tw_fl_X3_25 : (.fieldLink RX3 25 "PointShelfModel" "keptPlace" "[I" : Cond) ∈ ps_T := ps_mem 578 (by decide +kernel) rfl
theorem tw_fl_X3_28 : (.fieldLink RX3 28 "PointShelfModel" "keptColour" "[I" : Cond) ∈ ps_T := ps_mem 579 (by decide +kernel) rfl
theorem tw_fl_X3_31 : (.fieldLink RX3 31 "PointShelfModel" "keptDepth" "[I" : Cond) ∈ ps_T := ps_mem 580 (by decide +kernel) rfl
theorem tw_fl_X3_34 : (.fieldLink RX3 34 "PointShelfModel" "done" "[Z" : Cond) ∈ ps_T := ps_mem 581 (by decide +kernel) rfl
theorem tw_fl_X3_93 : (.fieldLink RX3 93 "PointShelfModel" "corner" "I" : Cond) ∈ ps_T := ps_mem 582 (by decide +kernel) rfl
theorem tw_fl_X3_99 : (.fieldLink RX3 99 "PointShelfModel" "listed" "I" : Cond) ∈ ps_T := ps_mem 583 (by decide +kernel) rfl
theorem tw_fl_X3_38 : (.fieldLink RX3 38 "PointShelfModel" "list" "[I" : Cond) ∈ ps_T := ps_mem 584 (by decide +kernel) rfl
theorem tw_fl_X3_134 : (.fieldLink RX3 134 "PointShelfModel" "written" "I" : Cond) ∈ ps_T := ps_mem 585 (by decide +kernel) rfl
theorem tw_fl_X3_41 : (.fieldLink RX3 41 "PointShelfModel" "left" "I" : Cond) ∈ ps_T := ps_mem 586 (by decide +kernel) rfl
theorem tw_ml_L_71 : (.methodLink RL 71 yX3_thrown : Cond) ∈ ps_T := ps_mem 622 (by decide +kernel) rfl
theorem tw_im_X3_thrown : (.instanceMethod yX3_thrown : Cond) ∈ ps_T := ps_mem 623 (by decide +kernel) rfl
theorem tw_se_X3_thrown : (.selects RX3 yX3_thrown yX3_thrown : Cond) ∈ ps_T := ps_mem 624 (by decide +kernel) rfl
theorem tw_co_X3_thrown : (.code yX3_thrown cX3_thrown 1 (some .int) : Cond) ∈ ps_T := ps_mem 625 (by decide +kernel) rfl
theorem tw_ml_L_126 : (.methodLink RL 126 yX3_rank : Cond) ∈ ps_T := ps_mem 626 (by decide +kernel) rfl
theorem tw_im_X3_rank : (.instanceMethod yX3_rank : Cond) ∈ ps_T := ps_mem 627 (by decide +kernel) rfl
theorem tw_se_X3_rank : (.selects RX3 yX3_rank yX3_rank : Cond) ∈ ps_T := ps_mem 628 (by decide +kernel) rfl
theorem tw_co_X3_rank : (.code yX3_rank cX3_rank 2 (some .long) : Cond) ∈ ps_T := ps_mem 629 (by decide +kernel) rfl
theorem tw_ml_X3_55 : (.methodLink RX3 55 yX3_rankOf : Cond) ∈ ps_T := ps_mem 630 (by decide +kernel) rfl
theorem tw_st_X3_rankOf : (.static yX3_rankOf : Cond) ∈ ps_T := ps_mem 631 (by decide +kernel) rfl
theorem tw_co_X3_rankOf : (.code yX3_rankOf cX3_rankOf 3 (some .long) : Cond) ∈ ps_T := ps_mem 632 (by decide +kernel) rfl
theorem tw_kc_X3_52 : (.constant RX3 52 (-1640531535) : Cond) ∈ ps_T := ps_mem 633 (by decide +kernel) rfl
theorem tw_kl_X3_53 : (.constantLong RX3 53 (4294967296) : Cond) ∈ ps_T := ps_mem 634 (by decide +kernel) rfl
theorem tw_ml_L_70 : (.methodLink RL 70 yX3_add : Cond) ∈ ps_T := ps_mem 635 (by decide +kernel) rfl
theorem tw_im_X3_add : (.instanceMethod yX3_add : Cond) ∈ ps_T := ps_mem 636 (by decide +kernel) rfl
theorem tw_se_X3_add : (.selects RX3 yX3_add yX3_add : Cond) ∈ ps_T := ps_mem 637 (by decide +kernel) rfl
theorem tw_co_X3_add : (.code yX3_add cX3_add 6 (some .int) : Cond) ∈ ps_T := ps_mem 638 (by decide +kernel) rfl
theorem tw_ml_X3_76 : (.methodLink RX3 76 yX3_isPlace : Cond) ∈ ps_T := ps_mem 639 (by decide +kernel) rfl
theorem tw_st_X3_isPlace : (.static yX3_isPlace : Cond) ∈ ps_T := ps_mem 640 (by decide +kernel) rfl
theorem tw_co_X3_isPlace : (.code yX3_isPlace cX3_isPlace 3 (some .boolean) : Cond) ∈ ps_T := ps_mem 641 (by decide +kernel) rfl
theorem tw_ml_X3_48 : (.methodLink RX3 48 yX3_in : Cond) ∈ ps_T := ps_mem 642 (by decide +kernel) rfl
theorem tw_st_X3_in : (.static yX3_in : Cond) ∈ ps_T := ps_mem 643 (by decide +kernel) rfl
theorem tw_co_X3_in : (.code yX3_in cX3_in 3 (some .boolean) : Cond) ∈ ps_T := ps_mem 644 (by decide +kernel) rfl
theorem tw_ml_X3_79 : (.methodLink RX3 79 yX3_fails : Cond) ∈ ps_T := ps_mem 645 (by decide +kernel) rfl
theorem tw_im_X3_fails : (.instanceMethod yX3_fails : Cond) ∈ ps_T := ps_mem 647 (by decide +kernel) rfl
theorem tw_co_X3_fails : (.code yX3_fails cX3_fails 2 (some .int) : Cond) ∈ ps_T := ps_mem 648 (by decide +kernel) rfl
theorem tw_ml_X3_83 : (.methodLink RX3 83 yX3_find : Cond) ∈ ps_T := ps_mem 649 (by decide +kernel) rfl
theorem tw_im_X3_find : (.instanceMethod yX3_find : Cond) ∈ ps_T := ps_mem 651 (by decide +kernel) rfl
theorem tw_co_X3_find : (.code yX3_find cX3_find 4 (some .int) : Cond) ∈ ps_T := ps_mem 652 (by decide +kernel) rfl
theorem tw_ml_X3_86 : (.methodLink RX3 86 yX3_packed : Cond) ∈ ps_T := ps_mem 653 (by decide +kernel) rfl
theorem tw_st_X3_packed : (.static yX3_packed : Cond) ∈ ps_T := ps_mem 654 (by decide +kernel) rfl
theorem tw_co_X3_packed : (.code yX3_packed cX3_packed 3 (some .int) : Cond) ∈ ps_T := ps_mem 655 (by decide +kernel) rfl
theorem tw_ml_X3_90 : (.methodLink RX3 90 yX3_settle : Cond) ∈ ps_T := ps_mem 656 (by decide +kernel) rfl
theorem tw_im_X3_settle : (.instanceMethod yX3_settle : Cond) ∈ ps_T := ps_mem 658 (by decide +kernel) rfl
theorem tw_co_X3_settle : (.code yX3_settle cX3_settle 4 none : Cond) ∈ ps_T := ps_mem 659 (by decide +kernel) rfl
theorem tw_ml_X3_69 : (.methodLink RX3 69 yX3_greatest : Cond) ∈ ps_T := ps_mem 660 (by decide +kernel) rfl
theorem tw_im_X3_greatest : (.instanceMethod yX3_greatest : Cond) ∈ ps_T := ps_mem 662 (by decide +kernel) rfl
theorem tw_co_X3_greatest : (.code yX3_greatest cX3_greatest 3 (some .int) : Cond) ∈ ps_T := ps_mem 663 (by decide +kernel) rfl
theorem tw_ml_X3_73 : (.methodLink RX3 73 yX3_keeps : Cond) ∈ ps_T := ps_mem 664 (by decide +kernel) rfl
theorem tw_im_X3_keeps : (.instanceMethod yX3_keeps : Cond) ∈ ps_T := ps_mem 666 (by decide +kernel) rfl
theorem tw_co_X3_keeps : (.code yX3_keeps cX3_keeps 5 (some .int) : Cond) ∈ ps_T := ps_mem 667 (by decide +kernel) rfl
theorem tw_ml_X3_66 : (.methodLink RX3 66 yX3_isOne : Cond) ∈ ps_T := ps_mem 668 (by decide +kernel) rfl
theorem tw_st_X3_isOne : (.static yX3_isOne : Cond) ∈ ps_T := ps_mem 669 (by decide +kernel) rfl
theorem tw_co_X3_isOne : (.code yX3_isOne cX3_isOne 4 (some .boolean) : Cond) ∈ ps_T := ps_mem 670 (by decide +kernel) rfl
theorem tw_ml_X3_62 : (.methodLink RX3 62 yX3_axis : Cond) ∈ ps_T := ps_mem 671 (by decide +kernel) rfl
theorem tw_st_X3_axis : (.static yX3_axis : Cond) ∈ ps_T := ps_mem 672 (by decide +kernel) rfl
theorem tw_co_X3_axis : (.code yX3_axis cX3_axis 2 (some .int) : Cond) ∈ ps_T := ps_mem 673 (by decide +kernel) rfl
theorem tw_ml_L_77 : (.methodLink RL 77 yX3_remove : Cond) ∈ ps_T := ps_mem 674 (by decide +kernel) rfl
theorem tw_im_X3_remove : (.instanceMethod yX3_remove : Cond) ∈ ps_T := ps_mem 675 (by decide +kernel) rfl
theorem tw_se_X3_remove : (.selects RX3 yX3_remove yX3_remove : Cond) ∈ ps_T := ps_mem 676 (by decide +kernel) rfl
theorem tw_co_X3_remove : (.code yX3_remove cX3_remove 4 (some .int) : Cond) ∈ ps_T := ps_mem 677 (by decide +kernel) rfl
theorem tw_ml_L_81 : (.methodLink RL 81 yX3_recolour : Cond) ∈ ps_T := ps_mem 678 (by decide +kernel) rfl
theorem tw_im_X3_recolour : (.instanceMethod yX3_recolour : Cond) ∈ ps_T := ps_mem 679 (by decide +kernel) rfl
theorem tw_se_X3_recolour : (.selects RX3 yX3_recolour yX3_recolour : Cond) ∈ ps_T := ps_mem 680 (by decide +kernel) rfl
theorem tw_co_X3_recolour : (.code yX3_recolour cX3_recolour 5 (some .int) : Cond) ∈ ps_T := ps_mem 681 (by decide +kernel) rfl
theorem tw_ml_L_84 : (.methodLink RL 84 yX3_field : Cond) ∈ ps_T := ps_mem 682 (by decide +kernel) rfl
theorem tw_im_X3_field : (.instanceMethod yX3_field : Cond) ∈ ps_T := ps_mem 683 (by decide +kernel) rfl
theorem tw_se_X3_field : (.selects RX3 yX3_field yX3_field : Cond) ∈ ps_T := ps_mem 684 (by decide +kernel) rfl
theorem tw_co_X3_field : (.code yX3_field cX3_field 4 (some .int) : Cond) ∈ ps_T := ps_mem 685 (by decide +kernel) rfl
theorem tw_ml_L_88 : (.methodLink RL 88 yX3_corner : Cond) ∈ ps_T := ps_mem 686 (by decide +kernel) rfl
theorem tw_im_X3_corner : (.instanceMethod yX3_corner : Cond) ∈ ps_T := ps_mem 687 (by decide +kernel) rfl
theorem tw_se_X3_corner : (.selects RX3 yX3_corner yX3_corner : Cond) ∈ ps_T := ps_mem 688 (by decide +kernel) rfl
theorem tw_co_X3_corner : (.code yX3_corner cX3_corner 4 none : Cond) ∈ ps_T := ps_mem 689 (by decide +kernel) rfl
theorem tw_ml_L_92 : (.methodLink RL 92 yX3_box : Cond) ∈ ps_T := ps_mem 690 (by decide +kernel) rfl
theorem tw_im_X3_box : (.instanceMethod yX3_box : Cond) ∈ ps_T := ps_mem 691 (by decide +kernel) rfl
theorem tw_se_X3_box : (.selects RX3 yX3_box yX3_box : Cond) ∈ ps_T := ps_mem 692 (by decide +kernel) rfl
theorem tw_co_X3_box : (.code yX3_box cX3_box 7 (some .int) : Cond) ∈ ps_T := ps_mem 693 (by decide +kernel) rfl
theorem tw_ml_X3_102 : (.methodLink RX3 102 yX3_isIn : Cond) ∈ ps_T := ps_mem 694 (by decide +kernel) rfl
theorem tw_im_X3_isIn : (.instanceMethod yX3_isIn : Cond) ∈ ps_T := ps_mem 696 (by decide +kernel) rfl
theorem tw_co_X3_isIn : (.code yX3_isIn cX3_isIn 5 (some .boolean) : Cond) ∈ ps_T := ps_mem 697 (by decide +kernel) rfl
theorem tw_ml_X3_96 : (.methodLink RX3 96 yX3_between : Cond) ∈ ps_T := ps_mem 698 (by decide +kernel) rfl
theorem tw_st_X3_between : (.static yX3_between : Cond) ∈ ps_T := ps_mem 699 (by decide +kernel) rfl
theorem tw_co_X3_between : (.code yX3_between cX3_between 3 (some .boolean) : Cond) ∈ ps_T := ps_mem 700 (by decide +kernel) rfl
theorem tw_ml_L_96 : (.methodLink RL 96 yX3_next : Cond) ∈ ps_T := ps_mem 701 (by decide +kernel) rfl
theorem tw_im_X3_next : (.instanceMethod yX3_next : Cond) ∈ ps_T := ps_mem 702 (by decide +kernel) rfl
theorem tw_se_X3_next : (.selects RX3 yX3_next yX3_next : Cond) ∈ ps_T := ps_mem 703 (by decide +kernel) rfl
theorem tw_co_X3_next : (.code yX3_next cX3_next 3 (some .int) : Cond) ∈ ps_T := ps_mem 704 (by decide +kernel) rfl
theorem tw_ml_L_100 : (.methodLink RL 100 yX3_count : Cond) ∈ ps_T := ps_mem 705 (by decide +kernel) rfl
theorem tw_im_X3_count : (.instanceMethod yX3_count : Cond) ∈ ps_T := ps_mem 706 (by decide +kernel) rfl
theorem tw_se_X3_count : (.selects RX3 yX3_count yX3_count : Cond) ∈ ps_T := ps_mem 707 (by decide +kernel) rfl
theorem tw_co_X3_count : (.code yX3_count cX3_count 6 (some .int) : Cond) ∈ ps_T := ps_mem 708 (by decide +kernel) rfl
theorem tw_ml_L_103 : (.methodLink RL 103 yX3_nearest : Cond) ∈ ps_T := ps_mem 709 (by decide +kernel) rfl
theorem tw_im_X3_nearest : (.instanceMethod yX3_nearest : Cond) ∈ ps_T := ps_mem 710 (by decide +kernel) rfl
theorem tw_se_X3_nearest : (.selects RX3 yX3_nearest yX3_nearest : Cond) ∈ ps_T := ps_mem 711 (by decide +kernel) rfl
theorem tw_co_X3_nearest : (.code yX3_nearest cX3_nearest 11 (some .int) : Cond) ∈ ps_T := ps_mem 712 (by decide +kernel) rfl
theorem tw_ml_X3_106 : (.methodLink RX3 106 yX3_distance : Cond) ∈ ps_T := ps_mem 713 (by decide +kernel) rfl
theorem tw_st_X3_distance : (.static yX3_distance : Cond) ∈ ps_T := ps_mem 714 (by decide +kernel) rfl
theorem tw_co_X3_distance : (.code yX3_distance cX3_distance 5 (some .int) : Cond) ∈ ps_T := ps_mem 715 (by decide +kernel) rfl
theorem tw_ml_L_106 : (.methodLink RL 106 yX3_kept : Cond) ∈ ps_T := ps_mem 716 (by decide +kernel) rfl
theorem tw_im_X3_kept : (.instanceMethod yX3_kept : Cond) ∈ ps_T := ps_mem 717 (by decide +kernel) rfl
theorem tw_se_X3_kept : (.selects RX3 yX3_kept yX3_kept : Cond) ∈ ps_T := ps_mem 718 (by decide +kernel) rfl
theorem tw_co_X3_kept : (.code yX3_kept cX3_kept 11 (some .int) : Cond) ∈ ps_T := ps_mem 719 (by decide +kernel) rfl
theorem tw_ml_L_109 : (.methodLink RL 109 yX3_commit : Cond) ∈ ps_T := ps_mem 720 (by decide +kernel) rfl
theorem tw_im_X3_commit : (.instanceMethod yX3_commit : Cond) ∈ ps_T := ps_mem 721 (by decide +kernel) rfl
theorem tw_se_X3_commit : (.selects RX3 yX3_commit yX3_commit : Cond) ∈ ps_T := ps_mem 722 (by decide +kernel) rfl
theorem tw_co_X3_commit : (.code yX3_commit cX3_commit 3 (some .int) : Cond) ∈ ps_T := ps_mem 723 (by decide +kernel) rfl
theorem tw_ml_X3_125 : (.methodLink RX3 125 yX3_isClean : Cond) ∈ ps_T := ps_mem 724 (by decide +kernel) rfl
theorem tw_im_X3_isClean : (.instanceMethod yX3_isClean : Cond) ∈ ps_T := ps_mem 726 (by decide +kernel) rfl
theorem tw_co_X3_isClean : (.code yX3_isClean cX3_isClean 6 (some .boolean) : Cond) ∈ ps_T := ps_mem 727 (by decide +kernel) rfl
theorem tw_ml_X3_119 : (.methodLink RX3 119 yX3_isCommitted : Cond) ∈ ps_T := ps_mem 728 (by decide +kernel) rfl
theorem tw_im_X3_isCommitted : (.instanceMethod yX3_isCommitted : Cond) ∈ ps_T := ps_mem 730 (by decide +kernel) rfl
theorem tw_co_X3_isCommitted : (.code yX3_isCommitted cX3_isCommitted 4 (some .boolean) : Cond) ∈ ps_T := ps_mem 731 (by decide +kernel) rfl
theorem tw_ml_X3_128 : (.methodLink RX3 128 yX3_pagesToWrite : Cond) ∈ ps_T := ps_mem 732 (by decide +kernel) rfl
theorem tw_im_X3_pagesToWrite : (.instanceMethod yX3_pagesToWrite : Cond) ∈ ps_T := ps_mem 734 (by decide +kernel) rfl
theorem tw_co_X3_pagesToWrite : (.code yX3_pagesToWrite cX3_pagesToWrite 4 (some .int) : Cond) ∈ ps_T := ps_mem 735 (by decide +kernel) rfl
theorem tw_ml_X3_122 : (.methodLink RX3 122 yX3_isFirst : Cond) ∈ ps_T := ps_mem 736 (by decide +kernel) rfl
theorem tw_im_X3_isFirst : (.instanceMethod yX3_isFirst : Cond) ∈ ps_T := ps_mem 738 (by decide +kernel) rfl
theorem tw_co_X3_isFirst : (.code yX3_isFirst cX3_isFirst 4 (some .boolean) : Cond) ∈ ps_T := ps_mem 739 (by decide +kernel) rfl
theorem tw_ml_X3_116 : (.methodLink RX3 116 yX3_pagesFor : Cond) ∈ ps_T := ps_mem 740 (by decide +kernel) rfl
theorem tw_st_X3_pagesFor : (.static yX3_pagesFor : Cond) ∈ ps_T := ps_mem 741 (by decide +kernel) rfl
theorem tw_co_X3_pagesFor : (.code yX3_pagesFor cX3_pagesFor 1 (some .int) : Cond) ∈ ps_T := ps_mem 742 (by decide +kernel) rfl
theorem tw_ml_X3_131 : (.methodLink RX3 131 yX3_takenPages : Cond) ∈ ps_T := ps_mem 743 (by decide +kernel) rfl
theorem tw_im_X3_takenPages : (.instanceMethod yX3_takenPages : Cond) ∈ ps_T := ps_mem 745 (by decide +kernel) rfl
theorem tw_co_X3_takenPages : (.code yX3_takenPages cX3_takenPages 5 (some .int) : Cond) ∈ ps_T := ps_mem 746 (by decide +kernel) rfl
theorem tw_ml_X3_112 : (.methodLink RX3 112 yX3_isFirstKept : Cond) ∈ ps_T := ps_mem 747 (by decide +kernel) rfl
theorem tw_im_X3_isFirstKept : (.instanceMethod yX3_isFirstKept : Cond) ∈ ps_T := ps_mem 749 (by decide +kernel) rfl
theorem tw_co_X3_isFirstKept : (.code yX3_isFirstKept cX3_isFirstKept 4 (some .boolean) : Cond) ∈ ps_T := ps_mem 750 (by decide +kernel) rfl
theorem tw_ml_X3_137 : (.methodLink RX3 137 yX3_open : Cond) ∈ ps_T := ps_mem 751 (by decide +kernel) rfl
theorem tw_im_X3_open : (.instanceMethod yX3_open : Cond) ∈ ps_T := ps_mem 752 (by decide +kernel) rfl
theorem tw_se_X3_open : (.selects RX3 yX3_open yX3_open : Cond) ∈ ps_T := ps_mem 753 (by decide +kernel) rfl
theorem tw_co_X3_open : (.code yX3_open cX3_open 2 (some .int) : Cond) ∈ ps_T := ps_mem 754 (by decide +kernel) rfl
theorem tw_ml_L_113 : (.methodLink RL 113 yX3_charge : Cond) ∈ ps_T := ps_mem 755 (by decide +kernel) rfl
theorem tw_im_X3_charge : (.instanceMethod yX3_charge : Cond) ∈ ps_T := ps_mem 756 (by decide +kernel) rfl
theorem tw_se_X3_charge : (.selects RX3 yX3_charge yX3_charge : Cond) ∈ ps_T := ps_mem 757 (by decide +kernel) rfl
theorem tw_co_X3_charge : (.code yX3_charge cX3_charge 2 none : Cond) ∈ ps_T := ps_mem 758 (by decide +kernel) rfl
theorem tw_ml_L_117 : (.methodLink RL 117 yX3_open : Cond) ∈ ps_T := ps_mem 759 (by decide +kernel) rfl
theorem tw_ml_L_121 : (.methodLink RL 121 yX3_state : Cond) ∈ ps_T := ps_mem 760 (by decide +kernel) rfl
theorem tw_im_X3_state : (.instanceMethod yX3_state : Cond) ∈ ps_T := ps_mem 761 (by decide +kernel) rfl
theorem tw_se_X3_state : (.selects RX3 yX3_state yX3_state : Cond) ∈ ps_T := ps_mem 762 (by decide +kernel) rfl
theorem tw_co_X3_state : (.code yX3_state cX3_state 4 (some .int) : Cond) ∈ ps_T := ps_mem 763 (by decide +kernel) rfl
theorem tw_ac_long : (.arrayClass .long : Cond) ∈ ps_T := ps_mem 764 (by decide +kernel) rfl
end
section
/-! decode rows: Listing, Tree. By wip/names.py. -/
theorem dX0_init_0 : decode cX0_init 0 = .ok (.aload_n 0, 1) := by decide +kernel
theorem dX0_init_1 : decode cX0_init 1 = .ok (.invokespecial 3, 3) := by decide +kernel
theorem dX0_init_4 : decode cX0_init 4 = .ok (.aload_n 0, 1) := by decide +kernel
theorem dX0_init_5 : decode cX0_init 5 = .ok (.bipush 48, 2) := by decide +kernel
theorem dX0_init_7 : decode cX0_init 7 = .ok (.newarray .int, 2) := by decide +kernel
theorem dX0_init_9 : decode cX0_init 9 = .ok (.putfield 9, 3) := by decide +kernel
theorem dX0_init_12 : decode cX0_init 12 = .ok (.return_, 1) := by decide +kernel
theorem dX0_size_0 : decode cX0_size 0 = .ok (.aload_n 0, 1) := by decide +kernel
theorem dX0_size_1 : decode cX0_size 1 = .ok (.getfield 15, 3) := by decide +kernel
theorem dX0_size_4 : decode cX0_size 4 = .ok (.aload_n 0, 1) := by decide +kernel
theorem dX0_size_5 : decode cX0_size 5 = .ok (.getfield 19, 3) := by decide +kernel
theorem dX0_size_8 : decode cX0_size 8 = .ok (.isub, 1) := by decide +kernel
theorem dX0_size_9 : decode cX0_size 9 = .ok (.ireturn, 1) := by decide +kernel
theorem dX0_clear_0 : decode cX0_clear 0 = .ok (.aload_n 0, 1) := by decide +kernel
theorem dX0_clear_1 : decode cX0_clear 1 = .ok (.iconst 0, 1) := by decide +kernel
theorem dX0_clear_2 : decode cX0_clear 2 = .ok (.putfield 19, 3) := by decide +kernel
theorem dX0_clear_5 : decode cX0_clear 5 = .ok (.aload_n 0, 1) := by decide +kernel
theorem dX0_clear_6 : decode cX0_clear 6 = .ok (.iconst 0, 1) := by decide +kernel
theorem dX0_clear_7 : decode cX0_clear 7 = .ok (.putfield 15, 3) := by decide +kernel
theorem dX0_clear_10 : decode cX0_clear 10 = .ok (.return_, 1) := by decide +kernel
theorem dX0_insert_0 : decode cX0_insert 0 = .ok (.aload_n 0, 1) := by decide +kernel
theorem dX0_insert_1 : decode cX0_insert 1 = .ok (.getfield 15, 3) := by decide +kernel
theorem dX0_insert_4 : decode cX0_insert 4 = .ok (.istore_n 2, 1) := by decide +kernel
theorem dX0_insert_5 : decode cX0_insert 5 = .ok (.iload_n 2, 1) := by decide +kernel
theorem dX0_insert_6 : decode cX0_insert 6 = .ok (.ifCond .le 35, 3) := by decide +kernel
theorem dX0_insert_9 : decode cX0_insert 9 = .ok (.aload_n 0, 1) := by decide +kernel
theorem dX0_insert_10 : decode cX0_insert 10 = .ok (.getfield 9, 3) := by decide +kernel
theorem dX0_insert_13 : decode cX0_insert 13 = .ok (.iload_n 2, 1) := by decide +kernel
theorem dX0_insert_14 : decode cX0_insert 14 = .ok (.iconst 1, 1) := by decide +kernel
theorem dX0_insert_15 : decode cX0_insert 15 = .ok (.isub, 1) := by decide +kernel
theorem dX0_insert_16 : decode cX0_insert 16 = .ok (.iaload, 1) := by decide +kernel
theorem dX0_insert_17 : decode cX0_insert 17 = .ok (.iload_n 1, 1) := by decide +kernel
theorem dX0_insert_18 : decode cX0_insert 18 = .ok (.if_icmp .le 23, 3) := by decide +kernel
theorem dX0_insert_21 : decode cX0_insert 21 = .ok (.aload_n 0, 1) := by decide +kernel
theorem dX0_insert_22 : decode cX0_insert 22 = .ok (.getfield 9, 3) := by decide +kernel
theorem dX0_insert_25 : decode cX0_insert 25 = .ok (.iload_n 2, 1) := by decide +kernel
theorem dX0_insert_26 : decode cX0_insert 26 = .ok (.aload_n 0, 1) := by decide +kernel
theorem dX0_insert_27 : decode cX0_insert 27 = .ok (.getfield 9, 3) := by decide +kernel
theorem dX0_insert_30 : decode cX0_insert 30 = .ok (.iload_n 2, 1) := by decide +kernel
theorem dX0_insert_31 : decode cX0_insert 31 = .ok (.iconst 1, 1) := by decide +kernel
theorem dX0_insert_32 : decode cX0_insert 32 = .ok (.isub, 1) := by decide +kernel
theorem dX0_insert_33 : decode cX0_insert 33 = .ok (.iaload, 1) := by decide +kernel
theorem dX0_insert_34 : decode cX0_insert 34 = .ok (.iastore, 1) := by decide +kernel
theorem dX0_insert_35 : decode cX0_insert 35 = .ok (.iinc 2 (-1), 3) := by decide +kernel
theorem dX0_insert_38 : decode cX0_insert 38 = .ok (.goto (-33), 3) := by decide +kernel
theorem dX0_insert_41 : decode cX0_insert 41 = .ok (.aload_n 0, 1) := by decide +kernel
theorem dX0_insert_42 : decode cX0_insert 42 = .ok (.getfield 9, 3) := by decide +kernel
theorem dX0_insert_45 : decode cX0_insert 45 = .ok (.iload_n 2, 1) := by decide +kernel
theorem dX0_insert_46 : decode cX0_insert 46 = .ok (.iload_n 1, 1) := by decide +kernel
theorem dX0_insert_47 : decode cX0_insert 47 = .ok (.iastore, 1) := by decide +kernel
theorem dX0_insert_48 : decode cX0_insert 48 = .ok (.aload_n 0, 1) := by decide +kernel
theorem dX0_insert_49 : decode cX0_insert 49 = .ok (.dup, 1) := by decide +kernel
theorem dX0_insert_50 : decode cX0_insert 50 = .ok (.getfield 15, 3) := by decide +kernel
theorem dX0_insert_53 : decode cX0_insert 53 = .ok (.iconst 1, 1) := by decide +kernel
theorem dX0_insert_54 : decode cX0_insert 54 = .ok (.iadd, 1) := by decide +kernel
theorem dX0_insert_55 : decode cX0_insert 55 = .ok (.putfield 15, 3) := by decide +kernel
theorem dX0_insert_58 : decode cX0_insert 58 = .ok (.return_, 1) := by decide +kernel
theorem dX0_takeFirst_0 : decode cX0_takeFirst 0 = .ok (.aload_n 0, 1) := by decide +kernel
theorem dX0_takeFirst_1 : decode cX0_takeFirst 1 = .ok (.getfield 19, 3) := by decide +kernel
theorem dX0_takeFirst_4 : decode cX0_takeFirst 4 = .ok (.aload_n 0, 1) := by decide +kernel
theorem dX0_takeFirst_5 : decode cX0_takeFirst 5 = .ok (.getfield 15, 3) := by decide +kernel
theorem dX0_takeFirst_8 : decode cX0_takeFirst 8 = .ok (.if_icmp .lt 13, 3) := by decide +kernel
theorem dX0_takeFirst_11 : decode cX0_takeFirst 11 = .ok (.new 22, 3) := by decide +kernel
theorem dX0_takeFirst_14 : decode cX0_takeFirst 14 = .ok (.dup, 1) := by decide +kernel
theorem dX0_takeFirst_15 : decode cX0_takeFirst 15 = .ok (.ldc 24, 2) := by decide +kernel
theorem dX0_takeFirst_17 : decode cX0_takeFirst 17 = .ok (.invokespecial 26, 3) := by decide +kernel
theorem dX0_takeFirst_20 : decode cX0_takeFirst 20 = .ok (.athrow, 1) := by decide +kernel
theorem dX0_takeFirst_21 : decode cX0_takeFirst 21 = .ok (.aload_n 0, 1) := by decide +kernel
theorem dX0_takeFirst_22 : decode cX0_takeFirst 22 = .ok (.getfield 9, 3) := by decide +kernel
theorem dX0_takeFirst_25 : decode cX0_takeFirst 25 = .ok (.aload_n 0, 1) := by decide +kernel
theorem dX0_takeFirst_26 : decode cX0_takeFirst 26 = .ok (.getfield 19, 3) := by decide +kernel
theorem dX0_takeFirst_29 : decode cX0_takeFirst 29 = .ok (.iaload, 1) := by decide +kernel
theorem dX0_takeFirst_30 : decode cX0_takeFirst 30 = .ok (.istore_n 1, 1) := by decide +kernel
theorem dX0_takeFirst_31 : decode cX0_takeFirst 31 = .ok (.aload_n 0, 1) := by decide +kernel
theorem dX0_takeFirst_32 : decode cX0_takeFirst 32 = .ok (.dup, 1) := by decide +kernel
theorem dX0_takeFirst_33 : decode cX0_takeFirst 33 = .ok (.getfield 19, 3) := by decide +kernel
theorem dX0_takeFirst_36 : decode cX0_takeFirst 36 = .ok (.iconst 1, 1) := by decide +kernel
theorem dX0_takeFirst_37 : decode cX0_takeFirst 37 = .ok (.iadd, 1) := by decide +kernel
theorem dX0_takeFirst_38 : decode cX0_takeFirst 38 = .ok (.putfield 19, 3) := by decide +kernel
theorem dX0_takeFirst_41 : decode cX0_takeFirst 41 = .ok (.iload_n 1, 1) := by decide +kernel
theorem dX0_takeFirst_42 : decode cX0_takeFirst 42 = .ok (.ireturn, 1) := by decide +kernel
theorem dX1_init_0 : decode cX1_init 0 = .ok (.aload_n 0, 1) := by decide +kernel
theorem dX1_init_1 : decode cX1_init 1 = .ok (.invokespecial 3, 3) := by decide +kernel
theorem dX1_init_4 : decode cX1_init 4 = .ok (.aload_n 0, 1) := by decide +kernel
theorem dX1_init_5 : decode cX1_init 5 = .ok (.bipush 48, 2) := by decide +kernel
theorem dX1_init_7 : decode cX1_init 7 = .ok (.newarray .int, 2) := by decide +kernel
theorem dX1_init_9 : decode cX1_init 9 = .ok (.putfield 9, 3) := by decide +kernel
theorem dX1_init_12 : decode cX1_init 12 = .ok (.aload_n 0, 1) := by decide +kernel
theorem dX1_init_13 : decode cX1_init 13 = .ok (.bipush 48, 2) := by decide +kernel
theorem dX1_init_15 : decode cX1_init 15 = .ok (.newarray .int, 2) := by decide +kernel
theorem dX1_init_17 : decode cX1_init 17 = .ok (.putfield 15, 3) := by decide +kernel
theorem dX1_init_20 : decode cX1_init 20 = .ok (.aload_n 0, 1) := by decide +kernel
theorem dX1_init_21 : decode cX1_init 21 = .ok (.bipush 48, 2) := by decide +kernel
theorem dX1_init_23 : decode cX1_init 23 = .ok (.newarray .int, 2) := by decide +kernel
theorem dX1_init_25 : decode cX1_init 25 = .ok (.putfield 18, 3) := by decide +kernel
theorem dX1_init_28 : decode cX1_init 28 = .ok (.aload_n 0, 1) := by decide +kernel
theorem dX1_init_29 : decode cX1_init 29 = .ok (.bipush 48, 2) := by decide +kernel
theorem dX1_init_31 : decode cX1_init 31 = .ok (.newarray .int, 2) := by decide +kernel
theorem dX1_init_33 : decode cX1_init 33 = .ok (.putfield 21, 3) := by decide +kernel
theorem dX1_init_36 : decode cX1_init 36 = .ok (.aload_n 0, 1) := by decide +kernel
theorem dX1_init_37 : decode cX1_init 37 = .ok (.bipush 48, 2) := by decide +kernel
theorem dX1_init_39 : decode cX1_init 39 = .ok (.newarray .int, 2) := by decide +kernel
theorem dX1_init_41 : decode cX1_init 41 = .ok (.putfield 24, 3) := by decide +kernel
theorem dX1_init_44 : decode cX1_init 44 = .ok (.aload_n 0, 1) := by decide +kernel
theorem dX1_init_45 : decode cX1_init 45 = .ok (.bipush 48, 2) := by decide +kernel
theorem dX1_init_47 : decode cX1_init 47 = .ok (.newarray .int, 2) := by decide +kernel
theorem dX1_init_49 : decode cX1_init 49 = .ok (.putfield 27, 3) := by decide +kernel
theorem dX1_init_52 : decode cX1_init 52 = .ok (.aload_n 0, 1) := by decide +kernel
theorem dX1_init_53 : decode cX1_init 53 = .ok (.bipush 48, 2) := by decide +kernel
theorem dX1_init_55 : decode cX1_init 55 = .ok (.newarray .int, 2) := by decide +kernel
theorem dX1_init_57 : decode cX1_init 57 = .ok (.putfield 30, 3) := by decide +kernel
theorem dX1_init_60 : decode cX1_init 60 = .ok (.aload_n 0, 1) := by decide +kernel
theorem dX1_init_61 : decode cX1_init 61 = .ok (.bipush 48, 2) := by decide +kernel
theorem dX1_init_63 : decode cX1_init 63 = .ok (.newarray .boolean, 2) := by decide +kernel
theorem dX1_init_65 : decode cX1_init 65 = .ok (.putfield 33, 3) := by decide +kernel
theorem dX1_init_68 : decode cX1_init 68 = .ok (.return_, 1) := by decide +kernel
theorem dX1_size_0 : decode cX1_size 0 = .ok (.aload_n 0, 1) := by decide +kernel
theorem dX1_size_1 : decode cX1_size 1 = .ok (.getfield 37, 3) := by decide +kernel
theorem dX1_size_4 : decode cX1_size 4 = .ok (.ireturn, 1) := by decide +kernel
theorem dX1_idOf_0 : decode cX1_idOf 0 = .ok (.aload_n 0, 1) := by decide +kernel
theorem dX1_idOf_1 : decode cX1_idOf 1 = .ok (.getfield 9, 3) := by decide +kernel
theorem dX1_idOf_4 : decode cX1_idOf 4 = .ok (.iload_n 1, 1) := by decide +kernel
theorem dX1_idOf_5 : decode cX1_idOf 5 = .ok (.iaload, 1) := by decide +kernel
theorem dX1_idOf_6 : decode cX1_idOf 6 = .ok (.ireturn, 1) := by decide +kernel
theorem dX1_xOf_0 : decode cX1_xOf 0 = .ok (.aload_n 0, 1) := by decide +kernel
theorem dX1_xOf_1 : decode cX1_xOf 1 = .ok (.getfield 15, 3) := by decide +kernel
theorem dX1_xOf_4 : decode cX1_xOf 4 = .ok (.iload_n 1, 1) := by decide +kernel
theorem dX1_xOf_5 : decode cX1_xOf 5 = .ok (.iaload, 1) := by decide +kernel
theorem dX1_xOf_6 : decode cX1_xOf 6 = .ok (.ireturn, 1) := by decide +kernel
theorem dX1_yOf_0 : decode cX1_yOf 0 = .ok (.aload_n 0, 1) := by decide +kernel
theorem dX1_yOf_1 : decode cX1_yOf 1 = .ok (.getfield 18, 3) := by decide +kernel
theorem dX1_yOf_4 : decode cX1_yOf 4 = .ok (.iload_n 1, 1) := by decide +kernel
theorem dX1_yOf_5 : decode cX1_yOf 5 = .ok (.iaload, 1) := by decide +kernel
theorem dX1_yOf_6 : decode cX1_yOf 6 = .ok (.ireturn, 1) := by decide +kernel
theorem dX1_zOf_0 : decode cX1_zOf 0 = .ok (.aload_n 0, 1) := by decide +kernel
theorem dX1_zOf_1 : decode cX1_zOf 1 = .ok (.getfield 21, 3) := by decide +kernel
theorem dX1_zOf_4 : decode cX1_zOf 4 = .ok (.iload_n 1, 1) := by decide +kernel
theorem dX1_zOf_5 : decode cX1_zOf 5 = .ok (.iaload, 1) := by decide +kernel
theorem dX1_zOf_6 : decode cX1_zOf 6 = .ok (.ireturn, 1) := by decide +kernel
theorem dX1_colourOf_0 : decode cX1_colourOf 0 = .ok (.aload_n 0, 1) := by decide +kernel
theorem dX1_colourOf_1 : decode cX1_colourOf 1 = .ok (.getfield 24, 3) := by decide +kernel
theorem dX1_colourOf_4 : decode cX1_colourOf 4 = .ok (.iload_n 1, 1) := by decide +kernel
theorem dX1_colourOf_5 : decode cX1_colourOf 5 = .ok (.iaload, 1) := by decide +kernel
theorem dX1_colourOf_6 : decode cX1_colourOf 6 = .ok (.ireturn, 1) := by decide +kernel
theorem dX1_depthOf_0 : decode cX1_depthOf 0 = .ok (.aload_n 0, 1) := by decide +kernel
theorem dX1_depthOf_1 : decode cX1_depthOf 1 = .ok (.getfield 27, 3) := by decide +kernel
theorem dX1_depthOf_4 : decode cX1_depthOf 4 = .ok (.iload_n 1, 1) := by decide +kernel
theorem dX1_depthOf_5 : decode cX1_depthOf 5 = .ok (.iaload, 1) := by decide +kernel
theorem dX1_depthOf_6 : decode cX1_depthOf 6 = .ok (.ireturn, 1) := by decide +kernel
theorem dX1_setColour_0 : decode cX1_setColour 0 = .ok (.aload_n 0, 1) := by decide +kernel
theorem dX1_setColour_1 : decode cX1_setColour 1 = .ok (.getfield 24, 3) := by decide +kernel
theorem dX1_setColour_4 : decode cX1_setColour 4 = .ok (.iload_n 1, 1) := by decide +kernel
theorem dX1_setColour_5 : decode cX1_setColour 5 = .ok (.iload_n 2, 1) := by decide +kernel
theorem dX1_setColour_6 : decode cX1_setColour 6 = .ok (.iastore, 1) := by decide +kernel
theorem dX1_setColour_7 : decode cX1_setColour 7 = .ok (.return_, 1) := by decide +kernel
theorem dX1_find_0 : decode cX1_find 0 = .ok (.iconst 0, 1) := by decide +kernel
theorem dX1_find_1 : decode cX1_find 1 = .ok (.istore_n 2, 1) := by decide +kernel
theorem dX1_find_2 : decode cX1_find 2 = .ok (.iload_n 2, 1) := by decide +kernel
theorem dX1_find_3 : decode cX1_find 3 = .ok (.aload_n 0, 1) := by decide +kernel
theorem dX1_find_4 : decode cX1_find 4 = .ok (.getfield 37, 3) := by decide +kernel
theorem dX1_find_7 : decode cX1_find 7 = .ok (.if_icmp .ge 21, 3) := by decide +kernel
theorem dX1_find_10 : decode cX1_find 10 = .ok (.aload_n 0, 1) := by decide +kernel
theorem dX1_find_11 : decode cX1_find 11 = .ok (.getfield 9, 3) := by decide +kernel
theorem dX1_find_14 : decode cX1_find 14 = .ok (.iload_n 2, 1) := by decide +kernel
theorem dX1_find_15 : decode cX1_find 15 = .ok (.iaload, 1) := by decide +kernel
theorem dX1_find_16 : decode cX1_find 16 = .ok (.iload_n 1, 1) := by decide +kernel
theorem dX1_find_17 : decode cX1_find 17 = .ok (.if_icmp .ne 5, 3) := by decide +kernel
theorem dX1_find_20 : decode cX1_find 20 = .ok (.iload_n 2, 1) := by decide +kernel
theorem dX1_find_21 : decode cX1_find 21 = .ok (.ireturn, 1) := by decide +kernel
theorem dX1_find_22 : decode cX1_find 22 = .ok (.iinc 2 1, 3) := by decide +kernel
theorem dX1_find_25 : decode cX1_find 25 = .ok (.goto (-23), 3) := by decide +kernel
theorem dX1_find_28 : decode cX1_find 28 = .ok (.iconst (-1), 1) := by decide +kernel
theorem dX1_find_29 : decode cX1_find 29 = .ok (.ireturn, 1) := by decide +kernel
theorem dX1_findKept_0 : decode cX1_findKept 0 = .ok (.iconst 0, 1) := by decide +kernel
theorem dX1_findKept_1 : decode cX1_findKept 1 = .ok (.istore 6, 2) := by decide +kernel
theorem dX1_findKept_3 : decode cX1_findKept 3 = .ok (.iload 6, 2) := by decide +kernel
theorem dX1_findKept_5 : decode cX1_findKept 5 = .ok (.aload_n 0, 1) := by decide +kernel
theorem dX1_findKept_6 : decode cX1_findKept 6 = .ok (.getfield 37, 3) := by decide +kernel
theorem dX1_findKept_9 : decode cX1_findKept 9 = .ok (.if_icmp .ge 49, 3) := by decide +kernel
theorem dX1_findKept_12 : decode cX1_findKept 12 = .ok (.aload_n 0, 1) := by decide +kernel
theorem dX1_findKept_13 : decode cX1_findKept 13 = .ok (.getfield 30, 3) := by decide +kernel
theorem dX1_findKept_16 : decode cX1_findKept 16 = .ok (.iload 6, 2) := by decide +kernel
theorem dX1_findKept_18 : decode cX1_findKept 18 = .ok (.iaload, 1) := by decide +kernel
theorem dX1_findKept_19 : decode cX1_findKept 19 = .ok (.iload 5, 2) := by decide +kernel
theorem dX1_findKept_21 : decode cX1_findKept 21 = .ok (.if_icmp .ne 31, 3) := by decide +kernel
theorem dX1_findKept_24 : decode cX1_findKept 24 = .ok (.aload_n 0, 1) := by decide +kernel
theorem dX1_findKept_25 : decode cX1_findKept 25 = .ok (.getfield 27, 3) := by decide +kernel
theorem dX1_findKept_28 : decode cX1_findKept 28 = .ok (.iload 6, 2) := by decide +kernel
theorem dX1_findKept_30 : decode cX1_findKept 30 = .ok (.iaload, 1) := by decide +kernel
theorem dX1_findKept_31 : decode cX1_findKept 31 = .ok (.iload_n 1, 1) := by decide +kernel
theorem dX1_findKept_32 : decode cX1_findKept 32 = .ok (.if_icmp .ne 20, 3) := by decide +kernel
theorem dX1_findKept_35 : decode cX1_findKept 35 = .ok (.aload_n 0, 1) := by decide +kernel
theorem dX1_findKept_36 : decode cX1_findKept 36 = .ok (.iload 6, 2) := by decide +kernel
theorem dX1_findKept_38 : decode cX1_findKept 38 = .ok (.iload_n 1, 1) := by decide +kernel
theorem dX1_findKept_39 : decode cX1_findKept 39 = .ok (.iload_n 2, 1) := by decide +kernel
theorem dX1_findKept_40 : decode cX1_findKept 40 = .ok (.iload_n 3, 1) := by decide +kernel
theorem dX1_findKept_41 : decode cX1_findKept 41 = .ok (.iload 4, 2) := by decide +kernel
theorem dX1_findKept_43 : decode cX1_findKept 43 = .ok (.invokevirtual 41, 3) := by decide +kernel
theorem dX1_findKept_46 : decode cX1_findKept 46 = .ok (.ifCond .eq 6, 3) := by decide +kernel
theorem dX1_findKept_49 : decode cX1_findKept 49 = .ok (.iload 6, 2) := by decide +kernel
theorem dX1_findKept_51 : decode cX1_findKept 51 = .ok (.ireturn, 1) := by decide +kernel
theorem dX1_findKept_52 : decode cX1_findKept 52 = .ok (.iinc 6 1, 3) := by decide +kernel
theorem dX1_findKept_55 : decode cX1_findKept 55 = .ok (.goto (-52), 3) := by decide +kernel
theorem dX1_findKept_58 : decode cX1_findKept 58 = .ok (.iconst (-1), 1) := by decide +kernel
theorem dX1_findKept_59 : decode cX1_findKept 59 = .ok (.ireturn, 1) := by decide +kernel
theorem dX1_insert_0 : decode cX1_insert 0 = .ok (.aload_n 0, 1) := by decide +kernel
theorem dX1_insert_1 : decode cX1_insert 1 = .ok (.iload_n 1, 1) := by decide +kernel
theorem dX1_insert_2 : decode cX1_insert 2 = .ok (.invokestatic 45, 3) := by decide +kernel
theorem dX1_insert_5 : decode cX1_insert 5 = .ok (.invokevirtual 49, 3) := by decide +kernel
theorem dX1_insert_8 : decode cX1_insert 8 = .ok (.istore 6, 2) := by decide +kernel
theorem dX1_insert_10 : decode cX1_insert 10 = .ok (.aload_n 0, 1) := by decide +kernel
theorem dX1_insert_11 : decode cX1_insert 11 = .ok (.iload 6, 2) := by decide +kernel
theorem dX1_insert_13 : decode cX1_insert 13 = .ok (.iload 6, 2) := by decide +kernel
theorem dX1_insert_15 : decode cX1_insert 15 = .ok (.iconst 1, 1) := by decide +kernel
theorem dX1_insert_16 : decode cX1_insert 16 = .ok (.iadd, 1) := by decide +kernel
theorem dX1_insert_17 : decode cX1_insert 17 = .ok (.invokevirtual 53, 3) := by decide +kernel
theorem dX1_insert_20 : decode cX1_insert 20 = .ok (.aload_n 0, 1) := by decide +kernel
theorem dX1_insert_21 : decode cX1_insert 21 = .ok (.getfield 9, 3) := by decide +kernel
theorem dX1_insert_24 : decode cX1_insert 24 = .ok (.iload 6, 2) := by decide +kernel
theorem dX1_insert_26 : decode cX1_insert 26 = .ok (.iload_n 1, 1) := by decide +kernel
theorem dX1_insert_27 : decode cX1_insert 27 = .ok (.iastore, 1) := by decide +kernel
theorem dX1_insert_28 : decode cX1_insert 28 = .ok (.aload_n 0, 1) := by decide +kernel
theorem dX1_insert_29 : decode cX1_insert 29 = .ok (.getfield 15, 3) := by decide +kernel
theorem dX1_insert_32 : decode cX1_insert 32 = .ok (.iload 6, 2) := by decide +kernel
theorem dX1_insert_34 : decode cX1_insert 34 = .ok (.iload_n 2, 1) := by decide +kernel
theorem dX1_insert_35 : decode cX1_insert 35 = .ok (.iastore, 1) := by decide +kernel
theorem dX1_insert_36 : decode cX1_insert 36 = .ok (.aload_n 0, 1) := by decide +kernel
theorem dX1_insert_37 : decode cX1_insert 37 = .ok (.getfield 18, 3) := by decide +kernel
theorem dX1_insert_40 : decode cX1_insert 40 = .ok (.iload 6, 2) := by decide +kernel
theorem dX1_insert_42 : decode cX1_insert 42 = .ok (.iload_n 3, 1) := by decide +kernel
theorem dX1_insert_43 : decode cX1_insert 43 = .ok (.iastore, 1) := by decide +kernel
theorem dX1_insert_44 : decode cX1_insert 44 = .ok (.aload_n 0, 1) := by decide +kernel
theorem dX1_insert_45 : decode cX1_insert 45 = .ok (.getfield 21, 3) := by decide +kernel
theorem dX1_insert_48 : decode cX1_insert 48 = .ok (.iload 6, 2) := by decide +kernel
theorem dX1_insert_50 : decode cX1_insert 50 = .ok (.iload 4, 2) := by decide +kernel
theorem dX1_insert_52 : decode cX1_insert 52 = .ok (.iastore, 1) := by decide +kernel
theorem dX1_insert_53 : decode cX1_insert 53 = .ok (.aload_n 0, 1) := by decide +kernel
theorem dX1_insert_54 : decode cX1_insert 54 = .ok (.getfield 24, 3) := by decide +kernel
theorem dX1_insert_57 : decode cX1_insert 57 = .ok (.iload 6, 2) := by decide +kernel
theorem dX1_insert_59 : decode cX1_insert 59 = .ok (.iload 5, 2) := by decide +kernel
theorem dX1_insert_61 : decode cX1_insert 61 = .ok (.iastore, 1) := by decide +kernel
theorem dX1_insert_62 : decode cX1_insert 62 = .ok (.aload_n 0, 1) := by decide +kernel
theorem dX1_insert_63 : decode cX1_insert 63 = .ok (.dup, 1) := by decide +kernel
theorem dX1_insert_64 : decode cX1_insert 64 = .ok (.getfield 37, 3) := by decide +kernel
theorem dX1_insert_67 : decode cX1_insert 67 = .ok (.iconst 1, 1) := by decide +kernel
theorem dX1_insert_68 : decode cX1_insert 68 = .ok (.iadd, 1) := by decide +kernel
theorem dX1_insert_69 : decode cX1_insert 69 = .ok (.putfield 37, 3) := by decide +kernel
theorem dX1_insert_72 : decode cX1_insert 72 = .ok (.aload_n 0, 1) := by decide +kernel
theorem dX1_insert_73 : decode cX1_insert 73 = .ok (.iload 6, 2) := by decide +kernel
theorem dX1_insert_75 : decode cX1_insert 75 = .ok (.invokevirtual 57, 3) := by decide +kernel
theorem dX1_insert_78 : decode cX1_insert 78 = .ok (.iload 6, 2) := by decide +kernel
theorem dX1_insert_80 : decode cX1_insert 80 = .ok (.ireturn, 1) := by decide +kernel
theorem dX1_delete_0 : decode cX1_delete 0 = .ok (.aload_n 0, 1) := by decide +kernel
theorem dX1_delete_1 : decode cX1_delete 1 = .ok (.iload_n 1, 1) := by decide +kernel
theorem dX1_delete_2 : decode cX1_delete 2 = .ok (.iconst 1, 1) := by decide +kernel
theorem dX1_delete_3 : decode cX1_delete 3 = .ok (.iadd, 1) := by decide +kernel
theorem dX1_delete_4 : decode cX1_delete 4 = .ok (.iload_n 1, 1) := by decide +kernel
theorem dX1_delete_5 : decode cX1_delete 5 = .ok (.invokevirtual 53, 3) := by decide +kernel
theorem dX1_delete_8 : decode cX1_delete 8 = .ok (.aload_n 0, 1) := by decide +kernel
theorem dX1_delete_9 : decode cX1_delete 9 = .ok (.dup, 1) := by decide +kernel
theorem dX1_delete_10 : decode cX1_delete 10 = .ok (.getfield 37, 3) := by decide +kernel
theorem dX1_delete_13 : decode cX1_delete 13 = .ok (.iconst 1, 1) := by decide +kernel
theorem dX1_delete_14 : decode cX1_delete 14 = .ok (.isub, 1) := by decide +kernel
theorem dX1_delete_15 : decode cX1_delete 15 = .ok (.putfield 37, 3) := by decide +kernel
theorem dX1_delete_18 : decode cX1_delete 18 = .ok (.aload_n 0, 1) := by decide +kernel
theorem dX1_delete_19 : decode cX1_delete 19 = .ok (.iload_n 1, 1) := by decide +kernel
theorem dX1_delete_20 : decode cX1_delete 20 = .ok (.invokevirtual 57, 3) := by decide +kernel
theorem dX1_delete_23 : decode cX1_delete 23 = .ok (.return_, 1) := by decide +kernel
theorem dX1_copyFrom_0 : decode cX1_copyFrom 0 = .ok (.aload_n 1, 1) := by decide +kernel
theorem dX1_copyFrom_1 : decode cX1_copyFrom 1 = .ok (.getfield 9, 3) := by decide +kernel
theorem dX1_copyFrom_4 : decode cX1_copyFrom 4 = .ok (.iconst 0, 1) := by decide +kernel
theorem dX1_copyFrom_5 : decode cX1_copyFrom 5 = .ok (.aload_n 0, 1) := by decide +kernel
theorem dX1_copyFrom_6 : decode cX1_copyFrom 6 = .ok (.getfield 9, 3) := by decide +kernel
theorem dX1_copyFrom_9 : decode cX1_copyFrom 9 = .ok (.iconst 0, 1) := by decide +kernel
theorem dX1_copyFrom_10 : decode cX1_copyFrom 10 = .ok (.aload_n 1, 1) := by decide +kernel
theorem dX1_copyFrom_11 : decode cX1_copyFrom 11 = .ok (.getfield 37, 3) := by decide +kernel
theorem dX1_copyFrom_14 : decode cX1_copyFrom 14 = .ok (.invokestatic 61, 3) := by decide +kernel
theorem dX1_copyFrom_17 : decode cX1_copyFrom 17 = .ok (.aload_n 1, 1) := by decide +kernel
theorem dX1_copyFrom_18 : decode cX1_copyFrom 18 = .ok (.getfield 15, 3) := by decide +kernel
theorem dX1_copyFrom_21 : decode cX1_copyFrom 21 = .ok (.iconst 0, 1) := by decide +kernel
theorem dX1_copyFrom_22 : decode cX1_copyFrom 22 = .ok (.aload_n 0, 1) := by decide +kernel
theorem dX1_copyFrom_23 : decode cX1_copyFrom 23 = .ok (.getfield 15, 3) := by decide +kernel
theorem dX1_copyFrom_26 : decode cX1_copyFrom 26 = .ok (.iconst 0, 1) := by decide +kernel
theorem dX1_copyFrom_27 : decode cX1_copyFrom 27 = .ok (.aload_n 1, 1) := by decide +kernel
theorem dX1_copyFrom_28 : decode cX1_copyFrom 28 = .ok (.getfield 37, 3) := by decide +kernel
theorem dX1_copyFrom_31 : decode cX1_copyFrom 31 = .ok (.invokestatic 61, 3) := by decide +kernel
theorem dX1_copyFrom_34 : decode cX1_copyFrom 34 = .ok (.aload_n 1, 1) := by decide +kernel
theorem dX1_copyFrom_35 : decode cX1_copyFrom 35 = .ok (.getfield 18, 3) := by decide +kernel
theorem dX1_copyFrom_38 : decode cX1_copyFrom 38 = .ok (.iconst 0, 1) := by decide +kernel
theorem dX1_copyFrom_39 : decode cX1_copyFrom 39 = .ok (.aload_n 0, 1) := by decide +kernel
theorem dX1_copyFrom_40 : decode cX1_copyFrom 40 = .ok (.getfield 18, 3) := by decide +kernel
theorem dX1_copyFrom_43 : decode cX1_copyFrom 43 = .ok (.iconst 0, 1) := by decide +kernel
theorem dX1_copyFrom_44 : decode cX1_copyFrom 44 = .ok (.aload_n 1, 1) := by decide +kernel
theorem dX1_copyFrom_45 : decode cX1_copyFrom 45 = .ok (.getfield 37, 3) := by decide +kernel
theorem dX1_copyFrom_48 : decode cX1_copyFrom 48 = .ok (.invokestatic 61, 3) := by decide +kernel
theorem dX1_copyFrom_51 : decode cX1_copyFrom 51 = .ok (.aload_n 1, 1) := by decide +kernel
theorem dX1_copyFrom_52 : decode cX1_copyFrom 52 = .ok (.getfield 21, 3) := by decide +kernel
theorem dX1_copyFrom_55 : decode cX1_copyFrom 55 = .ok (.iconst 0, 1) := by decide +kernel
theorem dX1_copyFrom_56 : decode cX1_copyFrom 56 = .ok (.aload_n 0, 1) := by decide +kernel
theorem dX1_copyFrom_57 : decode cX1_copyFrom 57 = .ok (.getfield 21, 3) := by decide +kernel
theorem dX1_copyFrom_60 : decode cX1_copyFrom 60 = .ok (.iconst 0, 1) := by decide +kernel
theorem dX1_copyFrom_61 : decode cX1_copyFrom 61 = .ok (.aload_n 1, 1) := by decide +kernel
theorem dX1_copyFrom_62 : decode cX1_copyFrom 62 = .ok (.getfield 37, 3) := by decide +kernel
theorem dX1_copyFrom_65 : decode cX1_copyFrom 65 = .ok (.invokestatic 61, 3) := by decide +kernel
theorem dX1_copyFrom_68 : decode cX1_copyFrom 68 = .ok (.aload_n 1, 1) := by decide +kernel
theorem dX1_copyFrom_69 : decode cX1_copyFrom 69 = .ok (.getfield 24, 3) := by decide +kernel
theorem dX1_copyFrom_72 : decode cX1_copyFrom 72 = .ok (.iconst 0, 1) := by decide +kernel
theorem dX1_copyFrom_73 : decode cX1_copyFrom 73 = .ok (.aload_n 0, 1) := by decide +kernel
theorem dX1_copyFrom_74 : decode cX1_copyFrom 74 = .ok (.getfield 24, 3) := by decide +kernel
theorem dX1_copyFrom_77 : decode cX1_copyFrom 77 = .ok (.iconst 0, 1) := by decide +kernel
theorem dX1_copyFrom_78 : decode cX1_copyFrom 78 = .ok (.aload_n 1, 1) := by decide +kernel
theorem dX1_copyFrom_79 : decode cX1_copyFrom 79 = .ok (.getfield 37, 3) := by decide +kernel
theorem dX1_copyFrom_82 : decode cX1_copyFrom 82 = .ok (.invokestatic 61, 3) := by decide +kernel
theorem dX1_copyFrom_85 : decode cX1_copyFrom 85 = .ok (.aload_n 1, 1) := by decide +kernel
theorem dX1_copyFrom_86 : decode cX1_copyFrom 86 = .ok (.getfield 27, 3) := by decide +kernel
theorem dX1_copyFrom_89 : decode cX1_copyFrom 89 = .ok (.iconst 0, 1) := by decide +kernel
theorem dX1_copyFrom_90 : decode cX1_copyFrom 90 = .ok (.aload_n 0, 1) := by decide +kernel
theorem dX1_copyFrom_91 : decode cX1_copyFrom 91 = .ok (.getfield 27, 3) := by decide +kernel
theorem dX1_copyFrom_94 : decode cX1_copyFrom 94 = .ok (.iconst 0, 1) := by decide +kernel
theorem dX1_copyFrom_95 : decode cX1_copyFrom 95 = .ok (.aload_n 1, 1) := by decide +kernel
theorem dX1_copyFrom_96 : decode cX1_copyFrom 96 = .ok (.getfield 37, 3) := by decide +kernel
theorem dX1_copyFrom_99 : decode cX1_copyFrom 99 = .ok (.invokestatic 61, 3) := by decide +kernel
theorem dX1_copyFrom_102 : decode cX1_copyFrom 102 = .ok (.aload_n 1, 1) := by decide +kernel
theorem dX1_copyFrom_103 : decode cX1_copyFrom 103 = .ok (.getfield 30, 3) := by decide +kernel
theorem dX1_copyFrom_106 : decode cX1_copyFrom 106 = .ok (.iconst 0, 1) := by decide +kernel
theorem dX1_copyFrom_107 : decode cX1_copyFrom 107 = .ok (.aload_n 0, 1) := by decide +kernel
theorem dX1_copyFrom_108 : decode cX1_copyFrom 108 = .ok (.getfield 30, 3) := by decide +kernel
theorem dX1_copyFrom_111 : decode cX1_copyFrom 111 = .ok (.iconst 0, 1) := by decide +kernel
theorem dX1_copyFrom_112 : decode cX1_copyFrom 112 = .ok (.aload_n 1, 1) := by decide +kernel
theorem dX1_copyFrom_113 : decode cX1_copyFrom 113 = .ok (.getfield 37, 3) := by decide +kernel
theorem dX1_copyFrom_116 : decode cX1_copyFrom 116 = .ok (.invokestatic 61, 3) := by decide +kernel
theorem dX1_copyFrom_119 : decode cX1_copyFrom 119 = .ok (.aload_n 0, 1) := by decide +kernel
theorem dX1_copyFrom_120 : decode cX1_copyFrom 120 = .ok (.aload_n 1, 1) := by decide +kernel
theorem dX1_copyFrom_121 : decode cX1_copyFrom 121 = .ok (.getfield 37, 3) := by decide +kernel
theorem dX1_copyFrom_124 : decode cX1_copyFrom 124 = .ok (.putfield 37, 3) := by decide +kernel
theorem dX1_copyFrom_127 : decode cX1_copyFrom 127 = .ok (.return_, 1) := by decide +kernel
theorem dX1_idByDistance_0 : decode cX1_idByDistance 0 = .ok (.ldc2_w 69, 3) := by decide +kernel
theorem dX1_idByDistance_3 : decode cX1_idByDistance 3 = .ok (.lstore 5, 2) := by decide +kernel
theorem dX1_idByDistance_5 : decode cX1_idByDistance 5 = .ok (.iconst 0, 1) := by decide +kernel
theorem dX1_idByDistance_6 : decode cX1_idByDistance 6 = .ok (.istore 7, 2) := by decide +kernel
theorem dX1_idByDistance_8 : decode cX1_idByDistance 8 = .ok (.iload 7, 2) := by decide +kernel
theorem dX1_idByDistance_10 : decode cX1_idByDistance 10 = .ok (.iload 4, 2) := by decide +kernel
theorem dX1_idByDistance_12 : decode cX1_idByDistance 12 = .ok (.if_icmp .ge 20, 3) := by decide +kernel
theorem dX1_idByDistance_15 : decode cX1_idByDistance 15 = .ok (.aload_n 0, 1) := by decide +kernel
theorem dX1_idByDistance_16 : decode cX1_idByDistance 16 = .ok (.lload 5, 2) := by decide +kernel
theorem dX1_idByDistance_18 : decode cX1_idByDistance 18 = .ok (.iload_n 1, 1) := by decide +kernel
theorem dX1_idByDistance_19 : decode cX1_idByDistance 19 = .ok (.iload_n 2, 1) := by decide +kernel
theorem dX1_idByDistance_20 : decode cX1_idByDistance 20 = .ok (.iload_n 3, 1) := by decide +kernel
theorem dX1_idByDistance_21 : decode cX1_idByDistance 21 = .ok (.invokevirtual 71, 3) := by decide +kernel
theorem dX1_idByDistance_24 : decode cX1_idByDistance 24 = .ok (.lstore 5, 2) := by decide +kernel
theorem dX1_idByDistance_26 : decode cX1_idByDistance 26 = .ok (.iinc 7 1, 3) := by decide +kernel
theorem dX1_idByDistance_29 : decode cX1_idByDistance 29 = .ok (.goto (-21), 3) := by decide +kernel
theorem dX1_idByDistance_32 : decode cX1_idByDistance 32 = .ok (.lload 5, 2) := by decide +kernel
theorem dX1_idByDistance_34 : decode cX1_idByDistance 34 = .ok (.l2i, 1) := by decide +kernel
theorem dX1_idByDistance_35 : decode cX1_idByDistance 35 = .ok (.ireturn, 1) := by decide +kernel
theorem dX1_nodes_0 : decode cX1_nodes 0 = .ok (.iconst 0, 1) := by decide +kernel
theorem dX1_nodes_1 : decode cX1_nodes 1 = .ok (.istore_n 1, 1) := by decide +kernel
theorem dX1_nodes_2 : decode cX1_nodes 2 = .ok (.iconst 0, 1) := by decide +kernel
theorem dX1_nodes_3 : decode cX1_nodes 3 = .ok (.istore_n 2, 1) := by decide +kernel
theorem dX1_nodes_4 : decode cX1_nodes 4 = .ok (.iload_n 2, 1) := by decide +kernel
theorem dX1_nodes_5 : decode cX1_nodes 5 = .ok (.aload_n 0, 1) := by decide +kernel
theorem dX1_nodes_6 : decode cX1_nodes 6 = .ok (.getfield 37, 3) := by decide +kernel
theorem dX1_nodes_9 : decode cX1_nodes 9 = .ok (.if_icmp .ge 21, 3) := by decide +kernel
theorem dX1_nodes_12 : decode cX1_nodes 12 = .ok (.aload_n 0, 1) := by decide +kernel
theorem dX1_nodes_13 : decode cX1_nodes 13 = .ok (.getfield 30, 3) := by decide +kernel
theorem dX1_nodes_16 : decode cX1_nodes 16 = .ok (.iload_n 2, 1) := by decide +kernel
theorem dX1_nodes_17 : decode cX1_nodes 17 = .ok (.iaload, 1) := by decide +kernel
theorem dX1_nodes_18 : decode cX1_nodes 18 = .ok (.ifCond .ne 6, 3) := by decide +kernel
theorem dX1_nodes_21 : decode cX1_nodes 21 = .ok (.iinc 1 1, 3) := by decide +kernel
theorem dX1_nodes_24 : decode cX1_nodes 24 = .ok (.iinc 2 1, 3) := by decide +kernel
theorem dX1_nodes_27 : decode cX1_nodes 27 = .ok (.goto (-23), 3) := by decide +kernel
theorem dX1_nodes_30 : decode cX1_nodes 30 = .ok (.iload_n 1, 1) := by decide +kernel
theorem dX1_nodes_31 : decode cX1_nodes 31 = .ok (.ireturn, 1) := by decide +kernel
theorem dX1_pages_0 : decode cX1_pages 0 = .ok (.iconst 0, 1) := by decide +kernel
theorem dX1_pages_1 : decode cX1_pages 1 = .ok (.istore_n 1, 1) := by decide +kernel
theorem dX1_pages_2 : decode cX1_pages 2 = .ok (.iconst 0, 1) := by decide +kernel
theorem dX1_pages_3 : decode cX1_pages 3 = .ok (.istore_n 2, 1) := by decide +kernel
theorem dX1_pages_4 : decode cX1_pages 4 = .ok (.iload_n 2, 1) := by decide +kernel
theorem dX1_pages_5 : decode cX1_pages 5 = .ok (.aload_n 0, 1) := by decide +kernel
theorem dX1_pages_6 : decode cX1_pages 6 = .ok (.getfield 37, 3) := by decide +kernel
theorem dX1_pages_9 : decode cX1_pages 9 = .ok (.if_icmp .ge 20, 3) := by decide +kernel
theorem dX1_pages_12 : decode cX1_pages 12 = .ok (.aload_n 0, 1) := by decide +kernel
theorem dX1_pages_13 : decode cX1_pages 13 = .ok (.iload_n 2, 1) := by decide +kernel
theorem dX1_pages_14 : decode cX1_pages 14 = .ok (.invokevirtual 75, 3) := by decide +kernel
theorem dX1_pages_17 : decode cX1_pages 17 = .ok (.ifCond .eq 6, 3) := by decide +kernel
theorem dX1_pages_20 : decode cX1_pages 20 = .ok (.iinc 1 1, 3) := by decide +kernel
theorem dX1_pages_23 : decode cX1_pages 23 = .ok (.iinc 2 1, 3) := by decide +kernel
theorem dX1_pages_26 : decode cX1_pages 26 = .ok (.goto (-22), 3) := by decide +kernel
theorem dX1_pages_29 : decode cX1_pages 29 = .ok (.iload_n 1, 1) := by decide +kernel
theorem dX1_pages_30 : decode cX1_pages 30 = .ok (.ireturn, 1) := by decide +kernel
theorem dX1_markChanges_0 : decode cX1_markChanges 0 = .ok (.iconst 0, 1) := by decide +kernel
theorem dX1_markChanges_1 : decode cX1_markChanges 1 = .ok (.istore_n 2, 1) := by decide +kernel
theorem dX1_markChanges_2 : decode cX1_markChanges 2 = .ok (.iconst 0, 1) := by decide +kernel
theorem dX1_markChanges_3 : decode cX1_markChanges 3 = .ok (.istore_n 3, 1) := by decide +kernel
theorem dX1_markChanges_4 : decode cX1_markChanges 4 = .ok (.iload_n 3, 1) := by decide +kernel
theorem dX1_markChanges_5 : decode cX1_markChanges 5 = .ok (.aload_n 0, 1) := by decide +kernel
theorem dX1_markChanges_6 : decode cX1_markChanges 6 = .ok (.getfield 37, 3) := by decide +kernel
theorem dX1_markChanges_9 : decode cX1_markChanges 9 = .ok (.if_icmp .ge 41, 3) := by decide +kernel
theorem dX1_markChanges_12 : decode cX1_markChanges 12 = .ok (.aload_n 0, 1) := by decide +kernel
theorem dX1_markChanges_13 : decode cX1_markChanges 13 = .ok (.getfield 33, 3) := by decide +kernel
theorem dX1_markChanges_16 : decode cX1_markChanges 16 = .ok (.iload_n 3, 1) := by decide +kernel
theorem dX1_markChanges_17 : decode cX1_markChanges 17 = .ok (.aload_n 1, 1) := by decide +kernel
theorem dX1_markChanges_18 : decode cX1_markChanges 18 = .ok (.aload_n 0, 1) := by decide +kernel
theorem dX1_markChanges_19 : decode cX1_markChanges 19 = .ok (.iload_n 3, 1) := by decide +kernel
theorem dX1_markChanges_20 : decode cX1_markChanges 20 = .ok (.invokevirtual 79, 3) := by decide +kernel
theorem dX1_markChanges_23 : decode cX1_markChanges 23 = .ok (.ifCond .ne 7, 3) := by decide +kernel
theorem dX1_markChanges_26 : decode cX1_markChanges 26 = .ok (.iconst 1, 1) := by decide +kernel
theorem dX1_markChanges_27 : decode cX1_markChanges 27 = .ok (.goto 4, 3) := by decide +kernel
theorem dX1_markChanges_30 : decode cX1_markChanges 30 = .ok (.iconst 0, 1) := by decide +kernel
theorem dX1_markChanges_31 : decode cX1_markChanges 31 = .ok (.bastore, 1) := by decide +kernel
theorem dX1_markChanges_32 : decode cX1_markChanges 32 = .ok (.aload_n 0, 1) := by decide +kernel
theorem dX1_markChanges_33 : decode cX1_markChanges 33 = .ok (.getfield 33, 3) := by decide +kernel
theorem dX1_markChanges_36 : decode cX1_markChanges 36 = .ok (.iload_n 3, 1) := by decide +kernel
theorem dX1_markChanges_37 : decode cX1_markChanges 37 = .ok (.baload, 1) := by decide +kernel
theorem dX1_markChanges_38 : decode cX1_markChanges 38 = .ok (.ifCond .eq 6, 3) := by decide +kernel
theorem dX1_markChanges_41 : decode cX1_markChanges 41 = .ok (.iinc 2 1, 3) := by decide +kernel
theorem dX1_markChanges_44 : decode cX1_markChanges 44 = .ok (.iinc 3 1, 3) := by decide +kernel
theorem dX1_markChanges_47 : decode cX1_markChanges 47 = .ok (.goto (-43), 3) := by decide +kernel
theorem dX1_markChanges_50 : decode cX1_markChanges 50 = .ok (.iload_n 2, 1) := by decide +kernel
theorem dX1_markChanges_51 : decode cX1_markChanges 51 = .ok (.ireturn, 1) := by decide +kernel
theorem dX1_pagesToWrite_0 : decode cX1_pagesToWrite 0 = .ok (.iconst 0, 1) := by decide +kernel
theorem dX1_pagesToWrite_1 : decode cX1_pagesToWrite 1 = .ok (.istore_n 2, 1) := by decide +kernel
theorem dX1_pagesToWrite_2 : decode cX1_pagesToWrite 2 = .ok (.iconst 0, 1) := by decide +kernel
theorem dX1_pagesToWrite_3 : decode cX1_pagesToWrite 3 = .ok (.istore_n 3, 1) := by decide +kernel
theorem dX1_pagesToWrite_4 : decode cX1_pagesToWrite 4 = .ok (.iload_n 3, 1) := by decide +kernel
theorem dX1_pagesToWrite_5 : decode cX1_pagesToWrite 5 = .ok (.aload_n 0, 1) := by decide +kernel
theorem dX1_pagesToWrite_6 : decode cX1_pagesToWrite 6 = .ok (.getfield 37, 3) := by decide +kernel
theorem dX1_pagesToWrite_9 : decode cX1_pagesToWrite 9 = .ok (.if_icmp .ge 29, 3) := by decide +kernel
theorem dX1_pagesToWrite_12 : decode cX1_pagesToWrite 12 = .ok (.aload_n 0, 1) := by decide +kernel
theorem dX1_pagesToWrite_13 : decode cX1_pagesToWrite 13 = .ok (.iload_n 3, 1) := by decide +kernel
theorem dX1_pagesToWrite_14 : decode cX1_pagesToWrite 14 = .ok (.invokevirtual 75, 3) := by decide +kernel
theorem dX1_pagesToWrite_17 : decode cX1_pagesToWrite 17 = .ok (.ifCond .eq 15, 3) := by decide +kernel
theorem dX1_pagesToWrite_20 : decode cX1_pagesToWrite 20 = .ok (.aload_n 0, 1) := by decide +kernel
theorem dX1_pagesToWrite_21 : decode cX1_pagesToWrite 21 = .ok (.iload_n 3, 1) := by decide +kernel
theorem dX1_pagesToWrite_22 : decode cX1_pagesToWrite 22 = .ok (.aload_n 1, 1) := by decide +kernel
theorem dX1_pagesToWrite_23 : decode cX1_pagesToWrite 23 = .ok (.invokevirtual 83, 3) := by decide +kernel
theorem dX1_pagesToWrite_26 : decode cX1_pagesToWrite 26 = .ok (.ifCond .ne 6, 3) := by decide +kernel
theorem dX1_pagesToWrite_29 : decode cX1_pagesToWrite 29 = .ok (.iinc 2 1, 3) := by decide +kernel
theorem dX1_pagesToWrite_32 : decode cX1_pagesToWrite 32 = .ok (.iinc 3 1, 3) := by decide +kernel
theorem dX1_pagesToWrite_35 : decode cX1_pagesToWrite 35 = .ok (.goto (-31), 3) := by decide +kernel
theorem dX1_pagesToWrite_38 : decode cX1_pagesToWrite 38 = .ok (.iload_n 2, 1) := by decide +kernel
theorem dX1_pagesToWrite_39 : decode cX1_pagesToWrite 39 = .ok (.ireturn, 1) := by decide +kernel
theorem dX1_pointsAbove_0 : decode cX1_pointsAbove 0 = .ok (.iconst 0, 1) := by decide +kernel
theorem dX1_pointsAbove_1 : decode cX1_pointsAbove 1 = .ok (.istore_n 3, 1) := by decide +kernel
theorem dX1_pointsAbove_2 : decode cX1_pointsAbove 2 = .ok (.iconst 0, 1) := by decide +kernel
theorem dX1_pointsAbove_3 : decode cX1_pointsAbove 3 = .ok (.istore 4, 2) := by decide +kernel
theorem dX1_pointsAbove_5 : decode cX1_pointsAbove 5 = .ok (.iload 4, 2) := by decide +kernel
theorem dX1_pointsAbove_7 : decode cX1_pointsAbove 7 = .ok (.aload_n 0, 1) := by decide +kernel
theorem dX1_pointsAbove_8 : decode cX1_pointsAbove 8 = .ok (.getfield 37, 3) := by decide +kernel
theorem dX1_pointsAbove_11 : decode cX1_pointsAbove 11 = .ok (.if_icmp .ge 27, 3) := by decide +kernel
theorem dX1_pointsAbove_14 : decode cX1_pointsAbove 14 = .ok (.aload_n 0, 1) := by decide +kernel
theorem dX1_pointsAbove_15 : decode cX1_pointsAbove 15 = .ok (.getfield 9, 3) := by decide +kernel
theorem dX1_pointsAbove_18 : decode cX1_pointsAbove 18 = .ok (.iload 4, 2) := by decide +kernel
theorem dX1_pointsAbove_20 : decode cX1_pointsAbove 20 = .ok (.iaload, 1) := by decide +kernel
theorem dX1_pointsAbove_21 : decode cX1_pointsAbove 21 = .ok (.invokestatic 45, 3) := by decide +kernel
theorem dX1_pointsAbove_24 : decode cX1_pointsAbove 24 = .ok (.lload_n 1, 1) := by decide +kernel
theorem dX1_pointsAbove_25 : decode cX1_pointsAbove 25 = .ok (.lcmp, 1) := by decide +kernel
theorem dX1_pointsAbove_26 : decode cX1_pointsAbove 26 = .ok (.ifCond .le 6, 3) := by decide +kernel
theorem dX1_pointsAbove_29 : decode cX1_pointsAbove 29 = .ok (.iinc 3 1, 3) := by decide +kernel
theorem dX1_pointsAbove_32 : decode cX1_pointsAbove 32 = .ok (.iinc 4 1, 3) := by decide +kernel
theorem dX1_pointsAbove_35 : decode cX1_pointsAbove 35 = .ok (.goto (-30), 3) := by decide +kernel
theorem dX1_pointsAbove_38 : decode cX1_pointsAbove 38 = .ok (.iload_n 3, 1) := by decide +kernel
theorem dX1_pointsAbove_39 : decode cX1_pointsAbove 39 = .ok (.ireturn, 1) := by decide +kernel
theorem dX1_moveTail_0 : decode cX1_moveTail 0 = .ok (.aload_n 0, 1) := by decide +kernel
theorem dX1_moveTail_1 : decode cX1_moveTail 1 = .ok (.getfield 37, 3) := by decide +kernel
theorem dX1_moveTail_4 : decode cX1_moveTail 4 = .ok (.iload_n 1, 1) := by decide +kernel
theorem dX1_moveTail_5 : decode cX1_moveTail 5 = .ok (.isub, 1) := by decide +kernel
theorem dX1_moveTail_6 : decode cX1_moveTail 6 = .ok (.istore_n 3, 1) := by decide +kernel
theorem dX1_moveTail_7 : decode cX1_moveTail 7 = .ok (.aload_n 0, 1) := by decide +kernel
theorem dX1_moveTail_8 : decode cX1_moveTail 8 = .ok (.getfield 9, 3) := by decide +kernel
theorem dX1_moveTail_11 : decode cX1_moveTail 11 = .ok (.iload_n 1, 1) := by decide +kernel
theorem dX1_moveTail_12 : decode cX1_moveTail 12 = .ok (.aload_n 0, 1) := by decide +kernel
theorem dX1_moveTail_13 : decode cX1_moveTail 13 = .ok (.getfield 9, 3) := by decide +kernel
theorem dX1_moveTail_16 : decode cX1_moveTail 16 = .ok (.iload_n 2, 1) := by decide +kernel
theorem dX1_moveTail_17 : decode cX1_moveTail 17 = .ok (.iload_n 3, 1) := by decide +kernel
theorem dX1_moveTail_18 : decode cX1_moveTail 18 = .ok (.invokestatic 61, 3) := by decide +kernel
theorem dX1_moveTail_21 : decode cX1_moveTail 21 = .ok (.aload_n 0, 1) := by decide +kernel
theorem dX1_moveTail_22 : decode cX1_moveTail 22 = .ok (.getfield 15, 3) := by decide +kernel
theorem dX1_moveTail_25 : decode cX1_moveTail 25 = .ok (.iload_n 1, 1) := by decide +kernel
theorem dX1_moveTail_26 : decode cX1_moveTail 26 = .ok (.aload_n 0, 1) := by decide +kernel
theorem dX1_moveTail_27 : decode cX1_moveTail 27 = .ok (.getfield 15, 3) := by decide +kernel
theorem dX1_moveTail_30 : decode cX1_moveTail 30 = .ok (.iload_n 2, 1) := by decide +kernel
theorem dX1_moveTail_31 : decode cX1_moveTail 31 = .ok (.iload_n 3, 1) := by decide +kernel
theorem dX1_moveTail_32 : decode cX1_moveTail 32 = .ok (.invokestatic 61, 3) := by decide +kernel
theorem dX1_moveTail_35 : decode cX1_moveTail 35 = .ok (.aload_n 0, 1) := by decide +kernel
theorem dX1_moveTail_36 : decode cX1_moveTail 36 = .ok (.getfield 18, 3) := by decide +kernel
theorem dX1_moveTail_39 : decode cX1_moveTail 39 = .ok (.iload_n 1, 1) := by decide +kernel
theorem dX1_moveTail_40 : decode cX1_moveTail 40 = .ok (.aload_n 0, 1) := by decide +kernel
theorem dX1_moveTail_41 : decode cX1_moveTail 41 = .ok (.getfield 18, 3) := by decide +kernel
theorem dX1_moveTail_44 : decode cX1_moveTail 44 = .ok (.iload_n 2, 1) := by decide +kernel
theorem dX1_moveTail_45 : decode cX1_moveTail 45 = .ok (.iload_n 3, 1) := by decide +kernel
theorem dX1_moveTail_46 : decode cX1_moveTail 46 = .ok (.invokestatic 61, 3) := by decide +kernel
theorem dX1_moveTail_49 : decode cX1_moveTail 49 = .ok (.aload_n 0, 1) := by decide +kernel
theorem dX1_moveTail_50 : decode cX1_moveTail 50 = .ok (.getfield 21, 3) := by decide +kernel
theorem dX1_moveTail_53 : decode cX1_moveTail 53 = .ok (.iload_n 1, 1) := by decide +kernel
theorem dX1_moveTail_54 : decode cX1_moveTail 54 = .ok (.aload_n 0, 1) := by decide +kernel
theorem dX1_moveTail_55 : decode cX1_moveTail 55 = .ok (.getfield 21, 3) := by decide +kernel
theorem dX1_moveTail_58 : decode cX1_moveTail 58 = .ok (.iload_n 2, 1) := by decide +kernel
theorem dX1_moveTail_59 : decode cX1_moveTail 59 = .ok (.iload_n 3, 1) := by decide +kernel
theorem dX1_moveTail_60 : decode cX1_moveTail 60 = .ok (.invokestatic 61, 3) := by decide +kernel
theorem dX1_moveTail_63 : decode cX1_moveTail 63 = .ok (.aload_n 0, 1) := by decide +kernel
theorem dX1_moveTail_64 : decode cX1_moveTail 64 = .ok (.getfield 24, 3) := by decide +kernel
theorem dX1_moveTail_67 : decode cX1_moveTail 67 = .ok (.iload_n 1, 1) := by decide +kernel
theorem dX1_moveTail_68 : decode cX1_moveTail 68 = .ok (.aload_n 0, 1) := by decide +kernel
theorem dX1_moveTail_69 : decode cX1_moveTail 69 = .ok (.getfield 24, 3) := by decide +kernel
theorem dX1_moveTail_72 : decode cX1_moveTail 72 = .ok (.iload_n 2, 1) := by decide +kernel
theorem dX1_moveTail_73 : decode cX1_moveTail 73 = .ok (.iload_n 3, 1) := by decide +kernel
theorem dX1_moveTail_74 : decode cX1_moveTail 74 = .ok (.invokestatic 61, 3) := by decide +kernel
theorem dX1_moveTail_77 : decode cX1_moveTail 77 = .ok (.return_, 1) := by decide +kernel
theorem dX1_settleFrom_0 : decode cX1_settleFrom 0 = .ok (.iload_n 1, 1) := by decide +kernel
theorem dX1_settleFrom_1 : decode cX1_settleFrom 1 = .ok (.istore_n 2, 1) := by decide +kernel
theorem dX1_settleFrom_2 : decode cX1_settleFrom 2 = .ok (.iload_n 2, 1) := by decide +kernel
theorem dX1_settleFrom_3 : decode cX1_settleFrom 3 = .ok (.aload_n 0, 1) := by decide +kernel
theorem dX1_settleFrom_4 : decode cX1_settleFrom 4 = .ok (.getfield 37, 3) := by decide +kernel
theorem dX1_settleFrom_7 : decode cX1_settleFrom 7 = .ok (.if_icmp .ge 14, 3) := by decide +kernel
theorem dX1_settleFrom_10 : decode cX1_settleFrom 10 = .ok (.aload_n 0, 1) := by decide +kernel
theorem dX1_settleFrom_11 : decode cX1_settleFrom 11 = .ok (.iload_n 2, 1) := by decide +kernel
theorem dX1_settleFrom_12 : decode cX1_settleFrom 12 = .ok (.invokevirtual 87, 3) := by decide +kernel
theorem dX1_settleFrom_15 : decode cX1_settleFrom 15 = .ok (.iinc 2 1, 3) := by decide +kernel
theorem dX1_settleFrom_18 : decode cX1_settleFrom 18 = .ok (.goto (-16), 3) := by decide +kernel
theorem dX1_settleFrom_21 : decode cX1_settleFrom 21 = .ok (.return_, 1) := by decide +kernel
theorem dX1_settle_0 : decode cX1_settle 0 = .ok (.iconst 0, 1) := by decide +kernel
theorem dX1_settle_1 : decode cX1_settle 1 = .ok (.istore_n 2, 1) := by decide +kernel
theorem dX1_settle_2 : decode cX1_settle 2 = .ok (.aload_n 0, 1) := by decide +kernel
theorem dX1_settle_3 : decode cX1_settle 3 = .ok (.iload_n 1, 1) := by decide +kernel
theorem dX1_settle_4 : decode cX1_settle 4 = .ok (.iload_n 2, 1) := by decide +kernel
theorem dX1_settle_5 : decode cX1_settle 5 = .ok (.invokevirtual 90, 3) := by decide +kernel
theorem dX1_settle_8 : decode cX1_settle 8 = .ok (.istore_n 3, 1) := by decide +kernel
theorem dX1_settle_9 : decode cX1_settle 9 = .ok (.iload_n 2, 1) := by decide +kernel
theorem dX1_settle_10 : decode cX1_settle 10 = .ok (.iconst 4, 1) := by decide +kernel
theorem dX1_settle_11 : decode cX1_settle 11 = .ok (.if_icmp .ge 21, 3) := by decide +kernel
theorem dX1_settle_14 : decode cX1_settle 14 = .ok (.iload_n 3, 1) := by decide +kernel
theorem dX1_settle_15 : decode cX1_settle 15 = .ok (.iconst 3, 1) := by decide +kernel
theorem dX1_settle_16 : decode cX1_settle 16 = .ok (.if_icmp .lt 16, 3) := by decide +kernel
theorem dX1_settle_19 : decode cX1_settle 19 = .ok (.iinc 2 1, 3) := by decide +kernel
theorem dX1_settle_22 : decode cX1_settle 22 = .ok (.aload_n 0, 1) := by decide +kernel
theorem dX1_settle_23 : decode cX1_settle 23 = .ok (.iload_n 1, 1) := by decide +kernel
theorem dX1_settle_24 : decode cX1_settle 24 = .ok (.iload_n 2, 1) := by decide +kernel
theorem dX1_settle_25 : decode cX1_settle 25 = .ok (.invokevirtual 90, 3) := by decide +kernel
theorem dX1_settle_28 : decode cX1_settle 28 = .ok (.istore_n 3, 1) := by decide +kernel
theorem dX1_settle_29 : decode cX1_settle 29 = .ok (.goto (-20), 3) := by decide +kernel
theorem dX1_settle_32 : decode cX1_settle 32 = .ok (.aload_n 0, 1) := by decide +kernel
theorem dX1_settle_33 : decode cX1_settle 33 = .ok (.getfield 27, 3) := by decide +kernel
theorem dX1_settle_36 : decode cX1_settle 36 = .ok (.iload_n 1, 1) := by decide +kernel
theorem dX1_settle_37 : decode cX1_settle 37 = .ok (.iload_n 2, 1) := by decide +kernel
theorem dX1_settle_38 : decode cX1_settle 38 = .ok (.iastore, 1) := by decide +kernel
theorem dX1_settle_39 : decode cX1_settle 39 = .ok (.aload_n 0, 1) := by decide +kernel
theorem dX1_settle_40 : decode cX1_settle 40 = .ok (.getfield 30, 3) := by decide +kernel
theorem dX1_settle_43 : decode cX1_settle 43 = .ok (.iload_n 1, 1) := by decide +kernel
theorem dX1_settle_44 : decode cX1_settle 44 = .ok (.iload_n 3, 1) := by decide +kernel
theorem dX1_settle_45 : decode cX1_settle 45 = .ok (.iastore, 1) := by decide +kernel
theorem dX1_settle_46 : decode cX1_settle 46 = .ok (.return_, 1) := by decide +kernel
theorem dX1_keptBefore_0 : decode cX1_keptBefore 0 = .ok (.iload_n 2, 1) := by decide +kernel
theorem dX1_keptBefore_1 : decode cX1_keptBefore 1 = .ok (.aload_n 0, 1) := by decide +kernel
theorem dX1_keptBefore_2 : decode cX1_keptBefore 2 = .ok (.getfield 15, 3) := by decide +kernel
theorem dX1_keptBefore_5 : decode cX1_keptBefore 5 = .ok (.iload_n 1, 1) := by decide +kernel
theorem dX1_keptBefore_6 : decode cX1_keptBefore 6 = .ok (.iaload, 1) := by decide +kernel
theorem dX1_keptBefore_7 : decode cX1_keptBefore 7 = .ok (.invokestatic 94, 3) := by decide +kernel
theorem dX1_keptBefore_10 : decode cX1_keptBefore 10 = .ok (.istore_n 3, 1) := by decide +kernel
theorem dX1_keptBefore_11 : decode cX1_keptBefore 11 = .ok (.iload_n 2, 1) := by decide +kernel
theorem dX1_keptBefore_12 : decode cX1_keptBefore 12 = .ok (.aload_n 0, 1) := by decide +kernel
theorem dX1_keptBefore_13 : decode cX1_keptBefore 13 = .ok (.getfield 18, 3) := by decide +kernel
theorem dX1_keptBefore_16 : decode cX1_keptBefore 16 = .ok (.iload_n 1, 1) := by decide +kernel
theorem dX1_keptBefore_17 : decode cX1_keptBefore 17 = .ok (.iaload, 1) := by decide +kernel
theorem dX1_keptBefore_18 : decode cX1_keptBefore 18 = .ok (.invokestatic 94, 3) := by decide +kernel
theorem dX1_keptBefore_21 : decode cX1_keptBefore 21 = .ok (.istore 4, 2) := by decide +kernel
theorem dX1_keptBefore_23 : decode cX1_keptBefore 23 = .ok (.iload_n 2, 1) := by decide +kernel
theorem dX1_keptBefore_24 : decode cX1_keptBefore 24 = .ok (.aload_n 0, 1) := by decide +kernel
theorem dX1_keptBefore_25 : decode cX1_keptBefore 25 = .ok (.getfield 21, 3) := by decide +kernel
theorem dX1_keptBefore_28 : decode cX1_keptBefore 28 = .ok (.iload_n 1, 1) := by decide +kernel
theorem dX1_keptBefore_29 : decode cX1_keptBefore 29 = .ok (.iaload, 1) := by decide +kernel
theorem dX1_keptBefore_30 : decode cX1_keptBefore 30 = .ok (.invokestatic 94, 3) := by decide +kernel
theorem dX1_keptBefore_33 : decode cX1_keptBefore 33 = .ok (.istore 5, 2) := by decide +kernel
theorem dX1_keptBefore_35 : decode cX1_keptBefore 35 = .ok (.iconst 0, 1) := by decide +kernel
theorem dX1_keptBefore_36 : decode cX1_keptBefore 36 = .ok (.istore 6, 2) := by decide +kernel
theorem dX1_keptBefore_38 : decode cX1_keptBefore 38 = .ok (.iconst 0, 1) := by decide +kernel
theorem dX1_keptBefore_39 : decode cX1_keptBefore 39 = .ok (.istore 7, 2) := by decide +kernel
theorem dX1_keptBefore_41 : decode cX1_keptBefore 41 = .ok (.iload 7, 2) := by decide +kernel
theorem dX1_keptBefore_43 : decode cX1_keptBefore 43 = .ok (.iload_n 1, 1) := by decide +kernel
theorem dX1_keptBefore_44 : decode cX1_keptBefore 44 = .ok (.if_icmp .ge 38, 3) := by decide +kernel
theorem dX1_keptBefore_47 : decode cX1_keptBefore 47 = .ok (.aload_n 0, 1) := by decide +kernel
theorem dX1_keptBefore_48 : decode cX1_keptBefore 48 = .ok (.getfield 27, 3) := by decide +kernel
theorem dX1_keptBefore_51 : decode cX1_keptBefore 51 = .ok (.iload 7, 2) := by decide +kernel
theorem dX1_keptBefore_53 : decode cX1_keptBefore 53 = .ok (.iaload, 1) := by decide +kernel
theorem dX1_keptBefore_54 : decode cX1_keptBefore 54 = .ok (.iload_n 2, 1) := by decide +kernel
theorem dX1_keptBefore_55 : decode cX1_keptBefore 55 = .ok (.if_icmp .ne 21, 3) := by decide +kernel
theorem dX1_keptBefore_58 : decode cX1_keptBefore 58 = .ok (.aload_n 0, 1) := by decide +kernel
theorem dX1_keptBefore_59 : decode cX1_keptBefore 59 = .ok (.iload 7, 2) := by decide +kernel
theorem dX1_keptBefore_61 : decode cX1_keptBefore 61 = .ok (.iload_n 2, 1) := by decide +kernel
theorem dX1_keptBefore_62 : decode cX1_keptBefore 62 = .ok (.iload_n 3, 1) := by decide +kernel
theorem dX1_keptBefore_63 : decode cX1_keptBefore 63 = .ok (.iload 4, 2) := by decide +kernel
theorem dX1_keptBefore_65 : decode cX1_keptBefore 65 = .ok (.iload 5, 2) := by decide +kernel
theorem dX1_keptBefore_67 : decode cX1_keptBefore 67 = .ok (.invokevirtual 41, 3) := by decide +kernel
theorem dX1_keptBefore_70 : decode cX1_keptBefore 70 = .ok (.ifCond .eq 6, 3) := by decide +kernel
theorem dX1_keptBefore_73 : decode cX1_keptBefore 73 = .ok (.iinc 6 1, 3) := by decide +kernel
theorem dX1_keptBefore_76 : decode cX1_keptBefore 76 = .ok (.iinc 7 1, 3) := by decide +kernel
theorem dX1_keptBefore_79 : decode cX1_keptBefore 79 = .ok (.goto (-38), 3) := by decide +kernel
theorem dX1_keptBefore_82 : decode cX1_keptBefore 82 = .ok (.iload 6, 2) := by decide +kernel
theorem dX1_keptBefore_84 : decode cX1_keptBefore 84 = .ok (.ireturn, 1) := by decide +kernel
theorem dX1_isInCube_0 : decode cX1_isInCube 0 = .ok (.iload_n 2, 1) := by decide +kernel
theorem dX1_isInCube_1 : decode cX1_isInCube 1 = .ok (.aload_n 0, 1) := by decide +kernel
theorem dX1_isInCube_2 : decode cX1_isInCube 2 = .ok (.getfield 15, 3) := by decide +kernel
theorem dX1_isInCube_5 : decode cX1_isInCube 5 = .ok (.iload_n 1, 1) := by decide +kernel
theorem dX1_isInCube_6 : decode cX1_isInCube 6 = .ok (.iaload, 1) := by decide +kernel
theorem dX1_isInCube_7 : decode cX1_isInCube 7 = .ok (.invokestatic 94, 3) := by decide +kernel
theorem dX1_isInCube_10 : decode cX1_isInCube 10 = .ok (.iload_n 3, 1) := by decide +kernel
theorem dX1_isInCube_11 : decode cX1_isInCube 11 = .ok (.if_icmp .ne 37, 3) := by decide +kernel
theorem dX1_isInCube_14 : decode cX1_isInCube 14 = .ok (.iload_n 2, 1) := by decide +kernel
theorem dX1_isInCube_15 : decode cX1_isInCube 15 = .ok (.aload_n 0, 1) := by decide +kernel
theorem dX1_isInCube_16 : decode cX1_isInCube 16 = .ok (.getfield 18, 3) := by decide +kernel
theorem dX1_isInCube_19 : decode cX1_isInCube 19 = .ok (.iload_n 1, 1) := by decide +kernel
theorem dX1_isInCube_20 : decode cX1_isInCube 20 = .ok (.iaload, 1) := by decide +kernel
theorem dX1_isInCube_21 : decode cX1_isInCube 21 = .ok (.invokestatic 94, 3) := by decide +kernel
theorem dX1_isInCube_24 : decode cX1_isInCube 24 = .ok (.iload 4, 2) := by decide +kernel
theorem dX1_isInCube_26 : decode cX1_isInCube 26 = .ok (.if_icmp .ne 22, 3) := by decide +kernel
theorem dX1_isInCube_29 : decode cX1_isInCube 29 = .ok (.iload_n 2, 1) := by decide +kernel
theorem dX1_isInCube_30 : decode cX1_isInCube 30 = .ok (.aload_n 0, 1) := by decide +kernel
theorem dX1_isInCube_31 : decode cX1_isInCube 31 = .ok (.getfield 21, 3) := by decide +kernel
theorem dX1_isInCube_34 : decode cX1_isInCube 34 = .ok (.iload_n 1, 1) := by decide +kernel
theorem dX1_isInCube_35 : decode cX1_isInCube 35 = .ok (.iaload, 1) := by decide +kernel
theorem dX1_isInCube_36 : decode cX1_isInCube 36 = .ok (.invokestatic 94, 3) := by decide +kernel
theorem dX1_isInCube_39 : decode cX1_isInCube 39 = .ok (.iload 5, 2) := by decide +kernel
theorem dX1_isInCube_41 : decode cX1_isInCube 41 = .ok (.if_icmp .ne 7, 3) := by decide +kernel
theorem dX1_isInCube_44 : decode cX1_isInCube 44 = .ok (.iconst 1, 1) := by decide +kernel
theorem dX1_isInCube_45 : decode cX1_isInCube 45 = .ok (.goto 4, 3) := by decide +kernel
theorem dX1_isInCube_48 : decode cX1_isInCube 48 = .ok (.iconst 0, 1) := by decide +kernel
theorem dX1_isInCube_49 : decode cX1_isInCube 49 = .ok (.ireturn, 1) := by decide +kernel
theorem dX1_beginsPage_0 : decode cX1_beginsPage 0 = .ok (.aload_n 0, 1) := by decide +kernel
theorem dX1_beginsPage_1 : decode cX1_beginsPage 1 = .ok (.getfield 30, 3) := by decide +kernel
theorem dX1_beginsPage_4 : decode cX1_beginsPage 4 = .ok (.iload_n 1, 1) := by decide +kernel
theorem dX1_beginsPage_5 : decode cX1_beginsPage 5 = .ok (.iaload, 1) := by decide +kernel
theorem dX1_beginsPage_6 : decode cX1_beginsPage 6 = .ok (.bipush 6, 2) := by decide +kernel
theorem dX1_beginsPage_8 : decode cX1_beginsPage 8 = .ok (.irem, 1) := by decide +kernel
theorem dX1_beginsPage_9 : decode cX1_beginsPage 9 = .ok (.ifCond .ne 7, 3) := by decide +kernel
theorem dX1_beginsPage_12 : decode cX1_beginsPage 12 = .ok (.iconst 1, 1) := by decide +kernel
theorem dX1_beginsPage_13 : decode cX1_beginsPage 13 = .ok (.goto 4, 3) := by decide +kernel
theorem dX1_beginsPage_16 : decode cX1_beginsPage 16 = .ok (.iconst 0, 1) := by decide +kernel
theorem dX1_beginsPage_17 : decode cX1_beginsPage 17 = .ok (.ireturn, 1) := by decide +kernel
theorem dX1_keepsAlike_0 : decode cX1_keepsAlike 0 = .ok (.aload_n 0, 1) := by decide +kernel
theorem dX1_keepsAlike_1 : decode cX1_keepsAlike 1 = .ok (.aload_n 1, 1) := by decide +kernel
theorem dX1_keepsAlike_2 : decode cX1_keepsAlike 2 = .ok (.getfield 9, 3) := by decide +kernel
theorem dX1_keepsAlike_5 : decode cX1_keepsAlike 5 = .ok (.iload_n 2, 1) := by decide +kernel
theorem dX1_keepsAlike_6 : decode cX1_keepsAlike 6 = .ok (.iaload, 1) := by decide +kernel
theorem dX1_keepsAlike_7 : decode cX1_keepsAlike 7 = .ok (.invokevirtual 97, 3) := by decide +kernel
theorem dX1_keepsAlike_10 : decode cX1_keepsAlike 10 = .ok (.istore_n 3, 1) := by decide +kernel
theorem dX1_keepsAlike_11 : decode cX1_keepsAlike 11 = .ok (.iload_n 3, 1) := by decide +kernel
theorem dX1_keepsAlike_12 : decode cX1_keepsAlike 12 = .ok (.iconst (-1), 1) := by decide +kernel
theorem dX1_keepsAlike_13 : decode cX1_keepsAlike 13 = .ok (.if_icmp .eq 82, 3) := by decide +kernel
theorem dX1_keepsAlike_16 : decode cX1_keepsAlike 16 = .ok (.aload_n 0, 1) := by decide +kernel
theorem dX1_keepsAlike_17 : decode cX1_keepsAlike 17 = .ok (.getfield 15, 3) := by decide +kernel
theorem dX1_keepsAlike_20 : decode cX1_keepsAlike 20 = .ok (.iload_n 3, 1) := by decide +kernel
theorem dX1_keepsAlike_21 : decode cX1_keepsAlike 21 = .ok (.iaload, 1) := by decide +kernel
theorem dX1_keepsAlike_22 : decode cX1_keepsAlike 22 = .ok (.aload_n 1, 1) := by decide +kernel
theorem dX1_keepsAlike_23 : decode cX1_keepsAlike 23 = .ok (.getfield 15, 3) := by decide +kernel
theorem dX1_keepsAlike_26 : decode cX1_keepsAlike 26 = .ok (.iload_n 2, 1) := by decide +kernel
theorem dX1_keepsAlike_27 : decode cX1_keepsAlike 27 = .ok (.iaload, 1) := by decide +kernel
theorem dX1_keepsAlike_28 : decode cX1_keepsAlike 28 = .ok (.if_icmp .ne 67, 3) := by decide +kernel
theorem dX1_keepsAlike_31 : decode cX1_keepsAlike 31 = .ok (.aload_n 0, 1) := by decide +kernel
theorem dX1_keepsAlike_32 : decode cX1_keepsAlike 32 = .ok (.getfield 18, 3) := by decide +kernel
theorem dX1_keepsAlike_35 : decode cX1_keepsAlike 35 = .ok (.iload_n 3, 1) := by decide +kernel
theorem dX1_keepsAlike_36 : decode cX1_keepsAlike 36 = .ok (.iaload, 1) := by decide +kernel
theorem dX1_keepsAlike_37 : decode cX1_keepsAlike 37 = .ok (.aload_n 1, 1) := by decide +kernel
theorem dX1_keepsAlike_38 : decode cX1_keepsAlike 38 = .ok (.getfield 18, 3) := by decide +kernel
theorem dX1_keepsAlike_41 : decode cX1_keepsAlike 41 = .ok (.iload_n 2, 1) := by decide +kernel
theorem dX1_keepsAlike_42 : decode cX1_keepsAlike 42 = .ok (.iaload, 1) := by decide +kernel
theorem dX1_keepsAlike_43 : decode cX1_keepsAlike 43 = .ok (.if_icmp .ne 52, 3) := by decide +kernel
theorem dX1_keepsAlike_46 : decode cX1_keepsAlike 46 = .ok (.aload_n 0, 1) := by decide +kernel
theorem dX1_keepsAlike_47 : decode cX1_keepsAlike 47 = .ok (.getfield 21, 3) := by decide +kernel
theorem dX1_keepsAlike_50 : decode cX1_keepsAlike 50 = .ok (.iload_n 3, 1) := by decide +kernel
theorem dX1_keepsAlike_51 : decode cX1_keepsAlike 51 = .ok (.iaload, 1) := by decide +kernel
theorem dX1_keepsAlike_52 : decode cX1_keepsAlike 52 = .ok (.aload_n 1, 1) := by decide +kernel
theorem dX1_keepsAlike_53 : decode cX1_keepsAlike 53 = .ok (.getfield 21, 3) := by decide +kernel
theorem dX1_keepsAlike_56 : decode cX1_keepsAlike 56 = .ok (.iload_n 2, 1) := by decide +kernel
theorem dX1_keepsAlike_57 : decode cX1_keepsAlike 57 = .ok (.iaload, 1) := by decide +kernel
theorem dX1_keepsAlike_58 : decode cX1_keepsAlike 58 = .ok (.if_icmp .ne 37, 3) := by decide +kernel
theorem dX1_keepsAlike_61 : decode cX1_keepsAlike 61 = .ok (.aload_n 0, 1) := by decide +kernel
theorem dX1_keepsAlike_62 : decode cX1_keepsAlike 62 = .ok (.getfield 24, 3) := by decide +kernel
theorem dX1_keepsAlike_65 : decode cX1_keepsAlike 65 = .ok (.iload_n 3, 1) := by decide +kernel
theorem dX1_keepsAlike_66 : decode cX1_keepsAlike 66 = .ok (.iaload, 1) := by decide +kernel
theorem dX1_keepsAlike_67 : decode cX1_keepsAlike 67 = .ok (.aload_n 1, 1) := by decide +kernel
theorem dX1_keepsAlike_68 : decode cX1_keepsAlike 68 = .ok (.getfield 24, 3) := by decide +kernel
theorem dX1_keepsAlike_71 : decode cX1_keepsAlike 71 = .ok (.iload_n 2, 1) := by decide +kernel
theorem dX1_keepsAlike_72 : decode cX1_keepsAlike 72 = .ok (.iaload, 1) := by decide +kernel
theorem dX1_keepsAlike_73 : decode cX1_keepsAlike 73 = .ok (.if_icmp .ne 22, 3) := by decide +kernel
theorem dX1_keepsAlike_76 : decode cX1_keepsAlike 76 = .ok (.aload_n 0, 1) := by decide +kernel
theorem dX1_keepsAlike_77 : decode cX1_keepsAlike 77 = .ok (.getfield 27, 3) := by decide +kernel
theorem dX1_keepsAlike_80 : decode cX1_keepsAlike 80 = .ok (.iload_n 3, 1) := by decide +kernel
theorem dX1_keepsAlike_81 : decode cX1_keepsAlike 81 = .ok (.iaload, 1) := by decide +kernel
theorem dX1_keepsAlike_82 : decode cX1_keepsAlike 82 = .ok (.aload_n 1, 1) := by decide +kernel
theorem dX1_keepsAlike_83 : decode cX1_keepsAlike 83 = .ok (.getfield 27, 3) := by decide +kernel
theorem dX1_keepsAlike_86 : decode cX1_keepsAlike 86 = .ok (.iload_n 2, 1) := by decide +kernel
theorem dX1_keepsAlike_87 : decode cX1_keepsAlike 87 = .ok (.iaload, 1) := by decide +kernel
theorem dX1_keepsAlike_88 : decode cX1_keepsAlike 88 = .ok (.if_icmp .ne 7, 3) := by decide +kernel
theorem dX1_keepsAlike_91 : decode cX1_keepsAlike 91 = .ok (.iconst 1, 1) := by decide +kernel
theorem dX1_keepsAlike_92 : decode cX1_keepsAlike 92 = .ok (.goto 4, 3) := by decide +kernel
theorem dX1_keepsAlike_95 : decode cX1_keepsAlike 95 = .ok (.iconst 0, 1) := by decide +kernel
theorem dX1_keepsAlike_96 : decode cX1_keepsAlike 96 = .ok (.ireturn, 1) := by decide +kernel
theorem dX1_isNodeClean_0 : decode cX1_isNodeClean 0 = .ok (.aload_n 0, 1) := by decide +kernel
theorem dX1_isNodeClean_1 : decode cX1_isNodeClean 1 = .ok (.getfield 27, 3) := by decide +kernel
theorem dX1_isNodeClean_4 : decode cX1_isNodeClean 4 = .ok (.iload_n 1, 1) := by decide +kernel
theorem dX1_isNodeClean_5 : decode cX1_isNodeClean 5 = .ok (.iaload, 1) := by decide +kernel
theorem dX1_isNodeClean_6 : decode cX1_isNodeClean 6 = .ok (.istore_n 3, 1) := by decide +kernel
theorem dX1_isNodeClean_7 : decode cX1_isNodeClean 7 = .ok (.iload_n 3, 1) := by decide +kernel
theorem dX1_isNodeClean_8 : decode cX1_isNodeClean 8 = .ok (.aload_n 0, 1) := by decide +kernel
theorem dX1_isNodeClean_9 : decode cX1_isNodeClean 9 = .ok (.getfield 15, 3) := by decide +kernel
theorem dX1_isNodeClean_12 : decode cX1_isNodeClean 12 = .ok (.iload_n 1, 1) := by decide +kernel
theorem dX1_isNodeClean_13 : decode cX1_isNodeClean 13 = .ok (.iaload, 1) := by decide +kernel
theorem dX1_isNodeClean_14 : decode cX1_isNodeClean 14 = .ok (.invokestatic 94, 3) := by decide +kernel
theorem dX1_isNodeClean_17 : decode cX1_isNodeClean 17 = .ok (.istore 4, 2) := by decide +kernel
theorem dX1_isNodeClean_19 : decode cX1_isNodeClean 19 = .ok (.iload_n 3, 1) := by decide +kernel
theorem dX1_isNodeClean_20 : decode cX1_isNodeClean 20 = .ok (.aload_n 0, 1) := by decide +kernel
theorem dX1_isNodeClean_21 : decode cX1_isNodeClean 21 = .ok (.getfield 18, 3) := by decide +kernel
theorem dX1_isNodeClean_24 : decode cX1_isNodeClean 24 = .ok (.iload_n 1, 1) := by decide +kernel
theorem dX1_isNodeClean_25 : decode cX1_isNodeClean 25 = .ok (.iaload, 1) := by decide +kernel
theorem dX1_isNodeClean_26 : decode cX1_isNodeClean 26 = .ok (.invokestatic 94, 3) := by decide +kernel
theorem dX1_isNodeClean_29 : decode cX1_isNodeClean 29 = .ok (.istore 5, 2) := by decide +kernel
theorem dX1_isNodeClean_31 : decode cX1_isNodeClean 31 = .ok (.iload_n 3, 1) := by decide +kernel
theorem dX1_isNodeClean_32 : decode cX1_isNodeClean 32 = .ok (.aload_n 0, 1) := by decide +kernel
theorem dX1_isNodeClean_33 : decode cX1_isNodeClean 33 = .ok (.getfield 21, 3) := by decide +kernel
theorem dX1_isNodeClean_36 : decode cX1_isNodeClean 36 = .ok (.iload_n 1, 1) := by decide +kernel
theorem dX1_isNodeClean_37 : decode cX1_isNodeClean 37 = .ok (.iaload, 1) := by decide +kernel
theorem dX1_isNodeClean_38 : decode cX1_isNodeClean 38 = .ok (.invokestatic 94, 3) := by decide +kernel
theorem dX1_isNodeClean_41 : decode cX1_isNodeClean 41 = .ok (.istore 6, 2) := by decide +kernel
theorem dX1_isNodeClean_43 : decode cX1_isNodeClean 43 = .ok (.aload_n 0, 1) := by decide +kernel
theorem dX1_isNodeClean_44 : decode cX1_isNodeClean 44 = .ok (.iload_n 3, 1) := by decide +kernel
theorem dX1_isNodeClean_45 : decode cX1_isNodeClean 45 = .ok (.iload 4, 2) := by decide +kernel
theorem dX1_isNodeClean_47 : decode cX1_isNodeClean 47 = .ok (.iload 5, 2) := by decide +kernel
theorem dX1_isNodeClean_49 : decode cX1_isNodeClean 49 = .ok (.iload 6, 2) := by decide +kernel
theorem dX1_isNodeClean_51 : decode cX1_isNodeClean 51 = .ok (.invokevirtual 101, 3) := by decide +kernel
theorem dX1_isNodeClean_54 : decode cX1_isNodeClean 54 = .ok (.ifCond .ne 21, 3) := by decide +kernel
theorem dX1_isNodeClean_57 : decode cX1_isNodeClean 57 = .ok (.aload_n 2, 1) := by decide +kernel
theorem dX1_isNodeClean_58 : decode cX1_isNodeClean 58 = .ok (.iload_n 3, 1) := by decide +kernel
theorem dX1_isNodeClean_59 : decode cX1_isNodeClean 59 = .ok (.iload 4, 2) := by decide +kernel
theorem dX1_isNodeClean_61 : decode cX1_isNodeClean 61 = .ok (.iload 5, 2) := by decide +kernel
theorem dX1_isNodeClean_63 : decode cX1_isNodeClean 63 = .ok (.iload 6, 2) := by decide +kernel
theorem dX1_isNodeClean_65 : decode cX1_isNodeClean 65 = .ok (.invokevirtual 101, 3) := by decide +kernel
theorem dX1_isNodeClean_68 : decode cX1_isNodeClean 68 = .ok (.ifCond .ne 7, 3) := by decide +kernel
theorem dX1_isNodeClean_71 : decode cX1_isNodeClean 71 = .ok (.iconst 1, 1) := by decide +kernel
theorem dX1_isNodeClean_72 : decode cX1_isNodeClean 72 = .ok (.goto 4, 3) := by decide +kernel
theorem dX1_isNodeClean_75 : decode cX1_isNodeClean 75 = .ok (.iconst 0, 1) := by decide +kernel
theorem dX1_isNodeClean_76 : decode cX1_isNodeClean 76 = .ok (.ireturn, 1) := by decide +kernel
theorem dX1_hasChange_0 : decode cX1_hasChange 0 = .ok (.iconst 0, 1) := by decide +kernel
theorem dX1_hasChange_1 : decode cX1_hasChange 1 = .ok (.istore 5, 2) := by decide +kernel
theorem dX1_hasChange_3 : decode cX1_hasChange 3 = .ok (.iload 5, 2) := by decide +kernel
theorem dX1_hasChange_5 : decode cX1_hasChange 5 = .ok (.aload_n 0, 1) := by decide +kernel
theorem dX1_hasChange_6 : decode cX1_hasChange 6 = .ok (.getfield 37, 3) := by decide +kernel
theorem dX1_hasChange_9 : decode cX1_hasChange 9 = .ok (.if_icmp .ge 46, 3) := by decide +kernel
theorem dX1_hasChange_12 : decode cX1_hasChange 12 = .ok (.aload_n 0, 1) := by decide +kernel
theorem dX1_hasChange_13 : decode cX1_hasChange 13 = .ok (.getfield 33, 3) := by decide +kernel
theorem dX1_hasChange_16 : decode cX1_hasChange 16 = .ok (.iload 5, 2) := by decide +kernel
theorem dX1_hasChange_18 : decode cX1_hasChange 18 = .ok (.baload, 1) := by decide +kernel
theorem dX1_hasChange_19 : decode cX1_hasChange 19 = .ok (.ifCond .eq 30, 3) := by decide +kernel
theorem dX1_hasChange_22 : decode cX1_hasChange 22 = .ok (.aload_n 0, 1) := by decide +kernel
theorem dX1_hasChange_23 : decode cX1_hasChange 23 = .ok (.getfield 27, 3) := by decide +kernel
theorem dX1_hasChange_26 : decode cX1_hasChange 26 = .ok (.iload 5, 2) := by decide +kernel
theorem dX1_hasChange_28 : decode cX1_hasChange 28 = .ok (.iaload, 1) := by decide +kernel
theorem dX1_hasChange_29 : decode cX1_hasChange 29 = .ok (.iload_n 1, 1) := by decide +kernel
theorem dX1_hasChange_30 : decode cX1_hasChange 30 = .ok (.if_icmp .lt 19, 3) := by decide +kernel
theorem dX1_hasChange_33 : decode cX1_hasChange 33 = .ok (.aload_n 0, 1) := by decide +kernel
theorem dX1_hasChange_34 : decode cX1_hasChange 34 = .ok (.iload 5, 2) := by decide +kernel
theorem dX1_hasChange_36 : decode cX1_hasChange 36 = .ok (.iload_n 1, 1) := by decide +kernel
theorem dX1_hasChange_37 : decode cX1_hasChange 37 = .ok (.iload_n 2, 1) := by decide +kernel
theorem dX1_hasChange_38 : decode cX1_hasChange 38 = .ok (.iload_n 3, 1) := by decide +kernel
theorem dX1_hasChange_39 : decode cX1_hasChange 39 = .ok (.iload 4, 2) := by decide +kernel
theorem dX1_hasChange_41 : decode cX1_hasChange 41 = .ok (.invokevirtual 41, 3) := by decide +kernel
theorem dX1_hasChange_44 : decode cX1_hasChange 44 = .ok (.ifCond .eq 5, 3) := by decide +kernel
theorem dX1_hasChange_47 : decode cX1_hasChange 47 = .ok (.iconst 1, 1) := by decide +kernel
theorem dX1_hasChange_48 : decode cX1_hasChange 48 = .ok (.ireturn, 1) := by decide +kernel
theorem dX1_hasChange_49 : decode cX1_hasChange 49 = .ok (.iinc 5 1, 3) := by decide +kernel
theorem dX1_hasChange_52 : decode cX1_hasChange 52 = .ok (.goto (-49), 3) := by decide +kernel
theorem dX1_hasChange_55 : decode cX1_hasChange 55 = .ok (.iconst 0, 1) := by decide +kernel
theorem dX1_hasChange_56 : decode cX1_hasChange 56 = .ok (.ireturn, 1) := by decide +kernel
theorem dX1_leastKeyAbove_0 : decode cX1_leastKeyAbove 0 = .ok (.ldc2_w 105, 3) := by decide +kernel
theorem dX1_leastKeyAbove_3 : decode cX1_leastKeyAbove 3 = .ok (.lstore 6, 2) := by decide +kernel
theorem dX1_leastKeyAbove_5 : decode cX1_leastKeyAbove 5 = .ok (.iconst 0, 1) := by decide +kernel
theorem dX1_leastKeyAbove_6 : decode cX1_leastKeyAbove 6 = .ok (.istore 8, 2) := by decide +kernel
theorem dX1_leastKeyAbove_8 : decode cX1_leastKeyAbove 8 = .ok (.iload 8, 2) := by decide +kernel
theorem dX1_leastKeyAbove_10 : decode cX1_leastKeyAbove 10 = .ok (.aload_n 0, 1) := by decide +kernel
theorem dX1_leastKeyAbove_11 : decode cX1_leastKeyAbove 11 = .ok (.getfield 37, 3) := by decide +kernel
theorem dX1_leastKeyAbove_14 : decode cX1_leastKeyAbove 14 = .ok (.if_icmp .ge 41, 3) := by decide +kernel
theorem dX1_leastKeyAbove_17 : decode cX1_leastKeyAbove 17 = .ok (.aload_n 0, 1) := by decide +kernel
theorem dX1_leastKeyAbove_18 : decode cX1_leastKeyAbove 18 = .ok (.iload 8, 2) := by decide +kernel
theorem dX1_leastKeyAbove_20 : decode cX1_leastKeyAbove 20 = .ok (.iload_n 3, 1) := by decide +kernel
theorem dX1_leastKeyAbove_21 : decode cX1_leastKeyAbove 21 = .ok (.iload 4, 2) := by decide +kernel
theorem dX1_leastKeyAbove_23 : decode cX1_leastKeyAbove 23 = .ok (.iload 5, 2) := by decide +kernel
theorem dX1_leastKeyAbove_25 : decode cX1_leastKeyAbove 25 = .ok (.invokevirtual 107, 3) := by decide +kernel
theorem dX1_leastKeyAbove_28 : decode cX1_leastKeyAbove 28 = .ok (.lstore 9, 2) := by decide +kernel
theorem dX1_leastKeyAbove_30 : decode cX1_leastKeyAbove 30 = .ok (.lload 9, 2) := by decide +kernel
theorem dX1_leastKeyAbove_32 : decode cX1_leastKeyAbove 32 = .ok (.lload_n 1, 1) := by decide +kernel
theorem dX1_leastKeyAbove_33 : decode cX1_leastKeyAbove 33 = .ok (.lcmp, 1) := by decide +kernel
theorem dX1_leastKeyAbove_34 : decode cX1_leastKeyAbove 34 = .ok (.ifCond .le 15, 3) := by decide +kernel
theorem dX1_leastKeyAbove_37 : decode cX1_leastKeyAbove 37 = .ok (.lload 9, 2) := by decide +kernel
theorem dX1_leastKeyAbove_39 : decode cX1_leastKeyAbove 39 = .ok (.lload 6, 2) := by decide +kernel
theorem dX1_leastKeyAbove_41 : decode cX1_leastKeyAbove 41 = .ok (.lcmp, 1) := by decide +kernel
theorem dX1_leastKeyAbove_42 : decode cX1_leastKeyAbove 42 = .ok (.ifCond .ge 7, 3) := by decide +kernel
theorem dX1_leastKeyAbove_45 : decode cX1_leastKeyAbove 45 = .ok (.lload 9, 2) := by decide +kernel
theorem dX1_leastKeyAbove_47 : decode cX1_leastKeyAbove 47 = .ok (.lstore 6, 2) := by decide +kernel
theorem dX1_leastKeyAbove_49 : decode cX1_leastKeyAbove 49 = .ok (.iinc 8 1, 3) := by decide +kernel
theorem dX1_leastKeyAbove_52 : decode cX1_leastKeyAbove 52 = .ok (.goto (-44), 3) := by decide +kernel
theorem dX1_leastKeyAbove_55 : decode cX1_leastKeyAbove 55 = .ok (.lload 6, 2) := by decide +kernel
theorem dX1_leastKeyAbove_57 : decode cX1_leastKeyAbove 57 = .ok (.lreturn, 1) := by decide +kernel
theorem dX1_distanceKey_0 : decode cX1_distanceKey 0 = .ok (.aload_n 0, 1) := by decide +kernel
theorem dX1_distanceKey_1 : decode cX1_distanceKey 1 = .ok (.getfield 15, 3) := by decide +kernel
theorem dX1_distanceKey_4 : decode cX1_distanceKey 4 = .ok (.iload_n 1, 1) := by decide +kernel
theorem dX1_distanceKey_5 : decode cX1_distanceKey 5 = .ok (.iaload, 1) := by decide +kernel
theorem dX1_distanceKey_6 : decode cX1_distanceKey 6 = .ok (.iload_n 2, 1) := by decide +kernel
theorem dX1_distanceKey_7 : decode cX1_distanceKey 7 = .ok (.isub, 1) := by decide +kernel
theorem dX1_distanceKey_8 : decode cX1_distanceKey 8 = .ok (.istore 5, 2) := by decide +kernel
theorem dX1_distanceKey_10 : decode cX1_distanceKey 10 = .ok (.aload_n 0, 1) := by decide +kernel
theorem dX1_distanceKey_11 : decode cX1_distanceKey 11 = .ok (.getfield 18, 3) := by decide +kernel
theorem dX1_distanceKey_14 : decode cX1_distanceKey 14 = .ok (.iload_n 1, 1) := by decide +kernel
theorem dX1_distanceKey_15 : decode cX1_distanceKey 15 = .ok (.iaload, 1) := by decide +kernel
theorem dX1_distanceKey_16 : decode cX1_distanceKey 16 = .ok (.iload_n 3, 1) := by decide +kernel
theorem dX1_distanceKey_17 : decode cX1_distanceKey 17 = .ok (.isub, 1) := by decide +kernel
theorem dX1_distanceKey_18 : decode cX1_distanceKey 18 = .ok (.istore 6, 2) := by decide +kernel
theorem dX1_distanceKey_20 : decode cX1_distanceKey 20 = .ok (.aload_n 0, 1) := by decide +kernel
theorem dX1_distanceKey_21 : decode cX1_distanceKey 21 = .ok (.getfield 21, 3) := by decide +kernel
theorem dX1_distanceKey_24 : decode cX1_distanceKey 24 = .ok (.iload_n 1, 1) := by decide +kernel
theorem dX1_distanceKey_25 : decode cX1_distanceKey 25 = .ok (.iaload, 1) := by decide +kernel
theorem dX1_distanceKey_26 : decode cX1_distanceKey 26 = .ok (.iload 4, 2) := by decide +kernel
theorem dX1_distanceKey_28 : decode cX1_distanceKey 28 = .ok (.isub, 1) := by decide +kernel
theorem dX1_distanceKey_29 : decode cX1_distanceKey 29 = .ok (.istore 7, 2) := by decide +kernel
theorem dX1_distanceKey_31 : decode cX1_distanceKey 31 = .ok (.iload 5, 2) := by decide +kernel
theorem dX1_distanceKey_33 : decode cX1_distanceKey 33 = .ok (.iload 5, 2) := by decide +kernel
theorem dX1_distanceKey_35 : decode cX1_distanceKey 35 = .ok (.imul, 1) := by decide +kernel
theorem dX1_distanceKey_36 : decode cX1_distanceKey 36 = .ok (.iload 6, 2) := by decide +kernel
theorem dX1_distanceKey_38 : decode cX1_distanceKey 38 = .ok (.iload 6, 2) := by decide +kernel
theorem dX1_distanceKey_40 : decode cX1_distanceKey 40 = .ok (.imul, 1) := by decide +kernel
theorem dX1_distanceKey_41 : decode cX1_distanceKey 41 = .ok (.iadd, 1) := by decide +kernel
theorem dX1_distanceKey_42 : decode cX1_distanceKey 42 = .ok (.iload 7, 2) := by decide +kernel
theorem dX1_distanceKey_44 : decode cX1_distanceKey 44 = .ok (.iload 7, 2) := by decide +kernel
theorem dX1_distanceKey_46 : decode cX1_distanceKey 46 = .ok (.imul, 1) := by decide +kernel
theorem dX1_distanceKey_47 : decode cX1_distanceKey 47 = .ok (.iadd, 1) := by decide +kernel
theorem dX1_distanceKey_48 : decode cX1_distanceKey 48 = .ok (.i2l, 1) := by decide +kernel
theorem dX1_distanceKey_49 : decode cX1_distanceKey 49 = .ok (.ldc2_w 111, 3) := by decide +kernel
theorem dX1_distanceKey_52 : decode cX1_distanceKey 52 = .ok (.lmul, 1) := by decide +kernel
theorem dX1_distanceKey_53 : decode cX1_distanceKey 53 = .ok (.aload_n 0, 1) := by decide +kernel
theorem dX1_distanceKey_54 : decode cX1_distanceKey 54 = .ok (.getfield 9, 3) := by decide +kernel
theorem dX1_distanceKey_57 : decode cX1_distanceKey 57 = .ok (.iload_n 1, 1) := by decide +kernel
theorem dX1_distanceKey_58 : decode cX1_distanceKey 58 = .ok (.iaload, 1) := by decide +kernel
theorem dX1_distanceKey_59 : decode cX1_distanceKey 59 = .ok (.i2l, 1) := by decide +kernel
theorem dX1_distanceKey_60 : decode cX1_distanceKey 60 = .ok (.ladd, 1) := by decide +kernel
theorem dX1_distanceKey_61 : decode cX1_distanceKey 61 = .ok (.lreturn, 1) := by decide +kernel
end
section
/-! decode rows: PointShelf. By wip/names.py. -/
theorem dX2_init_0 : decode cX2_init 0 = .ok (.aload_n 0, 1) := by decide +kernel
theorem dX2_init_1 : decode cX2_init 1 = .ok (.invokespecial 1, 3) := by decide +kernel
theorem dX2_init_4 : decode cX2_init 4 = .ok (.aload_n 0, 1) := by decide +kernel
theorem dX2_init_5 : decode cX2_init 5 = .ok (.new 7, 3) := by decide +kernel
theorem dX2_init_8 : decode cX2_init 8 = .ok (.dup, 1) := by decide +kernel
theorem dX2_init_9 : decode cX2_init 9 = .ok (.invokespecial 9, 3) := by decide +kernel
theorem dX2_init_12 : decode cX2_init 12 = .ok (.putfield 10, 3) := by decide +kernel
theorem dX2_init_15 : decode cX2_init 15 = .ok (.aload_n 0, 1) := by decide +kernel
theorem dX2_init_16 : decode cX2_init 16 = .ok (.new 7, 3) := by decide +kernel
theorem dX2_init_19 : decode cX2_init 19 = .ok (.dup, 1) := by decide +kernel
theorem dX2_init_20 : decode cX2_init 20 = .ok (.invokespecial 9, 3) := by decide +kernel
theorem dX2_init_23 : decode cX2_init 23 = .ok (.putfield 16, 3) := by decide +kernel
theorem dX2_init_26 : decode cX2_init 26 = .ok (.aload_n 0, 1) := by decide +kernel
theorem dX2_init_27 : decode cX2_init 27 = .ok (.new 19, 3) := by decide +kernel
theorem dX2_init_30 : decode cX2_init 30 = .ok (.dup, 1) := by decide +kernel
theorem dX2_init_31 : decode cX2_init 31 = .ok (.invokespecial 21, 3) := by decide +kernel
theorem dX2_init_34 : decode cX2_init 34 = .ok (.putfield 22, 3) := by decide +kernel
theorem dX2_init_37 : decode cX2_init 37 = .ok (.aload_n 0, 1) := by decide +kernel
theorem dX2_init_38 : decode cX2_init 38 = .ok (.iconst (-1), 1) := by decide +kernel
theorem dX2_init_39 : decode cX2_init 39 = .ok (.putfield 26, 3) := by decide +kernel
theorem dX2_init_42 : decode cX2_init 42 = .ok (.return_, 1) := by decide +kernel
theorem dX2_add_0 : decode cX2_add 0 = .ok (.iload_n 2, 1) := by decide +kernel
theorem dX2_add_1 : decode cX2_add 1 = .ok (.iload_n 3, 1) := by decide +kernel
theorem dX2_add_2 : decode cX2_add 2 = .ok (.iload 4, 2) := by decide +kernel
theorem dX2_add_4 : decode cX2_add 4 = .ok (.invokestatic 30, 3) := by decide +kernel
theorem dX2_add_7 : decode cX2_add 7 = .ok (.aload_n 0, 1) := by decide +kernel
theorem dX2_add_8 : decode cX2_add 8 = .ok (.getfield 10, 3) := by decide +kernel
theorem dX2_add_11 : decode cX2_add 11 = .ok (.iload_n 1, 1) := by decide +kernel
theorem dX2_add_12 : decode cX2_add 12 = .ok (.invokevirtual 34, 3) := by decide +kernel
theorem dX2_add_15 : decode cX2_add 15 = .ok (.iconst (-1), 1) := by decide +kernel
theorem dX2_add_16 : decode cX2_add 16 = .ok (.if_icmp .eq 13, 3) := by decide +kernel
theorem dX2_add_19 : decode cX2_add 19 = .ok (.new 38, 3) := by decide +kernel
theorem dX2_add_22 : decode cX2_add 22 = .ok (.dup, 1) := by decide +kernel
theorem dX2_add_23 : decode cX2_add 23 = .ok (.ldc 40, 2) := by decide +kernel
theorem dX2_add_25 : decode cX2_add 25 = .ok (.invokespecial 42, 3) := by decide +kernel
theorem dX2_add_28 : decode cX2_add 28 = .ok (.athrow, 1) := by decide +kernel
theorem dX2_add_29 : decode cX2_add 29 = .ok (.aload_n 0, 1) := by decide +kernel
theorem dX2_add_30 : decode cX2_add 30 = .ok (.getfield 10, 3) := by decide +kernel
theorem dX2_add_33 : decode cX2_add 33 = .ok (.invokevirtual 45, 3) := by decide +kernel
theorem dX2_add_36 : decode cX2_add 36 = .ok (.bipush 48, 2) := by decide +kernel
theorem dX2_add_38 : decode cX2_add 38 = .ok (.if_icmp .lt 13, 3) := by decide +kernel
theorem dX2_add_41 : decode cX2_add 41 = .ok (.new 38, 3) := by decide +kernel
theorem dX2_add_44 : decode cX2_add 44 = .ok (.dup, 1) := by decide +kernel
theorem dX2_add_45 : decode cX2_add 45 = .ok (.ldc 49, 2) := by decide +kernel
theorem dX2_add_47 : decode cX2_add 47 = .ok (.invokespecial 42, 3) := by decide +kernel
theorem dX2_add_50 : decode cX2_add 50 = .ok (.athrow, 1) := by decide +kernel
theorem dX2_add_51 : decode cX2_add 51 = .ok (.aload_n 0, 1) := by decide +kernel
theorem dX2_add_52 : decode cX2_add 52 = .ok (.getfield 10, 3) := by decide +kernel
theorem dX2_add_55 : decode cX2_add 55 = .ok (.aload_n 0, 1) := by decide +kernel
theorem dX2_add_56 : decode cX2_add 56 = .ok (.getfield 10, 3) := by decide +kernel
theorem dX2_add_59 : decode cX2_add 59 = .ok (.iload_n 1, 1) := by decide +kernel
theorem dX2_add_60 : decode cX2_add 60 = .ok (.iload_n 2, 1) := by decide +kernel
theorem dX2_add_61 : decode cX2_add 61 = .ok (.iload_n 3, 1) := by decide +kernel
theorem dX2_add_62 : decode cX2_add 62 = .ok (.iload 4, 2) := by decide +kernel
theorem dX2_add_64 : decode cX2_add 64 = .ok (.iload 5, 2) := by decide +kernel
theorem dX2_add_66 : decode cX2_add 66 = .ok (.invokevirtual 51, 3) := by decide +kernel
theorem dX2_add_69 : decode cX2_add 69 = .ok (.invokevirtual 55, 3) := by decide +kernel
theorem dX2_add_72 : decode cX2_add 72 = .ok (.ireturn, 1) := by decide +kernel
theorem dX2_remove_0 : decode cX2_remove 0 = .ok (.aload_n 0, 1) := by decide +kernel
theorem dX2_remove_1 : decode cX2_remove 1 = .ok (.iload_n 1, 1) := by decide +kernel
theorem dX2_remove_2 : decode cX2_remove 2 = .ok (.invokevirtual 58, 3) := by decide +kernel
theorem dX2_remove_5 : decode cX2_remove 5 = .ok (.istore_n 2, 1) := by decide +kernel
theorem dX2_remove_6 : decode cX2_remove 6 = .ok (.aload_n 0, 1) := by decide +kernel
theorem dX2_remove_7 : decode cX2_remove 7 = .ok (.getfield 10, 3) := by decide +kernel
theorem dX2_remove_10 : decode cX2_remove 10 = .ok (.iload_n 2, 1) := by decide +kernel
theorem dX2_remove_11 : decode cX2_remove 11 = .ok (.invokevirtual 55, 3) := by decide +kernel
theorem dX2_remove_14 : decode cX2_remove 14 = .ok (.istore_n 3, 1) := by decide +kernel
theorem dX2_remove_15 : decode cX2_remove 15 = .ok (.aload_n 0, 1) := by decide +kernel
theorem dX2_remove_16 : decode cX2_remove 16 = .ok (.getfield 10, 3) := by decide +kernel
theorem dX2_remove_19 : decode cX2_remove 19 = .ok (.iload_n 2, 1) := by decide +kernel
theorem dX2_remove_20 : decode cX2_remove 20 = .ok (.invokevirtual 61, 3) := by decide +kernel
theorem dX2_remove_23 : decode cX2_remove 23 = .ok (.iload_n 3, 1) := by decide +kernel
theorem dX2_remove_24 : decode cX2_remove 24 = .ok (.ireturn, 1) := by decide +kernel
theorem dX2_recolour_0 : decode cX2_recolour 0 = .ok (.aload_n 0, 1) := by decide +kernel
theorem dX2_recolour_1 : decode cX2_recolour 1 = .ok (.iload_n 1, 1) := by decide +kernel
theorem dX2_recolour_2 : decode cX2_recolour 2 = .ok (.invokevirtual 58, 3) := by decide +kernel
theorem dX2_recolour_5 : decode cX2_recolour 5 = .ok (.istore_n 3, 1) := by decide +kernel
theorem dX2_recolour_6 : decode cX2_recolour 6 = .ok (.aload_n 0, 1) := by decide +kernel
theorem dX2_recolour_7 : decode cX2_recolour 7 = .ok (.getfield 10, 3) := by decide +kernel
theorem dX2_recolour_10 : decode cX2_recolour 10 = .ok (.iload_n 3, 1) := by decide +kernel
theorem dX2_recolour_11 : decode cX2_recolour 11 = .ok (.invokevirtual 65, 3) := by decide +kernel
theorem dX2_recolour_14 : decode cX2_recolour 14 = .ok (.istore 4, 2) := by decide +kernel
theorem dX2_recolour_16 : decode cX2_recolour 16 = .ok (.aload_n 0, 1) := by decide +kernel
theorem dX2_recolour_17 : decode cX2_recolour 17 = .ok (.getfield 10, 3) := by decide +kernel
theorem dX2_recolour_20 : decode cX2_recolour 20 = .ok (.iload_n 3, 1) := by decide +kernel
theorem dX2_recolour_21 : decode cX2_recolour 21 = .ok (.iload_n 2, 1) := by decide +kernel
theorem dX2_recolour_22 : decode cX2_recolour 22 = .ok (.invokevirtual 68, 3) := by decide +kernel
theorem dX2_recolour_25 : decode cX2_recolour 25 = .ok (.iload 4, 2) := by decide +kernel
theorem dX2_recolour_27 : decode cX2_recolour 27 = .ok (.ireturn, 1) := by decide +kernel
theorem dX2_field_0 : decode cX2_field 0 = .ok (.iload_n 2, 1) := by decide +kernel
theorem dX2_field_1 : decode cX2_field 1 = .ok (.ifCond .lt 8, 3) := by decide +kernel
theorem dX2_field_4 : decode cX2_field 4 = .ok (.iload_n 2, 1) := by decide +kernel
theorem dX2_field_5 : decode cX2_field 5 = .ok (.iconst 4, 1) := by decide +kernel
theorem dX2_field_6 : decode cX2_field 6 = .ok (.if_icmp .le 13, 3) := by decide +kernel
theorem dX2_field_9 : decode cX2_field 9 = .ok (.new 72, 3) := by decide +kernel
theorem dX2_field_12 : decode cX2_field 12 = .ok (.dup, 1) := by decide +kernel
theorem dX2_field_13 : decode cX2_field 13 = .ok (.ldc 74, 2) := by decide +kernel
theorem dX2_field_15 : decode cX2_field 15 = .ok (.invokespecial 76, 3) := by decide +kernel
theorem dX2_field_18 : decode cX2_field 18 = .ok (.athrow, 1) := by decide +kernel
theorem dX2_field_19 : decode cX2_field 19 = .ok (.aload_n 0, 1) := by decide +kernel
theorem dX2_field_20 : decode cX2_field 20 = .ok (.iload_n 1, 1) := by decide +kernel
theorem dX2_field_21 : decode cX2_field 21 = .ok (.invokevirtual 58, 3) := by decide +kernel
theorem dX2_field_24 : decode cX2_field 24 = .ok (.istore_n 3, 1) := by decide +kernel
theorem dX2_field_25 : decode cX2_field 25 = .ok (.iload_n 2, 1) := by decide +kernel
theorem dX2_field_26 : decode cX2_field 26 = .ok (.tableswitch 66 0 3 #[30, 39, 48, 57], 30) := by decide +kernel
theorem dX2_field_56 : decode cX2_field 56 = .ok (.aload_n 0, 1) := by decide +kernel
theorem dX2_field_57 : decode cX2_field 57 = .ok (.getfield 10, 3) := by decide +kernel
theorem dX2_field_60 : decode cX2_field 60 = .ok (.iload_n 3, 1) := by decide +kernel
theorem dX2_field_61 : decode cX2_field 61 = .ok (.invokevirtual 77, 3) := by decide +kernel
theorem dX2_field_64 : decode cX2_field 64 = .ok (.ireturn, 1) := by decide +kernel
theorem dX2_field_65 : decode cX2_field 65 = .ok (.aload_n 0, 1) := by decide +kernel
theorem dX2_field_66 : decode cX2_field 66 = .ok (.getfield 10, 3) := by decide +kernel
theorem dX2_field_69 : decode cX2_field 69 = .ok (.iload_n 3, 1) := by decide +kernel
theorem dX2_field_70 : decode cX2_field 70 = .ok (.invokevirtual 80, 3) := by decide +kernel
theorem dX2_field_73 : decode cX2_field 73 = .ok (.ireturn, 1) := by decide +kernel
theorem dX2_field_74 : decode cX2_field 74 = .ok (.aload_n 0, 1) := by decide +kernel
theorem dX2_field_75 : decode cX2_field 75 = .ok (.getfield 10, 3) := by decide +kernel
theorem dX2_field_78 : decode cX2_field 78 = .ok (.iload_n 3, 1) := by decide +kernel
theorem dX2_field_79 : decode cX2_field 79 = .ok (.invokevirtual 83, 3) := by decide +kernel
theorem dX2_field_82 : decode cX2_field 82 = .ok (.ireturn, 1) := by decide +kernel
theorem dX2_field_83 : decode cX2_field 83 = .ok (.aload_n 0, 1) := by decide +kernel
theorem dX2_field_84 : decode cX2_field 84 = .ok (.getfield 10, 3) := by decide +kernel
theorem dX2_field_87 : decode cX2_field 87 = .ok (.iload_n 3, 1) := by decide +kernel
theorem dX2_field_88 : decode cX2_field 88 = .ok (.invokevirtual 65, 3) := by decide +kernel
theorem dX2_field_91 : decode cX2_field 91 = .ok (.ireturn, 1) := by decide +kernel
theorem dX2_field_92 : decode cX2_field 92 = .ok (.aload_n 0, 1) := by decide +kernel
theorem dX2_field_93 : decode cX2_field 93 = .ok (.getfield 10, 3) := by decide +kernel
theorem dX2_field_96 : decode cX2_field 96 = .ok (.iload_n 3, 1) := by decide +kernel
theorem dX2_field_97 : decode cX2_field 97 = .ok (.invokevirtual 55, 3) := by decide +kernel
theorem dX2_field_100 : decode cX2_field 100 = .ok (.ireturn, 1) := by decide +kernel
theorem dX2_corner_0 : decode cX2_corner 0 = .ok (.iload_n 1, 1) := by decide +kernel
theorem dX2_corner_1 : decode cX2_corner 1 = .ok (.iload_n 2, 1) := by decide +kernel
theorem dX2_corner_2 : decode cX2_corner 2 = .ok (.iload_n 3, 1) := by decide +kernel
theorem dX2_corner_3 : decode cX2_corner 3 = .ok (.invokestatic 30, 3) := by decide +kernel
theorem dX2_corner_6 : decode cX2_corner 6 = .ok (.aload_n 0, 1) := by decide +kernel
theorem dX2_corner_7 : decode cX2_corner 7 = .ok (.iload_n 1, 1) := by decide +kernel
theorem dX2_corner_8 : decode cX2_corner 8 = .ok (.iload_n 2, 1) := by decide +kernel
theorem dX2_corner_9 : decode cX2_corner 9 = .ok (.iload_n 3, 1) := by decide +kernel
theorem dX2_corner_10 : decode cX2_corner 10 = .ok (.invokevirtual 86, 3) := by decide +kernel
theorem dX2_corner_13 : decode cX2_corner 13 = .ok (.return_, 1) := by decide +kernel
theorem dX2_box_0 : decode cX2_box 0 = .ok (.iload_n 1, 1) := by decide +kernel
theorem dX2_box_1 : decode cX2_box 1 = .ok (.iload_n 2, 1) := by decide +kernel
theorem dX2_box_2 : decode cX2_box 2 = .ok (.iload_n 3, 1) := by decide +kernel
theorem dX2_box_3 : decode cX2_box 3 = .ok (.invokestatic 30, 3) := by decide +kernel
theorem dX2_box_6 : decode cX2_box 6 = .ok (.iload 4, 2) := by decide +kernel
theorem dX2_box_8 : decode cX2_box 8 = .ok (.invokestatic 89, 3) := by decide +kernel
theorem dX2_box_11 : decode cX2_box 11 = .ok (.ifCond .ne 13, 3) := by decide +kernel
theorem dX2_box_14 : decode cX2_box 14 = .ok (.new 72, 3) := by decide +kernel
theorem dX2_box_17 : decode cX2_box 17 = .ok (.dup, 1) := by decide +kernel
theorem dX2_box_18 : decode cX2_box 18 = .ok (.ldc 93, 2) := by decide +kernel
theorem dX2_box_20 : decode cX2_box 20 = .ok (.invokespecial 76, 3) := by decide +kernel
theorem dX2_box_23 : decode cX2_box 23 = .ok (.athrow, 1) := by decide +kernel
theorem dX2_box_24 : decode cX2_box 24 = .ok (.aload_n 0, 1) := by decide +kernel
theorem dX2_box_25 : decode cX2_box 25 = .ok (.getfield 22, 3) := by decide +kernel
theorem dX2_box_28 : decode cX2_box 28 = .ok (.invokevirtual 95, 3) := by decide +kernel
theorem dX2_box_31 : decode cX2_box 31 = .ok (.iconst 0, 1) := by decide +kernel
theorem dX2_box_32 : decode cX2_box 32 = .ok (.istore 5, 2) := by decide +kernel
theorem dX2_box_34 : decode cX2_box 34 = .ok (.iload 5, 2) := by decide +kernel
theorem dX2_box_36 : decode cX2_box 36 = .ok (.aload_n 0, 1) := by decide +kernel
theorem dX2_box_37 : decode cX2_box 37 = .ok (.getfield 10, 3) := by decide +kernel
theorem dX2_box_40 : decode cX2_box 40 = .ok (.invokevirtual 45, 3) := by decide +kernel
theorem dX2_box_43 : decode cX2_box 43 = .ok (.if_icmp .ge 51, 3) := by decide +kernel
theorem dX2_box_46 : decode cX2_box 46 = .ok (.aload_n 0, 1) := by decide +kernel
theorem dX2_box_47 : decode cX2_box 47 = .ok (.getfield 10, 3) := by decide +kernel
theorem dX2_box_50 : decode cX2_box 50 = .ok (.iload 5, 2) := by decide +kernel
theorem dX2_box_52 : decode cX2_box 52 = .ok (.invokevirtual 55, 3) := by decide +kernel
theorem dX2_box_55 : decode cX2_box 55 = .ok (.iload 4, 2) := by decide +kernel
theorem dX2_box_57 : decode cX2_box 57 = .ok (.if_icmp .gt 31, 3) := by decide +kernel
theorem dX2_box_60 : decode cX2_box 60 = .ok (.aload_n 0, 1) := by decide +kernel
theorem dX2_box_61 : decode cX2_box 61 = .ok (.iload 5, 2) := by decide +kernel
theorem dX2_box_63 : decode cX2_box 63 = .ok (.iload_n 1, 1) := by decide +kernel
theorem dX2_box_64 : decode cX2_box 64 = .ok (.iload_n 2, 1) := by decide +kernel
theorem dX2_box_65 : decode cX2_box 65 = .ok (.iload_n 3, 1) := by decide +kernel
theorem dX2_box_66 : decode cX2_box 66 = .ok (.invokevirtual 98, 3) := by decide +kernel
theorem dX2_box_69 : decode cX2_box 69 = .ok (.ifCond .eq 19, 3) := by decide +kernel
theorem dX2_box_72 : decode cX2_box 72 = .ok (.aload_n 0, 1) := by decide +kernel
theorem dX2_box_73 : decode cX2_box 73 = .ok (.getfield 22, 3) := by decide +kernel
theorem dX2_box_76 : decode cX2_box 76 = .ok (.aload_n 0, 1) := by decide +kernel
theorem dX2_box_77 : decode cX2_box 77 = .ok (.getfield 10, 3) := by decide +kernel
theorem dX2_box_80 : decode cX2_box 80 = .ok (.iload 5, 2) := by decide +kernel
theorem dX2_box_82 : decode cX2_box 82 = .ok (.invokevirtual 102, 3) := by decide +kernel
theorem dX2_box_85 : decode cX2_box 85 = .ok (.invokevirtual 105, 3) := by decide +kernel
theorem dX2_box_88 : decode cX2_box 88 = .ok (.iinc 5 1, 3) := by decide +kernel
theorem dX2_box_91 : decode cX2_box 91 = .ok (.goto (-57), 3) := by decide +kernel
theorem dX2_box_94 : decode cX2_box 94 = .ok (.aload_n 0, 1) := by decide +kernel
theorem dX2_box_95 : decode cX2_box 95 = .ok (.getfield 22, 3) := by decide +kernel
theorem dX2_box_98 : decode cX2_box 98 = .ok (.invokevirtual 107, 3) := by decide +kernel
theorem dX2_box_101 : decode cX2_box 101 = .ok (.ireturn, 1) := by decide +kernel
theorem dX2_next_0 : decode cX2_next 0 = .ok (.aload_n 0, 1) := by decide +kernel
theorem dX2_next_1 : decode cX2_next 1 = .ok (.getfield 22, 3) := by decide +kernel
theorem dX2_next_4 : decode cX2_next 4 = .ok (.invokevirtual 108, 3) := by decide +kernel
theorem dX2_next_7 : decode cX2_next 7 = .ok (.ireturn, 1) := by decide +kernel
theorem dX2_count_0 : decode cX2_count 0 = .ok (.iload_n 1, 1) := by decide +kernel
theorem dX2_count_1 : decode cX2_count 1 = .ok (.iload_n 2, 1) := by decide +kernel
theorem dX2_count_2 : decode cX2_count 2 = .ok (.iload_n 3, 1) := by decide +kernel
theorem dX2_count_3 : decode cX2_count 3 = .ok (.invokestatic 30, 3) := by decide +kernel
theorem dX2_count_6 : decode cX2_count 6 = .ok (.iconst 0, 1) := by decide +kernel
theorem dX2_count_7 : decode cX2_count 7 = .ok (.istore 4, 2) := by decide +kernel
theorem dX2_count_9 : decode cX2_count 9 = .ok (.iconst 0, 1) := by decide +kernel
theorem dX2_count_10 : decode cX2_count 10 = .ok (.istore 5, 2) := by decide +kernel
theorem dX2_count_12 : decode cX2_count 12 = .ok (.iload 5, 2) := by decide +kernel
theorem dX2_count_14 : decode cX2_count 14 = .ok (.aload_n 0, 1) := by decide +kernel
theorem dX2_count_15 : decode cX2_count 15 = .ok (.getfield 10, 3) := by decide +kernel
theorem dX2_count_18 : decode cX2_count 18 = .ok (.invokevirtual 45, 3) := by decide +kernel
theorem dX2_count_21 : decode cX2_count 21 = .ok (.if_icmp .ge 24, 3) := by decide +kernel
theorem dX2_count_24 : decode cX2_count 24 = .ok (.aload_n 0, 1) := by decide +kernel
theorem dX2_count_25 : decode cX2_count 25 = .ok (.iload 5, 2) := by decide +kernel
theorem dX2_count_27 : decode cX2_count 27 = .ok (.iload_n 1, 1) := by decide +kernel
theorem dX2_count_28 : decode cX2_count 28 = .ok (.iload_n 2, 1) := by decide +kernel
theorem dX2_count_29 : decode cX2_count 29 = .ok (.iload_n 3, 1) := by decide +kernel
theorem dX2_count_30 : decode cX2_count 30 = .ok (.invokevirtual 98, 3) := by decide +kernel
theorem dX2_count_33 : decode cX2_count 33 = .ok (.ifCond .eq 6, 3) := by decide +kernel
theorem dX2_count_36 : decode cX2_count 36 = .ok (.iinc 4 1, 3) := by decide +kernel
theorem dX2_count_39 : decode cX2_count 39 = .ok (.iinc 5 1, 3) := by decide +kernel
theorem dX2_count_42 : decode cX2_count 42 = .ok (.goto (-30), 3) := by decide +kernel
theorem dX2_count_45 : decode cX2_count 45 = .ok (.iload 4, 2) := by decide +kernel
theorem dX2_count_47 : decode cX2_count 47 = .ok (.ireturn, 1) := by decide +kernel
theorem dX2_nearest_0 : decode cX2_nearest 0 = .ok (.iload_n 1, 1) := by decide +kernel
theorem dX2_nearest_1 : decode cX2_nearest 1 = .ok (.iload_n 2, 1) := by decide +kernel
theorem dX2_nearest_2 : decode cX2_nearest 2 = .ok (.iload_n 3, 1) := by decide +kernel
theorem dX2_nearest_3 : decode cX2_nearest 3 = .ok (.invokestatic 30, 3) := by decide +kernel
theorem dX2_nearest_6 : decode cX2_nearest 6 = .ok (.iload 4, 2) := by decide +kernel
theorem dX2_nearest_8 : decode cX2_nearest 8 = .ok (.iconst 1, 1) := by decide +kernel
theorem dX2_nearest_9 : decode cX2_nearest 9 = .ok (.if_icmp .ge 13, 3) := by decide +kernel
theorem dX2_nearest_12 : decode cX2_nearest 12 = .ok (.new 72, 3) := by decide +kernel
theorem dX2_nearest_15 : decode cX2_nearest 15 = .ok (.dup, 1) := by decide +kernel
theorem dX2_nearest_16 : decode cX2_nearest 16 = .ok (.ldc 111, 2) := by decide +kernel
theorem dX2_nearest_18 : decode cX2_nearest 18 = .ok (.invokespecial 76, 3) := by decide +kernel
theorem dX2_nearest_21 : decode cX2_nearest 21 = .ok (.athrow, 1) := by decide +kernel
theorem dX2_nearest_22 : decode cX2_nearest 22 = .ok (.iload 4, 2) := by decide +kernel
theorem dX2_nearest_24 : decode cX2_nearest 24 = .ok (.aload_n 0, 1) := by decide +kernel
theorem dX2_nearest_25 : decode cX2_nearest 25 = .ok (.getfield 10, 3) := by decide +kernel
theorem dX2_nearest_28 : decode cX2_nearest 28 = .ok (.invokevirtual 45, 3) := by decide +kernel
theorem dX2_nearest_31 : decode cX2_nearest 31 = .ok (.if_icmp .le 13, 3) := by decide +kernel
theorem dX2_nearest_34 : decode cX2_nearest 34 = .ok (.new 113, 3) := by decide +kernel
theorem dX2_nearest_37 : decode cX2_nearest 37 = .ok (.dup, 1) := by decide +kernel
theorem dX2_nearest_38 : decode cX2_nearest 38 = .ok (.ldc 115, 2) := by decide +kernel
theorem dX2_nearest_40 : decode cX2_nearest 40 = .ok (.invokespecial 117, 3) := by decide +kernel
theorem dX2_nearest_43 : decode cX2_nearest 43 = .ok (.athrow, 1) := by decide +kernel
theorem dX2_nearest_44 : decode cX2_nearest 44 = .ok (.aload_n 0, 1) := by decide +kernel
theorem dX2_nearest_45 : decode cX2_nearest 45 = .ok (.getfield 10, 3) := by decide +kernel
theorem dX2_nearest_48 : decode cX2_nearest 48 = .ok (.iload_n 1, 1) := by decide +kernel
theorem dX2_nearest_49 : decode cX2_nearest 49 = .ok (.iload_n 2, 1) := by decide +kernel
theorem dX2_nearest_50 : decode cX2_nearest 50 = .ok (.iload_n 3, 1) := by decide +kernel
theorem dX2_nearest_51 : decode cX2_nearest 51 = .ok (.iload 4, 2) := by decide +kernel
theorem dX2_nearest_53 : decode cX2_nearest 53 = .ok (.invokevirtual 118, 3) := by decide +kernel
theorem dX2_nearest_56 : decode cX2_nearest 56 = .ok (.ireturn, 1) := by decide +kernel
theorem dX2_kept_0 : decode cX2_kept 0 = .ok (.iload_n 1, 1) := by decide +kernel
theorem dX2_kept_1 : decode cX2_kept 1 = .ok (.iload_n 2, 1) := by decide +kernel
theorem dX2_kept_2 : decode cX2_kept 2 = .ok (.iload_n 3, 1) := by decide +kernel
theorem dX2_kept_3 : decode cX2_kept 3 = .ok (.iload 4, 2) := by decide +kernel
theorem dX2_kept_5 : decode cX2_kept 5 = .ok (.invokestatic 122, 3) := by decide +kernel
theorem dX2_kept_8 : decode cX2_kept 8 = .ok (.ifCond .ne 13, 3) := by decide +kernel
theorem dX2_kept_11 : decode cX2_kept 11 = .ok (.new 72, 3) := by decide +kernel
theorem dX2_kept_14 : decode cX2_kept 14 = .ok (.dup, 1) := by decide +kernel
theorem dX2_kept_15 : decode cX2_kept 15 = .ok (.ldc 125, 2) := by decide +kernel
theorem dX2_kept_17 : decode cX2_kept 17 = .ok (.invokespecial 76, 3) := by decide +kernel
theorem dX2_kept_20 : decode cX2_kept 20 = .ok (.athrow, 1) := by decide +kernel
theorem dX2_kept_21 : decode cX2_kept 21 = .ok (.aload_n 0, 1) := by decide +kernel
theorem dX2_kept_22 : decode cX2_kept 22 = .ok (.getfield 10, 3) := by decide +kernel
theorem dX2_kept_25 : decode cX2_kept 25 = .ok (.iload_n 1, 1) := by decide +kernel
theorem dX2_kept_26 : decode cX2_kept 26 = .ok (.iload_n 2, 1) := by decide +kernel
theorem dX2_kept_27 : decode cX2_kept 27 = .ok (.iload_n 3, 1) := by decide +kernel
theorem dX2_kept_28 : decode cX2_kept 28 = .ok (.iload 4, 2) := by decide +kernel
theorem dX2_kept_30 : decode cX2_kept 30 = .ok (.iload 5, 2) := by decide +kernel
theorem dX2_kept_32 : decode cX2_kept 32 = .ok (.invokevirtual 127, 3) := by decide +kernel
theorem dX2_kept_35 : decode cX2_kept 35 = .ok (.istore 6, 2) := by decide +kernel
theorem dX2_kept_37 : decode cX2_kept 37 = .ok (.iload 6, 2) := by decide +kernel
theorem dX2_kept_39 : decode cX2_kept 39 = .ok (.iconst (-1), 1) := by decide +kernel
theorem dX2_kept_40 : decode cX2_kept 40 = .ok (.if_icmp .ne 13, 3) := by decide +kernel
theorem dX2_kept_43 : decode cX2_kept 43 = .ok (.new 113, 3) := by decide +kernel
theorem dX2_kept_46 : decode cX2_kept 46 = .ok (.dup, 1) := by decide +kernel
theorem dX2_kept_47 : decode cX2_kept 47 = .ok (.ldc 130, 2) := by decide +kernel
theorem dX2_kept_49 : decode cX2_kept 49 = .ok (.invokespecial 117, 3) := by decide +kernel
theorem dX2_kept_52 : decode cX2_kept 52 = .ok (.athrow, 1) := by decide +kernel
theorem dX2_kept_53 : decode cX2_kept 53 = .ok (.aload_n 0, 1) := by decide +kernel
theorem dX2_kept_54 : decode cX2_kept 54 = .ok (.getfield 10, 3) := by decide +kernel
theorem dX2_kept_57 : decode cX2_kept 57 = .ok (.iload 6, 2) := by decide +kernel
theorem dX2_kept_59 : decode cX2_kept 59 = .ok (.invokevirtual 102, 3) := by decide +kernel
theorem dX2_kept_62 : decode cX2_kept 62 = .ok (.ireturn, 1) := by decide +kernel
theorem dX2_commit_0 : decode cX2_commit 0 = .ok (.aload_n 0, 1) := by decide +kernel
theorem dX2_commit_1 : decode cX2_commit 1 = .ok (.getfield 10, 3) := by decide +kernel
theorem dX2_commit_4 : decode cX2_commit 4 = .ok (.aload_n 0, 1) := by decide +kernel
theorem dX2_commit_5 : decode cX2_commit 5 = .ok (.getfield 16, 3) := by decide +kernel
theorem dX2_commit_8 : decode cX2_commit 8 = .ok (.invokevirtual 132, 3) := by decide +kernel
theorem dX2_commit_11 : decode cX2_commit 11 = .ok (.aload_n 0, 1) := by decide +kernel
theorem dX2_commit_12 : decode cX2_commit 12 = .ok (.getfield 16, 3) := by decide +kernel
theorem dX2_commit_15 : decode cX2_commit 15 = .ok (.aload_n 0, 1) := by decide +kernel
theorem dX2_commit_16 : decode cX2_commit 16 = .ok (.getfield 10, 3) := by decide +kernel
theorem dX2_commit_19 : decode cX2_commit 19 = .ok (.invokevirtual 132, 3) := by decide +kernel
theorem dX2_commit_22 : decode cX2_commit 22 = .ok (.iadd, 1) := by decide +kernel
theorem dX2_commit_23 : decode cX2_commit 23 = .ok (.istore_n 1, 1) := by decide +kernel
theorem dX2_commit_24 : decode cX2_commit 24 = .ok (.iload_n 1, 1) := by decide +kernel
theorem dX2_commit_25 : decode cX2_commit 25 = .ok (.ifCond .ne 5, 3) := by decide +kernel
theorem dX2_commit_28 : decode cX2_commit 28 = .ok (.iconst 0, 1) := by decide +kernel
theorem dX2_commit_29 : decode cX2_commit 29 = .ok (.ireturn, 1) := by decide +kernel
theorem dX2_commit_30 : decode cX2_commit 30 = .ok (.aload_n 0, 1) := by decide +kernel
theorem dX2_commit_31 : decode cX2_commit 31 = .ok (.getfield 10, 3) := by decide +kernel
theorem dX2_commit_34 : decode cX2_commit 34 = .ok (.aload_n 0, 1) := by decide +kernel
theorem dX2_commit_35 : decode cX2_commit 35 = .ok (.getfield 16, 3) := by decide +kernel
theorem dX2_commit_38 : decode cX2_commit 38 = .ok (.invokevirtual 136, 3) := by decide +kernel
theorem dX2_commit_41 : decode cX2_commit 41 = .ok (.istore_n 2, 1) := by decide +kernel
theorem dX2_commit_42 : decode cX2_commit 42 = .ok (.iload_n 2, 1) := by decide +kernel
theorem dX2_commit_43 : decode cX2_commit 43 = .ok (.aload_n 0, 1) := by decide +kernel
theorem dX2_commit_44 : decode cX2_commit 44 = .ok (.invokevirtual 139, 3) := by decide +kernel
theorem dX2_commit_47 : decode cX2_commit 47 = .ok (.if_icmp .le 13, 3) := by decide +kernel
theorem dX2_commit_50 : decode cX2_commit 50 = .ok (.new 38, 3) := by decide +kernel
theorem dX2_commit_53 : decode cX2_commit 53 = .ok (.dup, 1) := by decide +kernel
theorem dX2_commit_54 : decode cX2_commit 54 = .ok (.ldc 142, 2) := by decide +kernel
theorem dX2_commit_56 : decode cX2_commit 56 = .ok (.invokespecial 42, 3) := by decide +kernel
theorem dX2_commit_59 : decode cX2_commit 59 = .ok (.athrow, 1) := by decide +kernel
theorem dX2_commit_60 : decode cX2_commit 60 = .ok (.iload_n 2, 1) := by decide +kernel
theorem dX2_commit_61 : decode cX2_commit 61 = .ok (.iconst 1, 1) := by decide +kernel
theorem dX2_commit_62 : decode cX2_commit 62 = .ok (.iadd, 1) := by decide +kernel
theorem dX2_commit_63 : decode cX2_commit 63 = .ok (.istore_n 3, 1) := by decide +kernel
theorem dX2_commit_64 : decode cX2_commit 64 = .ok (.aload_n 0, 1) := by decide +kernel
theorem dX2_commit_65 : decode cX2_commit 65 = .ok (.getfield 26, 3) := by decide +kernel
theorem dX2_commit_68 : decode cX2_commit 68 = .ok (.iconst (-1), 1) := by decide +kernel
theorem dX2_commit_69 : decode cX2_commit 69 = .ok (.if_icmp .eq 25, 3) := by decide +kernel
theorem dX2_commit_72 : decode cX2_commit 72 = .ok (.iload_n 3, 1) := by decide +kernel
theorem dX2_commit_73 : decode cX2_commit 73 = .ok (.aload_n 0, 1) := by decide +kernel
theorem dX2_commit_74 : decode cX2_commit 74 = .ok (.getfield 26, 3) := by decide +kernel
theorem dX2_commit_77 : decode cX2_commit 77 = .ok (.if_icmp .le 17, 3) := by decide +kernel
theorem dX2_commit_80 : decode cX2_commit 80 = .ok (.aload_n 0, 1) := by decide +kernel
theorem dX2_commit_81 : decode cX2_commit 81 = .ok (.invokevirtual 144, 3) := by decide +kernel
theorem dX2_commit_84 : decode cX2_commit 84 = .ok (.new 147, 3) := by decide +kernel
theorem dX2_commit_87 : decode cX2_commit 87 = .ok (.dup, 1) := by decide +kernel
theorem dX2_commit_88 : decode cX2_commit 88 = .ok (.ldc 149, 2) := by decide +kernel
theorem dX2_commit_90 : decode cX2_commit 90 = .ok (.invokespecial 151, 3) := by decide +kernel
theorem dX2_commit_93 : decode cX2_commit 93 = .ok (.athrow, 1) := by decide +kernel
theorem dX2_commit_94 : decode cX2_commit 94 = .ok (.aload_n 0, 1) := by decide +kernel
theorem dX2_commit_95 : decode cX2_commit 95 = .ok (.iload_n 3, 1) := by decide +kernel
theorem dX2_commit_96 : decode cX2_commit 96 = .ok (.invokevirtual 152, 3) := by decide +kernel
theorem dX2_commit_99 : decode cX2_commit 99 = .ok (.aload_n 0, 1) := by decide +kernel
theorem dX2_commit_100 : decode cX2_commit 100 = .ok (.getfield 16, 3) := by decide +kernel
theorem dX2_commit_103 : decode cX2_commit 103 = .ok (.aload_n 0, 1) := by decide +kernel
theorem dX2_commit_104 : decode cX2_commit 104 = .ok (.getfield 10, 3) := by decide +kernel
theorem dX2_commit_107 : decode cX2_commit 107 = .ok (.invokevirtual 155, 3) := by decide +kernel
theorem dX2_commit_110 : decode cX2_commit 110 = .ok (.iload_n 3, 1) := by decide +kernel
theorem dX2_commit_111 : decode cX2_commit 111 = .ok (.ireturn, 1) := by decide +kernel
theorem dX2_charge_0 : decode cX2_charge 0 = .ok (.iload_n 1, 1) := by decide +kernel
theorem dX2_charge_1 : decode cX2_charge 1 = .ok (.ifCond .lt 9, 3) := by decide +kernel
theorem dX2_charge_4 : decode cX2_charge 4 = .ok (.iload_n 1, 1) := by decide +kernel
theorem dX2_charge_5 : decode cX2_charge 5 = .ok (.bipush 99, 2) := by decide +kernel
theorem dX2_charge_7 : decode cX2_charge 7 = .ok (.if_icmp .le 13, 3) := by decide +kernel
theorem dX2_charge_10 : decode cX2_charge 10 = .ok (.new 72, 3) := by decide +kernel
theorem dX2_charge_13 : decode cX2_charge 13 = .ok (.dup, 1) := by decide +kernel
theorem dX2_charge_14 : decode cX2_charge 14 = .ok (.ldc 159, 2) := by decide +kernel
theorem dX2_charge_16 : decode cX2_charge 16 = .ok (.invokespecial 76, 3) := by decide +kernel
theorem dX2_charge_19 : decode cX2_charge 19 = .ok (.athrow, 1) := by decide +kernel
theorem dX2_charge_20 : decode cX2_charge 20 = .ok (.aload_n 0, 1) := by decide +kernel
theorem dX2_charge_21 : decode cX2_charge 21 = .ok (.iload_n 1, 1) := by decide +kernel
theorem dX2_charge_22 : decode cX2_charge 22 = .ok (.putfield 26, 3) := by decide +kernel
theorem dX2_charge_25 : decode cX2_charge 25 = .ok (.return_, 1) := by decide +kernel
theorem dX2_open_0 : decode cX2_open 0 = .ok (.aload_n 0, 1) := by decide +kernel
theorem dX2_open_1 : decode cX2_open 1 = .ok (.invokevirtual 161, 3) := by decide +kernel
theorem dX2_open_4 : decode cX2_open 4 = .ok (.aload_n 0, 1) := by decide +kernel
theorem dX2_open_5 : decode cX2_open 5 = .ok (.getfield 10, 3) := by decide +kernel
theorem dX2_open_8 : decode cX2_open 8 = .ok (.invokevirtual 45, 3) := by decide +kernel
theorem dX2_open_11 : decode cX2_open 11 = .ok (.ireturn, 1) := by decide +kernel
theorem dX2_state_0 : decode cX2_state 0 = .ok (.iload_n 1, 1) := by decide +kernel
theorem dX2_state_1 : decode cX2_state 1 = .ok (.tableswitch 81 0 5 #[39, 47, 55, 60, 65, 73], 39) := by decide +kernel
theorem dX2_state_40 : decode cX2_state 40 = .ok (.aload_n 0, 1) := by decide +kernel
theorem dX2_state_41 : decode cX2_state 41 = .ok (.getfield 10, 3) := by decide +kernel
theorem dX2_state_44 : decode cX2_state 44 = .ok (.invokevirtual 45, 3) := by decide +kernel
theorem dX2_state_47 : decode cX2_state 47 = .ok (.ireturn, 1) := by decide +kernel
theorem dX2_state_48 : decode cX2_state 48 = .ok (.aload_n 0, 1) := by decide +kernel
theorem dX2_state_49 : decode cX2_state 49 = .ok (.getfield 10, 3) := by decide +kernel
theorem dX2_state_52 : decode cX2_state 52 = .ok (.invokevirtual 164, 3) := by decide +kernel
theorem dX2_state_55 : decode cX2_state 55 = .ok (.ireturn, 1) := by decide +kernel
theorem dX2_state_56 : decode cX2_state 56 = .ok (.aload_n 0, 1) := by decide +kernel
theorem dX2_state_57 : decode cX2_state 57 = .ok (.invokevirtual 139, 3) := by decide +kernel
theorem dX2_state_60 : decode cX2_state 60 = .ok (.ireturn, 1) := by decide +kernel
theorem dX2_state_61 : decode cX2_state 61 = .ok (.aload_n 0, 1) := by decide +kernel
theorem dX2_state_62 : decode cX2_state 62 = .ok (.getfield 167, 3) := by decide +kernel
theorem dX2_state_65 : decode cX2_state 65 = .ok (.ireturn, 1) := by decide +kernel
theorem dX2_state_66 : decode cX2_state 66 = .ok (.aload_n 0, 1) := by decide +kernel
theorem dX2_state_67 : decode cX2_state 67 = .ok (.getfield 22, 3) := by decide +kernel
theorem dX2_state_70 : decode cX2_state 70 = .ok (.invokevirtual 107, 3) := by decide +kernel
theorem dX2_state_73 : decode cX2_state 73 = .ok (.ireturn, 1) := by decide +kernel
theorem dX2_state_74 : decode cX2_state 74 = .ok (.aload_n 0, 1) := by decide +kernel
theorem dX2_state_75 : decode cX2_state 75 = .ok (.getfield 16, 3) := by decide +kernel
theorem dX2_state_78 : decode cX2_state 78 = .ok (.invokevirtual 45, 3) := by decide +kernel
theorem dX2_state_81 : decode cX2_state 81 = .ok (.ireturn, 1) := by decide +kernel
theorem dX2_state_82 : decode cX2_state 82 = .ok (.iconst (-1), 1) := by decide +kernel
theorem dX2_state_83 : decode cX2_state 83 = .ok (.ireturn, 1) := by decide +kernel
theorem dX2_rank_0 : decode cX2_rank 0 = .ok (.iload_n 1, 1) := by decide +kernel
theorem dX2_rank_1 : decode cX2_rank 1 = .ok (.invokestatic 170, 3) := by decide +kernel
theorem dX2_rank_4 : decode cX2_rank 4 = .ok (.lreturn, 1) := by decide +kernel
theorem dX2_rankOf_0 : decode cX2_rankOf 0 = .ok (.iload_n 0, 1) := by decide +kernel
theorem dX2_rankOf_1 : decode cX2_rankOf 1 = .ok (.istore_n 1, 1) := by decide +kernel
theorem dX2_rankOf_2 : decode cX2_rankOf 2 = .ok (.iconst 0, 1) := by decide +kernel
theorem dX2_rankOf_3 : decode cX2_rankOf 3 = .ok (.istore_n 2, 1) := by decide +kernel
theorem dX2_rankOf_4 : decode cX2_rankOf 4 = .ok (.iload_n 2, 1) := by decide +kernel
theorem dX2_rankOf_5 : decode cX2_rankOf 5 = .ok (.iconst 3, 1) := by decide +kernel
theorem dX2_rankOf_6 : decode cX2_rankOf 6 = .ok (.if_icmp .ge 21, 3) := by decide +kernel
theorem dX2_rankOf_9 : decode cX2_rankOf 9 = .ok (.iload_n 1, 1) := by decide +kernel
theorem dX2_rankOf_10 : decode cX2_rankOf 10 = .ok (.ldc 174, 2) := by decide +kernel
theorem dX2_rankOf_12 : decode cX2_rankOf 12 = .ok (.imul, 1) := by decide +kernel
theorem dX2_rankOf_13 : decode cX2_rankOf 13 = .ok (.istore_n 1, 1) := by decide +kernel
theorem dX2_rankOf_14 : decode cX2_rankOf 14 = .ok (.iload_n 1, 1) := by decide +kernel
theorem dX2_rankOf_15 : decode cX2_rankOf 15 = .ok (.iload_n 1, 1) := by decide +kernel
theorem dX2_rankOf_16 : decode cX2_rankOf 16 = .ok (.bipush 16, 2) := by decide +kernel
theorem dX2_rankOf_18 : decode cX2_rankOf 18 = .ok (.iushr, 1) := by decide +kernel
theorem dX2_rankOf_19 : decode cX2_rankOf 19 = .ok (.ixor, 1) := by decide +kernel
theorem dX2_rankOf_20 : decode cX2_rankOf 20 = .ok (.istore_n 1, 1) := by decide +kernel
theorem dX2_rankOf_21 : decode cX2_rankOf 21 = .ok (.iinc 2 1, 3) := by decide +kernel
theorem dX2_rankOf_24 : decode cX2_rankOf 24 = .ok (.goto (-20), 3) := by decide +kernel
theorem dX2_rankOf_27 : decode cX2_rankOf 27 = .ok (.iload_n 1, 1) := by decide +kernel
theorem dX2_rankOf_28 : decode cX2_rankOf 28 = .ok (.i2l, 1) := by decide +kernel
theorem dX2_rankOf_29 : decode cX2_rankOf 29 = .ok (.ldc2_w 175, 3) := by decide +kernel
theorem dX2_rankOf_32 : decode cX2_rankOf 32 = .ok (.land, 1) := by decide +kernel
theorem dX2_rankOf_33 : decode cX2_rankOf 33 = .ok (.lreturn, 1) := by decide +kernel
theorem dX2_requirePlace_0 : decode cX2_requirePlace 0 = .ok (.iload_n 0, 1) := by decide +kernel
theorem dX2_requirePlace_1 : decode cX2_requirePlace 1 = .ok (.invokestatic 177, 3) := by decide +kernel
theorem dX2_requirePlace_4 : decode cX2_requirePlace 4 = .ok (.ifCond .eq 17, 3) := by decide +kernel
theorem dX2_requirePlace_7 : decode cX2_requirePlace 7 = .ok (.iload_n 1, 1) := by decide +kernel
theorem dX2_requirePlace_8 : decode cX2_requirePlace 8 = .ok (.invokestatic 177, 3) := by decide +kernel
theorem dX2_requirePlace_11 : decode cX2_requirePlace 11 = .ok (.ifCond .eq 10, 3) := by decide +kernel
theorem dX2_requirePlace_14 : decode cX2_requirePlace 14 = .ok (.iload_n 2, 1) := by decide +kernel
theorem dX2_requirePlace_15 : decode cX2_requirePlace 15 = .ok (.invokestatic 177, 3) := by decide +kernel
theorem dX2_requirePlace_18 : decode cX2_requirePlace 18 = .ok (.ifCond .ne 13, 3) := by decide +kernel
theorem dX2_requirePlace_21 : decode cX2_requirePlace 21 = .ok (.new 72, 3) := by decide +kernel
theorem dX2_requirePlace_24 : decode cX2_requirePlace 24 = .ok (.dup, 1) := by decide +kernel
theorem dX2_requirePlace_25 : decode cX2_requirePlace 25 = .ok (.ldc 180, 2) := by decide +kernel
theorem dX2_requirePlace_27 : decode cX2_requirePlace 27 = .ok (.invokespecial 76, 3) := by decide +kernel
theorem dX2_requirePlace_30 : decode cX2_requirePlace 30 = .ok (.athrow, 1) := by decide +kernel
theorem dX2_requirePlace_31 : decode cX2_requirePlace 31 = .ok (.return_, 1) := by decide +kernel
theorem dX2_isCoordinate_0 : decode cX2_isCoordinate 0 = .ok (.iload_n 0, 1) := by decide +kernel
theorem dX2_isCoordinate_1 : decode cX2_isCoordinate 1 = .ok (.ifCond .lt 13, 3) := by decide +kernel
theorem dX2_isCoordinate_4 : decode cX2_isCoordinate 4 = .ok (.iload_n 0, 1) := by decide +kernel
theorem dX2_isCoordinate_5 : decode cX2_isCoordinate 5 = .ok (.bipush 16, 2) := by decide +kernel
theorem dX2_isCoordinate_7 : decode cX2_isCoordinate 7 = .ok (.if_icmp .ge 7, 3) := by decide +kernel
theorem dX2_isCoordinate_10 : decode cX2_isCoordinate 10 = .ok (.iconst 1, 1) := by decide +kernel
theorem dX2_isCoordinate_11 : decode cX2_isCoordinate 11 = .ok (.goto 4, 3) := by decide +kernel
theorem dX2_isCoordinate_14 : decode cX2_isCoordinate 14 = .ok (.iconst 0, 1) := by decide +kernel
theorem dX2_isCoordinate_15 : decode cX2_isCoordinate 15 = .ok (.ireturn, 1) := by decide +kernel
theorem dX2_isDepth_0 : decode cX2_isDepth 0 = .ok (.iload_n 0, 1) := by decide +kernel
theorem dX2_isDepth_1 : decode cX2_isDepth 1 = .ok (.ifCond .lt 12, 3) := by decide +kernel
theorem dX2_isDepth_4 : decode cX2_isDepth 4 = .ok (.iload_n 0, 1) := by decide +kernel
theorem dX2_isDepth_5 : decode cX2_isDepth 5 = .ok (.iconst 4, 1) := by decide +kernel
theorem dX2_isDepth_6 : decode cX2_isDepth 6 = .ok (.if_icmp .gt 7, 3) := by decide +kernel
theorem dX2_isDepth_9 : decode cX2_isDepth 9 = .ok (.iconst 1, 1) := by decide +kernel
theorem dX2_isDepth_10 : decode cX2_isDepth 10 = .ok (.goto 4, 3) := by decide +kernel
theorem dX2_isDepth_13 : decode cX2_isDepth 13 = .ok (.iconst 0, 1) := by decide +kernel
theorem dX2_isDepth_14 : decode cX2_isDepth 14 = .ok (.ireturn, 1) := by decide +kernel
theorem dX2_isCube_0 : decode cX2_isCube 0 = .ok (.iload_n 0, 1) := by decide +kernel
theorem dX2_isCube_1 : decode cX2_isCube 1 = .ok (.invokestatic 89, 3) := by decide +kernel
theorem dX2_isCube_4 : decode cX2_isCube 4 = .ok (.ifCond .eq 31, 3) := by decide +kernel
theorem dX2_isCube_7 : decode cX2_isCube 7 = .ok (.iload_n 0, 1) := by decide +kernel
theorem dX2_isCube_8 : decode cX2_isCube 8 = .ok (.iload_n 1, 1) := by decide +kernel
theorem dX2_isCube_9 : decode cX2_isCube 9 = .ok (.invokestatic 182, 3) := by decide +kernel
theorem dX2_isCube_12 : decode cX2_isCube 12 = .ok (.ifCond .eq 23, 3) := by decide +kernel
theorem dX2_isCube_15 : decode cX2_isCube 15 = .ok (.iload_n 0, 1) := by decide +kernel
theorem dX2_isCube_16 : decode cX2_isCube 16 = .ok (.iload_n 2, 1) := by decide +kernel
theorem dX2_isCube_17 : decode cX2_isCube 17 = .ok (.invokestatic 182, 3) := by decide +kernel
theorem dX2_isCube_20 : decode cX2_isCube 20 = .ok (.ifCond .eq 15, 3) := by decide +kernel
theorem dX2_isCube_23 : decode cX2_isCube 23 = .ok (.iload_n 0, 1) := by decide +kernel
theorem dX2_isCube_24 : decode cX2_isCube 24 = .ok (.iload_n 3, 1) := by decide +kernel
theorem dX2_isCube_25 : decode cX2_isCube 25 = .ok (.invokestatic 182, 3) := by decide +kernel
theorem dX2_isCube_28 : decode cX2_isCube 28 = .ok (.ifCond .eq 7, 3) := by decide +kernel
theorem dX2_isCube_31 : decode cX2_isCube 31 = .ok (.iconst 1, 1) := by decide +kernel
theorem dX2_isCube_32 : decode cX2_isCube 32 = .ok (.goto 4, 3) := by decide +kernel
theorem dX2_isCube_35 : decode cX2_isCube 35 = .ok (.iconst 0, 1) := by decide +kernel
theorem dX2_isCube_36 : decode cX2_isCube 36 = .ok (.ireturn, 1) := by decide +kernel
theorem dX2_isCubeIndex_0 : decode cX2_isCubeIndex 0 = .ok (.iload_n 1, 1) := by decide +kernel
theorem dX2_isCubeIndex_1 : decode cX2_isCubeIndex 1 = .ok (.ifCond .lt 14, 3) := by decide +kernel
theorem dX2_isCubeIndex_4 : decode cX2_isCubeIndex 4 = .ok (.iload_n 1, 1) := by decide +kernel
theorem dX2_isCubeIndex_5 : decode cX2_isCubeIndex 5 = .ok (.iconst 1, 1) := by decide +kernel
theorem dX2_isCubeIndex_6 : decode cX2_isCubeIndex 6 = .ok (.iload_n 0, 1) := by decide +kernel
theorem dX2_isCubeIndex_7 : decode cX2_isCubeIndex 7 = .ok (.ishl, 1) := by decide +kernel
theorem dX2_isCubeIndex_8 : decode cX2_isCubeIndex 8 = .ok (.if_icmp .ge 7, 3) := by decide +kernel
theorem dX2_isCubeIndex_11 : decode cX2_isCubeIndex 11 = .ok (.iconst 1, 1) := by decide +kernel
theorem dX2_isCubeIndex_12 : decode cX2_isCubeIndex 12 = .ok (.goto 4, 3) := by decide +kernel
theorem dX2_isCubeIndex_15 : decode cX2_isCubeIndex 15 = .ok (.iconst 0, 1) := by decide +kernel
theorem dX2_isCubeIndex_16 : decode cX2_isCubeIndex 16 = .ok (.ireturn, 1) := by decide +kernel
theorem dX2_cubeIndex_0 : decode cX2_cubeIndex 0 = .ok (.iload_n 1, 1) := by decide +kernel
theorem dX2_cubeIndex_1 : decode cX2_cubeIndex 1 = .ok (.iconst 4, 1) := by decide +kernel
theorem dX2_cubeIndex_2 : decode cX2_cubeIndex 2 = .ok (.iload_n 0, 1) := by decide +kernel
theorem dX2_cubeIndex_3 : decode cX2_cubeIndex 3 = .ok (.isub, 1) := by decide +kernel
theorem dX2_cubeIndex_4 : decode cX2_cubeIndex 4 = .ok (.ishr, 1) := by decide +kernel
theorem dX2_cubeIndex_5 : decode cX2_cubeIndex 5 = .ok (.ireturn, 1) := by decide +kernel
theorem dX2_isBetween_0 : decode cX2_isBetween 0 = .ok (.iload_n 0, 1) := by decide +kernel
theorem dX2_isBetween_1 : decode cX2_isBetween 1 = .ok (.iload_n 2, 1) := by decide +kernel
theorem dX2_isBetween_2 : decode cX2_isBetween 2 = .ok (.invokestatic 186, 3) := by decide +kernel
theorem dX2_isBetween_5 : decode cX2_isBetween 5 = .ok (.iload_n 1, 1) := by decide +kernel
theorem dX2_isBetween_6 : decode cX2_isBetween 6 = .ok (.if_icmp .gt 16, 3) := by decide +kernel
theorem dX2_isBetween_9 : decode cX2_isBetween 9 = .ok (.iload_n 1, 1) := by decide +kernel
theorem dX2_isBetween_10 : decode cX2_isBetween 10 = .ok (.iload_n 0, 1) := by decide +kernel
theorem dX2_isBetween_11 : decode cX2_isBetween 11 = .ok (.iload_n 2, 1) := by decide +kernel
theorem dX2_isBetween_12 : decode cX2_isBetween 12 = .ok (.invokestatic 192, 3) := by decide +kernel
theorem dX2_isBetween_15 : decode cX2_isBetween 15 = .ok (.if_icmp .gt 7, 3) := by decide +kernel
theorem dX2_isBetween_18 : decode cX2_isBetween 18 = .ok (.iconst 1, 1) := by decide +kernel
theorem dX2_isBetween_19 : decode cX2_isBetween 19 = .ok (.goto 4, 3) := by decide +kernel
theorem dX2_isBetween_22 : decode cX2_isBetween 22 = .ok (.iconst 0, 1) := by decide +kernel
theorem dX2_isBetween_23 : decode cX2_isBetween 23 = .ok (.ireturn, 1) := by decide +kernel
theorem dX2_isInBox_0 : decode cX2_isInBox 0 = .ok (.aload_n 0, 1) := by decide +kernel
theorem dX2_isInBox_1 : decode cX2_isInBox 1 = .ok (.getfield 195, 3) := by decide +kernel
theorem dX2_isInBox_4 : decode cX2_isInBox 4 = .ok (.aload_n 0, 1) := by decide +kernel
theorem dX2_isInBox_5 : decode cX2_isInBox 5 = .ok (.getfield 10, 3) := by decide +kernel
theorem dX2_isInBox_8 : decode cX2_isInBox 8 = .ok (.iload_n 1, 1) := by decide +kernel
theorem dX2_isInBox_9 : decode cX2_isInBox 9 = .ok (.invokevirtual 77, 3) := by decide +kernel
theorem dX2_isInBox_12 : decode cX2_isInBox 12 = .ok (.iload_n 2, 1) := by decide +kernel
theorem dX2_isInBox_13 : decode cX2_isInBox 13 = .ok (.invokestatic 198, 3) := by decide +kernel
theorem dX2_isInBox_16 : decode cX2_isInBox 16 = .ok (.ifCond .eq 46, 3) := by decide +kernel
theorem dX2_isInBox_19 : decode cX2_isInBox 19 = .ok (.aload_n 0, 1) := by decide +kernel
theorem dX2_isInBox_20 : decode cX2_isInBox 20 = .ok (.getfield 202, 3) := by decide +kernel
theorem dX2_isInBox_23 : decode cX2_isInBox 23 = .ok (.aload_n 0, 1) := by decide +kernel
theorem dX2_isInBox_24 : decode cX2_isInBox 24 = .ok (.getfield 10, 3) := by decide +kernel
theorem dX2_isInBox_27 : decode cX2_isInBox 27 = .ok (.iload_n 1, 1) := by decide +kernel
theorem dX2_isInBox_28 : decode cX2_isInBox 28 = .ok (.invokevirtual 80, 3) := by decide +kernel
theorem dX2_isInBox_31 : decode cX2_isInBox 31 = .ok (.iload_n 3, 1) := by decide +kernel
theorem dX2_isInBox_32 : decode cX2_isInBox 32 = .ok (.invokestatic 198, 3) := by decide +kernel
theorem dX2_isInBox_35 : decode cX2_isInBox 35 = .ok (.ifCond .eq 27, 3) := by decide +kernel
theorem dX2_isInBox_38 : decode cX2_isInBox 38 = .ok (.aload_n 0, 1) := by decide +kernel
theorem dX2_isInBox_39 : decode cX2_isInBox 39 = .ok (.getfield 205, 3) := by decide +kernel
theorem dX2_isInBox_42 : decode cX2_isInBox 42 = .ok (.aload_n 0, 1) := by decide +kernel
theorem dX2_isInBox_43 : decode cX2_isInBox 43 = .ok (.getfield 10, 3) := by decide +kernel
theorem dX2_isInBox_46 : decode cX2_isInBox 46 = .ok (.iload_n 1, 1) := by decide +kernel
theorem dX2_isInBox_47 : decode cX2_isInBox 47 = .ok (.invokevirtual 83, 3) := by decide +kernel
theorem dX2_isInBox_50 : decode cX2_isInBox 50 = .ok (.iload 4, 2) := by decide +kernel
theorem dX2_isInBox_52 : decode cX2_isInBox 52 = .ok (.invokestatic 198, 3) := by decide +kernel
theorem dX2_isInBox_55 : decode cX2_isInBox 55 = .ok (.ifCond .eq 7, 3) := by decide +kernel
theorem dX2_isInBox_58 : decode cX2_isInBox 58 = .ok (.iconst 1, 1) := by decide +kernel
theorem dX2_isInBox_59 : decode cX2_isInBox 59 = .ok (.goto 4, 3) := by decide +kernel
theorem dX2_isInBox_62 : decode cX2_isInBox 62 = .ok (.iconst 0, 1) := by decide +kernel
theorem dX2_isInBox_63 : decode cX2_isInBox 63 = .ok (.ireturn, 1) := by decide +kernel
theorem dX2_findPoint_0 : decode cX2_findPoint 0 = .ok (.aload_n 0, 1) := by decide +kernel
theorem dX2_findPoint_1 : decode cX2_findPoint 1 = .ok (.getfield 10, 3) := by decide +kernel
theorem dX2_findPoint_4 : decode cX2_findPoint 4 = .ok (.iload_n 1, 1) := by decide +kernel
theorem dX2_findPoint_5 : decode cX2_findPoint 5 = .ok (.invokevirtual 34, 3) := by decide +kernel
theorem dX2_findPoint_8 : decode cX2_findPoint 8 = .ok (.istore_n 2, 1) := by decide +kernel
theorem dX2_findPoint_9 : decode cX2_findPoint 9 = .ok (.iload_n 2, 1) := by decide +kernel
theorem dX2_findPoint_10 : decode cX2_findPoint 10 = .ok (.iconst (-1), 1) := by decide +kernel
theorem dX2_findPoint_11 : decode cX2_findPoint 11 = .ok (.if_icmp .ne 13, 3) := by decide +kernel
theorem dX2_findPoint_14 : decode cX2_findPoint 14 = .ok (.new 113, 3) := by decide +kernel
theorem dX2_findPoint_17 : decode cX2_findPoint 17 = .ok (.dup, 1) := by decide +kernel
theorem dX2_findPoint_18 : decode cX2_findPoint 18 = .ok (.ldc 208, 2) := by decide +kernel
theorem dX2_findPoint_20 : decode cX2_findPoint 20 = .ok (.invokespecial 117, 3) := by decide +kernel
theorem dX2_findPoint_23 : decode cX2_findPoint 23 = .ok (.athrow, 1) := by decide +kernel
theorem dX2_findPoint_24 : decode cX2_findPoint 24 = .ok (.iload_n 2, 1) := by decide +kernel
theorem dX2_findPoint_25 : decode cX2_findPoint 25 = .ok (.ireturn, 1) := by decide +kernel
theorem dX2_setCorner_0 : decode cX2_setCorner 0 = .ok (.aload_n 0, 1) := by decide +kernel
theorem dX2_setCorner_1 : decode cX2_setCorner 1 = .ok (.iload_n 1, 1) := by decide +kernel
theorem dX2_setCorner_2 : decode cX2_setCorner 2 = .ok (.putfield 195, 3) := by decide +kernel
theorem dX2_setCorner_5 : decode cX2_setCorner 5 = .ok (.aload_n 0, 1) := by decide +kernel
theorem dX2_setCorner_6 : decode cX2_setCorner 6 = .ok (.iload_n 2, 1) := by decide +kernel
theorem dX2_setCorner_7 : decode cX2_setCorner 7 = .ok (.putfield 202, 3) := by decide +kernel
theorem dX2_setCorner_10 : decode cX2_setCorner 10 = .ok (.aload_n 0, 1) := by decide +kernel
theorem dX2_setCorner_11 : decode cX2_setCorner 11 = .ok (.iload_n 3, 1) := by decide +kernel
theorem dX2_setCorner_12 : decode cX2_setCorner 12 = .ok (.putfield 205, 3) := by decide +kernel
theorem dX2_setCorner_15 : decode cX2_setCorner 15 = .ok (.return_, 1) := by decide +kernel
theorem dX2_freePages_0 : decode cX2_freePages 0 = .ok (.bipush 64, 2) := by decide +kernel
theorem dX2_freePages_2 : decode cX2_freePages 2 = .ok (.aload_n 0, 1) := by decide +kernel
theorem dX2_freePages_3 : decode cX2_freePages 3 = .ok (.getfield 16, 3) := by decide +kernel
theorem dX2_freePages_6 : decode cX2_freePages 6 = .ok (.invokevirtual 210, 3) := by decide +kernel
theorem dX2_freePages_9 : decode cX2_freePages 9 = .ok (.isub, 1) := by decide +kernel
theorem dX2_freePages_10 : decode cX2_freePages 10 = .ok (.ireturn, 1) := by decide +kernel
theorem dX2_writePages_0 : decode cX2_writePages 0 = .ok (.aload_n 0, 1) := by decide +kernel
theorem dX2_writePages_1 : decode cX2_writePages 1 = .ok (.dup, 1) := by decide +kernel
theorem dX2_writePages_2 : decode cX2_writePages 2 = .ok (.getfield 167, 3) := by decide +kernel
theorem dX2_writePages_5 : decode cX2_writePages 5 = .ok (.iload_n 1, 1) := by decide +kernel
theorem dX2_writePages_6 : decode cX2_writePages 6 = .ok (.iadd, 1) := by decide +kernel
theorem dX2_writePages_7 : decode cX2_writePages 7 = .ok (.putfield 167, 3) := by decide +kernel
theorem dX2_writePages_10 : decode cX2_writePages 10 = .ok (.aload_n 0, 1) := by decide +kernel
theorem dX2_writePages_11 : decode cX2_writePages 11 = .ok (.getfield 26, 3) := by decide +kernel
theorem dX2_writePages_14 : decode cX2_writePages 14 = .ok (.iconst (-1), 1) := by decide +kernel
theorem dX2_writePages_15 : decode cX2_writePages 15 = .ok (.if_icmp .eq 13, 3) := by decide +kernel
theorem dX2_writePages_18 : decode cX2_writePages 18 = .ok (.aload_n 0, 1) := by decide +kernel
theorem dX2_writePages_19 : decode cX2_writePages 19 = .ok (.dup, 1) := by decide +kernel
theorem dX2_writePages_20 : decode cX2_writePages 20 = .ok (.getfield 26, 3) := by decide +kernel
theorem dX2_writePages_23 : decode cX2_writePages 23 = .ok (.iload_n 1, 1) := by decide +kernel
theorem dX2_writePages_24 : decode cX2_writePages 24 = .ok (.isub, 1) := by decide +kernel
theorem dX2_writePages_25 : decode cX2_writePages 25 = .ok (.putfield 26, 3) := by decide +kernel
theorem dX2_writePages_28 : decode cX2_writePages 28 = .ok (.return_, 1) := by decide +kernel
theorem dX2_losePower_0 : decode cX2_losePower 0 = .ok (.aload_n 0, 1) := by decide +kernel
theorem dX2_losePower_1 : decode cX2_losePower 1 = .ok (.aload_n 0, 1) := by decide +kernel
theorem dX2_losePower_2 : decode cX2_losePower 2 = .ok (.getfield 26, 3) := by decide +kernel
theorem dX2_losePower_5 : decode cX2_losePower 5 = .ok (.invokevirtual 152, 3) := by decide +kernel
theorem dX2_losePower_8 : decode cX2_losePower 8 = .ok (.aload_n 0, 1) := by decide +kernel
theorem dX2_losePower_9 : decode cX2_losePower 9 = .ok (.iconst (-1), 1) := by decide +kernel
theorem dX2_losePower_10 : decode cX2_losePower 10 = .ok (.putfield 26, 3) := by decide +kernel
theorem dX2_losePower_13 : decode cX2_losePower 13 = .ok (.aload_n 0, 1) := by decide +kernel
theorem dX2_losePower_14 : decode cX2_losePower 14 = .ok (.invokevirtual 161, 3) := by decide +kernel
theorem dX2_losePower_17 : decode cX2_losePower 17 = .ok (.return_, 1) := by decide +kernel
theorem dX2_restore_0 : decode cX2_restore 0 = .ok (.aload_n 0, 1) := by decide +kernel
theorem dX2_restore_1 : decode cX2_restore 1 = .ok (.getfield 10, 3) := by decide +kernel
theorem dX2_restore_4 : decode cX2_restore 4 = .ok (.aload_n 0, 1) := by decide +kernel
theorem dX2_restore_5 : decode cX2_restore 5 = .ok (.getfield 16, 3) := by decide +kernel
theorem dX2_restore_8 : decode cX2_restore 8 = .ok (.invokevirtual 155, 3) := by decide +kernel
theorem dX2_restore_11 : decode cX2_restore 11 = .ok (.aload_n 0, 1) := by decide +kernel
theorem dX2_restore_12 : decode cX2_restore 12 = .ok (.getfield 22, 3) := by decide +kernel
theorem dX2_restore_15 : decode cX2_restore 15 = .ok (.invokevirtual 95, 3) := by decide +kernel
theorem dX2_restore_18 : decode cX2_restore 18 = .ok (.aload_n 0, 1) := by decide +kernel
theorem dX2_restore_19 : decode cX2_restore 19 = .ok (.iconst 0, 1) := by decide +kernel
theorem dX2_restore_20 : decode cX2_restore 20 = .ok (.iconst 0, 1) := by decide +kernel
theorem dX2_restore_21 : decode cX2_restore 21 = .ok (.iconst 0, 1) := by decide +kernel
theorem dX2_restore_22 : decode cX2_restore 22 = .ok (.invokevirtual 86, 3) := by decide +kernel
theorem dX2_restore_25 : decode cX2_restore 25 = .ok (.return_, 1) := by decide +kernel
end
section
/-! decode rows: the reference. By wip/names.py. -/
theorem dX3_init_0 : decode cX3_init 0 = .ok (.aload_n 0, 1) := by decide +kernel
theorem dX3_init_1 : decode cX3_init 1 = .ok (.invokespecial 1, 3) := by decide +kernel
theorem dX3_init_4 : decode cX3_init 4 = .ok (.aload_n 0, 1) := by decide +kernel
theorem dX3_init_5 : decode cX3_init 5 = .ok (.bipush 48, 2) := by decide +kernel
theorem dX3_init_7 : decode cX3_init 7 = .ok (.newarray .int, 2) := by decide +kernel
theorem dX3_init_9 : decode cX3_init 9 = .ok (.putfield 7, 3) := by decide +kernel
theorem dX3_init_12 : decode cX3_init 12 = .ok (.aload_n 0, 1) := by decide +kernel
theorem dX3_init_13 : decode cX3_init 13 = .ok (.bipush 48, 2) := by decide +kernel
theorem dX3_init_15 : decode cX3_init 15 = .ok (.newarray .int, 2) := by decide +kernel
theorem dX3_init_17 : decode cX3_init 17 = .ok (.putfield 13, 3) := by decide +kernel
theorem dX3_init_20 : decode cX3_init 20 = .ok (.aload_n 0, 1) := by decide +kernel
theorem dX3_init_21 : decode cX3_init 21 = .ok (.bipush 48, 2) := by decide +kernel
theorem dX3_init_23 : decode cX3_init 23 = .ok (.newarray .int, 2) := by decide +kernel
theorem dX3_init_25 : decode cX3_init 25 = .ok (.putfield 16, 3) := by decide +kernel
theorem dX3_init_28 : decode cX3_init 28 = .ok (.aload_n 0, 1) := by decide +kernel
theorem dX3_init_29 : decode cX3_init 29 = .ok (.bipush 48, 2) := by decide +kernel
theorem dX3_init_31 : decode cX3_init 31 = .ok (.newarray .int, 2) := by decide +kernel
theorem dX3_init_33 : decode cX3_init 33 = .ok (.putfield 19, 3) := by decide +kernel
theorem dX3_init_36 : decode cX3_init 36 = .ok (.aload_n 0, 1) := by decide +kernel
theorem dX3_init_37 : decode cX3_init 37 = .ok (.bipush 48, 2) := by decide +kernel
theorem dX3_init_39 : decode cX3_init 39 = .ok (.newarray .int, 2) := by decide +kernel
theorem dX3_init_41 : decode cX3_init 41 = .ok (.putfield 22, 3) := by decide +kernel
theorem dX3_init_44 : decode cX3_init 44 = .ok (.aload_n 0, 1) := by decide +kernel
theorem dX3_init_45 : decode cX3_init 45 = .ok (.bipush 48, 2) := by decide +kernel
theorem dX3_init_47 : decode cX3_init 47 = .ok (.newarray .int, 2) := by decide +kernel
theorem dX3_init_49 : decode cX3_init 49 = .ok (.putfield 25, 3) := by decide +kernel
theorem dX3_init_52 : decode cX3_init 52 = .ok (.aload_n 0, 1) := by decide +kernel
theorem dX3_init_53 : decode cX3_init 53 = .ok (.bipush 48, 2) := by decide +kernel
theorem dX3_init_55 : decode cX3_init 55 = .ok (.newarray .int, 2) := by decide +kernel
theorem dX3_init_57 : decode cX3_init 57 = .ok (.putfield 28, 3) := by decide +kernel
theorem dX3_init_60 : decode cX3_init 60 = .ok (.aload_n 0, 1) := by decide +kernel
theorem dX3_init_61 : decode cX3_init 61 = .ok (.bipush 48, 2) := by decide +kernel
theorem dX3_init_63 : decode cX3_init 63 = .ok (.newarray .int, 2) := by decide +kernel
theorem dX3_init_65 : decode cX3_init 65 = .ok (.putfield 31, 3) := by decide +kernel
theorem dX3_init_68 : decode cX3_init 68 = .ok (.aload_n 0, 1) := by decide +kernel
theorem dX3_init_69 : decode cX3_init 69 = .ok (.bipush 48, 2) := by decide +kernel
theorem dX3_init_71 : decode cX3_init 71 = .ok (.newarray .boolean, 2) := by decide +kernel
theorem dX3_init_73 : decode cX3_init 73 = .ok (.putfield 34, 3) := by decide +kernel
theorem dX3_init_76 : decode cX3_init 76 = .ok (.aload_n 0, 1) := by decide +kernel
theorem dX3_init_77 : decode cX3_init 77 = .ok (.bipush 48, 2) := by decide +kernel
theorem dX3_init_79 : decode cX3_init 79 = .ok (.newarray .int, 2) := by decide +kernel
theorem dX3_init_81 : decode cX3_init 81 = .ok (.putfield 38, 3) := by decide +kernel
theorem dX3_init_84 : decode cX3_init 84 = .ok (.aload_n 0, 1) := by decide +kernel
theorem dX3_init_85 : decode cX3_init 85 = .ok (.iconst (-1), 1) := by decide +kernel
theorem dX3_init_86 : decode cX3_init 86 = .ok (.putfield 41, 3) := by decide +kernel
theorem dX3_init_89 : decode cX3_init 89 = .ok (.return_, 1) := by decide +kernel
theorem dX3_thrown_0 : decode cX3_thrown 0 = .ok (.aload_n 0, 1) := by decide +kernel
theorem dX3_thrown_1 : decode cX3_thrown 1 = .ok (.getfield 45, 3) := by decide +kernel
theorem dX3_thrown_4 : decode cX3_thrown 4 = .ok (.ireturn, 1) := by decide +kernel
theorem dX3_fails_0 : decode cX3_fails 0 = .ok (.aload_n 0, 1) := by decide +kernel
theorem dX3_fails_1 : decode cX3_fails 1 = .ok (.iload_n 1, 1) := by decide +kernel
theorem dX3_fails_2 : decode cX3_fails 2 = .ok (.putfield 45, 3) := by decide +kernel
theorem dX3_fails_5 : decode cX3_fails 5 = .ok (.iconst 0, 1) := by decide +kernel
theorem dX3_fails_6 : decode cX3_fails 6 = .ok (.ireturn, 1) := by decide +kernel
theorem dX3_in_0 : decode cX3_in 0 = .ok (.iload_n 0, 1) := by decide +kernel
theorem dX3_in_1 : decode cX3_in 1 = .ok (.iload_n 1, 1) := by decide +kernel
theorem dX3_in_2 : decode cX3_in 2 = .ok (.if_icmp .lt 12, 3) := by decide +kernel
theorem dX3_in_5 : decode cX3_in 5 = .ok (.iload_n 0, 1) := by decide +kernel
theorem dX3_in_6 : decode cX3_in 6 = .ok (.iload_n 2, 1) := by decide +kernel
theorem dX3_in_7 : decode cX3_in 7 = .ok (.if_icmp .gt 7, 3) := by decide +kernel
theorem dX3_in_10 : decode cX3_in 10 = .ok (.iconst 1, 1) := by decide +kernel
theorem dX3_in_11 : decode cX3_in 11 = .ok (.goto 4, 3) := by decide +kernel
theorem dX3_in_14 : decode cX3_in 14 = .ok (.iconst 0, 1) := by decide +kernel
theorem dX3_in_15 : decode cX3_in 15 = .ok (.ireturn, 1) := by decide +kernel
theorem dX3_isPlace_0 : decode cX3_isPlace 0 = .ok (.iload_n 0, 1) := by decide +kernel
theorem dX3_isPlace_1 : decode cX3_isPlace 1 = .ok (.iconst 0, 1) := by decide +kernel
theorem dX3_isPlace_2 : decode cX3_isPlace 2 = .ok (.bipush 15, 2) := by decide +kernel
theorem dX3_isPlace_4 : decode cX3_isPlace 4 = .ok (.invokestatic 48, 3) := by decide +kernel
theorem dX3_isPlace_7 : decode cX3_isPlace 7 = .ok (.ifCond .eq 27, 3) := by decide +kernel
theorem dX3_isPlace_10 : decode cX3_isPlace 10 = .ok (.iload_n 1, 1) := by decide +kernel
theorem dX3_isPlace_11 : decode cX3_isPlace 11 = .ok (.iconst 0, 1) := by decide +kernel
theorem dX3_isPlace_12 : decode cX3_isPlace 12 = .ok (.bipush 15, 2) := by decide +kernel
theorem dX3_isPlace_14 : decode cX3_isPlace 14 = .ok (.invokestatic 48, 3) := by decide +kernel
theorem dX3_isPlace_17 : decode cX3_isPlace 17 = .ok (.ifCond .eq 17, 3) := by decide +kernel
theorem dX3_isPlace_20 : decode cX3_isPlace 20 = .ok (.iload_n 2, 1) := by decide +kernel
theorem dX3_isPlace_21 : decode cX3_isPlace 21 = .ok (.iconst 0, 1) := by decide +kernel
theorem dX3_isPlace_22 : decode cX3_isPlace 22 = .ok (.bipush 15, 2) := by decide +kernel
theorem dX3_isPlace_24 : decode cX3_isPlace 24 = .ok (.invokestatic 48, 3) := by decide +kernel
theorem dX3_isPlace_27 : decode cX3_isPlace 27 = .ok (.ifCond .eq 7, 3) := by decide +kernel
theorem dX3_isPlace_30 : decode cX3_isPlace 30 = .ok (.iconst 1, 1) := by decide +kernel
theorem dX3_isPlace_31 : decode cX3_isPlace 31 = .ok (.goto 4, 3) := by decide +kernel
theorem dX3_isPlace_34 : decode cX3_isPlace 34 = .ok (.iconst 0, 1) := by decide +kernel
theorem dX3_isPlace_35 : decode cX3_isPlace 35 = .ok (.ireturn, 1) := by decide +kernel
theorem dX3_packed_0 : decode cX3_packed 0 = .ok (.sipush 256, 3) := by decide +kernel
theorem dX3_packed_3 : decode cX3_packed 3 = .ok (.iload_n 0, 1) := by decide +kernel
theorem dX3_packed_4 : decode cX3_packed 4 = .ok (.imul, 1) := by decide +kernel
theorem dX3_packed_5 : decode cX3_packed 5 = .ok (.bipush 16, 2) := by decide +kernel
theorem dX3_packed_7 : decode cX3_packed 7 = .ok (.iload_n 1, 1) := by decide +kernel
theorem dX3_packed_8 : decode cX3_packed 8 = .ok (.imul, 1) := by decide +kernel
theorem dX3_packed_9 : decode cX3_packed 9 = .ok (.iadd, 1) := by decide +kernel
theorem dX3_packed_10 : decode cX3_packed 10 = .ok (.iload_n 2, 1) := by decide +kernel
theorem dX3_packed_11 : decode cX3_packed 11 = .ok (.iadd, 1) := by decide +kernel
theorem dX3_packed_12 : decode cX3_packed 12 = .ok (.ireturn, 1) := by decide +kernel
theorem dX3_axis_0 : decode cX3_axis 0 = .ok (.iload_n 1, 1) := by decide +kernel
theorem dX3_axis_1 : decode cX3_axis 1 = .ok (.ifCond .ne 11, 3) := by decide +kernel
theorem dX3_axis_4 : decode cX3_axis 4 = .ok (.iload_n 0, 1) := by decide +kernel
theorem dX3_axis_5 : decode cX3_axis 5 = .ok (.sipush 256, 3) := by decide +kernel
theorem dX3_axis_8 : decode cX3_axis 8 = .ok (.idiv, 1) := by decide +kernel
theorem dX3_axis_9 : decode cX3_axis 9 = .ok (.goto 22, 3) := by decide +kernel
theorem dX3_axis_12 : decode cX3_axis 12 = .ok (.iload_n 1, 1) := by decide +kernel
theorem dX3_axis_13 : decode cX3_axis 13 = .ok (.iconst 1, 1) := by decide +kernel
theorem dX3_axis_14 : decode cX3_axis 14 = .ok (.if_icmp .ne 13, 3) := by decide +kernel
theorem dX3_axis_17 : decode cX3_axis 17 = .ok (.iload_n 0, 1) := by decide +kernel
theorem dX3_axis_18 : decode cX3_axis 18 = .ok (.bipush 16, 2) := by decide +kernel
theorem dX3_axis_20 : decode cX3_axis 20 = .ok (.idiv, 1) := by decide +kernel
theorem dX3_axis_21 : decode cX3_axis 21 = .ok (.bipush 16, 2) := by decide +kernel
theorem dX3_axis_23 : decode cX3_axis 23 = .ok (.irem, 1) := by decide +kernel
theorem dX3_axis_24 : decode cX3_axis 24 = .ok (.goto 7, 3) := by decide +kernel
theorem dX3_axis_27 : decode cX3_axis 27 = .ok (.iload_n 0, 1) := by decide +kernel
theorem dX3_axis_28 : decode cX3_axis 28 = .ok (.bipush 16, 2) := by decide +kernel
theorem dX3_axis_30 : decode cX3_axis 30 = .ok (.irem, 1) := by decide +kernel
theorem dX3_axis_31 : decode cX3_axis 31 = .ok (.ireturn, 1) := by decide +kernel
theorem dX3_rankOf_0 : decode cX3_rankOf 0 = .ok (.iload_n 0, 1) := by decide +kernel
theorem dX3_rankOf_1 : decode cX3_rankOf 1 = .ok (.istore_n 1, 1) := by decide +kernel
theorem dX3_rankOf_2 : decode cX3_rankOf 2 = .ok (.iconst 0, 1) := by decide +kernel
theorem dX3_rankOf_3 : decode cX3_rankOf 3 = .ok (.istore_n 2, 1) := by decide +kernel
theorem dX3_rankOf_4 : decode cX3_rankOf 4 = .ok (.iload_n 2, 1) := by decide +kernel
theorem dX3_rankOf_5 : decode cX3_rankOf 5 = .ok (.iconst 3, 1) := by decide +kernel
theorem dX3_rankOf_6 : decode cX3_rankOf 6 = .ok (.if_icmp .ge 21, 3) := by decide +kernel
theorem dX3_rankOf_9 : decode cX3_rankOf 9 = .ok (.iload_n 1, 1) := by decide +kernel
theorem dX3_rankOf_10 : decode cX3_rankOf 10 = .ok (.ldc 52, 2) := by decide +kernel
theorem dX3_rankOf_12 : decode cX3_rankOf 12 = .ok (.imul, 1) := by decide +kernel
theorem dX3_rankOf_13 : decode cX3_rankOf 13 = .ok (.istore_n 1, 1) := by decide +kernel
theorem dX3_rankOf_14 : decode cX3_rankOf 14 = .ok (.iload_n 1, 1) := by decide +kernel
theorem dX3_rankOf_15 : decode cX3_rankOf 15 = .ok (.iload_n 1, 1) := by decide +kernel
theorem dX3_rankOf_16 : decode cX3_rankOf 16 = .ok (.bipush 16, 2) := by decide +kernel
theorem dX3_rankOf_18 : decode cX3_rankOf 18 = .ok (.iushr, 1) := by decide +kernel
theorem dX3_rankOf_19 : decode cX3_rankOf 19 = .ok (.ixor, 1) := by decide +kernel
theorem dX3_rankOf_20 : decode cX3_rankOf 20 = .ok (.istore_n 1, 1) := by decide +kernel
theorem dX3_rankOf_21 : decode cX3_rankOf 21 = .ok (.iinc 2 1, 3) := by decide +kernel
theorem dX3_rankOf_24 : decode cX3_rankOf 24 = .ok (.goto (-20), 3) := by decide +kernel
theorem dX3_rankOf_27 : decode cX3_rankOf 27 = .ok (.iload_n 1, 1) := by decide +kernel
theorem dX3_rankOf_28 : decode cX3_rankOf 28 = .ok (.ifCond .ge 12, 3) := by decide +kernel
theorem dX3_rankOf_31 : decode cX3_rankOf 31 = .ok (.iload_n 1, 1) := by decide +kernel
theorem dX3_rankOf_32 : decode cX3_rankOf 32 = .ok (.i2l, 1) := by decide +kernel
theorem dX3_rankOf_33 : decode cX3_rankOf 33 = .ok (.ldc2_w 53, 3) := by decide +kernel
theorem dX3_rankOf_36 : decode cX3_rankOf 36 = .ok (.ladd, 1) := by decide +kernel
theorem dX3_rankOf_37 : decode cX3_rankOf 37 = .ok (.goto 5, 3) := by decide +kernel
theorem dX3_rankOf_40 : decode cX3_rankOf 40 = .ok (.iload_n 1, 1) := by decide +kernel
theorem dX3_rankOf_41 : decode cX3_rankOf 41 = .ok (.i2l, 1) := by decide +kernel
theorem dX3_rankOf_42 : decode cX3_rankOf 42 = .ok (.lreturn, 1) := by decide +kernel
theorem dX3_rank_0 : decode cX3_rank 0 = .ok (.aload_n 0, 1) := by decide +kernel
theorem dX3_rank_1 : decode cX3_rank 1 = .ok (.iconst 0, 1) := by decide +kernel
theorem dX3_rank_2 : decode cX3_rank 2 = .ok (.putfield 45, 3) := by decide +kernel
theorem dX3_rank_5 : decode cX3_rank 5 = .ok (.iload_n 1, 1) := by decide +kernel
theorem dX3_rank_6 : decode cX3_rank 6 = .ok (.invokestatic 55, 3) := by decide +kernel
theorem dX3_rank_9 : decode cX3_rank 9 = .ok (.lreturn, 1) := by decide +kernel
theorem dX3_find_0 : decode cX3_find 0 = .ok (.iconst (-1), 1) := by decide +kernel
theorem dX3_find_1 : decode cX3_find 1 = .ok (.istore_n 2, 1) := by decide +kernel
theorem dX3_find_2 : decode cX3_find 2 = .ok (.iconst 0, 1) := by decide +kernel
theorem dX3_find_3 : decode cX3_find 3 = .ok (.istore_n 3, 1) := by decide +kernel
theorem dX3_find_4 : decode cX3_find 4 = .ok (.iload_n 3, 1) := by decide +kernel
theorem dX3_find_5 : decode cX3_find 5 = .ok (.aload_n 0, 1) := by decide +kernel
theorem dX3_find_6 : decode cX3_find 6 = .ok (.getfield 59, 3) := by decide +kernel
theorem dX3_find_9 : decode cX3_find 9 = .ok (.if_icmp .ge 25, 3) := by decide +kernel
theorem dX3_find_12 : decode cX3_find 12 = .ok (.aload_n 0, 1) := by decide +kernel
theorem dX3_find_13 : decode cX3_find 13 = .ok (.getfield 7, 3) := by decide +kernel
theorem dX3_find_16 : decode cX3_find 16 = .ok (.iload_n 3, 1) := by decide +kernel
theorem dX3_find_17 : decode cX3_find 17 = .ok (.iaload, 1) := by decide +kernel
theorem dX3_find_18 : decode cX3_find 18 = .ok (.iload_n 1, 1) := by decide +kernel
theorem dX3_find_19 : decode cX3_find 19 = .ok (.if_icmp .ne 7, 3) := by decide +kernel
theorem dX3_find_22 : decode cX3_find 22 = .ok (.iload_n 3, 1) := by decide +kernel
theorem dX3_find_23 : decode cX3_find 23 = .ok (.goto 4, 3) := by decide +kernel
theorem dX3_find_26 : decode cX3_find 26 = .ok (.iload_n 2, 1) := by decide +kernel
theorem dX3_find_27 : decode cX3_find 27 = .ok (.istore_n 2, 1) := by decide +kernel
theorem dX3_find_28 : decode cX3_find 28 = .ok (.iinc 3 1, 3) := by decide +kernel
theorem dX3_find_31 : decode cX3_find 31 = .ok (.goto (-27), 3) := by decide +kernel
theorem dX3_find_34 : decode cX3_find 34 = .ok (.iload_n 2, 1) := by decide +kernel
theorem dX3_find_35 : decode cX3_find 35 = .ok (.ireturn, 1) := by decide +kernel
theorem dX3_isOne_0 : decode cX3_isOne 0 = .ok (.iconst 4, 1) := by decide +kernel
theorem dX3_isOne_1 : decode cX3_isOne 1 = .ok (.iload_n 2, 1) := by decide +kernel
theorem dX3_isOne_2 : decode cX3_isOne 2 = .ok (.isub, 1) := by decide +kernel
theorem dX3_isOne_3 : decode cX3_isOne 3 = .ok (.istore_n 3, 1) := by decide +kernel
theorem dX3_isOne_4 : decode cX3_isOne 4 = .ok (.iload_n 0, 1) := by decide +kernel
theorem dX3_isOne_5 : decode cX3_isOne 5 = .ok (.iconst 0, 1) := by decide +kernel
theorem dX3_isOne_6 : decode cX3_isOne 6 = .ok (.invokestatic 62, 3) := by decide +kernel
theorem dX3_isOne_9 : decode cX3_isOne 9 = .ok (.iload_n 3, 1) := by decide +kernel
theorem dX3_isOne_10 : decode cX3_isOne 10 = .ok (.ishr, 1) := by decide +kernel
theorem dX3_isOne_11 : decode cX3_isOne 11 = .ok (.iload_n 1, 1) := by decide +kernel
theorem dX3_isOne_12 : decode cX3_isOne 12 = .ok (.iconst 0, 1) := by decide +kernel
theorem dX3_isOne_13 : decode cX3_isOne 13 = .ok (.invokestatic 62, 3) := by decide +kernel
theorem dX3_isOne_16 : decode cX3_isOne 16 = .ok (.iload_n 3, 1) := by decide +kernel
theorem dX3_isOne_17 : decode cX3_isOne 17 = .ok (.ishr, 1) := by decide +kernel
theorem dX3_isOne_18 : decode cX3_isOne 18 = .ok (.if_icmp .ne 41, 3) := by decide +kernel
theorem dX3_isOne_21 : decode cX3_isOne 21 = .ok (.iload_n 0, 1) := by decide +kernel
theorem dX3_isOne_22 : decode cX3_isOne 22 = .ok (.iconst 1, 1) := by decide +kernel
theorem dX3_isOne_23 : decode cX3_isOne 23 = .ok (.invokestatic 62, 3) := by decide +kernel
theorem dX3_isOne_26 : decode cX3_isOne 26 = .ok (.iload_n 3, 1) := by decide +kernel
theorem dX3_isOne_27 : decode cX3_isOne 27 = .ok (.ishr, 1) := by decide +kernel
theorem dX3_isOne_28 : decode cX3_isOne 28 = .ok (.iload_n 1, 1) := by decide +kernel
theorem dX3_isOne_29 : decode cX3_isOne 29 = .ok (.iconst 1, 1) := by decide +kernel
theorem dX3_isOne_30 : decode cX3_isOne 30 = .ok (.invokestatic 62, 3) := by decide +kernel
theorem dX3_isOne_33 : decode cX3_isOne 33 = .ok (.iload_n 3, 1) := by decide +kernel
theorem dX3_isOne_34 : decode cX3_isOne 34 = .ok (.ishr, 1) := by decide +kernel
theorem dX3_isOne_35 : decode cX3_isOne 35 = .ok (.if_icmp .ne 24, 3) := by decide +kernel
theorem dX3_isOne_38 : decode cX3_isOne 38 = .ok (.iload_n 0, 1) := by decide +kernel
theorem dX3_isOne_39 : decode cX3_isOne 39 = .ok (.iconst 2, 1) := by decide +kernel
theorem dX3_isOne_40 : decode cX3_isOne 40 = .ok (.invokestatic 62, 3) := by decide +kernel
theorem dX3_isOne_43 : decode cX3_isOne 43 = .ok (.iload_n 3, 1) := by decide +kernel
theorem dX3_isOne_44 : decode cX3_isOne 44 = .ok (.ishr, 1) := by decide +kernel
theorem dX3_isOne_45 : decode cX3_isOne 45 = .ok (.iload_n 1, 1) := by decide +kernel
theorem dX3_isOne_46 : decode cX3_isOne 46 = .ok (.iconst 2, 1) := by decide +kernel
theorem dX3_isOne_47 : decode cX3_isOne 47 = .ok (.invokestatic 62, 3) := by decide +kernel
theorem dX3_isOne_50 : decode cX3_isOne 50 = .ok (.iload_n 3, 1) := by decide +kernel
theorem dX3_isOne_51 : decode cX3_isOne 51 = .ok (.ishr, 1) := by decide +kernel
theorem dX3_isOne_52 : decode cX3_isOne 52 = .ok (.if_icmp .ne 7, 3) := by decide +kernel
theorem dX3_isOne_55 : decode cX3_isOne 55 = .ok (.iconst 1, 1) := by decide +kernel
theorem dX3_isOne_56 : decode cX3_isOne 56 = .ok (.goto 4, 3) := by decide +kernel
theorem dX3_isOne_59 : decode cX3_isOne 59 = .ok (.iconst 0, 1) := by decide +kernel
theorem dX3_isOne_60 : decode cX3_isOne 60 = .ok (.ireturn, 1) := by decide +kernel
theorem dX3_keeps_0 : decode cX3_keeps 0 = .ok (.iconst 0, 1) := by decide +kernel
theorem dX3_keeps_1 : decode cX3_keeps 1 = .ok (.istore_n 3, 1) := by decide +kernel
theorem dX3_keeps_2 : decode cX3_keeps 2 = .ok (.iconst 0, 1) := by decide +kernel
theorem dX3_keeps_3 : decode cX3_keeps 3 = .ok (.istore 4, 2) := by decide +kernel
theorem dX3_keeps_5 : decode cX3_keeps 5 = .ok (.iload 4, 2) := by decide +kernel
theorem dX3_keeps_7 : decode cX3_keeps 7 = .ok (.aload_n 0, 1) := by decide +kernel
theorem dX3_keeps_8 : decode cX3_keeps 8 = .ok (.getfield 59, 3) := by decide +kernel
theorem dX3_keeps_11 : decode cX3_keeps 11 = .ok (.if_icmp .ge 53, 3) := by decide +kernel
theorem dX3_keeps_14 : decode cX3_keeps 14 = .ok (.aload_n 0, 1) := by decide +kernel
theorem dX3_keeps_15 : decode cX3_keeps 15 = .ok (.getfield 34, 3) := by decide +kernel
theorem dX3_keeps_18 : decode cX3_keeps 18 = .ok (.iload 4, 2) := by decide +kernel
theorem dX3_keeps_20 : decode cX3_keeps 20 = .ok (.baload, 1) := by decide +kernel
theorem dX3_keeps_21 : decode cX3_keeps 21 = .ok (.ifCond .eq 35, 3) := by decide +kernel
theorem dX3_keeps_24 : decode cX3_keeps 24 = .ok (.aload_n 0, 1) := by decide +kernel
theorem dX3_keeps_25 : decode cX3_keeps 25 = .ok (.getfield 19, 3) := by decide +kernel
theorem dX3_keeps_28 : decode cX3_keeps 28 = .ok (.iload 4, 2) := by decide +kernel
theorem dX3_keeps_30 : decode cX3_keeps 30 = .ok (.iaload, 1) := by decide +kernel
theorem dX3_keeps_31 : decode cX3_keeps 31 = .ok (.iload_n 2, 1) := by decide +kernel
theorem dX3_keeps_32 : decode cX3_keeps 32 = .ok (.if_icmp .ne 24, 3) := by decide +kernel
theorem dX3_keeps_35 : decode cX3_keeps 35 = .ok (.aload_n 0, 1) := by decide +kernel
theorem dX3_keeps_36 : decode cX3_keeps 36 = .ok (.getfield 13, 3) := by decide +kernel
theorem dX3_keeps_39 : decode cX3_keeps 39 = .ok (.iload 4, 2) := by decide +kernel
theorem dX3_keeps_41 : decode cX3_keeps 41 = .ok (.iaload, 1) := by decide +kernel
theorem dX3_keeps_42 : decode cX3_keeps 42 = .ok (.iload_n 1, 1) := by decide +kernel
theorem dX3_keeps_43 : decode cX3_keeps 43 = .ok (.iload_n 2, 1) := by decide +kernel
theorem dX3_keeps_44 : decode cX3_keeps 44 = .ok (.invokestatic 66, 3) := by decide +kernel
theorem dX3_keeps_47 : decode cX3_keeps 47 = .ok (.ifCond .eq 9, 3) := by decide +kernel
theorem dX3_keeps_50 : decode cX3_keeps 50 = .ok (.iload_n 3, 1) := by decide +kernel
theorem dX3_keeps_51 : decode cX3_keeps 51 = .ok (.iconst 1, 1) := by decide +kernel
theorem dX3_keeps_52 : decode cX3_keeps 52 = .ok (.iadd, 1) := by decide +kernel
theorem dX3_keeps_53 : decode cX3_keeps 53 = .ok (.goto 4, 3) := by decide +kernel
theorem dX3_keeps_56 : decode cX3_keeps 56 = .ok (.iload_n 3, 1) := by decide +kernel
theorem dX3_keeps_57 : decode cX3_keeps 57 = .ok (.istore_n 3, 1) := by decide +kernel
theorem dX3_keeps_58 : decode cX3_keeps 58 = .ok (.iinc 4 1, 3) := by decide +kernel
theorem dX3_keeps_61 : decode cX3_keeps 61 = .ok (.goto (-56), 3) := by decide +kernel
theorem dX3_keeps_64 : decode cX3_keeps 64 = .ok (.iload_n 3, 1) := by decide +kernel
theorem dX3_keeps_65 : decode cX3_keeps 65 = .ok (.ireturn, 1) := by decide +kernel
theorem dX3_greatest_0 : decode cX3_greatest 0 = .ok (.iconst (-1), 1) := by decide +kernel
theorem dX3_greatest_1 : decode cX3_greatest 1 = .ok (.istore_n 1, 1) := by decide +kernel
theorem dX3_greatest_2 : decode cX3_greatest 2 = .ok (.iconst 0, 1) := by decide +kernel
theorem dX3_greatest_3 : decode cX3_greatest 3 = .ok (.istore_n 2, 1) := by decide +kernel
theorem dX3_greatest_4 : decode cX3_greatest 4 = .ok (.iload_n 2, 1) := by decide +kernel
theorem dX3_greatest_5 : decode cX3_greatest 5 = .ok (.aload_n 0, 1) := by decide +kernel
theorem dX3_greatest_6 : decode cX3_greatest 6 = .ok (.getfield 59, 3) := by decide +kernel
theorem dX3_greatest_9 : decode cX3_greatest 9 = .ok (.if_icmp .ge 50, 3) := by decide +kernel
theorem dX3_greatest_12 : decode cX3_greatest 12 = .ok (.aload_n 0, 1) := by decide +kernel
theorem dX3_greatest_13 : decode cX3_greatest 13 = .ok (.getfield 34, 3) := by decide +kernel
theorem dX3_greatest_16 : decode cX3_greatest 16 = .ok (.iload_n 2, 1) := by decide +kernel
theorem dX3_greatest_17 : decode cX3_greatest 17 = .ok (.baload, 1) := by decide +kernel
theorem dX3_greatest_18 : decode cX3_greatest 18 = .ok (.ifCond .ne 33, 3) := by decide +kernel
theorem dX3_greatest_21 : decode cX3_greatest 21 = .ok (.iload_n 1, 1) := by decide +kernel
theorem dX3_greatest_22 : decode cX3_greatest 22 = .ok (.ifCond .lt 25, 3) := by decide +kernel
theorem dX3_greatest_25 : decode cX3_greatest 25 = .ok (.aload_n 0, 1) := by decide +kernel
theorem dX3_greatest_26 : decode cX3_greatest 26 = .ok (.getfield 7, 3) := by decide +kernel
theorem dX3_greatest_29 : decode cX3_greatest 29 = .ok (.iload_n 2, 1) := by decide +kernel
theorem dX3_greatest_30 : decode cX3_greatest 30 = .ok (.iaload, 1) := by decide +kernel
theorem dX3_greatest_31 : decode cX3_greatest 31 = .ok (.invokestatic 55, 3) := by decide +kernel
theorem dX3_greatest_34 : decode cX3_greatest 34 = .ok (.aload_n 0, 1) := by decide +kernel
theorem dX3_greatest_35 : decode cX3_greatest 35 = .ok (.getfield 7, 3) := by decide +kernel
theorem dX3_greatest_38 : decode cX3_greatest 38 = .ok (.iload_n 1, 1) := by decide +kernel
theorem dX3_greatest_39 : decode cX3_greatest 39 = .ok (.iaload, 1) := by decide +kernel
theorem dX3_greatest_40 : decode cX3_greatest 40 = .ok (.invokestatic 55, 3) := by decide +kernel
theorem dX3_greatest_43 : decode cX3_greatest 43 = .ok (.lcmp, 1) := by decide +kernel
theorem dX3_greatest_44 : decode cX3_greatest 44 = .ok (.ifCond .le 7, 3) := by decide +kernel
theorem dX3_greatest_47 : decode cX3_greatest 47 = .ok (.iload_n 2, 1) := by decide +kernel
theorem dX3_greatest_48 : decode cX3_greatest 48 = .ok (.goto 4, 3) := by decide +kernel
theorem dX3_greatest_51 : decode cX3_greatest 51 = .ok (.iload_n 1, 1) := by decide +kernel
theorem dX3_greatest_52 : decode cX3_greatest 52 = .ok (.istore_n 1, 1) := by decide +kernel
theorem dX3_greatest_53 : decode cX3_greatest 53 = .ok (.iinc 2 1, 3) := by decide +kernel
theorem dX3_greatest_56 : decode cX3_greatest 56 = .ok (.goto (-52), 3) := by decide +kernel
theorem dX3_greatest_59 : decode cX3_greatest 59 = .ok (.iload_n 1, 1) := by decide +kernel
theorem dX3_greatest_60 : decode cX3_greatest 60 = .ok (.ireturn, 1) := by decide +kernel
theorem dX3_settle_0 : decode cX3_settle 0 = .ok (.iconst 0, 1) := by decide +kernel
theorem dX3_settle_1 : decode cX3_settle 1 = .ok (.istore_n 1, 1) := by decide +kernel
theorem dX3_settle_2 : decode cX3_settle 2 = .ok (.iload_n 1, 1) := by decide +kernel
theorem dX3_settle_3 : decode cX3_settle 3 = .ok (.aload_n 0, 1) := by decide +kernel
theorem dX3_settle_4 : decode cX3_settle 4 = .ok (.getfield 59, 3) := by decide +kernel
theorem dX3_settle_7 : decode cX3_settle 7 = .ok (.if_icmp .ge 16, 3) := by decide +kernel
theorem dX3_settle_10 : decode cX3_settle 10 = .ok (.aload_n 0, 1) := by decide +kernel
theorem dX3_settle_11 : decode cX3_settle 11 = .ok (.getfield 34, 3) := by decide +kernel
theorem dX3_settle_14 : decode cX3_settle 14 = .ok (.iload_n 1, 1) := by decide +kernel
theorem dX3_settle_15 : decode cX3_settle 15 = .ok (.iconst 0, 1) := by decide +kernel
theorem dX3_settle_16 : decode cX3_settle 16 = .ok (.bastore, 1) := by decide +kernel
theorem dX3_settle_17 : decode cX3_settle 17 = .ok (.iinc 1 1, 3) := by decide +kernel
theorem dX3_settle_20 : decode cX3_settle 20 = .ok (.goto (-18), 3) := by decide +kernel
theorem dX3_settle_23 : decode cX3_settle 23 = .ok (.iconst 0, 1) := by decide +kernel
theorem dX3_settle_24 : decode cX3_settle 24 = .ok (.istore_n 1, 1) := by decide +kernel
theorem dX3_settle_25 : decode cX3_settle 25 = .ok (.iload_n 1, 1) := by decide +kernel
theorem dX3_settle_26 : decode cX3_settle 26 = .ok (.aload_n 0, 1) := by decide +kernel
theorem dX3_settle_27 : decode cX3_settle 27 = .ok (.getfield 59, 3) := by decide +kernel
theorem dX3_settle_30 : decode cX3_settle 30 = .ok (.if_icmp .ge 56, 3) := by decide +kernel
theorem dX3_settle_33 : decode cX3_settle 33 = .ok (.aload_n 0, 1) := by decide +kernel
theorem dX3_settle_34 : decode cX3_settle 34 = .ok (.invokevirtual 69, 3) := by decide +kernel
theorem dX3_settle_37 : decode cX3_settle 37 = .ok (.istore_n 2, 1) := by decide +kernel
theorem dX3_settle_38 : decode cX3_settle 38 = .ok (.iconst 0, 1) := by decide +kernel
theorem dX3_settle_39 : decode cX3_settle 39 = .ok (.istore_n 3, 1) := by decide +kernel
theorem dX3_settle_40 : decode cX3_settle 40 = .ok (.iload_n 3, 1) := by decide +kernel
theorem dX3_settle_41 : decode cX3_settle 41 = .ok (.iconst 4, 1) := by decide +kernel
theorem dX3_settle_42 : decode cX3_settle 42 = .ok (.if_icmp .ge 24, 3) := by decide +kernel
theorem dX3_settle_45 : decode cX3_settle 45 = .ok (.aload_n 0, 1) := by decide +kernel
theorem dX3_settle_46 : decode cX3_settle 46 = .ok (.aload_n 0, 1) := by decide +kernel
theorem dX3_settle_47 : decode cX3_settle 47 = .ok (.getfield 13, 3) := by decide +kernel
theorem dX3_settle_50 : decode cX3_settle 50 = .ok (.iload_n 2, 1) := by decide +kernel
theorem dX3_settle_51 : decode cX3_settle 51 = .ok (.iaload, 1) := by decide +kernel
theorem dX3_settle_52 : decode cX3_settle 52 = .ok (.iload_n 3, 1) := by decide +kernel
theorem dX3_settle_53 : decode cX3_settle 53 = .ok (.invokevirtual 73, 3) := by decide +kernel
theorem dX3_settle_56 : decode cX3_settle 56 = .ok (.iconst 3, 1) := by decide +kernel
theorem dX3_settle_57 : decode cX3_settle 57 = .ok (.if_icmp .lt 9, 3) := by decide +kernel
theorem dX3_settle_60 : decode cX3_settle 60 = .ok (.iinc 3 1, 3) := by decide +kernel
theorem dX3_settle_63 : decode cX3_settle 63 = .ok (.goto (-23), 3) := by decide +kernel
theorem dX3_settle_66 : decode cX3_settle 66 = .ok (.aload_n 0, 1) := by decide +kernel
theorem dX3_settle_67 : decode cX3_settle 67 = .ok (.getfield 19, 3) := by decide +kernel
theorem dX3_settle_70 : decode cX3_settle 70 = .ok (.iload_n 2, 1) := by decide +kernel
theorem dX3_settle_71 : decode cX3_settle 71 = .ok (.iload_n 3, 1) := by decide +kernel
theorem dX3_settle_72 : decode cX3_settle 72 = .ok (.iastore, 1) := by decide +kernel
theorem dX3_settle_73 : decode cX3_settle 73 = .ok (.aload_n 0, 1) := by decide +kernel
theorem dX3_settle_74 : decode cX3_settle 74 = .ok (.getfield 34, 3) := by decide +kernel
theorem dX3_settle_77 : decode cX3_settle 77 = .ok (.iload_n 2, 1) := by decide +kernel
theorem dX3_settle_78 : decode cX3_settle 78 = .ok (.iconst 1, 1) := by decide +kernel
theorem dX3_settle_79 : decode cX3_settle 79 = .ok (.bastore, 1) := by decide +kernel
theorem dX3_settle_80 : decode cX3_settle 80 = .ok (.iinc 1 1, 3) := by decide +kernel
theorem dX3_settle_83 : decode cX3_settle 83 = .ok (.goto (-58), 3) := by decide +kernel
theorem dX3_settle_86 : decode cX3_settle 86 = .ok (.return_, 1) := by decide +kernel
theorem dX3_isFirst_0 : decode cX3_isFirst 0 = .ok (.iconst 1, 1) := by decide +kernel
theorem dX3_isFirst_1 : decode cX3_isFirst 1 = .ok (.istore_n 2, 1) := by decide +kernel
theorem dX3_isFirst_2 : decode cX3_isFirst 2 = .ok (.iconst 0, 1) := by decide +kernel
theorem dX3_isFirst_3 : decode cX3_isFirst 3 = .ok (.istore_n 3, 1) := by decide +kernel
theorem dX3_isFirst_4 : decode cX3_isFirst 4 = .ok (.iload_n 3, 1) := by decide +kernel
theorem dX3_isFirst_5 : decode cX3_isFirst 5 = .ok (.iload_n 1, 1) := by decide +kernel
theorem dX3_isFirst_6 : decode cX3_isFirst 6 = .ok (.if_icmp .ge 58, 3) := by decide +kernel
theorem dX3_isFirst_9 : decode cX3_isFirst 9 = .ok (.iload_n 2, 1) := by decide +kernel
theorem dX3_isFirst_10 : decode cX3_isFirst 10 = .ok (.ifCond .eq 46, 3) := by decide +kernel
theorem dX3_isFirst_13 : decode cX3_isFirst 13 = .ok (.aload_n 0, 1) := by decide +kernel
theorem dX3_isFirst_14 : decode cX3_isFirst 14 = .ok (.getfield 19, 3) := by decide +kernel
theorem dX3_isFirst_17 : decode cX3_isFirst 17 = .ok (.iload_n 3, 1) := by decide +kernel
theorem dX3_isFirst_18 : decode cX3_isFirst 18 = .ok (.iaload, 1) := by decide +kernel
theorem dX3_isFirst_19 : decode cX3_isFirst 19 = .ok (.aload_n 0, 1) := by decide +kernel
theorem dX3_isFirst_20 : decode cX3_isFirst 20 = .ok (.getfield 19, 3) := by decide +kernel
theorem dX3_isFirst_23 : decode cX3_isFirst 23 = .ok (.iload_n 1, 1) := by decide +kernel
theorem dX3_isFirst_24 : decode cX3_isFirst 24 = .ok (.iaload, 1) := by decide +kernel
theorem dX3_isFirst_25 : decode cX3_isFirst 25 = .ok (.if_icmp .ne 27, 3) := by decide +kernel
theorem dX3_isFirst_28 : decode cX3_isFirst 28 = .ok (.aload_n 0, 1) := by decide +kernel
theorem dX3_isFirst_29 : decode cX3_isFirst 29 = .ok (.getfield 13, 3) := by decide +kernel
theorem dX3_isFirst_32 : decode cX3_isFirst 32 = .ok (.iload_n 3, 1) := by decide +kernel
theorem dX3_isFirst_33 : decode cX3_isFirst 33 = .ok (.iaload, 1) := by decide +kernel
theorem dX3_isFirst_34 : decode cX3_isFirst 34 = .ok (.aload_n 0, 1) := by decide +kernel
theorem dX3_isFirst_35 : decode cX3_isFirst 35 = .ok (.getfield 13, 3) := by decide +kernel
theorem dX3_isFirst_38 : decode cX3_isFirst 38 = .ok (.iload_n 1, 1) := by decide +kernel
theorem dX3_isFirst_39 : decode cX3_isFirst 39 = .ok (.iaload, 1) := by decide +kernel
theorem dX3_isFirst_40 : decode cX3_isFirst 40 = .ok (.aload_n 0, 1) := by decide +kernel
theorem dX3_isFirst_41 : decode cX3_isFirst 41 = .ok (.getfield 19, 3) := by decide +kernel
theorem dX3_isFirst_44 : decode cX3_isFirst 44 = .ok (.iload_n 1, 1) := by decide +kernel
theorem dX3_isFirst_45 : decode cX3_isFirst 45 = .ok (.iaload, 1) := by decide +kernel
theorem dX3_isFirst_46 : decode cX3_isFirst 46 = .ok (.invokestatic 66, 3) := by decide +kernel
theorem dX3_isFirst_49 : decode cX3_isFirst 49 = .ok (.ifCond .ne 7, 3) := by decide +kernel
theorem dX3_isFirst_52 : decode cX3_isFirst 52 = .ok (.iconst 1, 1) := by decide +kernel
theorem dX3_isFirst_53 : decode cX3_isFirst 53 = .ok (.goto 4, 3) := by decide +kernel
theorem dX3_isFirst_56 : decode cX3_isFirst 56 = .ok (.iconst 0, 1) := by decide +kernel
theorem dX3_isFirst_57 : decode cX3_isFirst 57 = .ok (.istore_n 2, 1) := by decide +kernel
theorem dX3_isFirst_58 : decode cX3_isFirst 58 = .ok (.iinc 3 1, 3) := by decide +kernel
theorem dX3_isFirst_61 : decode cX3_isFirst 61 = .ok (.goto (-57), 3) := by decide +kernel
theorem dX3_isFirst_64 : decode cX3_isFirst 64 = .ok (.iload_n 2, 1) := by decide +kernel
theorem dX3_isFirst_65 : decode cX3_isFirst 65 = .ok (.ireturn, 1) := by decide +kernel
theorem dX3_isFirstKept_0 : decode cX3_isFirstKept 0 = .ok (.iconst 1, 1) := by decide +kernel
theorem dX3_isFirstKept_1 : decode cX3_isFirstKept 1 = .ok (.istore_n 2, 1) := by decide +kernel
theorem dX3_isFirstKept_2 : decode cX3_isFirstKept 2 = .ok (.iconst 0, 1) := by decide +kernel
theorem dX3_isFirstKept_3 : decode cX3_isFirstKept 3 = .ok (.istore_n 3, 1) := by decide +kernel
theorem dX3_isFirstKept_4 : decode cX3_isFirstKept 4 = .ok (.iload_n 3, 1) := by decide +kernel
theorem dX3_isFirstKept_5 : decode cX3_isFirstKept 5 = .ok (.iload_n 1, 1) := by decide +kernel
theorem dX3_isFirstKept_6 : decode cX3_isFirstKept 6 = .ok (.if_icmp .ge 58, 3) := by decide +kernel
theorem dX3_isFirstKept_9 : decode cX3_isFirstKept 9 = .ok (.iload_n 2, 1) := by decide +kernel
theorem dX3_isFirstKept_10 : decode cX3_isFirstKept 10 = .ok (.ifCond .eq 46, 3) := by decide +kernel
theorem dX3_isFirstKept_13 : decode cX3_isFirstKept 13 = .ok (.aload_n 0, 1) := by decide +kernel
theorem dX3_isFirstKept_14 : decode cX3_isFirstKept 14 = .ok (.getfield 31, 3) := by decide +kernel
theorem dX3_isFirstKept_17 : decode cX3_isFirstKept 17 = .ok (.iload_n 3, 1) := by decide +kernel
theorem dX3_isFirstKept_18 : decode cX3_isFirstKept 18 = .ok (.iaload, 1) := by decide +kernel
theorem dX3_isFirstKept_19 : decode cX3_isFirstKept 19 = .ok (.aload_n 0, 1) := by decide +kernel
theorem dX3_isFirstKept_20 : decode cX3_isFirstKept 20 = .ok (.getfield 31, 3) := by decide +kernel
theorem dX3_isFirstKept_23 : decode cX3_isFirstKept 23 = .ok (.iload_n 1, 1) := by decide +kernel
theorem dX3_isFirstKept_24 : decode cX3_isFirstKept 24 = .ok (.iaload, 1) := by decide +kernel
theorem dX3_isFirstKept_25 : decode cX3_isFirstKept 25 = .ok (.if_icmp .ne 27, 3) := by decide +kernel
theorem dX3_isFirstKept_28 : decode cX3_isFirstKept 28 = .ok (.aload_n 0, 1) := by decide +kernel
theorem dX3_isFirstKept_29 : decode cX3_isFirstKept 29 = .ok (.getfield 25, 3) := by decide +kernel
theorem dX3_isFirstKept_32 : decode cX3_isFirstKept 32 = .ok (.iload_n 3, 1) := by decide +kernel
theorem dX3_isFirstKept_33 : decode cX3_isFirstKept 33 = .ok (.iaload, 1) := by decide +kernel
theorem dX3_isFirstKept_34 : decode cX3_isFirstKept 34 = .ok (.aload_n 0, 1) := by decide +kernel
theorem dX3_isFirstKept_35 : decode cX3_isFirstKept 35 = .ok (.getfield 25, 3) := by decide +kernel
theorem dX3_isFirstKept_38 : decode cX3_isFirstKept 38 = .ok (.iload_n 1, 1) := by decide +kernel
theorem dX3_isFirstKept_39 : decode cX3_isFirstKept 39 = .ok (.iaload, 1) := by decide +kernel
theorem dX3_isFirstKept_40 : decode cX3_isFirstKept 40 = .ok (.aload_n 0, 1) := by decide +kernel
theorem dX3_isFirstKept_41 : decode cX3_isFirstKept 41 = .ok (.getfield 31, 3) := by decide +kernel
theorem dX3_isFirstKept_44 : decode cX3_isFirstKept 44 = .ok (.iload_n 1, 1) := by decide +kernel
theorem dX3_isFirstKept_45 : decode cX3_isFirstKept 45 = .ok (.iaload, 1) := by decide +kernel
theorem dX3_isFirstKept_46 : decode cX3_isFirstKept 46 = .ok (.invokestatic 66, 3) := by decide +kernel
theorem dX3_isFirstKept_49 : decode cX3_isFirstKept 49 = .ok (.ifCond .ne 7, 3) := by decide +kernel
theorem dX3_isFirstKept_52 : decode cX3_isFirstKept 52 = .ok (.iconst 1, 1) := by decide +kernel
theorem dX3_isFirstKept_53 : decode cX3_isFirstKept 53 = .ok (.goto 4, 3) := by decide +kernel
theorem dX3_isFirstKept_56 : decode cX3_isFirstKept 56 = .ok (.iconst 0, 1) := by decide +kernel
theorem dX3_isFirstKept_57 : decode cX3_isFirstKept 57 = .ok (.istore_n 2, 1) := by decide +kernel
theorem dX3_isFirstKept_58 : decode cX3_isFirstKept 58 = .ok (.iinc 3 1, 3) := by decide +kernel
theorem dX3_isFirstKept_61 : decode cX3_isFirstKept 61 = .ok (.goto (-57), 3) := by decide +kernel
theorem dX3_isFirstKept_64 : decode cX3_isFirstKept 64 = .ok (.iload_n 2, 1) := by decide +kernel
theorem dX3_isFirstKept_65 : decode cX3_isFirstKept 65 = .ok (.ireturn, 1) := by decide +kernel
theorem dX3_add_0 : decode cX3_add 0 = .ok (.aload_n 0, 1) := by decide +kernel
theorem dX3_add_1 : decode cX3_add 1 = .ok (.iconst 0, 1) := by decide +kernel
theorem dX3_add_2 : decode cX3_add 2 = .ok (.putfield 45, 3) := by decide +kernel
theorem dX3_add_5 : decode cX3_add 5 = .ok (.iload_n 2, 1) := by decide +kernel
theorem dX3_add_6 : decode cX3_add 6 = .ok (.iload_n 3, 1) := by decide +kernel
theorem dX3_add_7 : decode cX3_add 7 = .ok (.iload 4, 2) := by decide +kernel
theorem dX3_add_9 : decode cX3_add 9 = .ok (.invokestatic 76, 3) := by decide +kernel
theorem dX3_add_12 : decode cX3_add 12 = .ok (.ifCond .ne 9, 3) := by decide +kernel
theorem dX3_add_15 : decode cX3_add 15 = .ok (.aload_n 0, 1) := by decide +kernel
theorem dX3_add_16 : decode cX3_add 16 = .ok (.iconst 1, 1) := by decide +kernel
theorem dX3_add_17 : decode cX3_add 17 = .ok (.invokevirtual 79, 3) := by decide +kernel
theorem dX3_add_20 : decode cX3_add 20 = .ok (.ireturn, 1) := by decide +kernel
theorem dX3_add_21 : decode cX3_add 21 = .ok (.aload_n 0, 1) := by decide +kernel
theorem dX3_add_22 : decode cX3_add 22 = .ok (.iload_n 1, 1) := by decide +kernel
theorem dX3_add_23 : decode cX3_add 23 = .ok (.invokevirtual 83, 3) := by decide +kernel
theorem dX3_add_26 : decode cX3_add 26 = .ok (.ifCond .ge 12, 3) := by decide +kernel
theorem dX3_add_29 : decode cX3_add 29 = .ok (.aload_n 0, 1) := by decide +kernel
theorem dX3_add_30 : decode cX3_add 30 = .ok (.getfield 59, 3) := by decide +kernel
theorem dX3_add_33 : decode cX3_add 33 = .ok (.bipush 48, 2) := by decide +kernel
theorem dX3_add_35 : decode cX3_add 35 = .ok (.if_icmp .ne 9, 3) := by decide +kernel
theorem dX3_add_38 : decode cX3_add 38 = .ok (.aload_n 0, 1) := by decide +kernel
theorem dX3_add_39 : decode cX3_add 39 = .ok (.iconst 2, 1) := by decide +kernel
theorem dX3_add_40 : decode cX3_add 40 = .ok (.invokevirtual 79, 3) := by decide +kernel
theorem dX3_add_43 : decode cX3_add 43 = .ok (.ireturn, 1) := by decide +kernel
theorem dX3_add_44 : decode cX3_add 44 = .ok (.aload_n 0, 1) := by decide +kernel
theorem dX3_add_45 : decode cX3_add 45 = .ok (.getfield 7, 3) := by decide +kernel
theorem dX3_add_48 : decode cX3_add 48 = .ok (.aload_n 0, 1) := by decide +kernel
theorem dX3_add_49 : decode cX3_add 49 = .ok (.getfield 59, 3) := by decide +kernel
theorem dX3_add_52 : decode cX3_add 52 = .ok (.iload_n 1, 1) := by decide +kernel
theorem dX3_add_53 : decode cX3_add 53 = .ok (.iastore, 1) := by decide +kernel
theorem dX3_add_54 : decode cX3_add 54 = .ok (.aload_n 0, 1) := by decide +kernel
theorem dX3_add_55 : decode cX3_add 55 = .ok (.getfield 13, 3) := by decide +kernel
theorem dX3_add_58 : decode cX3_add 58 = .ok (.aload_n 0, 1) := by decide +kernel
theorem dX3_add_59 : decode cX3_add 59 = .ok (.getfield 59, 3) := by decide +kernel
theorem dX3_add_62 : decode cX3_add 62 = .ok (.iload_n 2, 1) := by decide +kernel
theorem dX3_add_63 : decode cX3_add 63 = .ok (.iload_n 3, 1) := by decide +kernel
theorem dX3_add_64 : decode cX3_add 64 = .ok (.iload 4, 2) := by decide +kernel
theorem dX3_add_66 : decode cX3_add 66 = .ok (.invokestatic 86, 3) := by decide +kernel
theorem dX3_add_69 : decode cX3_add 69 = .ok (.iastore, 1) := by decide +kernel
theorem dX3_add_70 : decode cX3_add 70 = .ok (.aload_n 0, 1) := by decide +kernel
theorem dX3_add_71 : decode cX3_add 71 = .ok (.getfield 16, 3) := by decide +kernel
theorem dX3_add_74 : decode cX3_add 74 = .ok (.aload_n 0, 1) := by decide +kernel
theorem dX3_add_75 : decode cX3_add 75 = .ok (.getfield 59, 3) := by decide +kernel
theorem dX3_add_78 : decode cX3_add 78 = .ok (.iload 5, 2) := by decide +kernel
theorem dX3_add_80 : decode cX3_add 80 = .ok (.iastore, 1) := by decide +kernel
theorem dX3_add_81 : decode cX3_add 81 = .ok (.aload_n 0, 1) := by decide +kernel
theorem dX3_add_82 : decode cX3_add 82 = .ok (.dup, 1) := by decide +kernel
theorem dX3_add_83 : decode cX3_add 83 = .ok (.getfield 59, 3) := by decide +kernel
theorem dX3_add_86 : decode cX3_add 86 = .ok (.iconst 1, 1) := by decide +kernel
theorem dX3_add_87 : decode cX3_add 87 = .ok (.iadd, 1) := by decide +kernel
theorem dX3_add_88 : decode cX3_add 88 = .ok (.putfield 59, 3) := by decide +kernel
theorem dX3_add_91 : decode cX3_add 91 = .ok (.aload_n 0, 1) := by decide +kernel
theorem dX3_add_92 : decode cX3_add 92 = .ok (.invokevirtual 90, 3) := by decide +kernel
theorem dX3_add_95 : decode cX3_add 95 = .ok (.aload_n 0, 1) := by decide +kernel
theorem dX3_add_96 : decode cX3_add 96 = .ok (.getfield 19, 3) := by decide +kernel
theorem dX3_add_99 : decode cX3_add 99 = .ok (.aload_n 0, 1) := by decide +kernel
theorem dX3_add_100 : decode cX3_add 100 = .ok (.getfield 59, 3) := by decide +kernel
theorem dX3_add_103 : decode cX3_add 103 = .ok (.iconst 1, 1) := by decide +kernel
theorem dX3_add_104 : decode cX3_add 104 = .ok (.isub, 1) := by decide +kernel
theorem dX3_add_105 : decode cX3_add 105 = .ok (.iaload, 1) := by decide +kernel
theorem dX3_add_106 : decode cX3_add 106 = .ok (.ireturn, 1) := by decide +kernel
theorem dX3_remove_0 : decode cX3_remove 0 = .ok (.aload_n 0, 1) := by decide +kernel
theorem dX3_remove_1 : decode cX3_remove 1 = .ok (.iconst 0, 1) := by decide +kernel
theorem dX3_remove_2 : decode cX3_remove 2 = .ok (.putfield 45, 3) := by decide +kernel
theorem dX3_remove_5 : decode cX3_remove 5 = .ok (.aload_n 0, 1) := by decide +kernel
theorem dX3_remove_6 : decode cX3_remove 6 = .ok (.iload_n 1, 1) := by decide +kernel
theorem dX3_remove_7 : decode cX3_remove 7 = .ok (.invokevirtual 83, 3) := by decide +kernel
theorem dX3_remove_10 : decode cX3_remove 10 = .ok (.istore_n 2, 1) := by decide +kernel
theorem dX3_remove_11 : decode cX3_remove 11 = .ok (.iload_n 2, 1) := by decide +kernel
theorem dX3_remove_12 : decode cX3_remove 12 = .ok (.ifCond .ge 9, 3) := by decide +kernel
theorem dX3_remove_15 : decode cX3_remove 15 = .ok (.aload_n 0, 1) := by decide +kernel
theorem dX3_remove_16 : decode cX3_remove 16 = .ok (.iconst 1, 1) := by decide +kernel
theorem dX3_remove_17 : decode cX3_remove 17 = .ok (.invokevirtual 79, 3) := by decide +kernel
theorem dX3_remove_20 : decode cX3_remove 20 = .ok (.ireturn, 1) := by decide +kernel
theorem dX3_remove_21 : decode cX3_remove 21 = .ok (.aload_n 0, 1) := by decide +kernel
theorem dX3_remove_22 : decode cX3_remove 22 = .ok (.getfield 19, 3) := by decide +kernel
theorem dX3_remove_25 : decode cX3_remove 25 = .ok (.iload_n 2, 1) := by decide +kernel
theorem dX3_remove_26 : decode cX3_remove 26 = .ok (.iaload, 1) := by decide +kernel
theorem dX3_remove_27 : decode cX3_remove 27 = .ok (.istore_n 3, 1) := by decide +kernel
theorem dX3_remove_28 : decode cX3_remove 28 = .ok (.aload_n 0, 1) := by decide +kernel
theorem dX3_remove_29 : decode cX3_remove 29 = .ok (.dup, 1) := by decide +kernel
theorem dX3_remove_30 : decode cX3_remove 30 = .ok (.getfield 59, 3) := by decide +kernel
theorem dX3_remove_33 : decode cX3_remove 33 = .ok (.iconst 1, 1) := by decide +kernel
theorem dX3_remove_34 : decode cX3_remove 34 = .ok (.isub, 1) := by decide +kernel
theorem dX3_remove_35 : decode cX3_remove 35 = .ok (.putfield 59, 3) := by decide +kernel
theorem dX3_remove_38 : decode cX3_remove 38 = .ok (.aload_n 0, 1) := by decide +kernel
theorem dX3_remove_39 : decode cX3_remove 39 = .ok (.getfield 7, 3) := by decide +kernel
theorem dX3_remove_42 : decode cX3_remove 42 = .ok (.iload_n 2, 1) := by decide +kernel
theorem dX3_remove_43 : decode cX3_remove 43 = .ok (.aload_n 0, 1) := by decide +kernel
theorem dX3_remove_44 : decode cX3_remove 44 = .ok (.getfield 7, 3) := by decide +kernel
theorem dX3_remove_47 : decode cX3_remove 47 = .ok (.aload_n 0, 1) := by decide +kernel
theorem dX3_remove_48 : decode cX3_remove 48 = .ok (.getfield 59, 3) := by decide +kernel
theorem dX3_remove_51 : decode cX3_remove 51 = .ok (.iaload, 1) := by decide +kernel
theorem dX3_remove_52 : decode cX3_remove 52 = .ok (.iastore, 1) := by decide +kernel
theorem dX3_remove_53 : decode cX3_remove 53 = .ok (.aload_n 0, 1) := by decide +kernel
theorem dX3_remove_54 : decode cX3_remove 54 = .ok (.getfield 13, 3) := by decide +kernel
theorem dX3_remove_57 : decode cX3_remove 57 = .ok (.iload_n 2, 1) := by decide +kernel
theorem dX3_remove_58 : decode cX3_remove 58 = .ok (.aload_n 0, 1) := by decide +kernel
theorem dX3_remove_59 : decode cX3_remove 59 = .ok (.getfield 13, 3) := by decide +kernel
theorem dX3_remove_62 : decode cX3_remove 62 = .ok (.aload_n 0, 1) := by decide +kernel
theorem dX3_remove_63 : decode cX3_remove 63 = .ok (.getfield 59, 3) := by decide +kernel
theorem dX3_remove_66 : decode cX3_remove 66 = .ok (.iaload, 1) := by decide +kernel
theorem dX3_remove_67 : decode cX3_remove 67 = .ok (.iastore, 1) := by decide +kernel
theorem dX3_remove_68 : decode cX3_remove 68 = .ok (.aload_n 0, 1) := by decide +kernel
theorem dX3_remove_69 : decode cX3_remove 69 = .ok (.getfield 16, 3) := by decide +kernel
theorem dX3_remove_72 : decode cX3_remove 72 = .ok (.iload_n 2, 1) := by decide +kernel
theorem dX3_remove_73 : decode cX3_remove 73 = .ok (.aload_n 0, 1) := by decide +kernel
theorem dX3_remove_74 : decode cX3_remove 74 = .ok (.getfield 16, 3) := by decide +kernel
theorem dX3_remove_77 : decode cX3_remove 77 = .ok (.aload_n 0, 1) := by decide +kernel
theorem dX3_remove_78 : decode cX3_remove 78 = .ok (.getfield 59, 3) := by decide +kernel
theorem dX3_remove_81 : decode cX3_remove 81 = .ok (.iaload, 1) := by decide +kernel
theorem dX3_remove_82 : decode cX3_remove 82 = .ok (.iastore, 1) := by decide +kernel
theorem dX3_remove_83 : decode cX3_remove 83 = .ok (.aload_n 0, 1) := by decide +kernel
theorem dX3_remove_84 : decode cX3_remove 84 = .ok (.invokevirtual 90, 3) := by decide +kernel
theorem dX3_remove_87 : decode cX3_remove 87 = .ok (.iload_n 3, 1) := by decide +kernel
theorem dX3_remove_88 : decode cX3_remove 88 = .ok (.ireturn, 1) := by decide +kernel
theorem dX3_recolour_0 : decode cX3_recolour 0 = .ok (.aload_n 0, 1) := by decide +kernel
theorem dX3_recolour_1 : decode cX3_recolour 1 = .ok (.iconst 0, 1) := by decide +kernel
theorem dX3_recolour_2 : decode cX3_recolour 2 = .ok (.putfield 45, 3) := by decide +kernel
theorem dX3_recolour_5 : decode cX3_recolour 5 = .ok (.aload_n 0, 1) := by decide +kernel
theorem dX3_recolour_6 : decode cX3_recolour 6 = .ok (.iload_n 1, 1) := by decide +kernel
theorem dX3_recolour_7 : decode cX3_recolour 7 = .ok (.invokevirtual 83, 3) := by decide +kernel
theorem dX3_recolour_10 : decode cX3_recolour 10 = .ok (.istore_n 3, 1) := by decide +kernel
theorem dX3_recolour_11 : decode cX3_recolour 11 = .ok (.iload_n 3, 1) := by decide +kernel
theorem dX3_recolour_12 : decode cX3_recolour 12 = .ok (.ifCond .ge 9, 3) := by decide +kernel
theorem dX3_recolour_15 : decode cX3_recolour 15 = .ok (.aload_n 0, 1) := by decide +kernel
theorem dX3_recolour_16 : decode cX3_recolour 16 = .ok (.iconst 1, 1) := by decide +kernel
theorem dX3_recolour_17 : decode cX3_recolour 17 = .ok (.invokevirtual 79, 3) := by decide +kernel
theorem dX3_recolour_20 : decode cX3_recolour 20 = .ok (.ireturn, 1) := by decide +kernel
theorem dX3_recolour_21 : decode cX3_recolour 21 = .ok (.aload_n 0, 1) := by decide +kernel
theorem dX3_recolour_22 : decode cX3_recolour 22 = .ok (.getfield 16, 3) := by decide +kernel
theorem dX3_recolour_25 : decode cX3_recolour 25 = .ok (.iload_n 3, 1) := by decide +kernel
theorem dX3_recolour_26 : decode cX3_recolour 26 = .ok (.iaload, 1) := by decide +kernel
theorem dX3_recolour_27 : decode cX3_recolour 27 = .ok (.istore 4, 2) := by decide +kernel
theorem dX3_recolour_29 : decode cX3_recolour 29 = .ok (.aload_n 0, 1) := by decide +kernel
theorem dX3_recolour_30 : decode cX3_recolour 30 = .ok (.getfield 16, 3) := by decide +kernel
theorem dX3_recolour_33 : decode cX3_recolour 33 = .ok (.iload_n 3, 1) := by decide +kernel
theorem dX3_recolour_34 : decode cX3_recolour 34 = .ok (.iload_n 2, 1) := by decide +kernel
theorem dX3_recolour_35 : decode cX3_recolour 35 = .ok (.iastore, 1) := by decide +kernel
theorem dX3_recolour_36 : decode cX3_recolour 36 = .ok (.iload 4, 2) := by decide +kernel
theorem dX3_recolour_38 : decode cX3_recolour 38 = .ok (.ireturn, 1) := by decide +kernel
theorem dX3_field_0 : decode cX3_field 0 = .ok (.aload_n 0, 1) := by decide +kernel
theorem dX3_field_1 : decode cX3_field 1 = .ok (.iconst 0, 1) := by decide +kernel
theorem dX3_field_2 : decode cX3_field 2 = .ok (.putfield 45, 3) := by decide +kernel
theorem dX3_field_5 : decode cX3_field 5 = .ok (.iload_n 2, 1) := by decide +kernel
theorem dX3_field_6 : decode cX3_field 6 = .ok (.iconst 0, 1) := by decide +kernel
theorem dX3_field_7 : decode cX3_field 7 = .ok (.iconst 4, 1) := by decide +kernel
theorem dX3_field_8 : decode cX3_field 8 = .ok (.invokestatic 48, 3) := by decide +kernel
theorem dX3_field_11 : decode cX3_field 11 = .ok (.ifCond .ne 9, 3) := by decide +kernel
theorem dX3_field_14 : decode cX3_field 14 = .ok (.aload_n 0, 1) := by decide +kernel
theorem dX3_field_15 : decode cX3_field 15 = .ok (.iconst 1, 1) := by decide +kernel
theorem dX3_field_16 : decode cX3_field 16 = .ok (.invokevirtual 79, 3) := by decide +kernel
theorem dX3_field_19 : decode cX3_field 19 = .ok (.ireturn, 1) := by decide +kernel
theorem dX3_field_20 : decode cX3_field 20 = .ok (.aload_n 0, 1) := by decide +kernel
theorem dX3_field_21 : decode cX3_field 21 = .ok (.iload_n 1, 1) := by decide +kernel
theorem dX3_field_22 : decode cX3_field 22 = .ok (.invokevirtual 83, 3) := by decide +kernel
theorem dX3_field_25 : decode cX3_field 25 = .ok (.istore_n 3, 1) := by decide +kernel
theorem dX3_field_26 : decode cX3_field 26 = .ok (.iload_n 3, 1) := by decide +kernel
theorem dX3_field_27 : decode cX3_field 27 = .ok (.ifCond .ge 9, 3) := by decide +kernel
theorem dX3_field_30 : decode cX3_field 30 = .ok (.aload_n 0, 1) := by decide +kernel
theorem dX3_field_31 : decode cX3_field 31 = .ok (.iconst 2, 1) := by decide +kernel
theorem dX3_field_32 : decode cX3_field 32 = .ok (.invokevirtual 79, 3) := by decide +kernel
theorem dX3_field_35 : decode cX3_field 35 = .ok (.ireturn, 1) := by decide +kernel
theorem dX3_field_36 : decode cX3_field 36 = .ok (.iload_n 2, 1) := by decide +kernel
theorem dX3_field_37 : decode cX3_field 37 = .ok (.iconst 3, 1) := by decide +kernel
theorem dX3_field_38 : decode cX3_field 38 = .ok (.if_icmp .ge 16, 3) := by decide +kernel
theorem dX3_field_41 : decode cX3_field 41 = .ok (.aload_n 0, 1) := by decide +kernel
theorem dX3_field_42 : decode cX3_field 42 = .ok (.getfield 13, 3) := by decide +kernel
theorem dX3_field_45 : decode cX3_field 45 = .ok (.iload_n 3, 1) := by decide +kernel
theorem dX3_field_46 : decode cX3_field 46 = .ok (.iaload, 1) := by decide +kernel
theorem dX3_field_47 : decode cX3_field 47 = .ok (.iload_n 2, 1) := by decide +kernel
theorem dX3_field_48 : decode cX3_field 48 = .ok (.invokestatic 62, 3) := by decide +kernel
theorem dX3_field_51 : decode cX3_field 51 = .ok (.goto 23, 3) := by decide +kernel
theorem dX3_field_54 : decode cX3_field 54 = .ok (.iload_n 2, 1) := by decide +kernel
theorem dX3_field_55 : decode cX3_field 55 = .ok (.iconst 3, 1) := by decide +kernel
theorem dX3_field_56 : decode cX3_field 56 = .ok (.if_icmp .ne 12, 3) := by decide +kernel
theorem dX3_field_59 : decode cX3_field 59 = .ok (.aload_n 0, 1) := by decide +kernel
theorem dX3_field_60 : decode cX3_field 60 = .ok (.getfield 16, 3) := by decide +kernel
theorem dX3_field_63 : decode cX3_field 63 = .ok (.iload_n 3, 1) := by decide +kernel
theorem dX3_field_64 : decode cX3_field 64 = .ok (.iaload, 1) := by decide +kernel
theorem dX3_field_65 : decode cX3_field 65 = .ok (.goto 9, 3) := by decide +kernel
theorem dX3_field_68 : decode cX3_field 68 = .ok (.aload_n 0, 1) := by decide +kernel
theorem dX3_field_69 : decode cX3_field 69 = .ok (.getfield 19, 3) := by decide +kernel
theorem dX3_field_72 : decode cX3_field 72 = .ok (.iload_n 3, 1) := by decide +kernel
theorem dX3_field_73 : decode cX3_field 73 = .ok (.iaload, 1) := by decide +kernel
theorem dX3_field_74 : decode cX3_field 74 = .ok (.ireturn, 1) := by decide +kernel
theorem dX3_corner_0 : decode cX3_corner 0 = .ok (.aload_n 0, 1) := by decide +kernel
theorem dX3_corner_1 : decode cX3_corner 1 = .ok (.iload_n 1, 1) := by decide +kernel
theorem dX3_corner_2 : decode cX3_corner 2 = .ok (.iload_n 2, 1) := by decide +kernel
theorem dX3_corner_3 : decode cX3_corner 3 = .ok (.iload_n 3, 1) := by decide +kernel
theorem dX3_corner_4 : decode cX3_corner 4 = .ok (.invokestatic 76, 3) := by decide +kernel
theorem dX3_corner_7 : decode cX3_corner 7 = .ok (.ifCond .eq 7, 3) := by decide +kernel
theorem dX3_corner_10 : decode cX3_corner 10 = .ok (.iconst 0, 1) := by decide +kernel
theorem dX3_corner_11 : decode cX3_corner 11 = .ok (.goto 4, 3) := by decide +kernel
theorem dX3_corner_14 : decode cX3_corner 14 = .ok (.iconst 1, 1) := by decide +kernel
theorem dX3_corner_15 : decode cX3_corner 15 = .ok (.putfield 45, 3) := by decide +kernel
theorem dX3_corner_18 : decode cX3_corner 18 = .ok (.aload_n 0, 1) := by decide +kernel
theorem dX3_corner_19 : decode cX3_corner 19 = .ok (.aload_n 0, 1) := by decide +kernel
theorem dX3_corner_20 : decode cX3_corner 20 = .ok (.getfield 45, 3) := by decide +kernel
theorem dX3_corner_23 : decode cX3_corner 23 = .ok (.ifCond .ne 12, 3) := by decide +kernel
theorem dX3_corner_26 : decode cX3_corner 26 = .ok (.iload_n 1, 1) := by decide +kernel
theorem dX3_corner_27 : decode cX3_corner 27 = .ok (.iload_n 2, 1) := by decide +kernel
theorem dX3_corner_28 : decode cX3_corner 28 = .ok (.iload_n 3, 1) := by decide +kernel
theorem dX3_corner_29 : decode cX3_corner 29 = .ok (.invokestatic 86, 3) := by decide +kernel
theorem dX3_corner_32 : decode cX3_corner 32 = .ok (.goto 7, 3) := by decide +kernel
theorem dX3_corner_35 : decode cX3_corner 35 = .ok (.aload_n 0, 1) := by decide +kernel
theorem dX3_corner_36 : decode cX3_corner 36 = .ok (.getfield 93, 3) := by decide +kernel
theorem dX3_corner_39 : decode cX3_corner 39 = .ok (.putfield 93, 3) := by decide +kernel
theorem dX3_corner_42 : decode cX3_corner 42 = .ok (.return_, 1) := by decide +kernel
theorem dX3_between_0 : decode cX3_between 0 = .ok (.iload_n 1, 1) := by decide +kernel
theorem dX3_between_1 : decode cX3_between 1 = .ok (.iload_n 2, 1) := by decide +kernel
theorem dX3_between_2 : decode cX3_between 2 = .ok (.if_icmp .gt 21, 3) := by decide +kernel
theorem dX3_between_5 : decode cX3_between 5 = .ok (.iload_n 0, 1) := by decide +kernel
theorem dX3_between_6 : decode cX3_between 6 = .ok (.iload_n 1, 1) := by decide +kernel
theorem dX3_between_7 : decode cX3_between 7 = .ok (.if_icmp .lt 12, 3) := by decide +kernel
theorem dX3_between_10 : decode cX3_between 10 = .ok (.iload_n 0, 1) := by decide +kernel
theorem dX3_between_11 : decode cX3_between 11 = .ok (.iload_n 2, 1) := by decide +kernel
theorem dX3_between_12 : decode cX3_between 12 = .ok (.if_icmp .gt 7, 3) := by decide +kernel
theorem dX3_between_15 : decode cX3_between 15 = .ok (.iconst 1, 1) := by decide +kernel
theorem dX3_between_16 : decode cX3_between 16 = .ok (.goto 22, 3) := by decide +kernel
theorem dX3_between_19 : decode cX3_between 19 = .ok (.iconst 0, 1) := by decide +kernel
theorem dX3_between_20 : decode cX3_between 20 = .ok (.goto 18, 3) := by decide +kernel
theorem dX3_between_23 : decode cX3_between 23 = .ok (.iload_n 0, 1) := by decide +kernel
theorem dX3_between_24 : decode cX3_between 24 = .ok (.iload_n 2, 1) := by decide +kernel
theorem dX3_between_25 : decode cX3_between 25 = .ok (.if_icmp .lt 12, 3) := by decide +kernel
theorem dX3_between_28 : decode cX3_between 28 = .ok (.iload_n 0, 1) := by decide +kernel
theorem dX3_between_29 : decode cX3_between 29 = .ok (.iload_n 1, 1) := by decide +kernel
theorem dX3_between_30 : decode cX3_between 30 = .ok (.if_icmp .gt 7, 3) := by decide +kernel
theorem dX3_between_33 : decode cX3_between 33 = .ok (.iconst 1, 1) := by decide +kernel
theorem dX3_between_34 : decode cX3_between 34 = .ok (.goto 4, 3) := by decide +kernel
theorem dX3_between_37 : decode cX3_between 37 = .ok (.iconst 0, 1) := by decide +kernel
theorem dX3_between_38 : decode cX3_between 38 = .ok (.ireturn, 1) := by decide +kernel
theorem dX3_isIn_0 : decode cX3_isIn 0 = .ok (.iconst 1, 1) := by decide +kernel
theorem dX3_isIn_1 : decode cX3_isIn 1 = .ok (.istore_n 3, 1) := by decide +kernel
theorem dX3_isIn_2 : decode cX3_isIn 2 = .ok (.iconst 0, 1) := by decide +kernel
theorem dX3_isIn_3 : decode cX3_isIn 3 = .ok (.istore 4, 2) := by decide +kernel
theorem dX3_isIn_5 : decode cX3_isIn 5 = .ok (.iload 4, 2) := by decide +kernel
theorem dX3_isIn_7 : decode cX3_isIn 7 = .ok (.iconst 3, 1) := by decide +kernel
theorem dX3_isIn_8 : decode cX3_isIn 8 = .ok (.if_icmp .ge 51, 3) := by decide +kernel
theorem dX3_isIn_11 : decode cX3_isIn 11 = .ok (.iload_n 3, 1) := by decide +kernel
theorem dX3_isIn_12 : decode cX3_isIn 12 = .ok (.ifCond .eq 39, 3) := by decide +kernel
theorem dX3_isIn_15 : decode cX3_isIn 15 = .ok (.aload_n 0, 1) := by decide +kernel
theorem dX3_isIn_16 : decode cX3_isIn 16 = .ok (.getfield 13, 3) := by decide +kernel
theorem dX3_isIn_19 : decode cX3_isIn 19 = .ok (.iload_n 1, 1) := by decide +kernel
theorem dX3_isIn_20 : decode cX3_isIn 20 = .ok (.iaload, 1) := by decide +kernel
theorem dX3_isIn_21 : decode cX3_isIn 21 = .ok (.iload 4, 2) := by decide +kernel
theorem dX3_isIn_23 : decode cX3_isIn 23 = .ok (.invokestatic 62, 3) := by decide +kernel
theorem dX3_isIn_26 : decode cX3_isIn 26 = .ok (.aload_n 0, 1) := by decide +kernel
theorem dX3_isIn_27 : decode cX3_isIn 27 = .ok (.getfield 93, 3) := by decide +kernel
theorem dX3_isIn_30 : decode cX3_isIn 30 = .ok (.iload 4, 2) := by decide +kernel
theorem dX3_isIn_32 : decode cX3_isIn 32 = .ok (.invokestatic 62, 3) := by decide +kernel
theorem dX3_isIn_35 : decode cX3_isIn 35 = .ok (.iload_n 2, 1) := by decide +kernel
theorem dX3_isIn_36 : decode cX3_isIn 36 = .ok (.iload 4, 2) := by decide +kernel
theorem dX3_isIn_38 : decode cX3_isIn 38 = .ok (.invokestatic 62, 3) := by decide +kernel
theorem dX3_isIn_41 : decode cX3_isIn 41 = .ok (.invokestatic 96, 3) := by decide +kernel
theorem dX3_isIn_44 : decode cX3_isIn 44 = .ok (.ifCond .eq 7, 3) := by decide +kernel
theorem dX3_isIn_47 : decode cX3_isIn 47 = .ok (.iconst 1, 1) := by decide +kernel
theorem dX3_isIn_48 : decode cX3_isIn 48 = .ok (.goto 4, 3) := by decide +kernel
theorem dX3_isIn_51 : decode cX3_isIn 51 = .ok (.iconst 0, 1) := by decide +kernel
theorem dX3_isIn_52 : decode cX3_isIn 52 = .ok (.istore_n 3, 1) := by decide +kernel
theorem dX3_isIn_53 : decode cX3_isIn 53 = .ok (.iinc 4 1, 3) := by decide +kernel
theorem dX3_isIn_56 : decode cX3_isIn 56 = .ok (.goto (-51), 3) := by decide +kernel
theorem dX3_isIn_59 : decode cX3_isIn 59 = .ok (.iload_n 3, 1) := by decide +kernel
theorem dX3_isIn_60 : decode cX3_isIn 60 = .ok (.ireturn, 1) := by decide +kernel
theorem dX3_box_0 : decode cX3_box 0 = .ok (.aload_n 0, 1) := by decide +kernel
theorem dX3_box_1 : decode cX3_box 1 = .ok (.iconst 0, 1) := by decide +kernel
theorem dX3_box_2 : decode cX3_box 2 = .ok (.putfield 45, 3) := by decide +kernel
theorem dX3_box_5 : decode cX3_box 5 = .ok (.iload_n 1, 1) := by decide +kernel
theorem dX3_box_6 : decode cX3_box 6 = .ok (.iload_n 2, 1) := by decide +kernel
theorem dX3_box_7 : decode cX3_box 7 = .ok (.iload_n 3, 1) := by decide +kernel
theorem dX3_box_8 : decode cX3_box 8 = .ok (.invokestatic 76, 3) := by decide +kernel
theorem dX3_box_11 : decode cX3_box 11 = .ok (.ifCond .eq 13, 3) := by decide +kernel
theorem dX3_box_14 : decode cX3_box 14 = .ok (.iload 4, 2) := by decide +kernel
theorem dX3_box_16 : decode cX3_box 16 = .ok (.iconst 0, 1) := by decide +kernel
theorem dX3_box_17 : decode cX3_box 17 = .ok (.iconst 4, 1) := by decide +kernel
theorem dX3_box_18 : decode cX3_box 18 = .ok (.invokestatic 48, 3) := by decide +kernel
theorem dX3_box_21 : decode cX3_box 21 = .ok (.ifCond .ne 9, 3) := by decide +kernel
theorem dX3_box_24 : decode cX3_box 24 = .ok (.aload_n 0, 1) := by decide +kernel
theorem dX3_box_25 : decode cX3_box 25 = .ok (.iconst 1, 1) := by decide +kernel
theorem dX3_box_26 : decode cX3_box 26 = .ok (.invokevirtual 79, 3) := by decide +kernel
theorem dX3_box_29 : decode cX3_box 29 = .ok (.ireturn, 1) := by decide +kernel
theorem dX3_box_30 : decode cX3_box 30 = .ok (.aload_n 0, 1) := by decide +kernel
theorem dX3_box_31 : decode cX3_box 31 = .ok (.iconst 0, 1) := by decide +kernel
theorem dX3_box_32 : decode cX3_box 32 = .ok (.putfield 99, 3) := by decide +kernel
theorem dX3_box_35 : decode cX3_box 35 = .ok (.iconst 0, 1) := by decide +kernel
theorem dX3_box_36 : decode cX3_box 36 = .ok (.istore 5, 2) := by decide +kernel
theorem dX3_box_38 : decode cX3_box 38 = .ok (.iload 5, 2) := by decide +kernel
theorem dX3_box_40 : decode cX3_box 40 = .ok (.aload_n 0, 1) := by decide +kernel
theorem dX3_box_41 : decode cX3_box 41 = .ok (.getfield 59, 3) := by decide +kernel
theorem dX3_box_44 : decode cX3_box 44 = .ok (.if_icmp .ge 112, 3) := by decide +kernel
theorem dX3_box_47 : decode cX3_box 47 = .ok (.aload_n 0, 1) := by decide +kernel
theorem dX3_box_48 : decode cX3_box 48 = .ok (.iload 5, 2) := by decide +kernel
theorem dX3_box_50 : decode cX3_box 50 = .ok (.iload_n 1, 1) := by decide +kernel
theorem dX3_box_51 : decode cX3_box 51 = .ok (.iload_n 2, 1) := by decide +kernel
theorem dX3_box_52 : decode cX3_box 52 = .ok (.iload_n 3, 1) := by decide +kernel
theorem dX3_box_53 : decode cX3_box 53 = .ok (.invokestatic 86, 3) := by decide +kernel
theorem dX3_box_56 : decode cX3_box 56 = .ok (.invokevirtual 102, 3) := by decide +kernel
theorem dX3_box_59 : decode cX3_box 59 = .ok (.ifCond .eq 91, 3) := by decide +kernel
theorem dX3_box_62 : decode cX3_box 62 = .ok (.aload_n 0, 1) := by decide +kernel
theorem dX3_box_63 : decode cX3_box 63 = .ok (.getfield 19, 3) := by decide +kernel
theorem dX3_box_66 : decode cX3_box 66 = .ok (.iload 5, 2) := by decide +kernel
theorem dX3_box_68 : decode cX3_box 68 = .ok (.iaload, 1) := by decide +kernel
theorem dX3_box_69 : decode cX3_box 69 = .ok (.iload 4, 2) := by decide +kernel
theorem dX3_box_71 : decode cX3_box 71 = .ok (.if_icmp .gt 79, 3) := by decide +kernel
theorem dX3_box_74 : decode cX3_box 74 = .ok (.aload_n 0, 1) := by decide +kernel
theorem dX3_box_75 : decode cX3_box 75 = .ok (.getfield 99, 3) := by decide +kernel
theorem dX3_box_78 : decode cX3_box 78 = .ok (.istore 6, 2) := by decide +kernel
theorem dX3_box_80 : decode cX3_box 80 = .ok (.iload 6, 2) := by decide +kernel
theorem dX3_box_82 : decode cX3_box 82 = .ok (.ifCond .le 44, 3) := by decide +kernel
theorem dX3_box_85 : decode cX3_box 85 = .ok (.aload_n 0, 1) := by decide +kernel
theorem dX3_box_86 : decode cX3_box 86 = .ok (.getfield 38, 3) := by decide +kernel
theorem dX3_box_89 : decode cX3_box 89 = .ok (.iload 6, 2) := by decide +kernel
theorem dX3_box_91 : decode cX3_box 91 = .ok (.iconst 1, 1) := by decide +kernel
theorem dX3_box_92 : decode cX3_box 92 = .ok (.isub, 1) := by decide +kernel
theorem dX3_box_93 : decode cX3_box 93 = .ok (.iaload, 1) := by decide +kernel
theorem dX3_box_94 : decode cX3_box 94 = .ok (.aload_n 0, 1) := by decide +kernel
theorem dX3_box_95 : decode cX3_box 95 = .ok (.getfield 7, 3) := by decide +kernel
theorem dX3_box_98 : decode cX3_box 98 = .ok (.iload 5, 2) := by decide +kernel
theorem dX3_box_100 : decode cX3_box 100 = .ok (.iaload, 1) := by decide +kernel
theorem dX3_box_101 : decode cX3_box 101 = .ok (.if_icmp .le 25, 3) := by decide +kernel
theorem dX3_box_104 : decode cX3_box 104 = .ok (.aload_n 0, 1) := by decide +kernel
theorem dX3_box_105 : decode cX3_box 105 = .ok (.getfield 38, 3) := by decide +kernel
theorem dX3_box_108 : decode cX3_box 108 = .ok (.iload 6, 2) := by decide +kernel
theorem dX3_box_110 : decode cX3_box 110 = .ok (.aload_n 0, 1) := by decide +kernel
theorem dX3_box_111 : decode cX3_box 111 = .ok (.getfield 38, 3) := by decide +kernel
theorem dX3_box_114 : decode cX3_box 114 = .ok (.iload 6, 2) := by decide +kernel
theorem dX3_box_116 : decode cX3_box 116 = .ok (.iconst 1, 1) := by decide +kernel
theorem dX3_box_117 : decode cX3_box 117 = .ok (.isub, 1) := by decide +kernel
theorem dX3_box_118 : decode cX3_box 118 = .ok (.iaload, 1) := by decide +kernel
theorem dX3_box_119 : decode cX3_box 119 = .ok (.iastore, 1) := by decide +kernel
theorem dX3_box_120 : decode cX3_box 120 = .ok (.iinc 6 (-1), 3) := by decide +kernel
theorem dX3_box_123 : decode cX3_box 123 = .ok (.goto (-43), 3) := by decide +kernel
theorem dX3_box_126 : decode cX3_box 126 = .ok (.aload_n 0, 1) := by decide +kernel
theorem dX3_box_127 : decode cX3_box 127 = .ok (.getfield 38, 3) := by decide +kernel
theorem dX3_box_130 : decode cX3_box 130 = .ok (.iload 6, 2) := by decide +kernel
theorem dX3_box_132 : decode cX3_box 132 = .ok (.aload_n 0, 1) := by decide +kernel
theorem dX3_box_133 : decode cX3_box 133 = .ok (.getfield 7, 3) := by decide +kernel
theorem dX3_box_136 : decode cX3_box 136 = .ok (.iload 5, 2) := by decide +kernel
theorem dX3_box_138 : decode cX3_box 138 = .ok (.iaload, 1) := by decide +kernel
theorem dX3_box_139 : decode cX3_box 139 = .ok (.iastore, 1) := by decide +kernel
theorem dX3_box_140 : decode cX3_box 140 = .ok (.aload_n 0, 1) := by decide +kernel
theorem dX3_box_141 : decode cX3_box 141 = .ok (.dup, 1) := by decide +kernel
theorem dX3_box_142 : decode cX3_box 142 = .ok (.getfield 99, 3) := by decide +kernel
theorem dX3_box_145 : decode cX3_box 145 = .ok (.iconst 1, 1) := by decide +kernel
theorem dX3_box_146 : decode cX3_box 146 = .ok (.iadd, 1) := by decide +kernel
theorem dX3_box_147 : decode cX3_box 147 = .ok (.putfield 99, 3) := by decide +kernel
theorem dX3_box_150 : decode cX3_box 150 = .ok (.iinc 5 1, 3) := by decide +kernel
theorem dX3_box_153 : decode cX3_box 153 = .ok (.goto (-115), 3) := by decide +kernel
theorem dX3_box_156 : decode cX3_box 156 = .ok (.aload_n 0, 1) := by decide +kernel
theorem dX3_box_157 : decode cX3_box 157 = .ok (.getfield 99, 3) := by decide +kernel
theorem dX3_box_160 : decode cX3_box 160 = .ok (.ireturn, 1) := by decide +kernel
theorem dX3_next_0 : decode cX3_next 0 = .ok (.aload_n 0, 1) := by decide +kernel
theorem dX3_next_1 : decode cX3_next 1 = .ok (.iconst 0, 1) := by decide +kernel
theorem dX3_next_2 : decode cX3_next 2 = .ok (.putfield 45, 3) := by decide +kernel
theorem dX3_next_5 : decode cX3_next 5 = .ok (.aload_n 0, 1) := by decide +kernel
theorem dX3_next_6 : decode cX3_next 6 = .ok (.getfield 99, 3) := by decide +kernel
theorem dX3_next_9 : decode cX3_next 9 = .ok (.ifCond .ne 9, 3) := by decide +kernel
theorem dX3_next_12 : decode cX3_next 12 = .ok (.aload_n 0, 1) := by decide +kernel
theorem dX3_next_13 : decode cX3_next 13 = .ok (.iconst 1, 1) := by decide +kernel
theorem dX3_next_14 : decode cX3_next 14 = .ok (.invokevirtual 79, 3) := by decide +kernel
theorem dX3_next_17 : decode cX3_next 17 = .ok (.ireturn, 1) := by decide +kernel
theorem dX3_next_18 : decode cX3_next 18 = .ok (.aload_n 0, 1) := by decide +kernel
theorem dX3_next_19 : decode cX3_next 19 = .ok (.getfield 38, 3) := by decide +kernel
theorem dX3_next_22 : decode cX3_next 22 = .ok (.iconst 0, 1) := by decide +kernel
theorem dX3_next_23 : decode cX3_next 23 = .ok (.iaload, 1) := by decide +kernel
theorem dX3_next_24 : decode cX3_next 24 = .ok (.istore_n 1, 1) := by decide +kernel
theorem dX3_next_25 : decode cX3_next 25 = .ok (.aload_n 0, 1) := by decide +kernel
theorem dX3_next_26 : decode cX3_next 26 = .ok (.dup, 1) := by decide +kernel
theorem dX3_next_27 : decode cX3_next 27 = .ok (.getfield 99, 3) := by decide +kernel
theorem dX3_next_30 : decode cX3_next 30 = .ok (.iconst 1, 1) := by decide +kernel
theorem dX3_next_31 : decode cX3_next 31 = .ok (.isub, 1) := by decide +kernel
theorem dX3_next_32 : decode cX3_next 32 = .ok (.putfield 99, 3) := by decide +kernel
theorem dX3_next_35 : decode cX3_next 35 = .ok (.iconst 0, 1) := by decide +kernel
theorem dX3_next_36 : decode cX3_next 36 = .ok (.istore_n 2, 1) := by decide +kernel
theorem dX3_next_37 : decode cX3_next 37 = .ok (.iload_n 2, 1) := by decide +kernel
theorem dX3_next_38 : decode cX3_next 38 = .ok (.aload_n 0, 1) := by decide +kernel
theorem dX3_next_39 : decode cX3_next 39 = .ok (.getfield 99, 3) := by decide +kernel
theorem dX3_next_42 : decode cX3_next 42 = .ok (.if_icmp .ge 23, 3) := by decide +kernel
theorem dX3_next_45 : decode cX3_next 45 = .ok (.aload_n 0, 1) := by decide +kernel
theorem dX3_next_46 : decode cX3_next 46 = .ok (.getfield 38, 3) := by decide +kernel
theorem dX3_next_49 : decode cX3_next 49 = .ok (.iload_n 2, 1) := by decide +kernel
theorem dX3_next_50 : decode cX3_next 50 = .ok (.aload_n 0, 1) := by decide +kernel
theorem dX3_next_51 : decode cX3_next 51 = .ok (.getfield 38, 3) := by decide +kernel
theorem dX3_next_54 : decode cX3_next 54 = .ok (.iload_n 2, 1) := by decide +kernel
theorem dX3_next_55 : decode cX3_next 55 = .ok (.iconst 1, 1) := by decide +kernel
theorem dX3_next_56 : decode cX3_next 56 = .ok (.iadd, 1) := by decide +kernel
theorem dX3_next_57 : decode cX3_next 57 = .ok (.iaload, 1) := by decide +kernel
theorem dX3_next_58 : decode cX3_next 58 = .ok (.iastore, 1) := by decide +kernel
theorem dX3_next_59 : decode cX3_next 59 = .ok (.iinc 2 1, 3) := by decide +kernel
theorem dX3_next_62 : decode cX3_next 62 = .ok (.goto (-25), 3) := by decide +kernel
theorem dX3_next_65 : decode cX3_next 65 = .ok (.iload_n 1, 1) := by decide +kernel
theorem dX3_next_66 : decode cX3_next 66 = .ok (.ireturn, 1) := by decide +kernel
theorem dX3_count_0 : decode cX3_count 0 = .ok (.aload_n 0, 1) := by decide +kernel
theorem dX3_count_1 : decode cX3_count 1 = .ok (.iconst 0, 1) := by decide +kernel
theorem dX3_count_2 : decode cX3_count 2 = .ok (.putfield 45, 3) := by decide +kernel
theorem dX3_count_5 : decode cX3_count 5 = .ok (.iload_n 1, 1) := by decide +kernel
theorem dX3_count_6 : decode cX3_count 6 = .ok (.iload_n 2, 1) := by decide +kernel
theorem dX3_count_7 : decode cX3_count 7 = .ok (.iload_n 3, 1) := by decide +kernel
theorem dX3_count_8 : decode cX3_count 8 = .ok (.invokestatic 76, 3) := by decide +kernel
theorem dX3_count_11 : decode cX3_count 11 = .ok (.ifCond .ne 9, 3) := by decide +kernel
theorem dX3_count_14 : decode cX3_count 14 = .ok (.aload_n 0, 1) := by decide +kernel
theorem dX3_count_15 : decode cX3_count 15 = .ok (.iconst 1, 1) := by decide +kernel
theorem dX3_count_16 : decode cX3_count 16 = .ok (.invokevirtual 79, 3) := by decide +kernel
theorem dX3_count_19 : decode cX3_count 19 = .ok (.ireturn, 1) := by decide +kernel
theorem dX3_count_20 : decode cX3_count 20 = .ok (.iconst 0, 1) := by decide +kernel
theorem dX3_count_21 : decode cX3_count 21 = .ok (.istore 4, 2) := by decide +kernel
theorem dX3_count_23 : decode cX3_count 23 = .ok (.iconst 0, 1) := by decide +kernel
theorem dX3_count_24 : decode cX3_count 24 = .ok (.istore 5, 2) := by decide +kernel
theorem dX3_count_26 : decode cX3_count 26 = .ok (.iload 5, 2) := by decide +kernel
theorem dX3_count_28 : decode cX3_count 28 = .ok (.aload_n 0, 1) := by decide +kernel
theorem dX3_count_29 : decode cX3_count 29 = .ok (.getfield 59, 3) := by decide +kernel
theorem dX3_count_32 : decode cX3_count 32 = .ok (.if_icmp .ge 35, 3) := by decide +kernel
theorem dX3_count_35 : decode cX3_count 35 = .ok (.aload_n 0, 1) := by decide +kernel
theorem dX3_count_36 : decode cX3_count 36 = .ok (.iload 5, 2) := by decide +kernel
theorem dX3_count_38 : decode cX3_count 38 = .ok (.iload_n 1, 1) := by decide +kernel
theorem dX3_count_39 : decode cX3_count 39 = .ok (.iload_n 2, 1) := by decide +kernel
theorem dX3_count_40 : decode cX3_count 40 = .ok (.iload_n 3, 1) := by decide +kernel
theorem dX3_count_41 : decode cX3_count 41 = .ok (.invokestatic 86, 3) := by decide +kernel
theorem dX3_count_44 : decode cX3_count 44 = .ok (.invokevirtual 102, 3) := by decide +kernel
theorem dX3_count_47 : decode cX3_count 47 = .ok (.ifCond .eq 10, 3) := by decide +kernel
theorem dX3_count_50 : decode cX3_count 50 = .ok (.iload 4, 2) := by decide +kernel
theorem dX3_count_52 : decode cX3_count 52 = .ok (.iconst 1, 1) := by decide +kernel
theorem dX3_count_53 : decode cX3_count 53 = .ok (.iadd, 1) := by decide +kernel
theorem dX3_count_54 : decode cX3_count 54 = .ok (.goto 5, 3) := by decide +kernel
theorem dX3_count_57 : decode cX3_count 57 = .ok (.iload 4, 2) := by decide +kernel
theorem dX3_count_59 : decode cX3_count 59 = .ok (.istore 4, 2) := by decide +kernel
theorem dX3_count_61 : decode cX3_count 61 = .ok (.iinc 5 1, 3) := by decide +kernel
theorem dX3_count_64 : decode cX3_count 64 = .ok (.goto (-38), 3) := by decide +kernel
theorem dX3_count_67 : decode cX3_count 67 = .ok (.iload 4, 2) := by decide +kernel
theorem dX3_count_69 : decode cX3_count 69 = .ok (.ireturn, 1) := by decide +kernel
theorem dX3_distance_0 : decode cX3_distance 0 = .ok (.iconst 0, 1) := by decide +kernel
theorem dX3_distance_1 : decode cX3_distance 1 = .ok (.istore_n 2, 1) := by decide +kernel
theorem dX3_distance_2 : decode cX3_distance 2 = .ok (.iconst 0, 1) := by decide +kernel
theorem dX3_distance_3 : decode cX3_distance 3 = .ok (.istore_n 3, 1) := by decide +kernel
theorem dX3_distance_4 : decode cX3_distance 4 = .ok (.iload_n 3, 1) := by decide +kernel
theorem dX3_distance_5 : decode cX3_distance 5 = .ok (.iconst 3, 1) := by decide +kernel
theorem dX3_distance_6 : decode cX3_distance 6 = .ok (.if_icmp .ge 30, 3) := by decide +kernel
theorem dX3_distance_9 : decode cX3_distance 9 = .ok (.iload_n 0, 1) := by decide +kernel
theorem dX3_distance_10 : decode cX3_distance 10 = .ok (.iload_n 3, 1) := by decide +kernel
theorem dX3_distance_11 : decode cX3_distance 11 = .ok (.invokestatic 62, 3) := by decide +kernel
theorem dX3_distance_14 : decode cX3_distance 14 = .ok (.iload_n 1, 1) := by decide +kernel
theorem dX3_distance_15 : decode cX3_distance 15 = .ok (.iload_n 3, 1) := by decide +kernel
theorem dX3_distance_16 : decode cX3_distance 16 = .ok (.invokestatic 62, 3) := by decide +kernel
theorem dX3_distance_19 : decode cX3_distance 19 = .ok (.isub, 1) := by decide +kernel
theorem dX3_distance_20 : decode cX3_distance 20 = .ok (.istore 4, 2) := by decide +kernel
theorem dX3_distance_22 : decode cX3_distance 22 = .ok (.iload_n 2, 1) := by decide +kernel
theorem dX3_distance_23 : decode cX3_distance 23 = .ok (.iload 4, 2) := by decide +kernel
theorem dX3_distance_25 : decode cX3_distance 25 = .ok (.iload 4, 2) := by decide +kernel
theorem dX3_distance_27 : decode cX3_distance 27 = .ok (.imul, 1) := by decide +kernel
theorem dX3_distance_28 : decode cX3_distance 28 = .ok (.iadd, 1) := by decide +kernel
theorem dX3_distance_29 : decode cX3_distance 29 = .ok (.istore_n 2, 1) := by decide +kernel
theorem dX3_distance_30 : decode cX3_distance 30 = .ok (.iinc 3 1, 3) := by decide +kernel
theorem dX3_distance_33 : decode cX3_distance 33 = .ok (.goto (-29), 3) := by decide +kernel
theorem dX3_distance_36 : decode cX3_distance 36 = .ok (.iload_n 2, 1) := by decide +kernel
theorem dX3_distance_37 : decode cX3_distance 37 = .ok (.ireturn, 1) := by decide +kernel
theorem dX3_nearest_0 : decode cX3_nearest 0 = .ok (.aload_n 0, 1) := by decide +kernel
theorem dX3_nearest_1 : decode cX3_nearest 1 = .ok (.iconst 0, 1) := by decide +kernel
theorem dX3_nearest_2 : decode cX3_nearest 2 = .ok (.putfield 45, 3) := by decide +kernel
theorem dX3_nearest_5 : decode cX3_nearest 5 = .ok (.iload_n 1, 1) := by decide +kernel
theorem dX3_nearest_6 : decode cX3_nearest 6 = .ok (.iload_n 2, 1) := by decide +kernel
theorem dX3_nearest_7 : decode cX3_nearest 7 = .ok (.iload_n 3, 1) := by decide +kernel
theorem dX3_nearest_8 : decode cX3_nearest 8 = .ok (.invokestatic 76, 3) := by decide +kernel
theorem dX3_nearest_11 : decode cX3_nearest 11 = .ok (.ifCond .eq 9, 3) := by decide +kernel
theorem dX3_nearest_14 : decode cX3_nearest 14 = .ok (.iload 4, 2) := by decide +kernel
theorem dX3_nearest_16 : decode cX3_nearest 16 = .ok (.iconst 1, 1) := by decide +kernel
theorem dX3_nearest_17 : decode cX3_nearest 17 = .ok (.if_icmp .ge 9, 3) := by decide +kernel
theorem dX3_nearest_20 : decode cX3_nearest 20 = .ok (.aload_n 0, 1) := by decide +kernel
theorem dX3_nearest_21 : decode cX3_nearest 21 = .ok (.iconst 1, 1) := by decide +kernel
theorem dX3_nearest_22 : decode cX3_nearest 22 = .ok (.invokevirtual 79, 3) := by decide +kernel
theorem dX3_nearest_25 : decode cX3_nearest 25 = .ok (.ireturn, 1) := by decide +kernel
theorem dX3_nearest_26 : decode cX3_nearest 26 = .ok (.iload 4, 2) := by decide +kernel
theorem dX3_nearest_28 : decode cX3_nearest 28 = .ok (.aload_n 0, 1) := by decide +kernel
theorem dX3_nearest_29 : decode cX3_nearest 29 = .ok (.getfield 59, 3) := by decide +kernel
theorem dX3_nearest_32 : decode cX3_nearest 32 = .ok (.if_icmp .le 9, 3) := by decide +kernel
theorem dX3_nearest_35 : decode cX3_nearest 35 = .ok (.aload_n 0, 1) := by decide +kernel
theorem dX3_nearest_36 : decode cX3_nearest 36 = .ok (.iconst 2, 1) := by decide +kernel
theorem dX3_nearest_37 : decode cX3_nearest 37 = .ok (.invokevirtual 79, 3) := by decide +kernel
theorem dX3_nearest_40 : decode cX3_nearest 40 = .ok (.ireturn, 1) := by decide +kernel
theorem dX3_nearest_41 : decode cX3_nearest 41 = .ok (.iload_n 1, 1) := by decide +kernel
theorem dX3_nearest_42 : decode cX3_nearest 42 = .ok (.iload_n 2, 1) := by decide +kernel
theorem dX3_nearest_43 : decode cX3_nearest 43 = .ok (.iload_n 3, 1) := by decide +kernel
theorem dX3_nearest_44 : decode cX3_nearest 44 = .ok (.invokestatic 86, 3) := by decide +kernel
theorem dX3_nearest_47 : decode cX3_nearest 47 = .ok (.istore 5, 2) := by decide +kernel
theorem dX3_nearest_49 : decode cX3_nearest 49 = .ok (.iconst 0, 1) := by decide +kernel
theorem dX3_nearest_50 : decode cX3_nearest 50 = .ok (.istore 6, 2) := by decide +kernel
theorem dX3_nearest_52 : decode cX3_nearest 52 = .ok (.iconst 0, 1) := by decide +kernel
theorem dX3_nearest_53 : decode cX3_nearest 53 = .ok (.istore 7, 2) := by decide +kernel
theorem dX3_nearest_55 : decode cX3_nearest 55 = .ok (.iload 7, 2) := by decide +kernel
theorem dX3_nearest_57 : decode cX3_nearest 57 = .ok (.aload_n 0, 1) := by decide +kernel
theorem dX3_nearest_58 : decode cX3_nearest 58 = .ok (.getfield 59, 3) := by decide +kernel
theorem dX3_nearest_61 : decode cX3_nearest 61 = .ok (.if_icmp .ge 118, 3) := by decide +kernel
theorem dX3_nearest_64 : decode cX3_nearest 64 = .ok (.iconst 0, 1) := by decide +kernel
theorem dX3_nearest_65 : decode cX3_nearest 65 = .ok (.istore 8, 2) := by decide +kernel
theorem dX3_nearest_67 : decode cX3_nearest 67 = .ok (.iconst 0, 1) := by decide +kernel
theorem dX3_nearest_68 : decode cX3_nearest 68 = .ok (.istore 9, 2) := by decide +kernel
theorem dX3_nearest_70 : decode cX3_nearest 70 = .ok (.iload 9, 2) := by decide +kernel
theorem dX3_nearest_72 : decode cX3_nearest 72 = .ok (.aload_n 0, 1) := by decide +kernel
theorem dX3_nearest_73 : decode cX3_nearest 73 = .ok (.getfield 59, 3) := by decide +kernel
theorem dX3_nearest_76 : decode cX3_nearest 76 = .ok (.if_icmp .ge 74, 3) := by decide +kernel
theorem dX3_nearest_79 : decode cX3_nearest 79 = .ok (.aload_n 0, 1) := by decide +kernel
theorem dX3_nearest_80 : decode cX3_nearest 80 = .ok (.getfield 13, 3) := by decide +kernel
theorem dX3_nearest_83 : decode cX3_nearest 83 = .ok (.iload 9, 2) := by decide +kernel
theorem dX3_nearest_85 : decode cX3_nearest 85 = .ok (.iaload, 1) := by decide +kernel
theorem dX3_nearest_86 : decode cX3_nearest 86 = .ok (.iload 5, 2) := by decide +kernel
theorem dX3_nearest_88 : decode cX3_nearest 88 = .ok (.invokestatic 106, 3) := by decide +kernel
theorem dX3_nearest_91 : decode cX3_nearest 91 = .ok (.aload_n 0, 1) := by decide +kernel
theorem dX3_nearest_92 : decode cX3_nearest 92 = .ok (.getfield 13, 3) := by decide +kernel
theorem dX3_nearest_95 : decode cX3_nearest 95 = .ok (.iload 7, 2) := by decide +kernel
theorem dX3_nearest_97 : decode cX3_nearest 97 = .ok (.iaload, 1) := by decide +kernel
theorem dX3_nearest_98 : decode cX3_nearest 98 = .ok (.iload 5, 2) := by decide +kernel
theorem dX3_nearest_100 : decode cX3_nearest 100 = .ok (.invokestatic 106, 3) := by decide +kernel
theorem dX3_nearest_103 : decode cX3_nearest 103 = .ok (.isub, 1) := by decide +kernel
theorem dX3_nearest_104 : decode cX3_nearest 104 = .ok (.istore 10, 2) := by decide +kernel
theorem dX3_nearest_106 : decode cX3_nearest 106 = .ok (.iload 10, 2) := by decide +kernel
theorem dX3_nearest_108 : decode cX3_nearest 108 = .ok (.ifCond .lt 25, 3) := by decide +kernel
theorem dX3_nearest_111 : decode cX3_nearest 111 = .ok (.iload 10, 2) := by decide +kernel
theorem dX3_nearest_113 : decode cX3_nearest 113 = .ok (.ifCond .ne 27, 3) := by decide +kernel
theorem dX3_nearest_116 : decode cX3_nearest 116 = .ok (.aload_n 0, 1) := by decide +kernel
theorem dX3_nearest_117 : decode cX3_nearest 117 = .ok (.getfield 7, 3) := by decide +kernel
theorem dX3_nearest_120 : decode cX3_nearest 120 = .ok (.iload 9, 2) := by decide +kernel
theorem dX3_nearest_122 : decode cX3_nearest 122 = .ok (.iaload, 1) := by decide +kernel
theorem dX3_nearest_123 : decode cX3_nearest 123 = .ok (.aload_n 0, 1) := by decide +kernel
theorem dX3_nearest_124 : decode cX3_nearest 124 = .ok (.getfield 7, 3) := by decide +kernel
theorem dX3_nearest_127 : decode cX3_nearest 127 = .ok (.iload 7, 2) := by decide +kernel
theorem dX3_nearest_129 : decode cX3_nearest 129 = .ok (.iaload, 1) := by decide +kernel
theorem dX3_nearest_130 : decode cX3_nearest 130 = .ok (.if_icmp .ge 10, 3) := by decide +kernel
theorem dX3_nearest_133 : decode cX3_nearest 133 = .ok (.iload 8, 2) := by decide +kernel
theorem dX3_nearest_135 : decode cX3_nearest 135 = .ok (.iconst 1, 1) := by decide +kernel
theorem dX3_nearest_136 : decode cX3_nearest 136 = .ok (.iadd, 1) := by decide +kernel
theorem dX3_nearest_137 : decode cX3_nearest 137 = .ok (.goto 5, 3) := by decide +kernel
theorem dX3_nearest_140 : decode cX3_nearest 140 = .ok (.iload 8, 2) := by decide +kernel
theorem dX3_nearest_142 : decode cX3_nearest 142 = .ok (.istore 8, 2) := by decide +kernel
theorem dX3_nearest_144 : decode cX3_nearest 144 = .ok (.iinc 9 1, 3) := by decide +kernel
theorem dX3_nearest_147 : decode cX3_nearest 147 = .ok (.goto (-77), 3) := by decide +kernel
theorem dX3_nearest_150 : decode cX3_nearest 150 = .ok (.iload 8, 2) := by decide +kernel
theorem dX3_nearest_152 : decode cX3_nearest 152 = .ok (.iload 4, 2) := by decide +kernel
theorem dX3_nearest_154 : decode cX3_nearest 154 = .ok (.iconst 1, 1) := by decide +kernel
theorem dX3_nearest_155 : decode cX3_nearest 155 = .ok (.isub, 1) := by decide +kernel
theorem dX3_nearest_156 : decode cX3_nearest 156 = .ok (.if_icmp .ne 13, 3) := by decide +kernel
theorem dX3_nearest_159 : decode cX3_nearest 159 = .ok (.aload_n 0, 1) := by decide +kernel
theorem dX3_nearest_160 : decode cX3_nearest 160 = .ok (.getfield 7, 3) := by decide +kernel
theorem dX3_nearest_163 : decode cX3_nearest 163 = .ok (.iload 7, 2) := by decide +kernel
theorem dX3_nearest_165 : decode cX3_nearest 165 = .ok (.iaload, 1) := by decide +kernel
theorem dX3_nearest_166 : decode cX3_nearest 166 = .ok (.goto 5, 3) := by decide +kernel
theorem dX3_nearest_169 : decode cX3_nearest 169 = .ok (.iload 6, 2) := by decide +kernel
theorem dX3_nearest_171 : decode cX3_nearest 171 = .ok (.istore 6, 2) := by decide +kernel
theorem dX3_nearest_173 : decode cX3_nearest 173 = .ok (.iinc 7 1, 3) := by decide +kernel
theorem dX3_nearest_176 : decode cX3_nearest 176 = .ok (.goto (-121), 3) := by decide +kernel
theorem dX3_nearest_179 : decode cX3_nearest 179 = .ok (.iload 6, 2) := by decide +kernel
theorem dX3_nearest_181 : decode cX3_nearest 181 = .ok (.ireturn, 1) := by decide +kernel
theorem dX3_kept_0 : decode cX3_kept 0 = .ok (.aload_n 0, 1) := by decide +kernel
theorem dX3_kept_1 : decode cX3_kept 1 = .ok (.iconst 0, 1) := by decide +kernel
theorem dX3_kept_2 : decode cX3_kept 2 = .ok (.putfield 45, 3) := by decide +kernel
theorem dX3_kept_5 : decode cX3_kept 5 = .ok (.iload_n 1, 1) := by decide +kernel
theorem dX3_kept_6 : decode cX3_kept 6 = .ok (.iconst 0, 1) := by decide +kernel
theorem dX3_kept_7 : decode cX3_kept 7 = .ok (.iconst 4, 1) := by decide +kernel
theorem dX3_kept_8 : decode cX3_kept 8 = .ok (.invokestatic 48, 3) := by decide +kernel
theorem dX3_kept_11 : decode cX3_kept 11 = .ok (.ifCond .eq 9, 3) := by decide +kernel
theorem dX3_kept_14 : decode cX3_kept 14 = .ok (.iconst 1, 1) := by decide +kernel
theorem dX3_kept_15 : decode cX3_kept 15 = .ok (.iload_n 1, 1) := by decide +kernel
theorem dX3_kept_16 : decode cX3_kept 16 = .ok (.ishl, 1) := by decide +kernel
theorem dX3_kept_17 : decode cX3_kept 17 = .ok (.goto 4, 3) := by decide +kernel
theorem dX3_kept_20 : decode cX3_kept 20 = .ok (.iconst 0, 1) := by decide +kernel
theorem dX3_kept_21 : decode cX3_kept 21 = .ok (.istore 6, 2) := by decide +kernel
theorem dX3_kept_23 : decode cX3_kept 23 = .ok (.iload 6, 2) := by decide +kernel
theorem dX3_kept_25 : decode cX3_kept 25 = .ok (.ifCond .eq 40, 3) := by decide +kernel
theorem dX3_kept_28 : decode cX3_kept 28 = .ok (.iload_n 2, 1) := by decide +kernel
theorem dX3_kept_29 : decode cX3_kept 29 = .ok (.iconst 0, 1) := by decide +kernel
theorem dX3_kept_30 : decode cX3_kept 30 = .ok (.iload 6, 2) := by decide +kernel
theorem dX3_kept_32 : decode cX3_kept 32 = .ok (.iconst 1, 1) := by decide +kernel
theorem dX3_kept_33 : decode cX3_kept 33 = .ok (.isub, 1) := by decide +kernel
theorem dX3_kept_34 : decode cX3_kept 34 = .ok (.invokestatic 48, 3) := by decide +kernel
theorem dX3_kept_37 : decode cX3_kept 37 = .ok (.ifCond .eq 28, 3) := by decide +kernel
theorem dX3_kept_40 : decode cX3_kept 40 = .ok (.iload_n 3, 1) := by decide +kernel
theorem dX3_kept_41 : decode cX3_kept 41 = .ok (.iconst 0, 1) := by decide +kernel
theorem dX3_kept_42 : decode cX3_kept 42 = .ok (.iload 6, 2) := by decide +kernel
theorem dX3_kept_44 : decode cX3_kept 44 = .ok (.iconst 1, 1) := by decide +kernel
theorem dX3_kept_45 : decode cX3_kept 45 = .ok (.isub, 1) := by decide +kernel
theorem dX3_kept_46 : decode cX3_kept 46 = .ok (.invokestatic 48, 3) := by decide +kernel
theorem dX3_kept_49 : decode cX3_kept 49 = .ok (.ifCond .eq 16, 3) := by decide +kernel
theorem dX3_kept_52 : decode cX3_kept 52 = .ok (.iload 4, 2) := by decide +kernel
theorem dX3_kept_54 : decode cX3_kept 54 = .ok (.iconst 0, 1) := by decide +kernel
theorem dX3_kept_55 : decode cX3_kept 55 = .ok (.iload 6, 2) := by decide +kernel
theorem dX3_kept_57 : decode cX3_kept 57 = .ok (.iconst 1, 1) := by decide +kernel
theorem dX3_kept_58 : decode cX3_kept 58 = .ok (.isub, 1) := by decide +kernel
theorem dX3_kept_59 : decode cX3_kept 59 = .ok (.invokestatic 48, 3) := by decide +kernel
theorem dX3_kept_62 : decode cX3_kept 62 = .ok (.ifCond .ne 9, 3) := by decide +kernel
theorem dX3_kept_65 : decode cX3_kept 65 = .ok (.aload_n 0, 1) := by decide +kernel
theorem dX3_kept_66 : decode cX3_kept 66 = .ok (.iconst 1, 1) := by decide +kernel
theorem dX3_kept_67 : decode cX3_kept 67 = .ok (.invokevirtual 79, 3) := by decide +kernel
theorem dX3_kept_70 : decode cX3_kept 70 = .ok (.ireturn, 1) := by decide +kernel
theorem dX3_kept_71 : decode cX3_kept 71 = .ok (.iload_n 2, 1) := by decide +kernel
theorem dX3_kept_72 : decode cX3_kept 72 = .ok (.iconst 4, 1) := by decide +kernel
theorem dX3_kept_73 : decode cX3_kept 73 = .ok (.iload_n 1, 1) := by decide +kernel
theorem dX3_kept_74 : decode cX3_kept 74 = .ok (.isub, 1) := by decide +kernel
theorem dX3_kept_75 : decode cX3_kept 75 = .ok (.ishl, 1) := by decide +kernel
theorem dX3_kept_76 : decode cX3_kept 76 = .ok (.iload_n 3, 1) := by decide +kernel
theorem dX3_kept_77 : decode cX3_kept 77 = .ok (.iconst 4, 1) := by decide +kernel
theorem dX3_kept_78 : decode cX3_kept 78 = .ok (.iload_n 1, 1) := by decide +kernel
theorem dX3_kept_79 : decode cX3_kept 79 = .ok (.isub, 1) := by decide +kernel
theorem dX3_kept_80 : decode cX3_kept 80 = .ok (.ishl, 1) := by decide +kernel
theorem dX3_kept_81 : decode cX3_kept 81 = .ok (.iload 4, 2) := by decide +kernel
theorem dX3_kept_83 : decode cX3_kept 83 = .ok (.iconst 4, 1) := by decide +kernel
theorem dX3_kept_84 : decode cX3_kept 84 = .ok (.iload_n 1, 1) := by decide +kernel
theorem dX3_kept_85 : decode cX3_kept 85 = .ok (.isub, 1) := by decide +kernel
theorem dX3_kept_86 : decode cX3_kept 86 = .ok (.ishl, 1) := by decide +kernel
theorem dX3_kept_87 : decode cX3_kept 87 = .ok (.invokestatic 86, 3) := by decide +kernel
theorem dX3_kept_90 : decode cX3_kept 90 = .ok (.istore 7, 2) := by decide +kernel
theorem dX3_kept_92 : decode cX3_kept 92 = .ok (.iconst 0, 1) := by decide +kernel
theorem dX3_kept_93 : decode cX3_kept 93 = .ok (.istore 8, 2) := by decide +kernel
theorem dX3_kept_95 : decode cX3_kept 95 = .ok (.iload 8, 2) := by decide +kernel
theorem dX3_kept_97 : decode cX3_kept 97 = .ok (.aload_n 0, 1) := by decide +kernel
theorem dX3_kept_98 : decode cX3_kept 98 = .ok (.getfield 59, 3) := by decide +kernel
theorem dX3_kept_101 : decode cX3_kept 101 = .ok (.if_icmp .ge 134, 3) := by decide +kernel
theorem dX3_kept_104 : decode cX3_kept 104 = .ok (.iconst 0, 1) := by decide +kernel
theorem dX3_kept_105 : decode cX3_kept 105 = .ok (.istore 9, 2) := by decide +kernel
theorem dX3_kept_107 : decode cX3_kept 107 = .ok (.iconst 0, 1) := by decide +kernel
theorem dX3_kept_108 : decode cX3_kept 108 = .ok (.istore 10, 2) := by decide +kernel
theorem dX3_kept_110 : decode cX3_kept 110 = .ok (.iload 10, 2) := by decide +kernel
theorem dX3_kept_112 : decode cX3_kept 112 = .ok (.aload_n 0, 1) := by decide +kernel
theorem dX3_kept_113 : decode cX3_kept 113 = .ok (.getfield 59, 3) := by decide +kernel
theorem dX3_kept_116 : decode cX3_kept 116 = .ok (.if_icmp .ge 71, 3) := by decide +kernel
theorem dX3_kept_119 : decode cX3_kept 119 = .ok (.aload_n 0, 1) := by decide +kernel
theorem dX3_kept_120 : decode cX3_kept 120 = .ok (.getfield 19, 3) := by decide +kernel
theorem dX3_kept_123 : decode cX3_kept 123 = .ok (.iload 10, 2) := by decide +kernel
theorem dX3_kept_125 : decode cX3_kept 125 = .ok (.iaload, 1) := by decide +kernel
theorem dX3_kept_126 : decode cX3_kept 126 = .ok (.iload_n 1, 1) := by decide +kernel
theorem dX3_kept_127 : decode cX3_kept 127 = .ok (.if_icmp .ne 50, 3) := by decide +kernel
theorem dX3_kept_130 : decode cX3_kept 130 = .ok (.aload_n 0, 1) := by decide +kernel
theorem dX3_kept_131 : decode cX3_kept 131 = .ok (.getfield 13, 3) := by decide +kernel
theorem dX3_kept_134 : decode cX3_kept 134 = .ok (.iload 10, 2) := by decide +kernel
theorem dX3_kept_136 : decode cX3_kept 136 = .ok (.iaload, 1) := by decide +kernel
theorem dX3_kept_137 : decode cX3_kept 137 = .ok (.iload 7, 2) := by decide +kernel
theorem dX3_kept_139 : decode cX3_kept 139 = .ok (.iload_n 1, 1) := by decide +kernel
theorem dX3_kept_140 : decode cX3_kept 140 = .ok (.invokestatic 66, 3) := by decide +kernel
theorem dX3_kept_143 : decode cX3_kept 143 = .ok (.ifCond .eq 34, 3) := by decide +kernel
theorem dX3_kept_146 : decode cX3_kept 146 = .ok (.aload_n 0, 1) := by decide +kernel
theorem dX3_kept_147 : decode cX3_kept 147 = .ok (.getfield 7, 3) := by decide +kernel
theorem dX3_kept_150 : decode cX3_kept 150 = .ok (.iload 10, 2) := by decide +kernel
theorem dX3_kept_152 : decode cX3_kept 152 = .ok (.iaload, 1) := by decide +kernel
theorem dX3_kept_153 : decode cX3_kept 153 = .ok (.invokestatic 55, 3) := by decide +kernel
theorem dX3_kept_156 : decode cX3_kept 156 = .ok (.aload_n 0, 1) := by decide +kernel
theorem dX3_kept_157 : decode cX3_kept 157 = .ok (.getfield 7, 3) := by decide +kernel
theorem dX3_kept_160 : decode cX3_kept 160 = .ok (.iload 8, 2) := by decide +kernel
theorem dX3_kept_162 : decode cX3_kept 162 = .ok (.iaload, 1) := by decide +kernel
theorem dX3_kept_163 : decode cX3_kept 163 = .ok (.invokestatic 55, 3) := by decide +kernel
theorem dX3_kept_166 : decode cX3_kept 166 = .ok (.lcmp, 1) := by decide +kernel
theorem dX3_kept_167 : decode cX3_kept 167 = .ok (.ifCond .le 10, 3) := by decide +kernel
theorem dX3_kept_170 : decode cX3_kept 170 = .ok (.iload 9, 2) := by decide +kernel
theorem dX3_kept_172 : decode cX3_kept 172 = .ok (.iconst 1, 1) := by decide +kernel
theorem dX3_kept_173 : decode cX3_kept 173 = .ok (.iadd, 1) := by decide +kernel
theorem dX3_kept_174 : decode cX3_kept 174 = .ok (.goto 5, 3) := by decide +kernel
theorem dX3_kept_177 : decode cX3_kept 177 = .ok (.iload 9, 2) := by decide +kernel
theorem dX3_kept_179 : decode cX3_kept 179 = .ok (.istore 9, 2) := by decide +kernel
theorem dX3_kept_181 : decode cX3_kept 181 = .ok (.iinc 10 1, 3) := by decide +kernel
theorem dX3_kept_184 : decode cX3_kept 184 = .ok (.goto (-74), 3) := by decide +kernel
theorem dX3_kept_187 : decode cX3_kept 187 = .ok (.aload_n 0, 1) := by decide +kernel
theorem dX3_kept_188 : decode cX3_kept 188 = .ok (.getfield 19, 3) := by decide +kernel
theorem dX3_kept_191 : decode cX3_kept 191 = .ok (.iload 8, 2) := by decide +kernel
theorem dX3_kept_193 : decode cX3_kept 193 = .ok (.iaload, 1) := by decide +kernel
theorem dX3_kept_194 : decode cX3_kept 194 = .ok (.iload_n 1, 1) := by decide +kernel
theorem dX3_kept_195 : decode cX3_kept 195 = .ok (.if_icmp .ne 34, 3) := by decide +kernel
theorem dX3_kept_198 : decode cX3_kept 198 = .ok (.aload_n 0, 1) := by decide +kernel
theorem dX3_kept_199 : decode cX3_kept 199 = .ok (.getfield 13, 3) := by decide +kernel
theorem dX3_kept_202 : decode cX3_kept 202 = .ok (.iload 8, 2) := by decide +kernel
theorem dX3_kept_204 : decode cX3_kept 204 = .ok (.iaload, 1) := by decide +kernel
theorem dX3_kept_205 : decode cX3_kept 205 = .ok (.iload 7, 2) := by decide +kernel
theorem dX3_kept_207 : decode cX3_kept 207 = .ok (.iload_n 1, 1) := by decide +kernel
theorem dX3_kept_208 : decode cX3_kept 208 = .ok (.invokestatic 66, 3) := by decide +kernel
theorem dX3_kept_211 : decode cX3_kept 211 = .ok (.ifCond .eq 18, 3) := by decide +kernel
theorem dX3_kept_214 : decode cX3_kept 214 = .ok (.iload 9, 2) := by decide +kernel
theorem dX3_kept_216 : decode cX3_kept 216 = .ok (.iload 5, 2) := by decide +kernel
theorem dX3_kept_218 : decode cX3_kept 218 = .ok (.if_icmp .ne 11, 3) := by decide +kernel
theorem dX3_kept_221 : decode cX3_kept 221 = .ok (.aload_n 0, 1) := by decide +kernel
theorem dX3_kept_222 : decode cX3_kept 222 = .ok (.getfield 7, 3) := by decide +kernel
theorem dX3_kept_225 : decode cX3_kept 225 = .ok (.iload 8, 2) := by decide +kernel
theorem dX3_kept_227 : decode cX3_kept 227 = .ok (.iaload, 1) := by decide +kernel
theorem dX3_kept_228 : decode cX3_kept 228 = .ok (.ireturn, 1) := by decide +kernel
theorem dX3_kept_229 : decode cX3_kept 229 = .ok (.iinc 8 1, 3) := by decide +kernel
theorem dX3_kept_232 : decode cX3_kept 232 = .ok (.goto (-137), 3) := by decide +kernel
theorem dX3_kept_235 : decode cX3_kept 235 = .ok (.aload_n 0, 1) := by decide +kernel
theorem dX3_kept_236 : decode cX3_kept 236 = .ok (.iconst 2, 1) := by decide +kernel
theorem dX3_kept_237 : decode cX3_kept 237 = .ok (.invokevirtual 79, 3) := by decide +kernel
theorem dX3_kept_240 : decode cX3_kept 240 = .ok (.ireturn, 1) := by decide +kernel
theorem dX3_pagesFor_0 : decode cX3_pagesFor 0 = .ok (.iload_n 0, 1) := by decide +kernel
theorem dX3_pagesFor_1 : decode cX3_pagesFor 1 = .ok (.iconst 5, 1) := by decide +kernel
theorem dX3_pagesFor_2 : decode cX3_pagesFor 2 = .ok (.iadd, 1) := by decide +kernel
theorem dX3_pagesFor_3 : decode cX3_pagesFor 3 = .ok (.bipush 6, 2) := by decide +kernel
theorem dX3_pagesFor_5 : decode cX3_pagesFor 5 = .ok (.idiv, 1) := by decide +kernel
theorem dX3_pagesFor_6 : decode cX3_pagesFor 6 = .ok (.ireturn, 1) := by decide +kernel
theorem dX3_takenPages_0 : decode cX3_takenPages 0 = .ok (.iconst 0, 1) := by decide +kernel
theorem dX3_takenPages_1 : decode cX3_takenPages 1 = .ok (.istore_n 1, 1) := by decide +kernel
theorem dX3_takenPages_2 : decode cX3_takenPages 2 = .ok (.iconst 0, 1) := by decide +kernel
theorem dX3_takenPages_3 : decode cX3_takenPages 3 = .ok (.istore_n 2, 1) := by decide +kernel
theorem dX3_takenPages_4 : decode cX3_takenPages 4 = .ok (.iload_n 2, 1) := by decide +kernel
theorem dX3_takenPages_5 : decode cX3_takenPages 5 = .ok (.aload_n 0, 1) := by decide +kernel
theorem dX3_takenPages_6 : decode cX3_takenPages 6 = .ok (.getfield 109, 3) := by decide +kernel
theorem dX3_takenPages_9 : decode cX3_takenPages 9 = .ok (.if_icmp .ge 97, 3) := by decide +kernel
theorem dX3_takenPages_12 : decode cX3_takenPages 12 = .ok (.iconst 0, 1) := by decide +kernel
theorem dX3_takenPages_13 : decode cX3_takenPages 13 = .ok (.istore_n 3, 1) := by decide +kernel
theorem dX3_takenPages_14 : decode cX3_takenPages 14 = .ok (.iconst 0, 1) := by decide +kernel
theorem dX3_takenPages_15 : decode cX3_takenPages 15 = .ok (.istore 4, 2) := by decide +kernel
theorem dX3_takenPages_17 : decode cX3_takenPages 17 = .ok (.iload 4, 2) := by decide +kernel
theorem dX3_takenPages_19 : decode cX3_takenPages 19 = .ok (.aload_n 0, 1) := by decide +kernel
theorem dX3_takenPages_20 : decode cX3_takenPages 20 = .ok (.getfield 109, 3) := by decide +kernel
theorem dX3_takenPages_23 : decode cX3_takenPages 23 = .ok (.if_icmp .ge 58, 3) := by decide +kernel
theorem dX3_takenPages_26 : decode cX3_takenPages 26 = .ok (.aload_n 0, 1) := by decide +kernel
theorem dX3_takenPages_27 : decode cX3_takenPages 27 = .ok (.getfield 31, 3) := by decide +kernel
theorem dX3_takenPages_30 : decode cX3_takenPages 30 = .ok (.iload 4, 2) := by decide +kernel
theorem dX3_takenPages_32 : decode cX3_takenPages 32 = .ok (.iaload, 1) := by decide +kernel
theorem dX3_takenPages_33 : decode cX3_takenPages 33 = .ok (.aload_n 0, 1) := by decide +kernel
theorem dX3_takenPages_34 : decode cX3_takenPages 34 = .ok (.getfield 31, 3) := by decide +kernel
theorem dX3_takenPages_37 : decode cX3_takenPages 37 = .ok (.iload_n 2, 1) := by decide +kernel
theorem dX3_takenPages_38 : decode cX3_takenPages 38 = .ok (.iaload, 1) := by decide +kernel
theorem dX3_takenPages_39 : decode cX3_takenPages 39 = .ok (.if_icmp .ne 34, 3) := by decide +kernel
theorem dX3_takenPages_42 : decode cX3_takenPages 42 = .ok (.aload_n 0, 1) := by decide +kernel
theorem dX3_takenPages_43 : decode cX3_takenPages 43 = .ok (.getfield 25, 3) := by decide +kernel
theorem dX3_takenPages_46 : decode cX3_takenPages 46 = .ok (.iload 4, 2) := by decide +kernel
theorem dX3_takenPages_48 : decode cX3_takenPages 48 = .ok (.iaload, 1) := by decide +kernel
theorem dX3_takenPages_49 : decode cX3_takenPages 49 = .ok (.aload_n 0, 1) := by decide +kernel
theorem dX3_takenPages_50 : decode cX3_takenPages 50 = .ok (.getfield 25, 3) := by decide +kernel
theorem dX3_takenPages_53 : decode cX3_takenPages 53 = .ok (.iload_n 2, 1) := by decide +kernel
theorem dX3_takenPages_54 : decode cX3_takenPages 54 = .ok (.iaload, 1) := by decide +kernel
theorem dX3_takenPages_55 : decode cX3_takenPages 55 = .ok (.aload_n 0, 1) := by decide +kernel
theorem dX3_takenPages_56 : decode cX3_takenPages 56 = .ok (.getfield 31, 3) := by decide +kernel
theorem dX3_takenPages_59 : decode cX3_takenPages 59 = .ok (.iload_n 2, 1) := by decide +kernel
theorem dX3_takenPages_60 : decode cX3_takenPages 60 = .ok (.iaload, 1) := by decide +kernel
theorem dX3_takenPages_61 : decode cX3_takenPages 61 = .ok (.invokestatic 66, 3) := by decide +kernel
theorem dX3_takenPages_64 : decode cX3_takenPages 64 = .ok (.ifCond .eq 9, 3) := by decide +kernel
theorem dX3_takenPages_67 : decode cX3_takenPages 67 = .ok (.iload_n 3, 1) := by decide +kernel
theorem dX3_takenPages_68 : decode cX3_takenPages 68 = .ok (.iconst 1, 1) := by decide +kernel
theorem dX3_takenPages_69 : decode cX3_takenPages 69 = .ok (.iadd, 1) := by decide +kernel
theorem dX3_takenPages_70 : decode cX3_takenPages 70 = .ok (.goto 4, 3) := by decide +kernel
theorem dX3_takenPages_73 : decode cX3_takenPages 73 = .ok (.iload_n 3, 1) := by decide +kernel
theorem dX3_takenPages_74 : decode cX3_takenPages 74 = .ok (.istore_n 3, 1) := by decide +kernel
theorem dX3_takenPages_75 : decode cX3_takenPages 75 = .ok (.iinc 4 1, 3) := by decide +kernel
theorem dX3_takenPages_78 : decode cX3_takenPages 78 = .ok (.goto (-61), 3) := by decide +kernel
theorem dX3_takenPages_81 : decode cX3_takenPages 81 = .ok (.aload_n 0, 1) := by decide +kernel
theorem dX3_takenPages_82 : decode cX3_takenPages 82 = .ok (.iload_n 2, 1) := by decide +kernel
theorem dX3_takenPages_83 : decode cX3_takenPages 83 = .ok (.invokevirtual 112, 3) := by decide +kernel
theorem dX3_takenPages_86 : decode cX3_takenPages 86 = .ok (.ifCond .eq 12, 3) := by decide +kernel
theorem dX3_takenPages_89 : decode cX3_takenPages 89 = .ok (.iload_n 1, 1) := by decide +kernel
theorem dX3_takenPages_90 : decode cX3_takenPages 90 = .ok (.iload_n 3, 1) := by decide +kernel
theorem dX3_takenPages_91 : decode cX3_takenPages 91 = .ok (.invokestatic 116, 3) := by decide +kernel
theorem dX3_takenPages_94 : decode cX3_takenPages 94 = .ok (.iadd, 1) := by decide +kernel
theorem dX3_takenPages_95 : decode cX3_takenPages 95 = .ok (.goto 4, 3) := by decide +kernel
theorem dX3_takenPages_98 : decode cX3_takenPages 98 = .ok (.iload_n 1, 1) := by decide +kernel
theorem dX3_takenPages_99 : decode cX3_takenPages 99 = .ok (.istore_n 1, 1) := by decide +kernel
theorem dX3_takenPages_100 : decode cX3_takenPages 100 = .ok (.iinc 2 1, 3) := by decide +kernel
theorem dX3_takenPages_103 : decode cX3_takenPages 103 = .ok (.goto (-99), 3) := by decide +kernel
theorem dX3_takenPages_106 : decode cX3_takenPages 106 = .ok (.iload_n 1, 1) := by decide +kernel
theorem dX3_takenPages_107 : decode cX3_takenPages 107 = .ok (.ireturn, 1) := by decide +kernel
theorem dX3_isCommitted_0 : decode cX3_isCommitted 0 = .ok (.iconst 0, 1) := by decide +kernel
theorem dX3_isCommitted_1 : decode cX3_isCommitted 1 = .ok (.istore_n 2, 1) := by decide +kernel
theorem dX3_isCommitted_2 : decode cX3_isCommitted 2 = .ok (.iconst 0, 1) := by decide +kernel
theorem dX3_isCommitted_3 : decode cX3_isCommitted 3 = .ok (.istore_n 3, 1) := by decide +kernel
theorem dX3_isCommitted_4 : decode cX3_isCommitted 4 = .ok (.iload_n 3, 1) := by decide +kernel
theorem dX3_isCommitted_5 : decode cX3_isCommitted 5 = .ok (.aload_n 0, 1) := by decide +kernel
theorem dX3_isCommitted_6 : decode cX3_isCommitted 6 = .ok (.getfield 109, 3) := by decide +kernel
theorem dX3_isCommitted_9 : decode cX3_isCommitted 9 = .ok (.if_icmp .ge 79, 3) := by decide +kernel
theorem dX3_isCommitted_12 : decode cX3_isCommitted 12 = .ok (.iload_n 2, 1) := by decide +kernel
theorem dX3_isCommitted_13 : decode cX3_isCommitted 13 = .ok (.ifCond .ne 63, 3) := by decide +kernel
theorem dX3_isCommitted_16 : decode cX3_isCommitted 16 = .ok (.aload_n 0, 1) := by decide +kernel
theorem dX3_isCommitted_17 : decode cX3_isCommitted 17 = .ok (.getfield 22, 3) := by decide +kernel
theorem dX3_isCommitted_20 : decode cX3_isCommitted 20 = .ok (.iload_n 3, 1) := by decide +kernel
theorem dX3_isCommitted_21 : decode cX3_isCommitted 21 = .ok (.iaload, 1) := by decide +kernel
theorem dX3_isCommitted_22 : decode cX3_isCommitted 22 = .ok (.aload_n 0, 1) := by decide +kernel
theorem dX3_isCommitted_23 : decode cX3_isCommitted 23 = .ok (.getfield 7, 3) := by decide +kernel
theorem dX3_isCommitted_26 : decode cX3_isCommitted 26 = .ok (.iload_n 1, 1) := by decide +kernel
theorem dX3_isCommitted_27 : decode cX3_isCommitted 27 = .ok (.iaload, 1) := by decide +kernel
theorem dX3_isCommitted_28 : decode cX3_isCommitted 28 = .ok (.if_icmp .ne 52, 3) := by decide +kernel
theorem dX3_isCommitted_31 : decode cX3_isCommitted 31 = .ok (.aload_n 0, 1) := by decide +kernel
theorem dX3_isCommitted_32 : decode cX3_isCommitted 32 = .ok (.getfield 25, 3) := by decide +kernel
theorem dX3_isCommitted_35 : decode cX3_isCommitted 35 = .ok (.iload_n 3, 1) := by decide +kernel
theorem dX3_isCommitted_36 : decode cX3_isCommitted 36 = .ok (.iaload, 1) := by decide +kernel
theorem dX3_isCommitted_37 : decode cX3_isCommitted 37 = .ok (.aload_n 0, 1) := by decide +kernel
theorem dX3_isCommitted_38 : decode cX3_isCommitted 38 = .ok (.getfield 13, 3) := by decide +kernel
theorem dX3_isCommitted_41 : decode cX3_isCommitted 41 = .ok (.iload_n 1, 1) := by decide +kernel
theorem dX3_isCommitted_42 : decode cX3_isCommitted 42 = .ok (.iaload, 1) := by decide +kernel
theorem dX3_isCommitted_43 : decode cX3_isCommitted 43 = .ok (.if_icmp .ne 37, 3) := by decide +kernel
theorem dX3_isCommitted_46 : decode cX3_isCommitted 46 = .ok (.aload_n 0, 1) := by decide +kernel
theorem dX3_isCommitted_47 : decode cX3_isCommitted 47 = .ok (.getfield 28, 3) := by decide +kernel
theorem dX3_isCommitted_50 : decode cX3_isCommitted 50 = .ok (.iload_n 3, 1) := by decide +kernel
theorem dX3_isCommitted_51 : decode cX3_isCommitted 51 = .ok (.iaload, 1) := by decide +kernel
theorem dX3_isCommitted_52 : decode cX3_isCommitted 52 = .ok (.aload_n 0, 1) := by decide +kernel
theorem dX3_isCommitted_53 : decode cX3_isCommitted 53 = .ok (.getfield 16, 3) := by decide +kernel
theorem dX3_isCommitted_56 : decode cX3_isCommitted 56 = .ok (.iload_n 1, 1) := by decide +kernel
theorem dX3_isCommitted_57 : decode cX3_isCommitted 57 = .ok (.iaload, 1) := by decide +kernel
theorem dX3_isCommitted_58 : decode cX3_isCommitted 58 = .ok (.if_icmp .ne 22, 3) := by decide +kernel
theorem dX3_isCommitted_61 : decode cX3_isCommitted 61 = .ok (.aload_n 0, 1) := by decide +kernel
theorem dX3_isCommitted_62 : decode cX3_isCommitted 62 = .ok (.getfield 31, 3) := by decide +kernel
theorem dX3_isCommitted_65 : decode cX3_isCommitted 65 = .ok (.iload_n 3, 1) := by decide +kernel
theorem dX3_isCommitted_66 : decode cX3_isCommitted 66 = .ok (.iaload, 1) := by decide +kernel
theorem dX3_isCommitted_67 : decode cX3_isCommitted 67 = .ok (.aload_n 0, 1) := by decide +kernel
theorem dX3_isCommitted_68 : decode cX3_isCommitted 68 = .ok (.getfield 19, 3) := by decide +kernel
theorem dX3_isCommitted_71 : decode cX3_isCommitted 71 = .ok (.iload_n 1, 1) := by decide +kernel
theorem dX3_isCommitted_72 : decode cX3_isCommitted 72 = .ok (.iaload, 1) := by decide +kernel
theorem dX3_isCommitted_73 : decode cX3_isCommitted 73 = .ok (.if_icmp .ne 7, 3) := by decide +kernel
theorem dX3_isCommitted_76 : decode cX3_isCommitted 76 = .ok (.iconst 1, 1) := by decide +kernel
theorem dX3_isCommitted_77 : decode cX3_isCommitted 77 = .ok (.goto 4, 3) := by decide +kernel
theorem dX3_isCommitted_80 : decode cX3_isCommitted 80 = .ok (.iconst 0, 1) := by decide +kernel
theorem dX3_isCommitted_81 : decode cX3_isCommitted 81 = .ok (.istore_n 2, 1) := by decide +kernel
theorem dX3_isCommitted_82 : decode cX3_isCommitted 82 = .ok (.iinc 3 1, 3) := by decide +kernel
theorem dX3_isCommitted_85 : decode cX3_isCommitted 85 = .ok (.goto (-81), 3) := by decide +kernel
theorem dX3_isCommitted_88 : decode cX3_isCommitted 88 = .ok (.iload_n 2, 1) := by decide +kernel
theorem dX3_isCommitted_89 : decode cX3_isCommitted 89 = .ok (.ireturn, 1) := by decide +kernel
theorem dX3_isClean_0 : decode cX3_isClean 0 = .ok (.iconst 0, 1) := by decide +kernel
theorem dX3_isClean_1 : decode cX3_isClean 1 = .ok (.istore_n 3, 1) := by decide +kernel
theorem dX3_isClean_2 : decode cX3_isClean 2 = .ok (.iconst 1, 1) := by decide +kernel
theorem dX3_isClean_3 : decode cX3_isClean 3 = .ok (.istore 4, 2) := by decide +kernel
theorem dX3_isClean_5 : decode cX3_isClean 5 = .ok (.iconst 0, 1) := by decide +kernel
theorem dX3_isClean_6 : decode cX3_isClean 6 = .ok (.istore 5, 2) := by decide +kernel
theorem dX3_isClean_8 : decode cX3_isClean 8 = .ok (.iload 5, 2) := by decide +kernel
theorem dX3_isClean_10 : decode cX3_isClean 10 = .ok (.aload_n 0, 1) := by decide +kernel
theorem dX3_isClean_11 : decode cX3_isClean 11 = .ok (.getfield 59, 3) := by decide +kernel
theorem dX3_isClean_14 : decode cX3_isClean 14 = .ok (.if_icmp .ge 59, 3) := by decide +kernel
theorem dX3_isClean_17 : decode cX3_isClean 17 = .ok (.aload_n 0, 1) := by decide +kernel
theorem dX3_isClean_18 : decode cX3_isClean 18 = .ok (.getfield 19, 3) := by decide +kernel
theorem dX3_isClean_21 : decode cX3_isClean 21 = .ok (.iload 5, 2) := by decide +kernel
theorem dX3_isClean_23 : decode cX3_isClean 23 = .ok (.iaload, 1) := by decide +kernel
theorem dX3_isClean_24 : decode cX3_isClean 24 = .ok (.iload_n 2, 1) := by decide +kernel
theorem dX3_isClean_25 : decode cX3_isClean 25 = .ok (.if_icmp .lt 42, 3) := by decide +kernel
theorem dX3_isClean_28 : decode cX3_isClean 28 = .ok (.aload_n 0, 1) := by decide +kernel
theorem dX3_isClean_29 : decode cX3_isClean 29 = .ok (.getfield 13, 3) := by decide +kernel
theorem dX3_isClean_32 : decode cX3_isClean 32 = .ok (.iload 5, 2) := by decide +kernel
theorem dX3_isClean_34 : decode cX3_isClean 34 = .ok (.iaload, 1) := by decide +kernel
theorem dX3_isClean_35 : decode cX3_isClean 35 = .ok (.iload_n 1, 1) := by decide +kernel
theorem dX3_isClean_36 : decode cX3_isClean 36 = .ok (.iload_n 2, 1) := by decide +kernel
theorem dX3_isClean_37 : decode cX3_isClean 37 = .ok (.invokestatic 66, 3) := by decide +kernel
theorem dX3_isClean_40 : decode cX3_isClean 40 = .ok (.ifCond .eq 27, 3) := by decide +kernel
theorem dX3_isClean_43 : decode cX3_isClean 43 = .ok (.iinc 3 1, 3) := by decide +kernel
theorem dX3_isClean_46 : decode cX3_isClean 46 = .ok (.iload 4, 2) := by decide +kernel
theorem dX3_isClean_48 : decode cX3_isClean 48 = .ok (.ifCond .eq 16, 3) := by decide +kernel
theorem dX3_isClean_51 : decode cX3_isClean 51 = .ok (.aload_n 0, 1) := by decide +kernel
theorem dX3_isClean_52 : decode cX3_isClean 52 = .ok (.iload 5, 2) := by decide +kernel
theorem dX3_isClean_54 : decode cX3_isClean 54 = .ok (.invokevirtual 119, 3) := by decide +kernel
theorem dX3_isClean_57 : decode cX3_isClean 57 = .ok (.ifCond .eq 7, 3) := by decide +kernel
theorem dX3_isClean_60 : decode cX3_isClean 60 = .ok (.iconst 1, 1) := by decide +kernel
theorem dX3_isClean_61 : decode cX3_isClean 61 = .ok (.goto 4, 3) := by decide +kernel
theorem dX3_isClean_64 : decode cX3_isClean 64 = .ok (.iconst 0, 1) := by decide +kernel
theorem dX3_isClean_65 : decode cX3_isClean 65 = .ok (.istore 4, 2) := by decide +kernel
theorem dX3_isClean_67 : decode cX3_isClean 67 = .ok (.iinc 5 1, 3) := by decide +kernel
theorem dX3_isClean_70 : decode cX3_isClean 70 = .ok (.goto (-62), 3) := by decide +kernel
theorem dX3_isClean_73 : decode cX3_isClean 73 = .ok (.iconst 0, 1) := by decide +kernel
theorem dX3_isClean_74 : decode cX3_isClean 74 = .ok (.istore 5, 2) := by decide +kernel
theorem dX3_isClean_76 : decode cX3_isClean 76 = .ok (.iload 5, 2) := by decide +kernel
theorem dX3_isClean_78 : decode cX3_isClean 78 = .ok (.aload_n 0, 1) := by decide +kernel
theorem dX3_isClean_79 : decode cX3_isClean 79 = .ok (.getfield 109, 3) := by decide +kernel
theorem dX3_isClean_82 : decode cX3_isClean 82 = .ok (.if_icmp .ge 43, 3) := by decide +kernel
theorem dX3_isClean_85 : decode cX3_isClean 85 = .ok (.aload_n 0, 1) := by decide +kernel
theorem dX3_isClean_86 : decode cX3_isClean 86 = .ok (.getfield 31, 3) := by decide +kernel
theorem dX3_isClean_89 : decode cX3_isClean 89 = .ok (.iload 5, 2) := by decide +kernel
theorem dX3_isClean_91 : decode cX3_isClean 91 = .ok (.iaload, 1) := by decide +kernel
theorem dX3_isClean_92 : decode cX3_isClean 92 = .ok (.iload_n 2, 1) := by decide +kernel
theorem dX3_isClean_93 : decode cX3_isClean 93 = .ok (.if_icmp .lt 24, 3) := by decide +kernel
theorem dX3_isClean_96 : decode cX3_isClean 96 = .ok (.aload_n 0, 1) := by decide +kernel
theorem dX3_isClean_97 : decode cX3_isClean 97 = .ok (.getfield 25, 3) := by decide +kernel
theorem dX3_isClean_100 : decode cX3_isClean 100 = .ok (.iload 5, 2) := by decide +kernel
theorem dX3_isClean_102 : decode cX3_isClean 102 = .ok (.iaload, 1) := by decide +kernel
theorem dX3_isClean_103 : decode cX3_isClean 103 = .ok (.iload_n 1, 1) := by decide +kernel
theorem dX3_isClean_104 : decode cX3_isClean 104 = .ok (.iload_n 2, 1) := by decide +kernel
theorem dX3_isClean_105 : decode cX3_isClean 105 = .ok (.invokestatic 66, 3) := by decide +kernel
theorem dX3_isClean_108 : decode cX3_isClean 108 = .ok (.ifCond .eq 9, 3) := by decide +kernel
theorem dX3_isClean_111 : decode cX3_isClean 111 = .ok (.iload_n 3, 1) := by decide +kernel
theorem dX3_isClean_112 : decode cX3_isClean 112 = .ok (.iconst 1, 1) := by decide +kernel
theorem dX3_isClean_113 : decode cX3_isClean 113 = .ok (.isub, 1) := by decide +kernel
theorem dX3_isClean_114 : decode cX3_isClean 114 = .ok (.goto 4, 3) := by decide +kernel
theorem dX3_isClean_117 : decode cX3_isClean 117 = .ok (.iload_n 3, 1) := by decide +kernel
theorem dX3_isClean_118 : decode cX3_isClean 118 = .ok (.istore_n 3, 1) := by decide +kernel
theorem dX3_isClean_119 : decode cX3_isClean 119 = .ok (.iinc 5 1, 3) := by decide +kernel
theorem dX3_isClean_122 : decode cX3_isClean 122 = .ok (.goto (-46), 3) := by decide +kernel
theorem dX3_isClean_125 : decode cX3_isClean 125 = .ok (.iload 4, 2) := by decide +kernel
theorem dX3_isClean_127 : decode cX3_isClean 127 = .ok (.ifCond .eq 11, 3) := by decide +kernel
theorem dX3_isClean_130 : decode cX3_isClean 130 = .ok (.iload_n 3, 1) := by decide +kernel
theorem dX3_isClean_131 : decode cX3_isClean 131 = .ok (.ifCond .ne 7, 3) := by decide +kernel
theorem dX3_isClean_134 : decode cX3_isClean 134 = .ok (.iconst 1, 1) := by decide +kernel
theorem dX3_isClean_135 : decode cX3_isClean 135 = .ok (.goto 4, 3) := by decide +kernel
theorem dX3_isClean_138 : decode cX3_isClean 138 = .ok (.iconst 0, 1) := by decide +kernel
theorem dX3_isClean_139 : decode cX3_isClean 139 = .ok (.ireturn, 1) := by decide +kernel
theorem dX3_pagesToWrite_0 : decode cX3_pagesToWrite 0 = .ok (.iconst 0, 1) := by decide +kernel
theorem dX3_pagesToWrite_1 : decode cX3_pagesToWrite 1 = .ok (.istore_n 1, 1) := by decide +kernel
theorem dX3_pagesToWrite_2 : decode cX3_pagesToWrite 2 = .ok (.iconst 0, 1) := by decide +kernel
theorem dX3_pagesToWrite_3 : decode cX3_pagesToWrite 3 = .ok (.istore_n 2, 1) := by decide +kernel
theorem dX3_pagesToWrite_4 : decode cX3_pagesToWrite 4 = .ok (.iload_n 2, 1) := by decide +kernel
theorem dX3_pagesToWrite_5 : decode cX3_pagesToWrite 5 = .ok (.aload_n 0, 1) := by decide +kernel
theorem dX3_pagesToWrite_6 : decode cX3_pagesToWrite 6 = .ok (.getfield 59, 3) := by decide +kernel
theorem dX3_pagesToWrite_9 : decode cX3_pagesToWrite 9 = .ok (.if_icmp .ge 72, 3) := by decide +kernel
theorem dX3_pagesToWrite_12 : decode cX3_pagesToWrite 12 = .ok (.aload_n 0, 1) := by decide +kernel
theorem dX3_pagesToWrite_13 : decode cX3_pagesToWrite 13 = .ok (.iload_n 2, 1) := by decide +kernel
theorem dX3_pagesToWrite_14 : decode cX3_pagesToWrite 14 = .ok (.invokevirtual 122, 3) := by decide +kernel
theorem dX3_pagesToWrite_17 : decode cX3_pagesToWrite 17 = .ok (.ifCond .eq 26, 3) := by decide +kernel
theorem dX3_pagesToWrite_20 : decode cX3_pagesToWrite 20 = .ok (.aload_n 0, 1) := by decide +kernel
theorem dX3_pagesToWrite_21 : decode cX3_pagesToWrite 21 = .ok (.aload_n 0, 1) := by decide +kernel
theorem dX3_pagesToWrite_22 : decode cX3_pagesToWrite 22 = .ok (.getfield 13, 3) := by decide +kernel
theorem dX3_pagesToWrite_25 : decode cX3_pagesToWrite 25 = .ok (.iload_n 2, 1) := by decide +kernel
theorem dX3_pagesToWrite_26 : decode cX3_pagesToWrite 26 = .ok (.iaload, 1) := by decide +kernel
theorem dX3_pagesToWrite_27 : decode cX3_pagesToWrite 27 = .ok (.aload_n 0, 1) := by decide +kernel
theorem dX3_pagesToWrite_28 : decode cX3_pagesToWrite 28 = .ok (.getfield 19, 3) := by decide +kernel
theorem dX3_pagesToWrite_31 : decode cX3_pagesToWrite 31 = .ok (.iload_n 2, 1) := by decide +kernel
theorem dX3_pagesToWrite_32 : decode cX3_pagesToWrite 32 = .ok (.iaload, 1) := by decide +kernel
theorem dX3_pagesToWrite_33 : decode cX3_pagesToWrite 33 = .ok (.invokevirtual 125, 3) := by decide +kernel
theorem dX3_pagesToWrite_36 : decode cX3_pagesToWrite 36 = .ok (.ifCond .ne 7, 3) := by decide +kernel
theorem dX3_pagesToWrite_39 : decode cX3_pagesToWrite 39 = .ok (.iconst 1, 1) := by decide +kernel
theorem dX3_pagesToWrite_40 : decode cX3_pagesToWrite 40 = .ok (.goto 4, 3) := by decide +kernel
theorem dX3_pagesToWrite_43 : decode cX3_pagesToWrite 43 = .ok (.iconst 0, 1) := by decide +kernel
theorem dX3_pagesToWrite_44 : decode cX3_pagesToWrite 44 = .ok (.istore_n 3, 1) := by decide +kernel
theorem dX3_pagesToWrite_45 : decode cX3_pagesToWrite 45 = .ok (.iload_n 3, 1) := by decide +kernel
theorem dX3_pagesToWrite_46 : decode cX3_pagesToWrite 46 = .ok (.ifCond .eq 27, 3) := by decide +kernel
theorem dX3_pagesToWrite_49 : decode cX3_pagesToWrite 49 = .ok (.iload_n 1, 1) := by decide +kernel
theorem dX3_pagesToWrite_50 : decode cX3_pagesToWrite 50 = .ok (.aload_n 0, 1) := by decide +kernel
theorem dX3_pagesToWrite_51 : decode cX3_pagesToWrite 51 = .ok (.aload_n 0, 1) := by decide +kernel
theorem dX3_pagesToWrite_52 : decode cX3_pagesToWrite 52 = .ok (.getfield 13, 3) := by decide +kernel
theorem dX3_pagesToWrite_55 : decode cX3_pagesToWrite 55 = .ok (.iload_n 2, 1) := by decide +kernel
theorem dX3_pagesToWrite_56 : decode cX3_pagesToWrite 56 = .ok (.iaload, 1) := by decide +kernel
theorem dX3_pagesToWrite_57 : decode cX3_pagesToWrite 57 = .ok (.aload_n 0, 1) := by decide +kernel
theorem dX3_pagesToWrite_58 : decode cX3_pagesToWrite 58 = .ok (.getfield 19, 3) := by decide +kernel
theorem dX3_pagesToWrite_61 : decode cX3_pagesToWrite 61 = .ok (.iload_n 2, 1) := by decide +kernel
theorem dX3_pagesToWrite_62 : decode cX3_pagesToWrite 62 = .ok (.iaload, 1) := by decide +kernel
theorem dX3_pagesToWrite_63 : decode cX3_pagesToWrite 63 = .ok (.invokevirtual 73, 3) := by decide +kernel
theorem dX3_pagesToWrite_66 : decode cX3_pagesToWrite 66 = .ok (.invokestatic 116, 3) := by decide +kernel
theorem dX3_pagesToWrite_69 : decode cX3_pagesToWrite 69 = .ok (.iadd, 1) := by decide +kernel
theorem dX3_pagesToWrite_70 : decode cX3_pagesToWrite 70 = .ok (.goto 4, 3) := by decide +kernel
theorem dX3_pagesToWrite_73 : decode cX3_pagesToWrite 73 = .ok (.iload_n 1, 1) := by decide +kernel
theorem dX3_pagesToWrite_74 : decode cX3_pagesToWrite 74 = .ok (.istore_n 1, 1) := by decide +kernel
theorem dX3_pagesToWrite_75 : decode cX3_pagesToWrite 75 = .ok (.iinc 2 1, 3) := by decide +kernel
theorem dX3_pagesToWrite_78 : decode cX3_pagesToWrite 78 = .ok (.goto (-74), 3) := by decide +kernel
theorem dX3_pagesToWrite_81 : decode cX3_pagesToWrite 81 = .ok (.iload_n 1, 1) := by decide +kernel
theorem dX3_pagesToWrite_82 : decode cX3_pagesToWrite 82 = .ok (.ireturn, 1) := by decide +kernel
theorem dX3_commit_0 : decode cX3_commit 0 = .ok (.aload_n 0, 1) := by decide +kernel
theorem dX3_commit_1 : decode cX3_commit 1 = .ok (.iconst 0, 1) := by decide +kernel
theorem dX3_commit_2 : decode cX3_commit 2 = .ok (.putfield 45, 3) := by decide +kernel
theorem dX3_commit_5 : decode cX3_commit 5 = .ok (.aload_n 0, 1) := by decide +kernel
theorem dX3_commit_6 : decode cX3_commit 6 = .ok (.iconst 0, 1) := by decide +kernel
theorem dX3_commit_7 : decode cX3_commit 7 = .ok (.iconst 0, 1) := by decide +kernel
theorem dX3_commit_8 : decode cX3_commit 8 = .ok (.invokevirtual 125, 3) := by decide +kernel
theorem dX3_commit_11 : decode cX3_commit 11 = .ok (.ifCond .eq 5, 3) := by decide +kernel
theorem dX3_commit_14 : decode cX3_commit 14 = .ok (.iconst 0, 1) := by decide +kernel
theorem dX3_commit_15 : decode cX3_commit 15 = .ok (.ireturn, 1) := by decide +kernel
theorem dX3_commit_16 : decode cX3_commit 16 = .ok (.aload_n 0, 1) := by decide +kernel
theorem dX3_commit_17 : decode cX3_commit 17 = .ok (.invokevirtual 128, 3) := by decide +kernel
theorem dX3_commit_20 : decode cX3_commit 20 = .ok (.istore_n 1, 1) := by decide +kernel
theorem dX3_commit_21 : decode cX3_commit 21 = .ok (.iload_n 1, 1) := by decide +kernel
theorem dX3_commit_22 : decode cX3_commit 22 = .ok (.bipush 64, 2) := by decide +kernel
theorem dX3_commit_24 : decode cX3_commit 24 = .ok (.aload_n 0, 1) := by decide +kernel
theorem dX3_commit_25 : decode cX3_commit 25 = .ok (.invokevirtual 131, 3) := by decide +kernel
theorem dX3_commit_28 : decode cX3_commit 28 = .ok (.isub, 1) := by decide +kernel
theorem dX3_commit_29 : decode cX3_commit 29 = .ok (.if_icmp .le 9, 3) := by decide +kernel
theorem dX3_commit_32 : decode cX3_commit 32 = .ok (.aload_n 0, 1) := by decide +kernel
theorem dX3_commit_33 : decode cX3_commit 33 = .ok (.iconst 1, 1) := by decide +kernel
theorem dX3_commit_34 : decode cX3_commit 34 = .ok (.invokevirtual 79, 3) := by decide +kernel
theorem dX3_commit_37 : decode cX3_commit 37 = .ok (.ireturn, 1) := by decide +kernel
theorem dX3_commit_38 : decode cX3_commit 38 = .ok (.aload_n 0, 1) := by decide +kernel
theorem dX3_commit_39 : decode cX3_commit 39 = .ok (.getfield 41, 3) := by decide +kernel
theorem dX3_commit_42 : decode cX3_commit 42 = .ok (.ifCond .lt 42, 3) := by decide +kernel
theorem dX3_commit_45 : decode cX3_commit 45 = .ok (.aload_n 0, 1) := by decide +kernel
theorem dX3_commit_46 : decode cX3_commit 46 = .ok (.getfield 41, 3) := by decide +kernel
theorem dX3_commit_49 : decode cX3_commit 49 = .ok (.iload_n 1, 1) := by decide +kernel
theorem dX3_commit_50 : decode cX3_commit 50 = .ok (.iconst 1, 1) := by decide +kernel
theorem dX3_commit_51 : decode cX3_commit 51 = .ok (.iadd, 1) := by decide +kernel
theorem dX3_commit_52 : decode cX3_commit 52 = .ok (.if_icmp .ge 32, 3) := by decide +kernel
theorem dX3_commit_55 : decode cX3_commit 55 = .ok (.aload_n 0, 1) := by decide +kernel
theorem dX3_commit_56 : decode cX3_commit 56 = .ok (.aload_n 0, 1) := by decide +kernel
theorem dX3_commit_57 : decode cX3_commit 57 = .ok (.getfield 134, 3) := by decide +kernel
theorem dX3_commit_60 : decode cX3_commit 60 = .ok (.aload_n 0, 1) := by decide +kernel
theorem dX3_commit_61 : decode cX3_commit 61 = .ok (.getfield 41, 3) := by decide +kernel
theorem dX3_commit_64 : decode cX3_commit 64 = .ok (.iadd, 1) := by decide +kernel
theorem dX3_commit_65 : decode cX3_commit 65 = .ok (.putfield 134, 3) := by decide +kernel
theorem dX3_commit_68 : decode cX3_commit 68 = .ok (.aload_n 0, 1) := by decide +kernel
theorem dX3_commit_69 : decode cX3_commit 69 = .ok (.iconst (-1), 1) := by decide +kernel
theorem dX3_commit_70 : decode cX3_commit 70 = .ok (.putfield 41, 3) := by decide +kernel
theorem dX3_commit_73 : decode cX3_commit 73 = .ok (.aload_n 0, 1) := by decide +kernel
theorem dX3_commit_74 : decode cX3_commit 74 = .ok (.invokevirtual 137, 3) := by decide +kernel
theorem dX3_commit_77 : decode cX3_commit 77 = .ok (.istore_n 2, 1) := by decide +kernel
theorem dX3_commit_78 : decode cX3_commit 78 = .ok (.aload_n 0, 1) := by decide +kernel
theorem dX3_commit_79 : decode cX3_commit 79 = .ok (.iconst 2, 1) := by decide +kernel
theorem dX3_commit_80 : decode cX3_commit 80 = .ok (.invokevirtual 79, 3) := by decide +kernel
theorem dX3_commit_83 : decode cX3_commit 83 = .ok (.ireturn, 1) := by decide +kernel
theorem dX3_commit_84 : decode cX3_commit 84 = .ok (.aload_n 0, 1) := by decide +kernel
theorem dX3_commit_85 : decode cX3_commit 85 = .ok (.aload_n 0, 1) := by decide +kernel
theorem dX3_commit_86 : decode cX3_commit 86 = .ok (.getfield 134, 3) := by decide +kernel
theorem dX3_commit_89 : decode cX3_commit 89 = .ok (.iload_n 1, 1) := by decide +kernel
theorem dX3_commit_90 : decode cX3_commit 90 = .ok (.iadd, 1) := by decide +kernel
theorem dX3_commit_91 : decode cX3_commit 91 = .ok (.iconst 1, 1) := by decide +kernel
theorem dX3_commit_92 : decode cX3_commit 92 = .ok (.iadd, 1) := by decide +kernel
theorem dX3_commit_93 : decode cX3_commit 93 = .ok (.putfield 134, 3) := by decide +kernel
theorem dX3_commit_96 : decode cX3_commit 96 = .ok (.aload_n 0, 1) := by decide +kernel
theorem dX3_commit_97 : decode cX3_commit 97 = .ok (.aload_n 0, 1) := by decide +kernel
theorem dX3_commit_98 : decode cX3_commit 98 = .ok (.getfield 41, 3) := by decide +kernel
theorem dX3_commit_101 : decode cX3_commit 101 = .ok (.ifCond .ge 10, 3) := by decide +kernel
theorem dX3_commit_104 : decode cX3_commit 104 = .ok (.aload_n 0, 1) := by decide +kernel
theorem dX3_commit_105 : decode cX3_commit 105 = .ok (.getfield 41, 3) := by decide +kernel
theorem dX3_commit_108 : decode cX3_commit 108 = .ok (.goto 11, 3) := by decide +kernel
theorem dX3_commit_111 : decode cX3_commit 111 = .ok (.aload_n 0, 1) := by decide +kernel
theorem dX3_commit_112 : decode cX3_commit 112 = .ok (.getfield 41, 3) := by decide +kernel
theorem dX3_commit_115 : decode cX3_commit 115 = .ok (.iload_n 1, 1) := by decide +kernel
theorem dX3_commit_116 : decode cX3_commit 116 = .ok (.isub, 1) := by decide +kernel
theorem dX3_commit_117 : decode cX3_commit 117 = .ok (.iconst 1, 1) := by decide +kernel
theorem dX3_commit_118 : decode cX3_commit 118 = .ok (.isub, 1) := by decide +kernel
theorem dX3_commit_119 : decode cX3_commit 119 = .ok (.putfield 41, 3) := by decide +kernel
theorem dX3_commit_122 : decode cX3_commit 122 = .ok (.aload_n 0, 1) := by decide +kernel
theorem dX3_commit_123 : decode cX3_commit 123 = .ok (.aload_n 0, 1) := by decide +kernel
theorem dX3_commit_124 : decode cX3_commit 124 = .ok (.getfield 59, 3) := by decide +kernel
theorem dX3_commit_127 : decode cX3_commit 127 = .ok (.putfield 109, 3) := by decide +kernel
theorem dX3_commit_130 : decode cX3_commit 130 = .ok (.iconst 0, 1) := by decide +kernel
theorem dX3_commit_131 : decode cX3_commit 131 = .ok (.istore_n 2, 1) := by decide +kernel
theorem dX3_commit_132 : decode cX3_commit 132 = .ok (.iload_n 2, 1) := by decide +kernel
theorem dX3_commit_133 : decode cX3_commit 133 = .ok (.aload_n 0, 1) := by decide +kernel
theorem dX3_commit_134 : decode cX3_commit 134 = .ok (.getfield 59, 3) := by decide +kernel
theorem dX3_commit_137 : decode cX3_commit 137 = .ok (.if_icmp .ge 57, 3) := by decide +kernel
theorem dX3_commit_140 : decode cX3_commit 140 = .ok (.aload_n 0, 1) := by decide +kernel
theorem dX3_commit_141 : decode cX3_commit 141 = .ok (.getfield 22, 3) := by decide +kernel
theorem dX3_commit_144 : decode cX3_commit 144 = .ok (.iload_n 2, 1) := by decide +kernel
theorem dX3_commit_145 : decode cX3_commit 145 = .ok (.aload_n 0, 1) := by decide +kernel
theorem dX3_commit_146 : decode cX3_commit 146 = .ok (.getfield 7, 3) := by decide +kernel
theorem dX3_commit_149 : decode cX3_commit 149 = .ok (.iload_n 2, 1) := by decide +kernel
theorem dX3_commit_150 : decode cX3_commit 150 = .ok (.iaload, 1) := by decide +kernel
theorem dX3_commit_151 : decode cX3_commit 151 = .ok (.iastore, 1) := by decide +kernel
theorem dX3_commit_152 : decode cX3_commit 152 = .ok (.aload_n 0, 1) := by decide +kernel
theorem dX3_commit_153 : decode cX3_commit 153 = .ok (.getfield 25, 3) := by decide +kernel
theorem dX3_commit_156 : decode cX3_commit 156 = .ok (.iload_n 2, 1) := by decide +kernel
theorem dX3_commit_157 : decode cX3_commit 157 = .ok (.aload_n 0, 1) := by decide +kernel
theorem dX3_commit_158 : decode cX3_commit 158 = .ok (.getfield 13, 3) := by decide +kernel
theorem dX3_commit_161 : decode cX3_commit 161 = .ok (.iload_n 2, 1) := by decide +kernel
theorem dX3_commit_162 : decode cX3_commit 162 = .ok (.iaload, 1) := by decide +kernel
theorem dX3_commit_163 : decode cX3_commit 163 = .ok (.iastore, 1) := by decide +kernel
theorem dX3_commit_164 : decode cX3_commit 164 = .ok (.aload_n 0, 1) := by decide +kernel
theorem dX3_commit_165 : decode cX3_commit 165 = .ok (.getfield 28, 3) := by decide +kernel
theorem dX3_commit_168 : decode cX3_commit 168 = .ok (.iload_n 2, 1) := by decide +kernel
theorem dX3_commit_169 : decode cX3_commit 169 = .ok (.aload_n 0, 1) := by decide +kernel
theorem dX3_commit_170 : decode cX3_commit 170 = .ok (.getfield 16, 3) := by decide +kernel
theorem dX3_commit_173 : decode cX3_commit 173 = .ok (.iload_n 2, 1) := by decide +kernel
theorem dX3_commit_174 : decode cX3_commit 174 = .ok (.iaload, 1) := by decide +kernel
theorem dX3_commit_175 : decode cX3_commit 175 = .ok (.iastore, 1) := by decide +kernel
theorem dX3_commit_176 : decode cX3_commit 176 = .ok (.aload_n 0, 1) := by decide +kernel
theorem dX3_commit_177 : decode cX3_commit 177 = .ok (.getfield 31, 3) := by decide +kernel
theorem dX3_commit_180 : decode cX3_commit 180 = .ok (.iload_n 2, 1) := by decide +kernel
theorem dX3_commit_181 : decode cX3_commit 181 = .ok (.aload_n 0, 1) := by decide +kernel
theorem dX3_commit_182 : decode cX3_commit 182 = .ok (.getfield 19, 3) := by decide +kernel
theorem dX3_commit_185 : decode cX3_commit 185 = .ok (.iload_n 2, 1) := by decide +kernel
theorem dX3_commit_186 : decode cX3_commit 186 = .ok (.iaload, 1) := by decide +kernel
theorem dX3_commit_187 : decode cX3_commit 187 = .ok (.iastore, 1) := by decide +kernel
theorem dX3_commit_188 : decode cX3_commit 188 = .ok (.iinc 2 1, 3) := by decide +kernel
theorem dX3_commit_191 : decode cX3_commit 191 = .ok (.goto (-59), 3) := by decide +kernel
theorem dX3_commit_194 : decode cX3_commit 194 = .ok (.iload_n 1, 1) := by decide +kernel
theorem dX3_commit_195 : decode cX3_commit 195 = .ok (.iconst 1, 1) := by decide +kernel
theorem dX3_commit_196 : decode cX3_commit 196 = .ok (.iadd, 1) := by decide +kernel
theorem dX3_commit_197 : decode cX3_commit 197 = .ok (.ireturn, 1) := by decide +kernel
theorem dX3_charge_0 : decode cX3_charge 0 = .ok (.aload_n 0, 1) := by decide +kernel
theorem dX3_charge_1 : decode cX3_charge 1 = .ok (.iload_n 1, 1) := by decide +kernel
theorem dX3_charge_2 : decode cX3_charge 2 = .ok (.iconst 0, 1) := by decide +kernel
theorem dX3_charge_3 : decode cX3_charge 3 = .ok (.bipush 99, 2) := by decide +kernel
theorem dX3_charge_5 : decode cX3_charge 5 = .ok (.invokestatic 48, 3) := by decide +kernel
theorem dX3_charge_8 : decode cX3_charge 8 = .ok (.ifCond .eq 7, 3) := by decide +kernel
theorem dX3_charge_11 : decode cX3_charge 11 = .ok (.iconst 0, 1) := by decide +kernel
theorem dX3_charge_12 : decode cX3_charge 12 = .ok (.goto 4, 3) := by decide +kernel
theorem dX3_charge_15 : decode cX3_charge 15 = .ok (.iconst 1, 1) := by decide +kernel
theorem dX3_charge_16 : decode cX3_charge 16 = .ok (.putfield 45, 3) := by decide +kernel
theorem dX3_charge_19 : decode cX3_charge 19 = .ok (.aload_n 0, 1) := by decide +kernel
theorem dX3_charge_20 : decode cX3_charge 20 = .ok (.aload_n 0, 1) := by decide +kernel
theorem dX3_charge_21 : decode cX3_charge 21 = .ok (.getfield 45, 3) := by decide +kernel
theorem dX3_charge_24 : decode cX3_charge 24 = .ok (.ifCond .ne 7, 3) := by decide +kernel
theorem dX3_charge_27 : decode cX3_charge 27 = .ok (.iload_n 1, 1) := by decide +kernel
theorem dX3_charge_28 : decode cX3_charge 28 = .ok (.goto 7, 3) := by decide +kernel
theorem dX3_charge_31 : decode cX3_charge 31 = .ok (.aload_n 0, 1) := by decide +kernel
theorem dX3_charge_32 : decode cX3_charge 32 = .ok (.getfield 41, 3) := by decide +kernel
theorem dX3_charge_35 : decode cX3_charge 35 = .ok (.putfield 41, 3) := by decide +kernel
theorem dX3_charge_38 : decode cX3_charge 38 = .ok (.return_, 1) := by decide +kernel
theorem dX3_open_0 : decode cX3_open 0 = .ok (.aload_n 0, 1) := by decide +kernel
theorem dX3_open_1 : decode cX3_open 1 = .ok (.iconst 0, 1) := by decide +kernel
theorem dX3_open_2 : decode cX3_open 2 = .ok (.putfield 45, 3) := by decide +kernel
theorem dX3_open_5 : decode cX3_open 5 = .ok (.aload_n 0, 1) := by decide +kernel
theorem dX3_open_6 : decode cX3_open 6 = .ok (.aload_n 0, 1) := by decide +kernel
theorem dX3_open_7 : decode cX3_open 7 = .ok (.getfield 109, 3) := by decide +kernel
theorem dX3_open_10 : decode cX3_open 10 = .ok (.putfield 59, 3) := by decide +kernel
theorem dX3_open_13 : decode cX3_open 13 = .ok (.iconst 0, 1) := by decide +kernel
theorem dX3_open_14 : decode cX3_open 14 = .ok (.istore_n 1, 1) := by decide +kernel
theorem dX3_open_15 : decode cX3_open 15 = .ok (.iload_n 1, 1) := by decide +kernel
theorem dX3_open_16 : decode cX3_open 16 = .ok (.aload_n 0, 1) := by decide +kernel
theorem dX3_open_17 : decode cX3_open 17 = .ok (.getfield 59, 3) := by decide +kernel
theorem dX3_open_20 : decode cX3_open 20 = .ok (.if_icmp .ge 45, 3) := by decide +kernel
theorem dX3_open_23 : decode cX3_open 23 = .ok (.aload_n 0, 1) := by decide +kernel
theorem dX3_open_24 : decode cX3_open 24 = .ok (.getfield 7, 3) := by decide +kernel
theorem dX3_open_27 : decode cX3_open 27 = .ok (.iload_n 1, 1) := by decide +kernel
theorem dX3_open_28 : decode cX3_open 28 = .ok (.aload_n 0, 1) := by decide +kernel
theorem dX3_open_29 : decode cX3_open 29 = .ok (.getfield 22, 3) := by decide +kernel
theorem dX3_open_32 : decode cX3_open 32 = .ok (.iload_n 1, 1) := by decide +kernel
theorem dX3_open_33 : decode cX3_open 33 = .ok (.iaload, 1) := by decide +kernel
theorem dX3_open_34 : decode cX3_open 34 = .ok (.iastore, 1) := by decide +kernel
theorem dX3_open_35 : decode cX3_open 35 = .ok (.aload_n 0, 1) := by decide +kernel
theorem dX3_open_36 : decode cX3_open 36 = .ok (.getfield 13, 3) := by decide +kernel
theorem dX3_open_39 : decode cX3_open 39 = .ok (.iload_n 1, 1) := by decide +kernel
theorem dX3_open_40 : decode cX3_open 40 = .ok (.aload_n 0, 1) := by decide +kernel
theorem dX3_open_41 : decode cX3_open 41 = .ok (.getfield 25, 3) := by decide +kernel
theorem dX3_open_44 : decode cX3_open 44 = .ok (.iload_n 1, 1) := by decide +kernel
theorem dX3_open_45 : decode cX3_open 45 = .ok (.iaload, 1) := by decide +kernel
theorem dX3_open_46 : decode cX3_open 46 = .ok (.iastore, 1) := by decide +kernel
theorem dX3_open_47 : decode cX3_open 47 = .ok (.aload_n 0, 1) := by decide +kernel
theorem dX3_open_48 : decode cX3_open 48 = .ok (.getfield 16, 3) := by decide +kernel
theorem dX3_open_51 : decode cX3_open 51 = .ok (.iload_n 1, 1) := by decide +kernel
theorem dX3_open_52 : decode cX3_open 52 = .ok (.aload_n 0, 1) := by decide +kernel
theorem dX3_open_53 : decode cX3_open 53 = .ok (.getfield 28, 3) := by decide +kernel
theorem dX3_open_56 : decode cX3_open 56 = .ok (.iload_n 1, 1) := by decide +kernel
theorem dX3_open_57 : decode cX3_open 57 = .ok (.iaload, 1) := by decide +kernel
theorem dX3_open_58 : decode cX3_open 58 = .ok (.iastore, 1) := by decide +kernel
theorem dX3_open_59 : decode cX3_open 59 = .ok (.iinc 1 1, 3) := by decide +kernel
theorem dX3_open_62 : decode cX3_open 62 = .ok (.goto (-47), 3) := by decide +kernel
theorem dX3_open_65 : decode cX3_open 65 = .ok (.aload_n 0, 1) := by decide +kernel
theorem dX3_open_66 : decode cX3_open 66 = .ok (.invokevirtual 90, 3) := by decide +kernel
theorem dX3_open_69 : decode cX3_open 69 = .ok (.aload_n 0, 1) := by decide +kernel
theorem dX3_open_70 : decode cX3_open 70 = .ok (.iconst 0, 1) := by decide +kernel
theorem dX3_open_71 : decode cX3_open 71 = .ok (.putfield 99, 3) := by decide +kernel
theorem dX3_open_74 : decode cX3_open 74 = .ok (.aload_n 0, 1) := by decide +kernel
theorem dX3_open_75 : decode cX3_open 75 = .ok (.iconst 0, 1) := by decide +kernel
theorem dX3_open_76 : decode cX3_open 76 = .ok (.putfield 93, 3) := by decide +kernel
theorem dX3_open_79 : decode cX3_open 79 = .ok (.aload_n 0, 1) := by decide +kernel
theorem dX3_open_80 : decode cX3_open 80 = .ok (.getfield 59, 3) := by decide +kernel
theorem dX3_open_83 : decode cX3_open 83 = .ok (.ireturn, 1) := by decide +kernel
theorem dX3_state_0 : decode cX3_state 0 = .ok (.aload_n 0, 1) := by decide +kernel
theorem dX3_state_1 : decode cX3_state 1 = .ok (.iconst 0, 1) := by decide +kernel
theorem dX3_state_2 : decode cX3_state 2 = .ok (.putfield 45, 3) := by decide +kernel
theorem dX3_state_5 : decode cX3_state 5 = .ok (.iconst 0, 1) := by decide +kernel
theorem dX3_state_6 : decode cX3_state 6 = .ok (.istore_n 2, 1) := by decide +kernel
theorem dX3_state_7 : decode cX3_state 7 = .ok (.iconst 0, 1) := by decide +kernel
theorem dX3_state_8 : decode cX3_state 8 = .ok (.istore_n 3, 1) := by decide +kernel
theorem dX3_state_9 : decode cX3_state 9 = .ok (.iload_n 3, 1) := by decide +kernel
theorem dX3_state_10 : decode cX3_state 10 = .ok (.aload_n 0, 1) := by decide +kernel
theorem dX3_state_11 : decode cX3_state 11 = .ok (.getfield 59, 3) := by decide +kernel
theorem dX3_state_14 : decode cX3_state 14 = .ok (.if_icmp .ge 25, 3) := by decide +kernel
theorem dX3_state_17 : decode cX3_state 17 = .ok (.aload_n 0, 1) := by decide +kernel
theorem dX3_state_18 : decode cX3_state 18 = .ok (.iload_n 3, 1) := by decide +kernel
theorem dX3_state_19 : decode cX3_state 19 = .ok (.invokevirtual 122, 3) := by decide +kernel
theorem dX3_state_22 : decode cX3_state 22 = .ok (.ifCond .eq 9, 3) := by decide +kernel
theorem dX3_state_25 : decode cX3_state 25 = .ok (.iload_n 2, 1) := by decide +kernel
theorem dX3_state_26 : decode cX3_state 26 = .ok (.iconst 1, 1) := by decide +kernel
theorem dX3_state_27 : decode cX3_state 27 = .ok (.iadd, 1) := by decide +kernel
theorem dX3_state_28 : decode cX3_state 28 = .ok (.goto 4, 3) := by decide +kernel
theorem dX3_state_31 : decode cX3_state 31 = .ok (.iload_n 2, 1) := by decide +kernel
theorem dX3_state_32 : decode cX3_state 32 = .ok (.istore_n 2, 1) := by decide +kernel
theorem dX3_state_33 : decode cX3_state 33 = .ok (.iinc 3 1, 3) := by decide +kernel
theorem dX3_state_36 : decode cX3_state 36 = .ok (.goto (-27), 3) := by decide +kernel
theorem dX3_state_39 : decode cX3_state 39 = .ok (.iload_n 1, 1) := by decide +kernel
theorem dX3_state_40 : decode cX3_state 40 = .ok (.ifCond .ne 10, 3) := by decide +kernel
theorem dX3_state_43 : decode cX3_state 43 = .ok (.aload_n 0, 1) := by decide +kernel
theorem dX3_state_44 : decode cX3_state 44 = .ok (.getfield 59, 3) := by decide +kernel
theorem dX3_state_47 : decode cX3_state 47 = .ok (.goto 64, 3) := by decide +kernel
theorem dX3_state_50 : decode cX3_state 50 = .ok (.iload_n 1, 1) := by decide +kernel
theorem dX3_state_51 : decode cX3_state 51 = .ok (.iconst 1, 1) := by decide +kernel
theorem dX3_state_52 : decode cX3_state 52 = .ok (.if_icmp .ne 7, 3) := by decide +kernel
theorem dX3_state_55 : decode cX3_state 55 = .ok (.iload_n 2, 1) := by decide +kernel
theorem dX3_state_56 : decode cX3_state 56 = .ok (.goto 55, 3) := by decide +kernel
theorem dX3_state_59 : decode cX3_state 59 = .ok (.iload_n 1, 1) := by decide +kernel
theorem dX3_state_60 : decode cX3_state 60 = .ok (.iconst 2, 1) := by decide +kernel
theorem dX3_state_61 : decode cX3_state 61 = .ok (.if_icmp .ne 13, 3) := by decide +kernel
theorem dX3_state_64 : decode cX3_state 64 = .ok (.bipush 64, 2) := by decide +kernel
theorem dX3_state_66 : decode cX3_state 66 = .ok (.aload_n 0, 1) := by decide +kernel
theorem dX3_state_67 : decode cX3_state 67 = .ok (.invokevirtual 131, 3) := by decide +kernel
theorem dX3_state_70 : decode cX3_state 70 = .ok (.isub, 1) := by decide +kernel
theorem dX3_state_71 : decode cX3_state 71 = .ok (.goto 40, 3) := by decide +kernel
theorem dX3_state_74 : decode cX3_state 74 = .ok (.iload_n 1, 1) := by decide +kernel
theorem dX3_state_75 : decode cX3_state 75 = .ok (.iconst 3, 1) := by decide +kernel
theorem dX3_state_76 : decode cX3_state 76 = .ok (.if_icmp .ne 10, 3) := by decide +kernel
theorem dX3_state_79 : decode cX3_state 79 = .ok (.aload_n 0, 1) := by decide +kernel
theorem dX3_state_80 : decode cX3_state 80 = .ok (.getfield 134, 3) := by decide +kernel
theorem dX3_state_83 : decode cX3_state 83 = .ok (.goto 28, 3) := by decide +kernel
theorem dX3_state_86 : decode cX3_state 86 = .ok (.iload_n 1, 1) := by decide +kernel
theorem dX3_state_87 : decode cX3_state 87 = .ok (.iconst 4, 1) := by decide +kernel
theorem dX3_state_88 : decode cX3_state 88 = .ok (.if_icmp .ne 10, 3) := by decide +kernel
theorem dX3_state_91 : decode cX3_state 91 = .ok (.aload_n 0, 1) := by decide +kernel
theorem dX3_state_92 : decode cX3_state 92 = .ok (.getfield 99, 3) := by decide +kernel
theorem dX3_state_95 : decode cX3_state 95 = .ok (.goto 16, 3) := by decide +kernel
theorem dX3_state_98 : decode cX3_state 98 = .ok (.iload_n 1, 1) := by decide +kernel
theorem dX3_state_99 : decode cX3_state 99 = .ok (.iconst 5, 1) := by decide +kernel
theorem dX3_state_100 : decode cX3_state 100 = .ok (.if_icmp .ne 10, 3) := by decide +kernel
theorem dX3_state_103 : decode cX3_state 103 = .ok (.aload_n 0, 1) := by decide +kernel
theorem dX3_state_104 : decode cX3_state 104 = .ok (.getfield 109, 3) := by decide +kernel
theorem dX3_state_107 : decode cX3_state 107 = .ok (.goto 4, 3) := by decide +kernel
theorem dX3_state_110 : decode cX3_state 110 = .ok (.iconst (-1), 1) := by decide +kernel
theorem dX3_state_111 : decode cX3_state 111 = .ok (.ireturn, 1) := by decide +kernel
end
section
/-! decode rows: the law. By wip/names.py. -/
theorem dL_add_0 : decode cL_add 0 = .ok (.aload 6, 2) := by decide +kernel
theorem dL_add_2 : decode cL_add 2 = .ok (.iconst 0, 1) := by decide +kernel
theorem dL_add_3 : decode cL_add 3 = .ok (.aload_n 0, 1) := by decide +kernel
theorem dL_add_4 : decode cL_add 4 = .ok (.iload_n 1, 1) := by decide +kernel
theorem dL_add_5 : decode cL_add 5 = .ok (.iload_n 2, 1) := by decide +kernel
theorem dL_add_6 : decode cL_add 6 = .ok (.iload_n 3, 1) := by decide +kernel
theorem dL_add_7 : decode cL_add 7 = .ok (.iload 4, 2) := by decide +kernel
theorem dL_add_9 : decode cL_add 9 = .ok (.iload 5, 2) := by decide +kernel
theorem dL_add_11 : decode cL_add 11 = .ok (.invokevirtual 7, 3) := by decide +kernel
theorem dL_add_14 : decode cL_add 14 = .ok (.i2l, 1) := by decide +kernel
theorem dL_add_15 : decode cL_add 15 = .ok (.lastore, 1) := by decide +kernel
theorem dL_add_16 : decode cL_add 16 = .ok (.goto 11, 3) := by decide +kernel
theorem dL_add_19 : decode cL_add 19 = .ok (.astore 7, 2) := by decide +kernel
theorem dL_add_21 : decode cL_add 21 = .ok (.iconst 1, 1) := by decide +kernel
theorem dL_add_22 : decode cL_add 22 = .ok (.ireturn, 1) := by decide +kernel
theorem dL_add_23 : decode cL_add 23 = .ok (.astore 7, 2) := by decide +kernel
theorem dL_add_25 : decode cL_add 25 = .ok (.iconst 2, 1) := by decide +kernel
theorem dL_add_26 : decode cL_add 26 = .ok (.ireturn, 1) := by decide +kernel
theorem dL_add_27 : decode cL_add 27 = .ok (.iconst 0, 1) := by decide +kernel
theorem dL_add_28 : decode cL_add 28 = .ok (.ireturn, 1) := by decide +kernel
theorem dL_remove_0 : decode cL_remove 0 = .ok (.aload_n 2, 1) := by decide +kernel
theorem dL_remove_1 : decode cL_remove 1 = .ok (.iconst 0, 1) := by decide +kernel
theorem dL_remove_2 : decode cL_remove 2 = .ok (.aload_n 0, 1) := by decide +kernel
theorem dL_remove_3 : decode cL_remove 3 = .ok (.iload_n 1, 1) := by decide +kernel
theorem dL_remove_4 : decode cL_remove 4 = .ok (.invokevirtual 17, 3) := by decide +kernel
theorem dL_remove_7 : decode cL_remove 7 = .ok (.i2l, 1) := by decide +kernel
theorem dL_remove_8 : decode cL_remove 8 = .ok (.lastore, 1) := by decide +kernel
theorem dL_remove_9 : decode cL_remove 9 = .ok (.goto 6, 3) := by decide +kernel
theorem dL_remove_12 : decode cL_remove 12 = .ok (.astore_n 3, 1) := by decide +kernel
theorem dL_remove_13 : decode cL_remove 13 = .ok (.iconst 1, 1) := by decide +kernel
theorem dL_remove_14 : decode cL_remove 14 = .ok (.ireturn, 1) := by decide +kernel
theorem dL_remove_15 : decode cL_remove 15 = .ok (.iconst 0, 1) := by decide +kernel
theorem dL_remove_16 : decode cL_remove 16 = .ok (.ireturn, 1) := by decide +kernel
theorem dL_recolour_0 : decode cL_recolour 0 = .ok (.aload_n 3, 1) := by decide +kernel
theorem dL_recolour_1 : decode cL_recolour 1 = .ok (.iconst 0, 1) := by decide +kernel
theorem dL_recolour_2 : decode cL_recolour 2 = .ok (.aload_n 0, 1) := by decide +kernel
theorem dL_recolour_3 : decode cL_recolour 3 = .ok (.iload_n 1, 1) := by decide +kernel
theorem dL_recolour_4 : decode cL_recolour 4 = .ok (.iload_n 2, 1) := by decide +kernel
theorem dL_recolour_5 : decode cL_recolour 5 = .ok (.invokevirtual 23, 3) := by decide +kernel
theorem dL_recolour_8 : decode cL_recolour 8 = .ok (.i2l, 1) := by decide +kernel
theorem dL_recolour_9 : decode cL_recolour 9 = .ok (.lastore, 1) := by decide +kernel
theorem dL_recolour_10 : decode cL_recolour 10 = .ok (.goto 7, 3) := by decide +kernel
theorem dL_recolour_13 : decode cL_recolour 13 = .ok (.astore 4, 2) := by decide +kernel
theorem dL_recolour_15 : decode cL_recolour 15 = .ok (.iconst 1, 1) := by decide +kernel
theorem dL_recolour_16 : decode cL_recolour 16 = .ok (.ireturn, 1) := by decide +kernel
theorem dL_recolour_17 : decode cL_recolour 17 = .ok (.iconst 0, 1) := by decide +kernel
theorem dL_recolour_18 : decode cL_recolour 18 = .ok (.ireturn, 1) := by decide +kernel
theorem dL_field_0 : decode cL_field 0 = .ok (.aload_n 3, 1) := by decide +kernel
theorem dL_field_1 : decode cL_field 1 = .ok (.iconst 0, 1) := by decide +kernel
theorem dL_field_2 : decode cL_field 2 = .ok (.aload_n 0, 1) := by decide +kernel
theorem dL_field_3 : decode cL_field 3 = .ok (.iload_n 1, 1) := by decide +kernel
theorem dL_field_4 : decode cL_field 4 = .ok (.iload_n 2, 1) := by decide +kernel
theorem dL_field_5 : decode cL_field 5 = .ok (.invokevirtual 27, 3) := by decide +kernel
theorem dL_field_8 : decode cL_field 8 = .ok (.i2l, 1) := by decide +kernel
theorem dL_field_9 : decode cL_field 9 = .ok (.lastore, 1) := by decide +kernel
theorem dL_field_10 : decode cL_field 10 = .ok (.goto 11, 3) := by decide +kernel
theorem dL_field_13 : decode cL_field 13 = .ok (.astore 4, 2) := by decide +kernel
theorem dL_field_15 : decode cL_field 15 = .ok (.iconst 1, 1) := by decide +kernel
theorem dL_field_16 : decode cL_field 16 = .ok (.ireturn, 1) := by decide +kernel
theorem dL_field_17 : decode cL_field 17 = .ok (.astore 4, 2) := by decide +kernel
theorem dL_field_19 : decode cL_field 19 = .ok (.iconst 2, 1) := by decide +kernel
theorem dL_field_20 : decode cL_field 20 = .ok (.ireturn, 1) := by decide +kernel
theorem dL_field_21 : decode cL_field 21 = .ok (.iconst 0, 1) := by decide +kernel
theorem dL_field_22 : decode cL_field 22 = .ok (.ireturn, 1) := by decide +kernel
theorem dL_corner_0 : decode cL_corner 0 = .ok (.aload_n 0, 1) := by decide +kernel
theorem dL_corner_1 : decode cL_corner 1 = .ok (.iload_n 1, 1) := by decide +kernel
theorem dL_corner_2 : decode cL_corner 2 = .ok (.iload_n 2, 1) := by decide +kernel
theorem dL_corner_3 : decode cL_corner 3 = .ok (.iload_n 3, 1) := by decide +kernel
theorem dL_corner_4 : decode cL_corner 4 = .ok (.invokevirtual 30, 3) := by decide +kernel
theorem dL_corner_7 : decode cL_corner 7 = .ok (.goto 7, 3) := by decide +kernel
theorem dL_corner_10 : decode cL_corner 10 = .ok (.astore 4, 2) := by decide +kernel
theorem dL_corner_12 : decode cL_corner 12 = .ok (.iconst 1, 1) := by decide +kernel
theorem dL_corner_13 : decode cL_corner 13 = .ok (.ireturn, 1) := by decide +kernel
theorem dL_corner_14 : decode cL_corner 14 = .ok (.iconst 0, 1) := by decide +kernel
theorem dL_corner_15 : decode cL_corner 15 = .ok (.ireturn, 1) := by decide +kernel
theorem dL_box_0 : decode cL_box 0 = .ok (.aload 5, 2) := by decide +kernel
theorem dL_box_2 : decode cL_box 2 = .ok (.iconst 0, 1) := by decide +kernel
theorem dL_box_3 : decode cL_box 3 = .ok (.aload_n 0, 1) := by decide +kernel
theorem dL_box_4 : decode cL_box 4 = .ok (.iload_n 1, 1) := by decide +kernel
theorem dL_box_5 : decode cL_box 5 = .ok (.iload_n 2, 1) := by decide +kernel
theorem dL_box_6 : decode cL_box 6 = .ok (.iload_n 3, 1) := by decide +kernel
theorem dL_box_7 : decode cL_box 7 = .ok (.iload 4, 2) := by decide +kernel
theorem dL_box_9 : decode cL_box 9 = .ok (.invokevirtual 34, 3) := by decide +kernel
theorem dL_box_12 : decode cL_box 12 = .ok (.i2l, 1) := by decide +kernel
theorem dL_box_13 : decode cL_box 13 = .ok (.lastore, 1) := by decide +kernel
theorem dL_box_14 : decode cL_box 14 = .ok (.goto 7, 3) := by decide +kernel
theorem dL_box_17 : decode cL_box 17 = .ok (.astore 6, 2) := by decide +kernel
theorem dL_box_19 : decode cL_box 19 = .ok (.iconst 1, 1) := by decide +kernel
theorem dL_box_20 : decode cL_box 20 = .ok (.ireturn, 1) := by decide +kernel
theorem dL_box_21 : decode cL_box 21 = .ok (.iconst 0, 1) := by decide +kernel
theorem dL_box_22 : decode cL_box 22 = .ok (.ireturn, 1) := by decide +kernel
theorem dL_next_0 : decode cL_next 0 = .ok (.aload_n 1, 1) := by decide +kernel
theorem dL_next_1 : decode cL_next 1 = .ok (.iconst 0, 1) := by decide +kernel
theorem dL_next_2 : decode cL_next 2 = .ok (.aload_n 0, 1) := by decide +kernel
theorem dL_next_3 : decode cL_next 3 = .ok (.invokevirtual 38, 3) := by decide +kernel
theorem dL_next_6 : decode cL_next 6 = .ok (.i2l, 1) := by decide +kernel
theorem dL_next_7 : decode cL_next 7 = .ok (.lastore, 1) := by decide +kernel
theorem dL_next_8 : decode cL_next 8 = .ok (.goto 6, 3) := by decide +kernel
theorem dL_next_11 : decode cL_next 11 = .ok (.astore_n 2, 1) := by decide +kernel
theorem dL_next_12 : decode cL_next 12 = .ok (.iconst 1, 1) := by decide +kernel
theorem dL_next_13 : decode cL_next 13 = .ok (.ireturn, 1) := by decide +kernel
theorem dL_next_14 : decode cL_next 14 = .ok (.iconst 0, 1) := by decide +kernel
theorem dL_next_15 : decode cL_next 15 = .ok (.ireturn, 1) := by decide +kernel
theorem dL_count_0 : decode cL_count 0 = .ok (.aload 4, 2) := by decide +kernel
theorem dL_count_2 : decode cL_count 2 = .ok (.iconst 0, 1) := by decide +kernel
theorem dL_count_3 : decode cL_count 3 = .ok (.aload_n 0, 1) := by decide +kernel
theorem dL_count_4 : decode cL_count 4 = .ok (.iload_n 1, 1) := by decide +kernel
theorem dL_count_5 : decode cL_count 5 = .ok (.iload_n 2, 1) := by decide +kernel
theorem dL_count_6 : decode cL_count 6 = .ok (.iload_n 3, 1) := by decide +kernel
theorem dL_count_7 : decode cL_count 7 = .ok (.invokevirtual 42, 3) := by decide +kernel
theorem dL_count_10 : decode cL_count 10 = .ok (.i2l, 1) := by decide +kernel
theorem dL_count_11 : decode cL_count 11 = .ok (.lastore, 1) := by decide +kernel
theorem dL_count_12 : decode cL_count 12 = .ok (.goto 7, 3) := by decide +kernel
theorem dL_count_15 : decode cL_count 15 = .ok (.astore 5, 2) := by decide +kernel
theorem dL_count_17 : decode cL_count 17 = .ok (.iconst 1, 1) := by decide +kernel
theorem dL_count_18 : decode cL_count 18 = .ok (.ireturn, 1) := by decide +kernel
theorem dL_count_19 : decode cL_count 19 = .ok (.iconst 0, 1) := by decide +kernel
theorem dL_count_20 : decode cL_count 20 = .ok (.ireturn, 1) := by decide +kernel
theorem dL_nearest_0 : decode cL_nearest 0 = .ok (.aload 5, 2) := by decide +kernel
theorem dL_nearest_2 : decode cL_nearest 2 = .ok (.iconst 0, 1) := by decide +kernel
theorem dL_nearest_3 : decode cL_nearest 3 = .ok (.aload_n 0, 1) := by decide +kernel
theorem dL_nearest_4 : decode cL_nearest 4 = .ok (.iload_n 1, 1) := by decide +kernel
theorem dL_nearest_5 : decode cL_nearest 5 = .ok (.iload_n 2, 1) := by decide +kernel
theorem dL_nearest_6 : decode cL_nearest 6 = .ok (.iload_n 3, 1) := by decide +kernel
theorem dL_nearest_7 : decode cL_nearest 7 = .ok (.iload 4, 2) := by decide +kernel
theorem dL_nearest_9 : decode cL_nearest 9 = .ok (.invokevirtual 46, 3) := by decide +kernel
theorem dL_nearest_12 : decode cL_nearest 12 = .ok (.i2l, 1) := by decide +kernel
theorem dL_nearest_13 : decode cL_nearest 13 = .ok (.lastore, 1) := by decide +kernel
theorem dL_nearest_14 : decode cL_nearest 14 = .ok (.goto 11, 3) := by decide +kernel
theorem dL_nearest_17 : decode cL_nearest 17 = .ok (.astore 6, 2) := by decide +kernel
theorem dL_nearest_19 : decode cL_nearest 19 = .ok (.iconst 1, 1) := by decide +kernel
theorem dL_nearest_20 : decode cL_nearest 20 = .ok (.ireturn, 1) := by decide +kernel
theorem dL_nearest_21 : decode cL_nearest 21 = .ok (.astore 6, 2) := by decide +kernel
theorem dL_nearest_23 : decode cL_nearest 23 = .ok (.iconst 2, 1) := by decide +kernel
theorem dL_nearest_24 : decode cL_nearest 24 = .ok (.ireturn, 1) := by decide +kernel
theorem dL_nearest_25 : decode cL_nearest 25 = .ok (.iconst 0, 1) := by decide +kernel
theorem dL_nearest_26 : decode cL_nearest 26 = .ok (.ireturn, 1) := by decide +kernel
theorem dL_kept_0 : decode cL_kept 0 = .ok (.aload 6, 2) := by decide +kernel
theorem dL_kept_2 : decode cL_kept 2 = .ok (.iconst 0, 1) := by decide +kernel
theorem dL_kept_3 : decode cL_kept 3 = .ok (.aload_n 0, 1) := by decide +kernel
theorem dL_kept_4 : decode cL_kept 4 = .ok (.iload_n 1, 1) := by decide +kernel
theorem dL_kept_5 : decode cL_kept 5 = .ok (.iload_n 2, 1) := by decide +kernel
theorem dL_kept_6 : decode cL_kept 6 = .ok (.iload_n 3, 1) := by decide +kernel
theorem dL_kept_7 : decode cL_kept 7 = .ok (.iload 4, 2) := by decide +kernel
theorem dL_kept_9 : decode cL_kept 9 = .ok (.iload 5, 2) := by decide +kernel
theorem dL_kept_11 : decode cL_kept 11 = .ok (.invokevirtual 49, 3) := by decide +kernel
theorem dL_kept_14 : decode cL_kept 14 = .ok (.i2l, 1) := by decide +kernel
theorem dL_kept_15 : decode cL_kept 15 = .ok (.lastore, 1) := by decide +kernel
theorem dL_kept_16 : decode cL_kept 16 = .ok (.goto 11, 3) := by decide +kernel
theorem dL_kept_19 : decode cL_kept 19 = .ok (.astore 7, 2) := by decide +kernel
theorem dL_kept_21 : decode cL_kept 21 = .ok (.iconst 1, 1) := by decide +kernel
theorem dL_kept_22 : decode cL_kept 22 = .ok (.ireturn, 1) := by decide +kernel
theorem dL_kept_23 : decode cL_kept 23 = .ok (.astore 7, 2) := by decide +kernel
theorem dL_kept_25 : decode cL_kept 25 = .ok (.iconst 2, 1) := by decide +kernel
theorem dL_kept_26 : decode cL_kept 26 = .ok (.ireturn, 1) := by decide +kernel
theorem dL_kept_27 : decode cL_kept 27 = .ok (.iconst 0, 1) := by decide +kernel
theorem dL_kept_28 : decode cL_kept 28 = .ok (.ireturn, 1) := by decide +kernel
theorem dL_commit_0 : decode cL_commit 0 = .ok (.aload_n 1, 1) := by decide +kernel
theorem dL_commit_1 : decode cL_commit 1 = .ok (.iconst 0, 1) := by decide +kernel
theorem dL_commit_2 : decode cL_commit 2 = .ok (.aload_n 0, 1) := by decide +kernel
theorem dL_commit_3 : decode cL_commit 3 = .ok (.invokevirtual 52, 3) := by decide +kernel
theorem dL_commit_6 : decode cL_commit 6 = .ok (.i2l, 1) := by decide +kernel
theorem dL_commit_7 : decode cL_commit 7 = .ok (.lastore, 1) := by decide +kernel
theorem dL_commit_8 : decode cL_commit 8 = .ok (.goto 9, 3) := by decide +kernel
theorem dL_commit_11 : decode cL_commit 11 = .ok (.astore_n 2, 1) := by decide +kernel
theorem dL_commit_12 : decode cL_commit 12 = .ok (.iconst 1, 1) := by decide +kernel
theorem dL_commit_13 : decode cL_commit 13 = .ok (.ireturn, 1) := by decide +kernel
theorem dL_commit_14 : decode cL_commit 14 = .ok (.astore_n 2, 1) := by decide +kernel
theorem dL_commit_15 : decode cL_commit 15 = .ok (.iconst 2, 1) := by decide +kernel
theorem dL_commit_16 : decode cL_commit 16 = .ok (.ireturn, 1) := by decide +kernel
theorem dL_commit_17 : decode cL_commit 17 = .ok (.iconst 0, 1) := by decide +kernel
theorem dL_commit_18 : decode cL_commit 18 = .ok (.ireturn, 1) := by decide +kernel
theorem dL_charge_0 : decode cL_charge 0 = .ok (.aload_n 0, 1) := by decide +kernel
theorem dL_charge_1 : decode cL_charge 1 = .ok (.iload_n 1, 1) := by decide +kernel
theorem dL_charge_2 : decode cL_charge 2 = .ok (.invokevirtual 57, 3) := by decide +kernel
theorem dL_charge_5 : decode cL_charge 5 = .ok (.goto 6, 3) := by decide +kernel
theorem dL_charge_8 : decode cL_charge 8 = .ok (.astore_n 2, 1) := by decide +kernel
theorem dL_charge_9 : decode cL_charge 9 = .ok (.iconst 1, 1) := by decide +kernel
theorem dL_charge_10 : decode cL_charge 10 = .ok (.ireturn, 1) := by decide +kernel
theorem dL_charge_11 : decode cL_charge 11 = .ok (.iconst 0, 1) := by decide +kernel
theorem dL_charge_12 : decode cL_charge 12 = .ok (.ireturn, 1) := by decide +kernel
theorem dL_law_0 : decode cL_law 0 = .ok (.new 8, 3) := by decide +kernel
theorem dL_law_3 : decode cL_law 3 = .ok (.dup, 1) := by decide +kernel
theorem dL_law_4 : decode cL_law 4 = .ok (.invokespecial 61, 3) := by decide +kernel
theorem dL_law_7 : decode cL_law 7 = .ok (.astore_n 1, 1) := by decide +kernel
theorem dL_law_8 : decode cL_law 8 = .ok (.new 62, 3) := by decide +kernel
theorem dL_law_11 : decode cL_law 11 = .ok (.dup, 1) := by decide +kernel
theorem dL_law_12 : decode cL_law 12 = .ok (.invokespecial 64, 3) := by decide +kernel
theorem dL_law_15 : decode cL_law 15 = .ok (.astore_n 2, 1) := by decide +kernel
theorem dL_law_16 : decode cL_law 16 = .ok (.iconst 1, 1) := by decide +kernel
theorem dL_law_17 : decode cL_law 17 = .ok (.newarray .long, 2) := by decide +kernel
theorem dL_law_19 : decode cL_law 19 = .ok (.astore_n 3, 1) := by decide +kernel
theorem dL_law_20 : decode cL_law 20 = .ok (.iconst 0, 1) := by decide +kernel
theorem dL_law_21 : decode cL_law 21 = .ok (.istore 4, 2) := by decide +kernel
theorem dL_law_23 : decode cL_law 23 = .ok (.iload 4, 2) := by decide +kernel
theorem dL_law_25 : decode cL_law 25 = .ok (.aload_n 0, 1) := by decide +kernel
theorem dL_law_26 : decode cL_law 26 = .ok (.arraylength, 1) := by decide +kernel
theorem dL_law_27 : decode cL_law 27 = .ok (.bipush 6, 2) := by decide +kernel
theorem dL_law_29 : decode cL_law 29 = .ok (.isub, 1) := by decide +kernel
theorem dL_law_30 : decode cL_law 30 = .ok (.if_icmp .gt 1004, 3) := by decide +kernel
theorem dL_law_33 : decode cL_law 33 = .ok (.aload_n 0, 1) := by decide +kernel
theorem dL_law_34 : decode cL_law 34 = .ok (.iload 4, 2) := by decide +kernel
theorem dL_law_36 : decode cL_law 36 = .ok (.iaload, 1) := by decide +kernel
theorem dL_law_37 : decode cL_law 37 = .ok (.bipush 15, 2) := by decide +kernel
theorem dL_law_39 : decode cL_law 39 = .ok (.iand, 1) := by decide +kernel
theorem dL_law_40 : decode cL_law 40 = .ok (.tableswitch 988 0 14 #[76, 180, 236, 304, 372, 432, 524, 568, 648, 740, 844, 888, 924, 937, 962], 76) := by decide +kernel
theorem dL_law_116 : decode cL_law 116 = .ok (.aload_n 1, 1) := by decide +kernel
theorem dL_law_117 : decode cL_law 117 = .ok (.aload_n 0, 1) := by decide +kernel
theorem dL_law_118 : decode cL_law 118 = .ok (.iload 4, 2) := by decide +kernel
theorem dL_law_120 : decode cL_law 120 = .ok (.iconst 1, 1) := by decide +kernel
theorem dL_law_121 : decode cL_law 121 = .ok (.iadd, 1) := by decide +kernel
theorem dL_law_122 : decode cL_law 122 = .ok (.iaload, 1) := by decide +kernel
theorem dL_law_123 : decode cL_law 123 = .ok (.aload_n 0, 1) := by decide +kernel
theorem dL_law_124 : decode cL_law 124 = .ok (.iload 4, 2) := by decide +kernel
theorem dL_law_126 : decode cL_law 126 = .ok (.iconst 2, 1) := by decide +kernel
theorem dL_law_127 : decode cL_law 127 = .ok (.iadd, 1) := by decide +kernel
theorem dL_law_128 : decode cL_law 128 = .ok (.iaload, 1) := by decide +kernel
theorem dL_law_129 : decode cL_law 129 = .ok (.aload_n 0, 1) := by decide +kernel
theorem dL_law_130 : decode cL_law 130 = .ok (.iload 4, 2) := by decide +kernel
theorem dL_law_132 : decode cL_law 132 = .ok (.iconst 3, 1) := by decide +kernel
theorem dL_law_133 : decode cL_law 133 = .ok (.iadd, 1) := by decide +kernel
theorem dL_law_134 : decode cL_law 134 = .ok (.iaload, 1) := by decide +kernel
theorem dL_law_135 : decode cL_law 135 = .ok (.aload_n 0, 1) := by decide +kernel
theorem dL_law_136 : decode cL_law 136 = .ok (.iload 4, 2) := by decide +kernel
theorem dL_law_138 : decode cL_law 138 = .ok (.iconst 4, 1) := by decide +kernel
theorem dL_law_139 : decode cL_law 139 = .ok (.iadd, 1) := by decide +kernel
theorem dL_law_140 : decode cL_law 140 = .ok (.iaload, 1) := by decide +kernel
theorem dL_law_141 : decode cL_law 141 = .ok (.aload_n 0, 1) := by decide +kernel
theorem dL_law_142 : decode cL_law 142 = .ok (.iload 4, 2) := by decide +kernel
theorem dL_law_144 : decode cL_law 144 = .ok (.iconst 5, 1) := by decide +kernel
theorem dL_law_145 : decode cL_law 145 = .ok (.iadd, 1) := by decide +kernel
theorem dL_law_146 : decode cL_law 146 = .ok (.iaload, 1) := by decide +kernel
theorem dL_law_147 : decode cL_law 147 = .ok (.aload_n 3, 1) := by decide +kernel
theorem dL_law_148 : decode cL_law 148 = .ok (.invokestatic 65, 3) := by decide +kernel
theorem dL_law_151 : decode cL_law 151 = .ok (.istore 5, 2) := by decide +kernel
theorem dL_law_153 : decode cL_law 153 = .ok (.aload_n 2, 1) := by decide +kernel
theorem dL_law_154 : decode cL_law 154 = .ok (.aload_n 0, 1) := by decide +kernel
theorem dL_law_155 : decode cL_law 155 = .ok (.iload 4, 2) := by decide +kernel
theorem dL_law_157 : decode cL_law 157 = .ok (.iconst 1, 1) := by decide +kernel
theorem dL_law_158 : decode cL_law 158 = .ok (.iadd, 1) := by decide +kernel
theorem dL_law_159 : decode cL_law 159 = .ok (.iaload, 1) := by decide +kernel
theorem dL_law_160 : decode cL_law 160 = .ok (.aload_n 0, 1) := by decide +kernel
theorem dL_law_161 : decode cL_law 161 = .ok (.iload 4, 2) := by decide +kernel
theorem dL_law_163 : decode cL_law 163 = .ok (.iconst 2, 1) := by decide +kernel
theorem dL_law_164 : decode cL_law 164 = .ok (.iadd, 1) := by decide +kernel
theorem dL_law_165 : decode cL_law 165 = .ok (.iaload, 1) := by decide +kernel
theorem dL_law_166 : decode cL_law 166 = .ok (.aload_n 0, 1) := by decide +kernel
theorem dL_law_167 : decode cL_law 167 = .ok (.iload 4, 2) := by decide +kernel
theorem dL_law_169 : decode cL_law 169 = .ok (.iconst 3, 1) := by decide +kernel
theorem dL_law_170 : decode cL_law 170 = .ok (.iadd, 1) := by decide +kernel
theorem dL_law_171 : decode cL_law 171 = .ok (.iaload, 1) := by decide +kernel
theorem dL_law_172 : decode cL_law 172 = .ok (.aload_n 0, 1) := by decide +kernel
theorem dL_law_173 : decode cL_law 173 = .ok (.iload 4, 2) := by decide +kernel
theorem dL_law_175 : decode cL_law 175 = .ok (.iconst 4, 1) := by decide +kernel
theorem dL_law_176 : decode cL_law 176 = .ok (.iadd, 1) := by decide +kernel
theorem dL_law_177 : decode cL_law 177 = .ok (.iaload, 1) := by decide +kernel
theorem dL_law_178 : decode cL_law 178 = .ok (.aload_n 0, 1) := by decide +kernel
theorem dL_law_179 : decode cL_law 179 = .ok (.iload 4, 2) := by decide +kernel
theorem dL_law_181 : decode cL_law 181 = .ok (.iconst 5, 1) := by decide +kernel
theorem dL_law_182 : decode cL_law 182 = .ok (.iadd, 1) := by decide +kernel
theorem dL_law_183 : decode cL_law 183 = .ok (.iaload, 1) := by decide +kernel
theorem dL_law_184 : decode cL_law 184 = .ok (.invokevirtual 70, 3) := by decide +kernel
theorem dL_law_187 : decode cL_law 187 = .ok (.istore 6, 2) := by decide +kernel
theorem dL_law_189 : decode cL_law 189 = .ok (.aload_n 2, 1) := by decide +kernel
theorem dL_law_190 : decode cL_law 190 = .ok (.invokevirtual 71, 3) := by decide +kernel
theorem dL_law_193 : decode cL_law 193 = .ok (.iload 5, 2) := by decide +kernel
theorem dL_law_195 : decode cL_law 195 = .ok (.if_icmp .eq 5, 3) := by decide +kernel
theorem dL_law_198 : decode cL_law 198 = .ok (.iconst 0, 1) := by decide +kernel
theorem dL_law_199 : decode cL_law 199 = .ok (.ireturn, 1) := by decide +kernel
theorem dL_law_200 : decode cL_law 200 = .ok (.iload 5, 2) := by decide +kernel
theorem dL_law_202 : decode cL_law 202 = .ok (.ifCond .ne 15, 3) := by decide +kernel
theorem dL_law_205 : decode cL_law 205 = .ok (.aload_n 3, 1) := by decide +kernel
theorem dL_law_206 : decode cL_law 206 = .ok (.iconst 0, 1) := by decide +kernel
theorem dL_law_207 : decode cL_law 207 = .ok (.laload, 1) := by decide +kernel
theorem dL_law_208 : decode cL_law 208 = .ok (.iload 6, 2) := by decide +kernel
theorem dL_law_210 : decode cL_law 210 = .ok (.i2l, 1) := by decide +kernel
theorem dL_law_211 : decode cL_law 211 = .ok (.lcmp, 1) := by decide +kernel
theorem dL_law_212 : decode cL_law 212 = .ok (.ifCond .eq 5, 3) := by decide +kernel
theorem dL_law_215 : decode cL_law 215 = .ok (.iconst 0, 1) := by decide +kernel
theorem dL_law_216 : decode cL_law 216 = .ok (.ireturn, 1) := by decide +kernel
theorem dL_law_217 : decode cL_law 217 = .ok (.goto 811, 3) := by decide +kernel
theorem dL_law_220 : decode cL_law 220 = .ok (.aload_n 1, 1) := by decide +kernel
theorem dL_law_221 : decode cL_law 221 = .ok (.aload_n 0, 1) := by decide +kernel
theorem dL_law_222 : decode cL_law 222 = .ok (.iload 4, 2) := by decide +kernel
theorem dL_law_224 : decode cL_law 224 = .ok (.iconst 1, 1) := by decide +kernel
theorem dL_law_225 : decode cL_law 225 = .ok (.iadd, 1) := by decide +kernel
theorem dL_law_226 : decode cL_law 226 = .ok (.iaload, 1) := by decide +kernel
theorem dL_law_227 : decode cL_law 227 = .ok (.aload_n 3, 1) := by decide +kernel
theorem dL_law_228 : decode cL_law 228 = .ok (.invokestatic 74, 3) := by decide +kernel
theorem dL_law_231 : decode cL_law 231 = .ok (.istore 5, 2) := by decide +kernel
theorem dL_law_233 : decode cL_law 233 = .ok (.aload_n 2, 1) := by decide +kernel
theorem dL_law_234 : decode cL_law 234 = .ok (.aload_n 0, 1) := by decide +kernel
theorem dL_law_235 : decode cL_law 235 = .ok (.iload 4, 2) := by decide +kernel
theorem dL_law_237 : decode cL_law 237 = .ok (.iconst 1, 1) := by decide +kernel
theorem dL_law_238 : decode cL_law 238 = .ok (.iadd, 1) := by decide +kernel
theorem dL_law_239 : decode cL_law 239 = .ok (.iaload, 1) := by decide +kernel
theorem dL_law_240 : decode cL_law 240 = .ok (.invokevirtual 77, 3) := by decide +kernel
theorem dL_law_243 : decode cL_law 243 = .ok (.istore 6, 2) := by decide +kernel
theorem dL_law_245 : decode cL_law 245 = .ok (.aload_n 2, 1) := by decide +kernel
theorem dL_law_246 : decode cL_law 246 = .ok (.invokevirtual 71, 3) := by decide +kernel
theorem dL_law_249 : decode cL_law 249 = .ok (.iload 5, 2) := by decide +kernel
theorem dL_law_251 : decode cL_law 251 = .ok (.if_icmp .eq 5, 3) := by decide +kernel
theorem dL_law_254 : decode cL_law 254 = .ok (.iconst 0, 1) := by decide +kernel
theorem dL_law_255 : decode cL_law 255 = .ok (.ireturn, 1) := by decide +kernel
theorem dL_law_256 : decode cL_law 256 = .ok (.iload 5, 2) := by decide +kernel
theorem dL_law_258 : decode cL_law 258 = .ok (.ifCond .ne 15, 3) := by decide +kernel
theorem dL_law_261 : decode cL_law 261 = .ok (.aload_n 3, 1) := by decide +kernel
theorem dL_law_262 : decode cL_law 262 = .ok (.iconst 0, 1) := by decide +kernel
theorem dL_law_263 : decode cL_law 263 = .ok (.laload, 1) := by decide +kernel
theorem dL_law_264 : decode cL_law 264 = .ok (.iload 6, 2) := by decide +kernel
theorem dL_law_266 : decode cL_law 266 = .ok (.i2l, 1) := by decide +kernel
theorem dL_law_267 : decode cL_law 267 = .ok (.lcmp, 1) := by decide +kernel
theorem dL_law_268 : decode cL_law 268 = .ok (.ifCond .eq 5, 3) := by decide +kernel
theorem dL_law_271 : decode cL_law 271 = .ok (.iconst 0, 1) := by decide +kernel
theorem dL_law_272 : decode cL_law 272 = .ok (.ireturn, 1) := by decide +kernel
theorem dL_law_273 : decode cL_law 273 = .ok (.goto 755, 3) := by decide +kernel
theorem dL_law_276 : decode cL_law 276 = .ok (.aload_n 1, 1) := by decide +kernel
theorem dL_law_277 : decode cL_law 277 = .ok (.aload_n 0, 1) := by decide +kernel
theorem dL_law_278 : decode cL_law 278 = .ok (.iload 4, 2) := by decide +kernel
theorem dL_law_280 : decode cL_law 280 = .ok (.iconst 1, 1) := by decide +kernel
theorem dL_law_281 : decode cL_law 281 = .ok (.iadd, 1) := by decide +kernel
theorem dL_law_282 : decode cL_law 282 = .ok (.iaload, 1) := by decide +kernel
theorem dL_law_283 : decode cL_law 283 = .ok (.aload_n 0, 1) := by decide +kernel
theorem dL_law_284 : decode cL_law 284 = .ok (.iload 4, 2) := by decide +kernel
theorem dL_law_286 : decode cL_law 286 = .ok (.iconst 2, 1) := by decide +kernel
theorem dL_law_287 : decode cL_law 287 = .ok (.iadd, 1) := by decide +kernel
theorem dL_law_288 : decode cL_law 288 = .ok (.iaload, 1) := by decide +kernel
theorem dL_law_289 : decode cL_law 289 = .ok (.aload_n 3, 1) := by decide +kernel
theorem dL_law_290 : decode cL_law 290 = .ok (.invokestatic 78, 3) := by decide +kernel
theorem dL_law_293 : decode cL_law 293 = .ok (.istore 5, 2) := by decide +kernel
theorem dL_law_295 : decode cL_law 295 = .ok (.aload_n 2, 1) := by decide +kernel
theorem dL_law_296 : decode cL_law 296 = .ok (.aload_n 0, 1) := by decide +kernel
theorem dL_law_297 : decode cL_law 297 = .ok (.iload 4, 2) := by decide +kernel
theorem dL_law_299 : decode cL_law 299 = .ok (.iconst 1, 1) := by decide +kernel
theorem dL_law_300 : decode cL_law 300 = .ok (.iadd, 1) := by decide +kernel
theorem dL_law_301 : decode cL_law 301 = .ok (.iaload, 1) := by decide +kernel
theorem dL_law_302 : decode cL_law 302 = .ok (.aload_n 0, 1) := by decide +kernel
theorem dL_law_303 : decode cL_law 303 = .ok (.iload 4, 2) := by decide +kernel
theorem dL_law_305 : decode cL_law 305 = .ok (.iconst 2, 1) := by decide +kernel
theorem dL_law_306 : decode cL_law 306 = .ok (.iadd, 1) := by decide +kernel
theorem dL_law_307 : decode cL_law 307 = .ok (.iaload, 1) := by decide +kernel
theorem dL_law_308 : decode cL_law 308 = .ok (.invokevirtual 81, 3) := by decide +kernel
theorem dL_law_311 : decode cL_law 311 = .ok (.istore 6, 2) := by decide +kernel
theorem dL_law_313 : decode cL_law 313 = .ok (.aload_n 2, 1) := by decide +kernel
theorem dL_law_314 : decode cL_law 314 = .ok (.invokevirtual 71, 3) := by decide +kernel
theorem dL_law_317 : decode cL_law 317 = .ok (.iload 5, 2) := by decide +kernel
theorem dL_law_319 : decode cL_law 319 = .ok (.if_icmp .eq 5, 3) := by decide +kernel
theorem dL_law_322 : decode cL_law 322 = .ok (.iconst 0, 1) := by decide +kernel
theorem dL_law_323 : decode cL_law 323 = .ok (.ireturn, 1) := by decide +kernel
theorem dL_law_324 : decode cL_law 324 = .ok (.iload 5, 2) := by decide +kernel
theorem dL_law_326 : decode cL_law 326 = .ok (.ifCond .ne 15, 3) := by decide +kernel
theorem dL_law_329 : decode cL_law 329 = .ok (.aload_n 3, 1) := by decide +kernel
theorem dL_law_330 : decode cL_law 330 = .ok (.iconst 0, 1) := by decide +kernel
theorem dL_law_331 : decode cL_law 331 = .ok (.laload, 1) := by decide +kernel
theorem dL_law_332 : decode cL_law 332 = .ok (.iload 6, 2) := by decide +kernel
theorem dL_law_334 : decode cL_law 334 = .ok (.i2l, 1) := by decide +kernel
theorem dL_law_335 : decode cL_law 335 = .ok (.lcmp, 1) := by decide +kernel
theorem dL_law_336 : decode cL_law 336 = .ok (.ifCond .eq 5, 3) := by decide +kernel
theorem dL_law_339 : decode cL_law 339 = .ok (.iconst 0, 1) := by decide +kernel
theorem dL_law_340 : decode cL_law 340 = .ok (.ireturn, 1) := by decide +kernel
theorem dL_law_341 : decode cL_law 341 = .ok (.goto 687, 3) := by decide +kernel
theorem dL_law_344 : decode cL_law 344 = .ok (.aload_n 1, 1) := by decide +kernel
theorem dL_law_345 : decode cL_law 345 = .ok (.aload_n 0, 1) := by decide +kernel
theorem dL_law_346 : decode cL_law 346 = .ok (.iload 4, 2) := by decide +kernel
theorem dL_law_348 : decode cL_law 348 = .ok (.iconst 1, 1) := by decide +kernel
theorem dL_law_349 : decode cL_law 349 = .ok (.iadd, 1) := by decide +kernel
theorem dL_law_350 : decode cL_law 350 = .ok (.iaload, 1) := by decide +kernel
theorem dL_law_351 : decode cL_law 351 = .ok (.aload_n 0, 1) := by decide +kernel
theorem dL_law_352 : decode cL_law 352 = .ok (.iload 4, 2) := by decide +kernel
theorem dL_law_354 : decode cL_law 354 = .ok (.iconst 2, 1) := by decide +kernel
theorem dL_law_355 : decode cL_law 355 = .ok (.iadd, 1) := by decide +kernel
theorem dL_law_356 : decode cL_law 356 = .ok (.iaload, 1) := by decide +kernel
theorem dL_law_357 : decode cL_law 357 = .ok (.aload_n 3, 1) := by decide +kernel
theorem dL_law_358 : decode cL_law 358 = .ok (.invokestatic 82, 3) := by decide +kernel
theorem dL_law_361 : decode cL_law 361 = .ok (.istore 5, 2) := by decide +kernel
theorem dL_law_363 : decode cL_law 363 = .ok (.aload_n 2, 1) := by decide +kernel
theorem dL_law_364 : decode cL_law 364 = .ok (.aload_n 0, 1) := by decide +kernel
theorem dL_law_365 : decode cL_law 365 = .ok (.iload 4, 2) := by decide +kernel
theorem dL_law_367 : decode cL_law 367 = .ok (.iconst 1, 1) := by decide +kernel
theorem dL_law_368 : decode cL_law 368 = .ok (.iadd, 1) := by decide +kernel
theorem dL_law_369 : decode cL_law 369 = .ok (.iaload, 1) := by decide +kernel
theorem dL_law_370 : decode cL_law 370 = .ok (.aload_n 0, 1) := by decide +kernel
theorem dL_law_371 : decode cL_law 371 = .ok (.iload 4, 2) := by decide +kernel
theorem dL_law_373 : decode cL_law 373 = .ok (.iconst 2, 1) := by decide +kernel
theorem dL_law_374 : decode cL_law 374 = .ok (.iadd, 1) := by decide +kernel
theorem dL_law_375 : decode cL_law 375 = .ok (.iaload, 1) := by decide +kernel
theorem dL_law_376 : decode cL_law 376 = .ok (.invokevirtual 84, 3) := by decide +kernel
theorem dL_law_379 : decode cL_law 379 = .ok (.istore 6, 2) := by decide +kernel
theorem dL_law_381 : decode cL_law 381 = .ok (.aload_n 2, 1) := by decide +kernel
theorem dL_law_382 : decode cL_law 382 = .ok (.invokevirtual 71, 3) := by decide +kernel
theorem dL_law_385 : decode cL_law 385 = .ok (.iload 5, 2) := by decide +kernel
theorem dL_law_387 : decode cL_law 387 = .ok (.if_icmp .eq 5, 3) := by decide +kernel
theorem dL_law_390 : decode cL_law 390 = .ok (.iconst 0, 1) := by decide +kernel
theorem dL_law_391 : decode cL_law 391 = .ok (.ireturn, 1) := by decide +kernel
theorem dL_law_392 : decode cL_law 392 = .ok (.iload 5, 2) := by decide +kernel
theorem dL_law_394 : decode cL_law 394 = .ok (.ifCond .ne 15, 3) := by decide +kernel
theorem dL_law_397 : decode cL_law 397 = .ok (.aload_n 3, 1) := by decide +kernel
theorem dL_law_398 : decode cL_law 398 = .ok (.iconst 0, 1) := by decide +kernel
theorem dL_law_399 : decode cL_law 399 = .ok (.laload, 1) := by decide +kernel
theorem dL_law_400 : decode cL_law 400 = .ok (.iload 6, 2) := by decide +kernel
theorem dL_law_402 : decode cL_law 402 = .ok (.i2l, 1) := by decide +kernel
theorem dL_law_403 : decode cL_law 403 = .ok (.lcmp, 1) := by decide +kernel
theorem dL_law_404 : decode cL_law 404 = .ok (.ifCond .eq 5, 3) := by decide +kernel
theorem dL_law_407 : decode cL_law 407 = .ok (.iconst 0, 1) := by decide +kernel
theorem dL_law_408 : decode cL_law 408 = .ok (.ireturn, 1) := by decide +kernel
theorem dL_law_409 : decode cL_law 409 = .ok (.goto 619, 3) := by decide +kernel
theorem dL_law_412 : decode cL_law 412 = .ok (.aload_n 1, 1) := by decide +kernel
theorem dL_law_413 : decode cL_law 413 = .ok (.aload_n 0, 1) := by decide +kernel
theorem dL_law_414 : decode cL_law 414 = .ok (.iload 4, 2) := by decide +kernel
theorem dL_law_416 : decode cL_law 416 = .ok (.iconst 1, 1) := by decide +kernel
theorem dL_law_417 : decode cL_law 417 = .ok (.iadd, 1) := by decide +kernel
theorem dL_law_418 : decode cL_law 418 = .ok (.iaload, 1) := by decide +kernel
theorem dL_law_419 : decode cL_law 419 = .ok (.aload_n 0, 1) := by decide +kernel
theorem dL_law_420 : decode cL_law 420 = .ok (.iload 4, 2) := by decide +kernel
theorem dL_law_422 : decode cL_law 422 = .ok (.iconst 2, 1) := by decide +kernel
theorem dL_law_423 : decode cL_law 423 = .ok (.iadd, 1) := by decide +kernel
theorem dL_law_424 : decode cL_law 424 = .ok (.iaload, 1) := by decide +kernel
theorem dL_law_425 : decode cL_law 425 = .ok (.aload_n 0, 1) := by decide +kernel
theorem dL_law_426 : decode cL_law 426 = .ok (.iload 4, 2) := by decide +kernel
theorem dL_law_428 : decode cL_law 428 = .ok (.iconst 3, 1) := by decide +kernel
theorem dL_law_429 : decode cL_law 429 = .ok (.iadd, 1) := by decide +kernel
theorem dL_law_430 : decode cL_law 430 = .ok (.iaload, 1) := by decide +kernel
theorem dL_law_431 : decode cL_law 431 = .ok (.invokestatic 85, 3) := by decide +kernel
theorem dL_law_434 : decode cL_law 434 = .ok (.istore 5, 2) := by decide +kernel
theorem dL_law_436 : decode cL_law 436 = .ok (.aload_n 2, 1) := by decide +kernel
theorem dL_law_437 : decode cL_law 437 = .ok (.aload_n 0, 1) := by decide +kernel
theorem dL_law_438 : decode cL_law 438 = .ok (.iload 4, 2) := by decide +kernel
theorem dL_law_440 : decode cL_law 440 = .ok (.iconst 1, 1) := by decide +kernel
theorem dL_law_441 : decode cL_law 441 = .ok (.iadd, 1) := by decide +kernel
theorem dL_law_442 : decode cL_law 442 = .ok (.iaload, 1) := by decide +kernel
theorem dL_law_443 : decode cL_law 443 = .ok (.aload_n 0, 1) := by decide +kernel
theorem dL_law_444 : decode cL_law 444 = .ok (.iload 4, 2) := by decide +kernel
theorem dL_law_446 : decode cL_law 446 = .ok (.iconst 2, 1) := by decide +kernel
theorem dL_law_447 : decode cL_law 447 = .ok (.iadd, 1) := by decide +kernel
theorem dL_law_448 : decode cL_law 448 = .ok (.iaload, 1) := by decide +kernel
theorem dL_law_449 : decode cL_law 449 = .ok (.aload_n 0, 1) := by decide +kernel
theorem dL_law_450 : decode cL_law 450 = .ok (.iload 4, 2) := by decide +kernel
theorem dL_law_452 : decode cL_law 452 = .ok (.iconst 3, 1) := by decide +kernel
theorem dL_law_453 : decode cL_law 453 = .ok (.iadd, 1) := by decide +kernel
theorem dL_law_454 : decode cL_law 454 = .ok (.iaload, 1) := by decide +kernel
theorem dL_law_455 : decode cL_law 455 = .ok (.invokevirtual 88, 3) := by decide +kernel
theorem dL_law_458 : decode cL_law 458 = .ok (.aload_n 2, 1) := by decide +kernel
theorem dL_law_459 : decode cL_law 459 = .ok (.invokevirtual 71, 3) := by decide +kernel
theorem dL_law_462 : decode cL_law 462 = .ok (.iload 5, 2) := by decide +kernel
theorem dL_law_464 : decode cL_law 464 = .ok (.if_icmp .eq 5, 3) := by decide +kernel
theorem dL_law_467 : decode cL_law 467 = .ok (.iconst 0, 1) := by decide +kernel
theorem dL_law_468 : decode cL_law 468 = .ok (.ireturn, 1) := by decide +kernel
theorem dL_law_469 : decode cL_law 469 = .ok (.goto 559, 3) := by decide +kernel
theorem dL_law_472 : decode cL_law 472 = .ok (.aload_n 1, 1) := by decide +kernel
theorem dL_law_473 : decode cL_law 473 = .ok (.aload_n 0, 1) := by decide +kernel
theorem dL_law_474 : decode cL_law 474 = .ok (.iload 4, 2) := by decide +kernel
theorem dL_law_476 : decode cL_law 476 = .ok (.iconst 1, 1) := by decide +kernel
theorem dL_law_477 : decode cL_law 477 = .ok (.iadd, 1) := by decide +kernel
theorem dL_law_478 : decode cL_law 478 = .ok (.iaload, 1) := by decide +kernel
theorem dL_law_479 : decode cL_law 479 = .ok (.aload_n 0, 1) := by decide +kernel
theorem dL_law_480 : decode cL_law 480 = .ok (.iload 4, 2) := by decide +kernel
theorem dL_law_482 : decode cL_law 482 = .ok (.iconst 2, 1) := by decide +kernel
theorem dL_law_483 : decode cL_law 483 = .ok (.iadd, 1) := by decide +kernel
theorem dL_law_484 : decode cL_law 484 = .ok (.iaload, 1) := by decide +kernel
theorem dL_law_485 : decode cL_law 485 = .ok (.aload_n 0, 1) := by decide +kernel
theorem dL_law_486 : decode cL_law 486 = .ok (.iload 4, 2) := by decide +kernel
theorem dL_law_488 : decode cL_law 488 = .ok (.iconst 3, 1) := by decide +kernel
theorem dL_law_489 : decode cL_law 489 = .ok (.iadd, 1) := by decide +kernel
theorem dL_law_490 : decode cL_law 490 = .ok (.iaload, 1) := by decide +kernel
theorem dL_law_491 : decode cL_law 491 = .ok (.aload_n 0, 1) := by decide +kernel
theorem dL_law_492 : decode cL_law 492 = .ok (.iload 4, 2) := by decide +kernel
theorem dL_law_494 : decode cL_law 494 = .ok (.iconst 4, 1) := by decide +kernel
theorem dL_law_495 : decode cL_law 495 = .ok (.iadd, 1) := by decide +kernel
theorem dL_law_496 : decode cL_law 496 = .ok (.iaload, 1) := by decide +kernel
theorem dL_law_497 : decode cL_law 497 = .ok (.aload_n 3, 1) := by decide +kernel
theorem dL_law_498 : decode cL_law 498 = .ok (.invokestatic 89, 3) := by decide +kernel
theorem dL_law_501 : decode cL_law 501 = .ok (.istore 5, 2) := by decide +kernel
theorem dL_law_503 : decode cL_law 503 = .ok (.aload_n 2, 1) := by decide +kernel
theorem dL_law_504 : decode cL_law 504 = .ok (.aload_n 0, 1) := by decide +kernel
theorem dL_law_505 : decode cL_law 505 = .ok (.iload 4, 2) := by decide +kernel
theorem dL_law_507 : decode cL_law 507 = .ok (.iconst 1, 1) := by decide +kernel
theorem dL_law_508 : decode cL_law 508 = .ok (.iadd, 1) := by decide +kernel
theorem dL_law_509 : decode cL_law 509 = .ok (.iaload, 1) := by decide +kernel
theorem dL_law_510 : decode cL_law 510 = .ok (.aload_n 0, 1) := by decide +kernel
theorem dL_law_511 : decode cL_law 511 = .ok (.iload 4, 2) := by decide +kernel
theorem dL_law_513 : decode cL_law 513 = .ok (.iconst 2, 1) := by decide +kernel
theorem dL_law_514 : decode cL_law 514 = .ok (.iadd, 1) := by decide +kernel
theorem dL_law_515 : decode cL_law 515 = .ok (.iaload, 1) := by decide +kernel
theorem dL_law_516 : decode cL_law 516 = .ok (.aload_n 0, 1) := by decide +kernel
theorem dL_law_517 : decode cL_law 517 = .ok (.iload 4, 2) := by decide +kernel
theorem dL_law_519 : decode cL_law 519 = .ok (.iconst 3, 1) := by decide +kernel
theorem dL_law_520 : decode cL_law 520 = .ok (.iadd, 1) := by decide +kernel
theorem dL_law_521 : decode cL_law 521 = .ok (.iaload, 1) := by decide +kernel
theorem dL_law_522 : decode cL_law 522 = .ok (.aload_n 0, 1) := by decide +kernel
theorem dL_law_523 : decode cL_law 523 = .ok (.iload 4, 2) := by decide +kernel
theorem dL_law_525 : decode cL_law 525 = .ok (.iconst 4, 1) := by decide +kernel
theorem dL_law_526 : decode cL_law 526 = .ok (.iadd, 1) := by decide +kernel
theorem dL_law_527 : decode cL_law 527 = .ok (.iaload, 1) := by decide +kernel
theorem dL_law_528 : decode cL_law 528 = .ok (.invokevirtual 92, 3) := by decide +kernel
theorem dL_law_531 : decode cL_law 531 = .ok (.istore 6, 2) := by decide +kernel
theorem dL_law_533 : decode cL_law 533 = .ok (.aload_n 2, 1) := by decide +kernel
theorem dL_law_534 : decode cL_law 534 = .ok (.invokevirtual 71, 3) := by decide +kernel
theorem dL_law_537 : decode cL_law 537 = .ok (.iload 5, 2) := by decide +kernel
theorem dL_law_539 : decode cL_law 539 = .ok (.if_icmp .eq 5, 3) := by decide +kernel
theorem dL_law_542 : decode cL_law 542 = .ok (.iconst 0, 1) := by decide +kernel
theorem dL_law_543 : decode cL_law 543 = .ok (.ireturn, 1) := by decide +kernel
theorem dL_law_544 : decode cL_law 544 = .ok (.iload 5, 2) := by decide +kernel
theorem dL_law_546 : decode cL_law 546 = .ok (.ifCond .ne 15, 3) := by decide +kernel
theorem dL_law_549 : decode cL_law 549 = .ok (.aload_n 3, 1) := by decide +kernel
theorem dL_law_550 : decode cL_law 550 = .ok (.iconst 0, 1) := by decide +kernel
theorem dL_law_551 : decode cL_law 551 = .ok (.laload, 1) := by decide +kernel
theorem dL_law_552 : decode cL_law 552 = .ok (.iload 6, 2) := by decide +kernel
theorem dL_law_554 : decode cL_law 554 = .ok (.i2l, 1) := by decide +kernel
theorem dL_law_555 : decode cL_law 555 = .ok (.lcmp, 1) := by decide +kernel
theorem dL_law_556 : decode cL_law 556 = .ok (.ifCond .eq 5, 3) := by decide +kernel
theorem dL_law_559 : decode cL_law 559 = .ok (.iconst 0, 1) := by decide +kernel
theorem dL_law_560 : decode cL_law 560 = .ok (.ireturn, 1) := by decide +kernel
theorem dL_law_561 : decode cL_law 561 = .ok (.goto 467, 3) := by decide +kernel
theorem dL_law_564 : decode cL_law 564 = .ok (.aload_n 1, 1) := by decide +kernel
theorem dL_law_565 : decode cL_law 565 = .ok (.aload_n 3, 1) := by decide +kernel
theorem dL_law_566 : decode cL_law 566 = .ok (.invokestatic 93, 3) := by decide +kernel
theorem dL_law_569 : decode cL_law 569 = .ok (.istore 5, 2) := by decide +kernel
theorem dL_law_571 : decode cL_law 571 = .ok (.aload_n 2, 1) := by decide +kernel
theorem dL_law_572 : decode cL_law 572 = .ok (.invokevirtual 96, 3) := by decide +kernel
theorem dL_law_575 : decode cL_law 575 = .ok (.istore 6, 2) := by decide +kernel
theorem dL_law_577 : decode cL_law 577 = .ok (.aload_n 2, 1) := by decide +kernel
theorem dL_law_578 : decode cL_law 578 = .ok (.invokevirtual 71, 3) := by decide +kernel
theorem dL_law_581 : decode cL_law 581 = .ok (.iload 5, 2) := by decide +kernel
theorem dL_law_583 : decode cL_law 583 = .ok (.if_icmp .eq 5, 3) := by decide +kernel
theorem dL_law_586 : decode cL_law 586 = .ok (.iconst 0, 1) := by decide +kernel
theorem dL_law_587 : decode cL_law 587 = .ok (.ireturn, 1) := by decide +kernel
theorem dL_law_588 : decode cL_law 588 = .ok (.iload 5, 2) := by decide +kernel
theorem dL_law_590 : decode cL_law 590 = .ok (.ifCond .ne 15, 3) := by decide +kernel
theorem dL_law_593 : decode cL_law 593 = .ok (.aload_n 3, 1) := by decide +kernel
theorem dL_law_594 : decode cL_law 594 = .ok (.iconst 0, 1) := by decide +kernel
theorem dL_law_595 : decode cL_law 595 = .ok (.laload, 1) := by decide +kernel
theorem dL_law_596 : decode cL_law 596 = .ok (.iload 6, 2) := by decide +kernel
theorem dL_law_598 : decode cL_law 598 = .ok (.i2l, 1) := by decide +kernel
theorem dL_law_599 : decode cL_law 599 = .ok (.lcmp, 1) := by decide +kernel
theorem dL_law_600 : decode cL_law 600 = .ok (.ifCond .eq 5, 3) := by decide +kernel
theorem dL_law_603 : decode cL_law 603 = .ok (.iconst 0, 1) := by decide +kernel
theorem dL_law_604 : decode cL_law 604 = .ok (.ireturn, 1) := by decide +kernel
theorem dL_law_605 : decode cL_law 605 = .ok (.goto 423, 3) := by decide +kernel
theorem dL_law_608 : decode cL_law 608 = .ok (.aload_n 1, 1) := by decide +kernel
theorem dL_law_609 : decode cL_law 609 = .ok (.aload_n 0, 1) := by decide +kernel
theorem dL_law_610 : decode cL_law 610 = .ok (.iload 4, 2) := by decide +kernel
theorem dL_law_612 : decode cL_law 612 = .ok (.iconst 1, 1) := by decide +kernel
theorem dL_law_613 : decode cL_law 613 = .ok (.iadd, 1) := by decide +kernel
theorem dL_law_614 : decode cL_law 614 = .ok (.iaload, 1) := by decide +kernel
theorem dL_law_615 : decode cL_law 615 = .ok (.aload_n 0, 1) := by decide +kernel
theorem dL_law_616 : decode cL_law 616 = .ok (.iload 4, 2) := by decide +kernel
theorem dL_law_618 : decode cL_law 618 = .ok (.iconst 2, 1) := by decide +kernel
theorem dL_law_619 : decode cL_law 619 = .ok (.iadd, 1) := by decide +kernel
theorem dL_law_620 : decode cL_law 620 = .ok (.iaload, 1) := by decide +kernel
theorem dL_law_621 : decode cL_law 621 = .ok (.aload_n 0, 1) := by decide +kernel
theorem dL_law_622 : decode cL_law 622 = .ok (.iload 4, 2) := by decide +kernel
theorem dL_law_624 : decode cL_law 624 = .ok (.iconst 3, 1) := by decide +kernel
theorem dL_law_625 : decode cL_law 625 = .ok (.iadd, 1) := by decide +kernel
theorem dL_law_626 : decode cL_law 626 = .ok (.iaload, 1) := by decide +kernel
theorem dL_law_627 : decode cL_law 627 = .ok (.aload_n 3, 1) := by decide +kernel
theorem dL_law_628 : decode cL_law 628 = .ok (.invokestatic 97, 3) := by decide +kernel
theorem dL_law_631 : decode cL_law 631 = .ok (.istore 5, 2) := by decide +kernel
theorem dL_law_633 : decode cL_law 633 = .ok (.aload_n 2, 1) := by decide +kernel
theorem dL_law_634 : decode cL_law 634 = .ok (.aload_n 0, 1) := by decide +kernel
theorem dL_law_635 : decode cL_law 635 = .ok (.iload 4, 2) := by decide +kernel
theorem dL_law_637 : decode cL_law 637 = .ok (.iconst 1, 1) := by decide +kernel
theorem dL_law_638 : decode cL_law 638 = .ok (.iadd, 1) := by decide +kernel
theorem dL_law_639 : decode cL_law 639 = .ok (.iaload, 1) := by decide +kernel
theorem dL_law_640 : decode cL_law 640 = .ok (.aload_n 0, 1) := by decide +kernel
theorem dL_law_641 : decode cL_law 641 = .ok (.iload 4, 2) := by decide +kernel
theorem dL_law_643 : decode cL_law 643 = .ok (.iconst 2, 1) := by decide +kernel
theorem dL_law_644 : decode cL_law 644 = .ok (.iadd, 1) := by decide +kernel
theorem dL_law_645 : decode cL_law 645 = .ok (.iaload, 1) := by decide +kernel
theorem dL_law_646 : decode cL_law 646 = .ok (.aload_n 0, 1) := by decide +kernel
theorem dL_law_647 : decode cL_law 647 = .ok (.iload 4, 2) := by decide +kernel
theorem dL_law_649 : decode cL_law 649 = .ok (.iconst 3, 1) := by decide +kernel
theorem dL_law_650 : decode cL_law 650 = .ok (.iadd, 1) := by decide +kernel
theorem dL_law_651 : decode cL_law 651 = .ok (.iaload, 1) := by decide +kernel
theorem dL_law_652 : decode cL_law 652 = .ok (.invokevirtual 100, 3) := by decide +kernel
theorem dL_law_655 : decode cL_law 655 = .ok (.istore 6, 2) := by decide +kernel
theorem dL_law_657 : decode cL_law 657 = .ok (.aload_n 2, 1) := by decide +kernel
theorem dL_law_658 : decode cL_law 658 = .ok (.invokevirtual 71, 3) := by decide +kernel
theorem dL_law_661 : decode cL_law 661 = .ok (.iload 5, 2) := by decide +kernel
theorem dL_law_663 : decode cL_law 663 = .ok (.if_icmp .eq 5, 3) := by decide +kernel
theorem dL_law_666 : decode cL_law 666 = .ok (.iconst 0, 1) := by decide +kernel
theorem dL_law_667 : decode cL_law 667 = .ok (.ireturn, 1) := by decide +kernel
theorem dL_law_668 : decode cL_law 668 = .ok (.iload 5, 2) := by decide +kernel
theorem dL_law_670 : decode cL_law 670 = .ok (.ifCond .ne 15, 3) := by decide +kernel
theorem dL_law_673 : decode cL_law 673 = .ok (.aload_n 3, 1) := by decide +kernel
theorem dL_law_674 : decode cL_law 674 = .ok (.iconst 0, 1) := by decide +kernel
theorem dL_law_675 : decode cL_law 675 = .ok (.laload, 1) := by decide +kernel
theorem dL_law_676 : decode cL_law 676 = .ok (.iload 6, 2) := by decide +kernel
theorem dL_law_678 : decode cL_law 678 = .ok (.i2l, 1) := by decide +kernel
theorem dL_law_679 : decode cL_law 679 = .ok (.lcmp, 1) := by decide +kernel
theorem dL_law_680 : decode cL_law 680 = .ok (.ifCond .eq 5, 3) := by decide +kernel
theorem dL_law_683 : decode cL_law 683 = .ok (.iconst 0, 1) := by decide +kernel
theorem dL_law_684 : decode cL_law 684 = .ok (.ireturn, 1) := by decide +kernel
theorem dL_law_685 : decode cL_law 685 = .ok (.goto 343, 3) := by decide +kernel
theorem dL_law_688 : decode cL_law 688 = .ok (.aload_n 1, 1) := by decide +kernel
theorem dL_law_689 : decode cL_law 689 = .ok (.aload_n 0, 1) := by decide +kernel
theorem dL_law_690 : decode cL_law 690 = .ok (.iload 4, 2) := by decide +kernel
theorem dL_law_692 : decode cL_law 692 = .ok (.iconst 1, 1) := by decide +kernel
theorem dL_law_693 : decode cL_law 693 = .ok (.iadd, 1) := by decide +kernel
theorem dL_law_694 : decode cL_law 694 = .ok (.iaload, 1) := by decide +kernel
theorem dL_law_695 : decode cL_law 695 = .ok (.aload_n 0, 1) := by decide +kernel
theorem dL_law_696 : decode cL_law 696 = .ok (.iload 4, 2) := by decide +kernel
theorem dL_law_698 : decode cL_law 698 = .ok (.iconst 2, 1) := by decide +kernel
theorem dL_law_699 : decode cL_law 699 = .ok (.iadd, 1) := by decide +kernel
theorem dL_law_700 : decode cL_law 700 = .ok (.iaload, 1) := by decide +kernel
theorem dL_law_701 : decode cL_law 701 = .ok (.aload_n 0, 1) := by decide +kernel
theorem dL_law_702 : decode cL_law 702 = .ok (.iload 4, 2) := by decide +kernel
theorem dL_law_704 : decode cL_law 704 = .ok (.iconst 3, 1) := by decide +kernel
theorem dL_law_705 : decode cL_law 705 = .ok (.iadd, 1) := by decide +kernel
theorem dL_law_706 : decode cL_law 706 = .ok (.iaload, 1) := by decide +kernel
theorem dL_law_707 : decode cL_law 707 = .ok (.aload_n 0, 1) := by decide +kernel
theorem dL_law_708 : decode cL_law 708 = .ok (.iload 4, 2) := by decide +kernel
theorem dL_law_710 : decode cL_law 710 = .ok (.iconst 4, 1) := by decide +kernel
theorem dL_law_711 : decode cL_law 711 = .ok (.iadd, 1) := by decide +kernel
theorem dL_law_712 : decode cL_law 712 = .ok (.iaload, 1) := by decide +kernel
theorem dL_law_713 : decode cL_law 713 = .ok (.aload_n 3, 1) := by decide +kernel
theorem dL_law_714 : decode cL_law 714 = .ok (.invokestatic 101, 3) := by decide +kernel
theorem dL_law_717 : decode cL_law 717 = .ok (.istore 5, 2) := by decide +kernel
theorem dL_law_719 : decode cL_law 719 = .ok (.aload_n 2, 1) := by decide +kernel
theorem dL_law_720 : decode cL_law 720 = .ok (.aload_n 0, 1) := by decide +kernel
theorem dL_law_721 : decode cL_law 721 = .ok (.iload 4, 2) := by decide +kernel
theorem dL_law_723 : decode cL_law 723 = .ok (.iconst 1, 1) := by decide +kernel
theorem dL_law_724 : decode cL_law 724 = .ok (.iadd, 1) := by decide +kernel
theorem dL_law_725 : decode cL_law 725 = .ok (.iaload, 1) := by decide +kernel
theorem dL_law_726 : decode cL_law 726 = .ok (.aload_n 0, 1) := by decide +kernel
theorem dL_law_727 : decode cL_law 727 = .ok (.iload 4, 2) := by decide +kernel
theorem dL_law_729 : decode cL_law 729 = .ok (.iconst 2, 1) := by decide +kernel
theorem dL_law_730 : decode cL_law 730 = .ok (.iadd, 1) := by decide +kernel
theorem dL_law_731 : decode cL_law 731 = .ok (.iaload, 1) := by decide +kernel
theorem dL_law_732 : decode cL_law 732 = .ok (.aload_n 0, 1) := by decide +kernel
theorem dL_law_733 : decode cL_law 733 = .ok (.iload 4, 2) := by decide +kernel
theorem dL_law_735 : decode cL_law 735 = .ok (.iconst 3, 1) := by decide +kernel
theorem dL_law_736 : decode cL_law 736 = .ok (.iadd, 1) := by decide +kernel
theorem dL_law_737 : decode cL_law 737 = .ok (.iaload, 1) := by decide +kernel
theorem dL_law_738 : decode cL_law 738 = .ok (.aload_n 0, 1) := by decide +kernel
theorem dL_law_739 : decode cL_law 739 = .ok (.iload 4, 2) := by decide +kernel
theorem dL_law_741 : decode cL_law 741 = .ok (.iconst 4, 1) := by decide +kernel
theorem dL_law_742 : decode cL_law 742 = .ok (.iadd, 1) := by decide +kernel
theorem dL_law_743 : decode cL_law 743 = .ok (.iaload, 1) := by decide +kernel
theorem dL_law_744 : decode cL_law 744 = .ok (.invokevirtual 103, 3) := by decide +kernel
theorem dL_law_747 : decode cL_law 747 = .ok (.istore 6, 2) := by decide +kernel
theorem dL_law_749 : decode cL_law 749 = .ok (.aload_n 2, 1) := by decide +kernel
theorem dL_law_750 : decode cL_law 750 = .ok (.invokevirtual 71, 3) := by decide +kernel
theorem dL_law_753 : decode cL_law 753 = .ok (.iload 5, 2) := by decide +kernel
theorem dL_law_755 : decode cL_law 755 = .ok (.if_icmp .eq 5, 3) := by decide +kernel
theorem dL_law_758 : decode cL_law 758 = .ok (.iconst 0, 1) := by decide +kernel
theorem dL_law_759 : decode cL_law 759 = .ok (.ireturn, 1) := by decide +kernel
theorem dL_law_760 : decode cL_law 760 = .ok (.iload 5, 2) := by decide +kernel
theorem dL_law_762 : decode cL_law 762 = .ok (.ifCond .ne 15, 3) := by decide +kernel
theorem dL_law_765 : decode cL_law 765 = .ok (.aload_n 3, 1) := by decide +kernel
theorem dL_law_766 : decode cL_law 766 = .ok (.iconst 0, 1) := by decide +kernel
theorem dL_law_767 : decode cL_law 767 = .ok (.laload, 1) := by decide +kernel
theorem dL_law_768 : decode cL_law 768 = .ok (.iload 6, 2) := by decide +kernel
theorem dL_law_770 : decode cL_law 770 = .ok (.i2l, 1) := by decide +kernel
theorem dL_law_771 : decode cL_law 771 = .ok (.lcmp, 1) := by decide +kernel
theorem dL_law_772 : decode cL_law 772 = .ok (.ifCond .eq 5, 3) := by decide +kernel
theorem dL_law_775 : decode cL_law 775 = .ok (.iconst 0, 1) := by decide +kernel
theorem dL_law_776 : decode cL_law 776 = .ok (.ireturn, 1) := by decide +kernel
theorem dL_law_777 : decode cL_law 777 = .ok (.goto 251, 3) := by decide +kernel
theorem dL_law_780 : decode cL_law 780 = .ok (.aload_n 1, 1) := by decide +kernel
theorem dL_law_781 : decode cL_law 781 = .ok (.aload_n 0, 1) := by decide +kernel
theorem dL_law_782 : decode cL_law 782 = .ok (.iload 4, 2) := by decide +kernel
theorem dL_law_784 : decode cL_law 784 = .ok (.iconst 1, 1) := by decide +kernel
theorem dL_law_785 : decode cL_law 785 = .ok (.iadd, 1) := by decide +kernel
theorem dL_law_786 : decode cL_law 786 = .ok (.iaload, 1) := by decide +kernel
theorem dL_law_787 : decode cL_law 787 = .ok (.aload_n 0, 1) := by decide +kernel
theorem dL_law_788 : decode cL_law 788 = .ok (.iload 4, 2) := by decide +kernel
theorem dL_law_790 : decode cL_law 790 = .ok (.iconst 2, 1) := by decide +kernel
theorem dL_law_791 : decode cL_law 791 = .ok (.iadd, 1) := by decide +kernel
theorem dL_law_792 : decode cL_law 792 = .ok (.iaload, 1) := by decide +kernel
theorem dL_law_793 : decode cL_law 793 = .ok (.aload_n 0, 1) := by decide +kernel
theorem dL_law_794 : decode cL_law 794 = .ok (.iload 4, 2) := by decide +kernel
theorem dL_law_796 : decode cL_law 796 = .ok (.iconst 3, 1) := by decide +kernel
theorem dL_law_797 : decode cL_law 797 = .ok (.iadd, 1) := by decide +kernel
theorem dL_law_798 : decode cL_law 798 = .ok (.iaload, 1) := by decide +kernel
theorem dL_law_799 : decode cL_law 799 = .ok (.aload_n 0, 1) := by decide +kernel
theorem dL_law_800 : decode cL_law 800 = .ok (.iload 4, 2) := by decide +kernel
theorem dL_law_802 : decode cL_law 802 = .ok (.iconst 4, 1) := by decide +kernel
theorem dL_law_803 : decode cL_law 803 = .ok (.iadd, 1) := by decide +kernel
theorem dL_law_804 : decode cL_law 804 = .ok (.iaload, 1) := by decide +kernel
theorem dL_law_805 : decode cL_law 805 = .ok (.aload_n 0, 1) := by decide +kernel
theorem dL_law_806 : decode cL_law 806 = .ok (.iload 4, 2) := by decide +kernel
theorem dL_law_808 : decode cL_law 808 = .ok (.iconst 5, 1) := by decide +kernel
theorem dL_law_809 : decode cL_law 809 = .ok (.iadd, 1) := by decide +kernel
theorem dL_law_810 : decode cL_law 810 = .ok (.iaload, 1) := by decide +kernel
theorem dL_law_811 : decode cL_law 811 = .ok (.aload_n 3, 1) := by decide +kernel
theorem dL_law_812 : decode cL_law 812 = .ok (.invokestatic 104, 3) := by decide +kernel
theorem dL_law_815 : decode cL_law 815 = .ok (.istore 5, 2) := by decide +kernel
theorem dL_law_817 : decode cL_law 817 = .ok (.aload_n 2, 1) := by decide +kernel
theorem dL_law_818 : decode cL_law 818 = .ok (.aload_n 0, 1) := by decide +kernel
theorem dL_law_819 : decode cL_law 819 = .ok (.iload 4, 2) := by decide +kernel
theorem dL_law_821 : decode cL_law 821 = .ok (.iconst 1, 1) := by decide +kernel
theorem dL_law_822 : decode cL_law 822 = .ok (.iadd, 1) := by decide +kernel
theorem dL_law_823 : decode cL_law 823 = .ok (.iaload, 1) := by decide +kernel
theorem dL_law_824 : decode cL_law 824 = .ok (.aload_n 0, 1) := by decide +kernel
theorem dL_law_825 : decode cL_law 825 = .ok (.iload 4, 2) := by decide +kernel
theorem dL_law_827 : decode cL_law 827 = .ok (.iconst 2, 1) := by decide +kernel
theorem dL_law_828 : decode cL_law 828 = .ok (.iadd, 1) := by decide +kernel
theorem dL_law_829 : decode cL_law 829 = .ok (.iaload, 1) := by decide +kernel
theorem dL_law_830 : decode cL_law 830 = .ok (.aload_n 0, 1) := by decide +kernel
theorem dL_law_831 : decode cL_law 831 = .ok (.iload 4, 2) := by decide +kernel
theorem dL_law_833 : decode cL_law 833 = .ok (.iconst 3, 1) := by decide +kernel
theorem dL_law_834 : decode cL_law 834 = .ok (.iadd, 1) := by decide +kernel
theorem dL_law_835 : decode cL_law 835 = .ok (.iaload, 1) := by decide +kernel
theorem dL_law_836 : decode cL_law 836 = .ok (.aload_n 0, 1) := by decide +kernel
theorem dL_law_837 : decode cL_law 837 = .ok (.iload 4, 2) := by decide +kernel
theorem dL_law_839 : decode cL_law 839 = .ok (.iconst 4, 1) := by decide +kernel
theorem dL_law_840 : decode cL_law 840 = .ok (.iadd, 1) := by decide +kernel
theorem dL_law_841 : decode cL_law 841 = .ok (.iaload, 1) := by decide +kernel
theorem dL_law_842 : decode cL_law 842 = .ok (.aload_n 0, 1) := by decide +kernel
theorem dL_law_843 : decode cL_law 843 = .ok (.iload 4, 2) := by decide +kernel
theorem dL_law_845 : decode cL_law 845 = .ok (.iconst 5, 1) := by decide +kernel
theorem dL_law_846 : decode cL_law 846 = .ok (.iadd, 1) := by decide +kernel
theorem dL_law_847 : decode cL_law 847 = .ok (.iaload, 1) := by decide +kernel
theorem dL_law_848 : decode cL_law 848 = .ok (.invokevirtual 106, 3) := by decide +kernel
theorem dL_law_851 : decode cL_law 851 = .ok (.istore 6, 2) := by decide +kernel
theorem dL_law_853 : decode cL_law 853 = .ok (.aload_n 2, 1) := by decide +kernel
theorem dL_law_854 : decode cL_law 854 = .ok (.invokevirtual 71, 3) := by decide +kernel
theorem dL_law_857 : decode cL_law 857 = .ok (.iload 5, 2) := by decide +kernel
theorem dL_law_859 : decode cL_law 859 = .ok (.if_icmp .eq 5, 3) := by decide +kernel
theorem dL_law_862 : decode cL_law 862 = .ok (.iconst 0, 1) := by decide +kernel
theorem dL_law_863 : decode cL_law 863 = .ok (.ireturn, 1) := by decide +kernel
theorem dL_law_864 : decode cL_law 864 = .ok (.iload 5, 2) := by decide +kernel
theorem dL_law_866 : decode cL_law 866 = .ok (.ifCond .ne 15, 3) := by decide +kernel
theorem dL_law_869 : decode cL_law 869 = .ok (.aload_n 3, 1) := by decide +kernel
theorem dL_law_870 : decode cL_law 870 = .ok (.iconst 0, 1) := by decide +kernel
theorem dL_law_871 : decode cL_law 871 = .ok (.laload, 1) := by decide +kernel
theorem dL_law_872 : decode cL_law 872 = .ok (.iload 6, 2) := by decide +kernel
theorem dL_law_874 : decode cL_law 874 = .ok (.i2l, 1) := by decide +kernel
theorem dL_law_875 : decode cL_law 875 = .ok (.lcmp, 1) := by decide +kernel
theorem dL_law_876 : decode cL_law 876 = .ok (.ifCond .eq 5, 3) := by decide +kernel
theorem dL_law_879 : decode cL_law 879 = .ok (.iconst 0, 1) := by decide +kernel
theorem dL_law_880 : decode cL_law 880 = .ok (.ireturn, 1) := by decide +kernel
theorem dL_law_881 : decode cL_law 881 = .ok (.goto 147, 3) := by decide +kernel
theorem dL_law_884 : decode cL_law 884 = .ok (.aload_n 1, 1) := by decide +kernel
theorem dL_law_885 : decode cL_law 885 = .ok (.aload_n 3, 1) := by decide +kernel
theorem dL_law_886 : decode cL_law 886 = .ok (.invokestatic 107, 3) := by decide +kernel
theorem dL_law_889 : decode cL_law 889 = .ok (.istore 5, 2) := by decide +kernel
theorem dL_law_891 : decode cL_law 891 = .ok (.aload_n 2, 1) := by decide +kernel
theorem dL_law_892 : decode cL_law 892 = .ok (.invokevirtual 109, 3) := by decide +kernel
theorem dL_law_895 : decode cL_law 895 = .ok (.istore 6, 2) := by decide +kernel
theorem dL_law_897 : decode cL_law 897 = .ok (.aload_n 2, 1) := by decide +kernel
theorem dL_law_898 : decode cL_law 898 = .ok (.invokevirtual 71, 3) := by decide +kernel
theorem dL_law_901 : decode cL_law 901 = .ok (.iload 5, 2) := by decide +kernel
theorem dL_law_903 : decode cL_law 903 = .ok (.if_icmp .eq 5, 3) := by decide +kernel
theorem dL_law_906 : decode cL_law 906 = .ok (.iconst 0, 1) := by decide +kernel
theorem dL_law_907 : decode cL_law 907 = .ok (.ireturn, 1) := by decide +kernel
theorem dL_law_908 : decode cL_law 908 = .ok (.iload 5, 2) := by decide +kernel
theorem dL_law_910 : decode cL_law 910 = .ok (.ifCond .ne 15, 3) := by decide +kernel
theorem dL_law_913 : decode cL_law 913 = .ok (.aload_n 3, 1) := by decide +kernel
theorem dL_law_914 : decode cL_law 914 = .ok (.iconst 0, 1) := by decide +kernel
theorem dL_law_915 : decode cL_law 915 = .ok (.laload, 1) := by decide +kernel
theorem dL_law_916 : decode cL_law 916 = .ok (.iload 6, 2) := by decide +kernel
theorem dL_law_918 : decode cL_law 918 = .ok (.i2l, 1) := by decide +kernel
theorem dL_law_919 : decode cL_law 919 = .ok (.lcmp, 1) := by decide +kernel
theorem dL_law_920 : decode cL_law 920 = .ok (.ifCond .eq 5, 3) := by decide +kernel
theorem dL_law_923 : decode cL_law 923 = .ok (.iconst 0, 1) := by decide +kernel
theorem dL_law_924 : decode cL_law 924 = .ok (.ireturn, 1) := by decide +kernel
theorem dL_law_925 : decode cL_law 925 = .ok (.goto 103, 3) := by decide +kernel
theorem dL_law_928 : decode cL_law 928 = .ok (.aload_n 1, 1) := by decide +kernel
theorem dL_law_929 : decode cL_law 929 = .ok (.aload_n 0, 1) := by decide +kernel
theorem dL_law_930 : decode cL_law 930 = .ok (.iload 4, 2) := by decide +kernel
theorem dL_law_932 : decode cL_law 932 = .ok (.iconst 1, 1) := by decide +kernel
theorem dL_law_933 : decode cL_law 933 = .ok (.iadd, 1) := by decide +kernel
theorem dL_law_934 : decode cL_law 934 = .ok (.iaload, 1) := by decide +kernel
theorem dL_law_935 : decode cL_law 935 = .ok (.invokestatic 110, 3) := by decide +kernel
theorem dL_law_938 : decode cL_law 938 = .ok (.istore 5, 2) := by decide +kernel
theorem dL_law_940 : decode cL_law 940 = .ok (.aload_n 2, 1) := by decide +kernel
theorem dL_law_941 : decode cL_law 941 = .ok (.aload_n 0, 1) := by decide +kernel
theorem dL_law_942 : decode cL_law 942 = .ok (.iload 4, 2) := by decide +kernel
theorem dL_law_944 : decode cL_law 944 = .ok (.iconst 1, 1) := by decide +kernel
theorem dL_law_945 : decode cL_law 945 = .ok (.iadd, 1) := by decide +kernel
theorem dL_law_946 : decode cL_law 946 = .ok (.iaload, 1) := by decide +kernel
theorem dL_law_947 : decode cL_law 947 = .ok (.invokevirtual 113, 3) := by decide +kernel
theorem dL_law_950 : decode cL_law 950 = .ok (.aload_n 2, 1) := by decide +kernel
theorem dL_law_951 : decode cL_law 951 = .ok (.invokevirtual 71, 3) := by decide +kernel
theorem dL_law_954 : decode cL_law 954 = .ok (.iload 5, 2) := by decide +kernel
theorem dL_law_956 : decode cL_law 956 = .ok (.if_icmp .eq 5, 3) := by decide +kernel
theorem dL_law_959 : decode cL_law 959 = .ok (.iconst 0, 1) := by decide +kernel
theorem dL_law_960 : decode cL_law 960 = .ok (.ireturn, 1) := by decide +kernel
theorem dL_law_961 : decode cL_law 961 = .ok (.goto 67, 3) := by decide +kernel
theorem dL_law_964 : decode cL_law 964 = .ok (.aload_n 1, 1) := by decide +kernel
theorem dL_law_965 : decode cL_law 965 = .ok (.invokevirtual 114, 3) := by decide +kernel
theorem dL_law_968 : decode cL_law 968 = .ok (.aload_n 2, 1) := by decide +kernel
theorem dL_law_969 : decode cL_law 969 = .ok (.invokevirtual 117, 3) := by decide +kernel
theorem dL_law_972 : decode cL_law 972 = .ok (.if_icmp .eq 56, 3) := by decide +kernel
theorem dL_law_975 : decode cL_law 975 = .ok (.iconst 0, 1) := by decide +kernel
theorem dL_law_976 : decode cL_law 976 = .ok (.ireturn, 1) := by decide +kernel
theorem dL_law_977 : decode cL_law 977 = .ok (.aload_n 1, 1) := by decide +kernel
theorem dL_law_978 : decode cL_law 978 = .ok (.aload_n 0, 1) := by decide +kernel
theorem dL_law_979 : decode cL_law 979 = .ok (.iload 4, 2) := by decide +kernel
theorem dL_law_981 : decode cL_law 981 = .ok (.iconst 1, 1) := by decide +kernel
theorem dL_law_982 : decode cL_law 982 = .ok (.iadd, 1) := by decide +kernel
theorem dL_law_983 : decode cL_law 983 = .ok (.iaload, 1) := by decide +kernel
theorem dL_law_984 : decode cL_law 984 = .ok (.invokevirtual 118, 3) := by decide +kernel
theorem dL_law_987 : decode cL_law 987 = .ok (.aload_n 2, 1) := by decide +kernel
theorem dL_law_988 : decode cL_law 988 = .ok (.aload_n 0, 1) := by decide +kernel
theorem dL_law_989 : decode cL_law 989 = .ok (.iload 4, 2) := by decide +kernel
theorem dL_law_991 : decode cL_law 991 = .ok (.iconst 1, 1) := by decide +kernel
theorem dL_law_992 : decode cL_law 992 = .ok (.iadd, 1) := by decide +kernel
theorem dL_law_993 : decode cL_law 993 = .ok (.iaload, 1) := by decide +kernel
theorem dL_law_994 : decode cL_law 994 = .ok (.invokevirtual 121, 3) := by decide +kernel
theorem dL_law_997 : decode cL_law 997 = .ok (.if_icmp .eq 31, 3) := by decide +kernel
theorem dL_law_1000 : decode cL_law 1000 = .ok (.iconst 0, 1) := by decide +kernel
theorem dL_law_1001 : decode cL_law 1001 = .ok (.ireturn, 1) := by decide +kernel
theorem dL_law_1002 : decode cL_law 1002 = .ok (.aload_n 1, 1) := by decide +kernel
theorem dL_law_1003 : decode cL_law 1003 = .ok (.aload_n 0, 1) := by decide +kernel
theorem dL_law_1004 : decode cL_law 1004 = .ok (.iload 4, 2) := by decide +kernel
theorem dL_law_1006 : decode cL_law 1006 = .ok (.iconst 1, 1) := by decide +kernel
theorem dL_law_1007 : decode cL_law 1007 = .ok (.iadd, 1) := by decide +kernel
theorem dL_law_1008 : decode cL_law 1008 = .ok (.iaload, 1) := by decide +kernel
theorem dL_law_1009 : decode cL_law 1009 = .ok (.invokevirtual 122, 3) := by decide +kernel
theorem dL_law_1012 : decode cL_law 1012 = .ok (.aload_n 2, 1) := by decide +kernel
theorem dL_law_1013 : decode cL_law 1013 = .ok (.aload_n 0, 1) := by decide +kernel
theorem dL_law_1014 : decode cL_law 1014 = .ok (.iload 4, 2) := by decide +kernel
theorem dL_law_1016 : decode cL_law 1016 = .ok (.iconst 1, 1) := by decide +kernel
theorem dL_law_1017 : decode cL_law 1017 = .ok (.iadd, 1) := by decide +kernel
theorem dL_law_1018 : decode cL_law 1018 = .ok (.iaload, 1) := by decide +kernel
theorem dL_law_1019 : decode cL_law 1019 = .ok (.invokevirtual 126, 3) := by decide +kernel
theorem dL_law_1022 : decode cL_law 1022 = .ok (.lcmp, 1) := by decide +kernel
theorem dL_law_1023 : decode cL_law 1023 = .ok (.ifCond .eq 5, 3) := by decide +kernel
theorem dL_law_1026 : decode cL_law 1026 = .ok (.iconst 0, 1) := by decide +kernel
theorem dL_law_1027 : decode cL_law 1027 = .ok (.ireturn, 1) := by decide +kernel
theorem dL_law_1028 : decode cL_law 1028 = .ok (.iinc 4 6, 3) := by decide +kernel
theorem dL_law_1031 : decode cL_law 1031 = .ok (.goto (-1008), 3) := by decide +kernel
theorem dL_law_1034 : decode cL_law 1034 = .ok (.iconst 1, 1) := by decide +kernel
theorem dL_law_1035 : decode cL_law 1035 = .ok (.ireturn, 1) := by decide +kernel
end
section
/-! counting over the first numbers; the rank -/
def ps_cn (P : Nat → Bool) (n : Nat) : Nat := (List.range n).countP P
theorem ps_cn0 (P : Nat → Bool) : ps_cn P 0 = 0 := rfl
theorem ps_cnS (P : Nat → Bool) (n : Nat) : ps_cn P (n + 1) = ps_cn P n + (if P n = true then 1 else 0) := by
  unfold ps_cn
  rw [List.range_succ, List.countP_append]
  simp [List.countP_cons]
theorem ps_cnT {P : Nat → Bool} {n : Nat} (h : P n = true) : ps_cn P (n + 1) = ps_cn P n + 1 := by rw [ps_cnS, if_pos h]
theorem ps_cnF {P : Nat → Bool} {n : Nat} (h : P n = false) : ps_cn P (n + 1) = ps_cn P n := by rw [ps_cnS, h]; rfl
theorem ps_cn_le (P : Nat → Bool) (n : Nat) : ps_cn P n ≤ n := by
  have := List.countP_le_length (p := P) (l := List.range n)
  simpa [ps_cn] using this
theorem ps_cn_congr {P Q : Nat → Bool} {n : Nat} (h : ∀ k, k < n → P k = Q k) : ps_cn P n = ps_cn Q n := by
  unfold ps_cn
  exact List.countP_congr (fun x hx => by rw [h x (List.mem_range.mp hx)])
/-- one round of the rank, as the bytecode has it -/
def ps_h1 (h : Int32) : Int32 := (h * (-1640531535)) ^^^ ((h * (-1640531535)).toUInt32 >>> ((16 : Int32).toUInt32 &&& Int32.toUInt32 31)).toInt32
def ps_hs (v : Int32) : Int32 := ps_h1 (ps_h1 (ps_h1 v))
def ps_rk (v : Int32) : Nat := (ps_hs v).toBitVec.toNat
theorem ps_xx {n : Nat} (h : n < 2 ^ 32) : (n ^^^ (n / 2 ^ 16)) ^^^ ((n ^^^ (n / 2 ^ 16)) / 2 ^ 16) = n := by
  have e : ∀ m : Nat, m / 2 ^ 16 = m >>> 16 := fun m => (Nat.shiftRight_eq_div_pow m 16).symm
  rw [e, e, Nat.shiftRight_xor_distrib, ← Nat.shiftRight_add]
  have h0 : n >>> (16 + 16) = 0 := by
    rw [Nat.shiftRight_eq_div_pow]
    exact Nat.div_eq_of_lt (by simpa using h)
  rw [h0, Nat.xor_zero, Nat.xor_assoc, Nat.xor_self, Nat.xor_zero]
theorem ps_x1 (x : Int32) : (x ^^^ (x.toUInt32 >>> ((16 : Int32).toUInt32 &&& Int32.toUInt32 31)).toInt32).toBitVec.toNat = x.toBitVec.toNat ^^^ (x.toBitVec.toNat / 2 ^ 16) := by
  rw [Int32.toBitVec_xor, BitVec.toNat_xor, pk_ushr x 16 16 (by decide)]
theorem ps_i32_ext {x y : Int32} (h : x.toBitVec.toNat = y.toBitVec.toNat) : x = y := Int32.toBitVec_inj.mp (BitVec.eq_of_toNat_eq h)
theorem ps_h1_inj {a b : Int32} (h : ps_h1 a = ps_h1 b) : a = b := by
  have h1 := congrArg (fun z : Int32 => z.toBitVec.toNat) h
  simp only [ps_h1, ps_x1] at h1
  have e : (a * (-1640531535)).toBitVec.toNat = (b * (-1640531535)).toBitVec.toNat := by
    rw [← ps_xx (n := (a * (-1640531535)).toBitVec.toNat) (BitVec.isLt _), ← ps_xx (n := (b * (-1640531535)).toBitVec.toNat) (BitVec.isLt _), h1]
  have e2 : a * (-1640531535) = b * (-1640531535) := ps_i32_ext e
  have e3 : a * (-1640531535) * 244002641 = b * (-1640531535) * 244002641 := by rw [e2]
  rw [Int32.mul_assoc, Int32.mul_assoc] at e3
  have e4 : (-1640531535 : Int32) * 244002641 = 1 := by decide
  rw [e4, Int32.mul_one, Int32.mul_one] at e3
  exact e3
theorem ps_rk_inj {a b : Int32} (h : ps_rk a = ps_rk b) : a = b := ps_h1_inj (ps_h1_inj (ps_h1_inj (ps_i32_ext h)))
theorem ps_rk_lt (a : Int32) : ps_rk a < 2 ^ 32 := BitVec.isLt _
theorem ps_i64_ext {x y : Int64} (h : x.toBitVec = y.toBitVec) : x = y := Int64.toBitVec_inj.mp h
/-- the class's way to read an int without a sign -/
theorem ps_mask (h : Int32) : h.toInt64 &&& 4294967295 = lN h.toBitVec.toNat := by
  apply ps_i64_ext
  apply BitVec.eq_of_toNat_eq
  have e1 : (h.toInt64 &&& 4294967295).toBitVec = (h.toBitVec.signExtend 64) &&& 4294967295#64 := by
    rw [Int64.toBitVec_and]; rfl
  have e2 : (lN h.toBitVec.toNat).toBitVec = BitVec.ofNat 64 h.toBitVec.toNat := rfl
  rw [e1, e2, BitVec.toNat_and]
  have hl := h.toBitVec.isLt
  have e3 : (4294967295#64).toNat = 2 ^ 32 - 1 := by decide
  rw [e3, Nat.and_two_pow_sub_one_eq_mod, BitVec.toNat_signExtend, BitVec.toNat_ofNat]
  have hs : (BitVec.setWidth 64 h.toBitVec).toNat = h.toBitVec.toNat := by
    rw [BitVec.toNat_setWidth]; omega
  rw [hs]
  split <;> omega
/-- the reference's way -/
theorem ps_wide (h : Int32) : h.toInt64 = Int64.ofInt h.toInt := by
  apply ps_i64_ext
  show h.toBitVec.signExtend 64 = BitVec.ofInt 64 h.toBitVec.toInt
  rfl
theorem ps_lN (n : Nat) : lN n = Int64.ofInt (n : Int) := by
  apply ps_i64_ext
  show BitVec.ofNat 64 n = BitVec.ofInt 64 (n : Int)
  simp
theorem ps_pos {h : Int32} (hp : ¬ h < 0) : h.toInt64 = lN h.toBitVec.toNat := by
  rw [ps_wide, ps_lN]
  have h0 : (0 : Int) ≤ h.toInt := by
    have := Int32.not_lt.mp hp
    simpa using Int32.le_iff_toInt_le.mp this
  have e : h.toInt = (h.toBitVec.toNat : Int) := by
    have h1 : h.toInt = h.toBitVec.toInt := rfl
    rw [h1] at h0 ⊢
    rw [BitVec.toInt_eq_toNat_cond] at h0 ⊢
    split at h0 <;> split <;> omega
  rw [e]
theorem ps_neg {h : Int32} (hp : h < 0) : h.toInt64 + 4294967296 = lN h.toBitVec.toNat := by
  rw [ps_wide, ps_lN]
  have h0 : h.toInt < (0 : Int) := by
    simpa using Int32.lt_iff_toInt_lt.mp hp
  have e : h.toInt + 4294967296 = (h.toBitVec.toNat : Int) := by
    have h1 : h.toInt = h.toBitVec.toInt := rfl
    rw [h1] at h0 ⊢
    rw [BitVec.toInt_eq_toNat_cond] at h0 ⊢
    split at h0 <;> split <;> omega
  rw [← e, Int64.ofInt_add]
  rfl
end
section
/-! rows of my own over the kit's: loops, arrays by a Nat index, comparisons of small numbers, calls that only read -/
theorem ps_i1 : Int32.ofInt 1 = 1 := by decide
theorem ps_inc (k : Nat) : nI k + Int32.ofInt 1 = nI (k + 1) := by rw [ps_i1]; exact nI_1 k
section PSB
variable {p : Program} {l : Launch} {e : Env} {R : Room} {s : State} {m : MethodId} {args : Array Value} {below : List Frame} {meth : Method} {c : Code} {H : Heap} {locs : List Loc} {cells slots : Nat} {Q : State → Prop}
variable {cc : ByteArray} {pc : Nat} {ls : Array Slot} {rest : List Value} {D : va_G} {cl : List vw_C} {A : Nat → Prop} {a0 : Nat} {tys : List (ClassId × FieldType)} {ws : va_W} {H0 : Heap}
/-- a loop whose rounds leave the heap as it is -/
theorem ps_loopS {α : Type} {hd : Nat} (μ : α → Nat) (I : α → Array Slot → Prop)
    (step : ∀ (a : α) (ls : Array Slot), (∀ (a' : α) (ls' : Array Slot), μ a' < μ a → I a' ls' → W p l e R s m args below meth c H locs cells slots Q (F0 m hd ls' [])) → I a ls → W p l e R s m args below meth c H locs cells slots Q (F0 m hd ls []))
    (a : α) (ls : Array Slot) (h : I a ls) : W p l e R s m args below meth c H locs cells slots Q (F0 m hd ls []) := by
  have key : ∀ (n : Nat) (a : α) (ls : Array Slot), μ a = n → I a ls → W p l e R s m args below meth c H locs cells slots Q (F0 m hd ls []) := by
    intro n
    induction n using Nat.strongRecOn with
    | _ n ih => exact fun a ls hn hI => step a ls (fun a' ls' hlt hI' => ih _ (hn ▸ hlt) a' ls' rfl hI') hI
  exact key _ a ls rfl h
/-- a loop whose rounds may write -/
theorem ps_loopQ {α : Type} {hd : Nat} (μ : α → Nat) (I : α → Array Slot → Heap → List Loc → Prop)
    (step : ∀ (a : α) (ls : Array Slot) (H : Heap) (locs : List Loc), (∀ (a' : α) (ls' : Array Slot) (H' : Heap) (locs' : List Loc), μ a' < μ a → I a' ls' H' locs' → W p l e R s m args below meth c H' locs' cells slots Q (F0 m hd ls' [])) → I a ls H locs → W p l e R s m args below meth c H locs cells slots Q (F0 m hd ls []))
    (a : α) (ls : Array Slot) (H : Heap) (locs : List Loc) (h : I a ls H locs) : W p l e R s m args below meth c H locs cells slots Q (F0 m hd ls []) := by
  have key : ∀ (n : Nat) (a : α) (ls : Array Slot) (H : Heap) (locs : List Loc), μ a = n → I a ls H locs → W p l e R s m args below meth c H locs cells slots Q (F0 m hd ls []) := by
    intro n
    induction n using Nat.strongRecOn with
    | _ n ih => exact fun a ls H locs hn hI => step a ls H locs (fun a' ls' H' locs' hlt hI' => ih _ (hn ▸ hlt) a' ls' H' locs' rfl hI') hI
  exact key _ a ls H locs rfl h
theorem ps_iald (hexec : p.tables.exec = Jvm.exec) (hb : c.code = cc) (hK : va_K D cl tys s) (hP : va_P D cl ws H) (q0 t0 : Nat) {cA : ClassId} {n a k : Nat} {f : Nat → Int32} (ha : ws[q0]? = some (a, .inl (cA, n, .inl f))) (ht : tys[t0]? = some (cA, .int)) (hk : k < n) (hn : n < 2 ^ 31) (hdg : decode cc pc = .ok (.iaload, 1))
    (kk : W p l e R s m args below meth c H locs cells slots Q (F0 m (pc + 1) ls (.int (f k) :: rest))) : W p l e R s m args below meth c H locs cells slots Q (F0 m pc ls (.int (nI k) :: .ref a :: rest)) := by
  refine va_iald hexec hb hK hP q0 t0 ha ht (vp_in_nI hk hn) hdg ?_
  rw [nI_clamp (Nat.lt_trans hk hn)]
  exact kk
theorem ps_zald (hexec : p.tables.exec = Jvm.exec) (hb : c.code = cc) (hK : va_K D cl tys s) (hP : va_P D cl ws H) (q0 t0 : Nat) {cA : ClassId} {n a k : Nat} {f : Nat → Int32} (ha : ws[q0]? = some (a, .inl (cA, n, .inl f))) (ht : tys[t0]? = some (cA, .boolean)) (hk : k < n) (hn : n < 2 ^ 31) (hdg : decode cc pc = .ok (.baload, 1))
    (kk : W p l e R s m args below meth c H locs cells slots Q (F0 m (pc + 1) ls (.int (f k) :: rest))) : W p l e R s m args below meth c H locs cells slots Q (F0 m pc ls (.int (nI k) :: .ref a :: rest)) := by
  refine va_zald hexec hb hK hP q0 t0 ha ht (vp_in_nI hk hn) hdg ?_
  rw [nI_clamp (Nat.lt_trans hk hn)]
  exact kk
theorem ps_iast (hexec : p.tables.exec = Jvm.exec) (hb : c.code = cc) (hK : va_K D cl tys s) (hP : va_P D cl ws H) (hD : va_D A ws) (hS : va_S A H0 H locs) (q0 t0 : Nat) {cA : ClassId} {n a k : Nat} {f : Nat → Int32} (ha : ws[q0]? = some (a, .inl (cA, n, .inl f))) (ht : tys[t0]? = some (cA, .int)) {x : Int32} (hk : k < n) (hn : n < 2 ^ 31) (hdg : decode cc pc = .ok (.iastore, 1))
    (kk : ∀ (H1 : Heap) (locs1 : List Loc), va_P D cl (ws.set q0 (a, .inl (cA, n, .inl (upd f k x)))) H1 → va_D A (ws.set q0 (a, .inl (cA, n, .inl (upd f k x)))) → va_S A H0 H1 locs1 → W p l e R s m args below meth c H1 locs1 cells slots Q (F0 m (pc + 1) ls rest)) : W p l e R s m args below meth c H locs cells slots Q (F0 m pc ls (.int x :: .int (nI k) :: .ref a :: rest)) := by
  refine va_iast hexec hb hK hP hD hS q0 t0 ha ht (vp_in_nI hk hn) hdg ?_
  rw [nI_clamp (Nat.lt_trans hk hn)]
  exact kk
theorem ps_zast (hexec : p.tables.exec = Jvm.exec) (hb : c.code = cc) (hK : va_K D cl tys s) (hP : va_P D cl ws H) (hD : va_D A ws) (hS : va_S A H0 H locs) (q0 t0 : Nat) {cA : ClassId} {n a k : Nat} {f : Nat → Int32} (ha : ws[q0]? = some (a, .inl (cA, n, .inl f))) (ht : tys[t0]? = some (cA, .boolean)) {x : Int32} (hk : k < n) (hn : n < 2 ^ 31) (hx0 : vp_nar .boolean x = x) (hdg : decode cc pc = .ok (.bastore, 1))
    (kk : ∀ (H1 : Heap) (locs1 : List Loc), va_P D cl (ws.set q0 (a, .inl (cA, n, .inl (upd f k x)))) H1 → va_D A (ws.set q0 (a, .inl (cA, n, .inl (upd f k x)))) → va_S A H0 H1 locs1 → W p l e R s m args below meth c H1 locs1 cells slots Q (F0 m (pc + 1) ls rest)) : W p l e R s m args below meth c H locs cells slots Q (F0 m pc ls (.int x :: .int (nI k) :: .ref a :: rest)) := by
  refine va_zast hexec hb hK hP hD hS q0 t0 ha ht (vp_in_nI hk hn) hdg ?_
  rw [nI_clamp (Nat.lt_trans hk hn), hx0]
  exact kk
theorem ps_icmp_ge (hexec : p.tables.exec = Jvm.exec) (hb : c.code = cc) {a b : Nat} {off : Int} {tgt : Nat} (hdg : decode cc pc = .ok (.if_icmp .ge off, 3)) (ht : (pc : Int) + off = (tgt : Int)) (h1 : a < 2 ^ 31) (h2 : b < 2 ^ 31)
    (kt : b ≤ a → W p l e R s m args below meth c H locs cells slots Q (F0 m tgt ls rest)) (kf : a < b → W p l e R s m args below meth c H locs cells slots Q (F0 m (pc + 3) ls rest)) : W p l e R s m args below meth c H locs cells slots Q (F0 m pc ls (.int (nI b) :: .int (nI a) :: rest)) :=
  lv_icmp_ge hexec hb hdg ht (fun h => kt ((nI_leI h2 h1).mp h)) (fun h => kf (Nat.lt_of_not_le (fun h' => h ((nI_leI h2 h1).mpr h'))))
theorem ps_icmp_lt (hexec : p.tables.exec = Jvm.exec) (hb : c.code = cc) {a b : Nat} {off : Int} {tgt : Nat} (hdg : decode cc pc = .ok (.if_icmp .lt off, 3)) (ht : (pc : Int) + off = (tgt : Int)) (h1 : a < 2 ^ 31) (h2 : b < 2 ^ 31)
    (kt : a < b → W p l e R s m args below meth c H locs cells slots Q (F0 m tgt ls rest)) (kf : b ≤ a → W p l e R s m args below meth c H locs cells slots Q (F0 m (pc + 3) ls rest)) : W p l e R s m args below meth c H locs cells slots Q (F0 m pc ls (.int (nI b) :: .int (nI a) :: rest)) :=
  lv_icmp_lt hexec hb hdg ht (fun h => kt ((nI_ltI h1 h2).mp h)) (fun h => kf (Nat.le_of_not_lt (fun h' => h ((nI_ltI h1 h2).mpr h'))))
theorem ps_icmp_gt (hexec : p.tables.exec = Jvm.exec) (hb : c.code = cc) {a b : Nat} {off : Int} {tgt : Nat} (hdg : decode cc pc = .ok (.if_icmp .gt off, 3)) (ht : (pc : Int) + off = (tgt : Int)) (h1 : a < 2 ^ 31) (h2 : b < 2 ^ 31)
    (kt : b < a → W p l e R s m args below meth c H locs cells slots Q (F0 m tgt ls rest)) (kf : a ≤ b → W p l e R s m args below meth c H locs cells slots Q (F0 m (pc + 3) ls rest)) : W p l e R s m args below meth c H locs cells slots Q (F0 m pc ls (.int (nI b) :: .int (nI a) :: rest)) :=
  lv_icmp_gt hexec hb hdg ht (fun h => kt ((nI_ltI h2 h1).mp h)) (fun h => kf (Nat.le_of_not_lt (fun h' => h ((nI_ltI h2 h1).mpr h'))))
theorem ps_icmp_le (hexec : p.tables.exec = Jvm.exec) (hb : c.code = cc) {a b : Nat} {off : Int} {tgt : Nat} (hdg : decode cc pc = .ok (.if_icmp .le off, 3)) (ht : (pc : Int) + off = (tgt : Int)) (h1 : a < 2 ^ 31) (h2 : b < 2 ^ 31)
    (kt : a ≤ b → W p l e R s m args below meth c H locs cells slots Q (F0 m tgt ls rest)) (kf : b < a → W p l e R s m args below meth c H locs cells slots Q (F0 m (pc + 3) ls rest)) : W p l e R s m args below meth c H locs cells slots Q (F0 m pc ls (.int (nI b) :: .int (nI a) :: rest)) :=
  lv_icmp_le hexec hb hdg ht (fun h => kt ((nI_leI h1 h2).mp h)) (fun h => kf (Nat.lt_of_not_le (fun h' => h ((nI_leI h1 h2).mpr h'))))
end PSB
end
section
/-! what the class's methods answer, as functions of its rows: g 0 ids, 1 xs, 2 ys, 3 zs, 4 colours, 5 depths, 6 places, 7 changed -/
def ps_bi (b : Bool) : Int32 := if b = true then 1 else 0
theorem ps_bi_t {b : Bool} (h : b = true) : (1 : Int32) = ps_bi b := by rw [h]; rfl
theorem ps_bi_f {b : Bool} (h : b = false) : (0 : Int32) = ps_bi b := by rw [h]; rfl
theorem ps_bi0 {b : Bool} : ps_bi b = 0 ↔ b = false := by cases b <;> decide
theorem ps_bi1 {b : Bool} : ¬ ps_bi b = 0 ↔ b = true := by cases b <;> decide
/-- the first place of a value -/
def ps_fi (f : Nat → Int32) (x : Int32) (n : Nat) : Option Nat := (List.range n).find? (fun j => f j == x)
def ps_fr (r : Option Nat) : Int32 := match r with
  | none => -1
  | some k => nI k
theorem ps_fi_some {f : Nat → Int32} {x : Int32} {n k : Nat} (hk : k < n) (h : f k = x) (h0 : ∀ j, j < k → f j ≠ x) : ps_fi f x n = some k := by
  unfold ps_fi
  rw [List.find?_range_eq_some]
  refine ⟨by simpa using h, by simpa using hk, fun j hj => ?_⟩
  simpa using h0 j hj
theorem ps_fi_none {f : Nat → Int32} {x : Int32} {n : Nat} (h0 : ∀ j, j < n → f j ≠ x) : ps_fi f x n = none := by
  unfold ps_fi
  rw [List.find?_eq_none]
  intro j hj
  simpa using h0 j (List.mem_range.mp hj)
theorem ps_fi_spec {f : Nat → Int32} {x : Int32} {n k : Nat} (h : ps_fi f x n = some k) : k < n ∧ f k = x ∧ ∀ j, j < k → f j ≠ x := by
  unfold ps_fi at h
  rw [List.find?_range_eq_some] at h
  obtain ⟨h1, h2, h3⟩ := h
  refine ⟨by simpa using h2, by simpa using h1, fun j hj => ?_⟩
  simpa using h3 j hj
theorem ps_fi_spec0 {f : Nat → Int32} {x : Int32} {n : Nat} (h : ps_fi f x n = none) : ∀ j, j < n → f j ≠ x := by
  unfold ps_fi at h
  rw [List.find?_eq_none] at h
  intro j hj
  simpa using h j (List.mem_range.mpr hj)
/-- some number below n -/
def ps_any (P : Nat → Bool) (n : Nat) : Bool := (List.range n).any P
theorem ps_any_t {P : Nat → Bool} {n k : Nat} (hk : k < n) (h : P k = true) : ps_any P n = true := by
  unfold ps_any
  rw [List.any_eq_true]
  exact ⟨k, List.mem_range.mpr hk, h⟩
theorem ps_any_f {P : Nat → Bool} {n : Nat} (h : ∀ j, j < n → P j = false) : ps_any P n = false := by
  unfold ps_any
  rw [List.any_eq_false]
  intro j hj
  rw [h j (List.mem_range.mp hj)]
  decide
/-- the cube of a coordinate at a depth -/
def ps_cb (d v : Int32) : Int32 := v >>> ((4 - d) &&& 31)
abbrev ps_G : Type := Nat → Nat → Int32
def ps_in (g : ps_G) (d cx cy cz : Int32) (k : Nat) : Bool := decide (ps_cb d (g 1 k) = cx) && decide (ps_cb d (g 2 k) = cy) && decide (ps_cb d (g 3 k) = cz)
/-- j lies in k's cube at the depth d -/
def ps_one (g : ps_G) (d : Int32) (k j : Nat) : Bool := ps_in g d (ps_cb d (g 1 k)) (ps_cb d (g 2 k)) (ps_cb d (g 3 k)) j
/-- j is kept at the depth d in k's cube -/
def ps_kb (g : ps_G) (d : Int32) (k j : Nat) : Bool := decide (g 5 j = d) && ps_one g d k j
def ps_kc (g : ps_G) (k dn : Nat) : Nat := ps_cn (ps_kb g (nI dn) k) k
/-- the least depth with room, or the last -/
def ps_dn (c : Nat → Nat) : Nat := if c 0 < 3 then 0 else if c 1 < 3 then 1 else if c 2 < 3 then 2 else if c 3 < 3 then 3 else 4
/-- one row settled -/
def ps_s1 (g : ps_G) (k : Nat) : ps_G := va_up (va_up g 5 (upd (g 5) k (nI (ps_dn (ps_kc g k))))) 6 (upd (g 6) k (nI (ps_kc g k (ps_dn (ps_kc g k)))))
/-- rows i .. i + m - 1 settled -/
def ps_sF (g : ps_G) (i : Nat) : Nat → ps_G
  | 0 => g
  | m + 1 => ps_s1 (ps_sF g i m) (i + m)
/-- the five rows of the points moved -/
def ps_mv (g : ps_G) (fr to ln : Nat) : ps_G := va_up (va_up (va_up (va_up (va_up g 0 (va_cpy (g 0) (g 0) fr to ln)) 1 (va_cpy (g 1) (g 1) fr to ln)) 2 (va_cpy (g 2) (g 2) fr to ln)) 3 (va_cpy (g 3) (g 3) fr to ln)) 4 (va_cpy (g 4) (g 4) fr to ln)
def ps_put (g : ps_G) (k : Nat) (id x y z c : Int32) : ps_G := va_up (va_up (va_up (va_up (va_up g 0 (upd (g 0) k id)) 1 (upd (g 1) k x)) 2 (upd (g 2) k y)) 3 (upd (g 3) k z)) 4 (upd (g 4) k c)
def ps_ab (g : ps_G) (rk : Nat) (j : Nat) : Bool := decide (rk < ps_rk (g 0 j))
/-- the other tree's seven rows over the own -/
def ps_cp (g o : ps_G) (n : Nat) : ps_G := va_up (va_up (va_up (va_up (va_up (va_up (va_up g 0 (va_cpy (o 0) (g 0) 0 0 n)) 1 (va_cpy (o 1) (g 1) 0 0 n)) 2 (va_cpy (o 2) (g 2) 0 0 n)) 3 (va_cpy (o 3) (g 3) 0 0 n)) 4 (va_cpy (o 4) (g 4) 0 0 n)) 5 (va_cpy (o 5) (g 5) 0 0 n)) 6 (va_cpy (o 6) (g 6) 0 0 n)
/-- a page begins at this place -/
def ps_bp (v : Int32) : Bool := decide (v - v / 6 * 6 = 0)
/-- this tree (g, n) keeps row k of the other (o) alike -/
def ps_al (g : ps_G) (n : Nat) (o : ps_G) (k : Nat) : Bool := match ps_fi (g 0) (o 0 k) n with
  | none => false
  | some w => decide (g 1 w = o 1 k) && decide (g 2 w = o 2 k) && decide (g 3 w = o 3 k) && decide (g 4 w = o 4 k) && decide (g 5 w = o 5 k)
def ps_hp (g : ps_G) (d cx cy cz : Int32) (k : Nat) : Bool := decide (¬ g 7 k = 0) && decide (d ≤ g 5 k) && ps_in g d cx cy cz k
def ps_hc (g : ps_G) (n : Nat) (d cx cy cz : Int32) : Bool := ps_any (ps_hp g d cx cy cz) n
/-- row k's node is clean in this tree (g, n) and the other (o, n') -/
def ps_nc (g : ps_G) (n : Nat) (o : ps_G) (n' k : Nat) : Bool := !ps_hc g n (g 5 k) (ps_cb (g 5 k) (g 1 k)) (ps_cb (g 5 k) (g 2 k)) (ps_cb (g 5 k) (g 3 k)) && !ps_hc o n' (g 5 k) (ps_cb (g 5 k) (g 1 k)) (ps_cb (g 5 k) (g 2 k)) (ps_cb (g 5 k) (g 3 k))
def ps_pw (g : ps_G) (n : Nat) (o : ps_G) (n' k : Nat) : Bool := ps_bp (g 6 k) && !ps_nc g n o n' k
/-- changed, with the first k marked -/
def ps_mk (g : ps_G) (n' : Nat) (o : ps_G) (k : Nat) : Nat → Int32 := fun j => if j < k then ps_bi (!ps_al o n' g j) else g 7 j
theorem ps_mk0 (g : ps_G) (n' : Nat) (o : ps_G) : ps_mk g n' o 0 = g 7 := by
  funext j
  simp [ps_mk]
theorem ps_mkS (g : ps_G) (n' : Nat) (o : ps_G) (k : Nat) : upd (ps_mk g n' o k) k (ps_bi (!ps_al o n' g k)) = ps_mk g n' o (k + 1) := by
  funext j
  by_cases h : j = k
  · subst h
    rw [pk_us]
    simp [ps_mk]
  · rw [pk_un h]
    simp only [ps_mk]
    by_cases h2 : j < k
    · rw [if_pos h2, if_pos (by omega)]
    · rw [if_neg h2, if_neg (by omega)]
/-- the distance's key, as the bytecode makes it -/
def ps_dk (g : ps_G) (x y z : Int32) (k : Nat) : Int64 := ((g 1 k - x) * (g 1 k - x) + (g 2 k - y) * (g 2 k - y) + (g 3 k - z) * (g 3 k - z)).toInt64 * 4294967296 + (g 0 k).toInt64
/-- the least of the first n keys above a bound -/
def ps_lk (f : Nat → Int64) (b : Int64) : Nat → Int64
  | 0 => 9223372036854775807
  | n + 1 => if b < f n ∧ f n < ps_lk f b n then f n else ps_lk f b n
def ps_ik (f : Nat → Int64) (n : Nat) : Nat → Int64
  | 0 => -9223372036854775808
  | k + 1 => ps_lk f (ps_ik f n k) n
def ps_co (v : Int32) : Bool := decide (¬ v < 0) && decide (¬ (16 : Int32) ≤ v)
def ps_de (v : Int32) : Bool := decide (¬ v < 0) && decide (¬ (4 : Int32) < v)
def ps_ci (d v : Int32) : Bool := decide (¬ v < 0) && decide (¬ ((1 : Int32) <<< (d &&& 31)) ≤ v)
def ps_cu (d x y z : Int32) : Bool := ps_de d && ps_ci d x && ps_ci d y && ps_ci d z
def ps_bt (x v y : Int32) : Bool := decide (¬ v < (if y < x then y else x)) && decide (¬ (if x < y then y else x) < v)
def ps_hn : Nat → Int32 → Int32
  | 0, v => v
  | n + 1, v => ps_h1 (ps_hn n v)
theorem ps_rkS {k : Nat} {v : Int32} (hk : k ≤ 3) (h : 3 ≤ k) : (ps_hn k v).toInt64 &&& 4294967295 = lN (ps_rk v) := by
  have e : k = 3 := by omega
  subst e
  exact ps_mask _
/-- the first place where P holds -/
def ps_fp (P : Nat → Bool) (n : Nat) : Option Nat := (List.range n).find? P
theorem ps_fp_some {P : Nat → Bool} {n k : Nat} (hk : k < n) (h : P k = true) (h0 : ∀ j, j < k → P j = false) : ps_fp P n = some k := by
  unfold ps_fp
  rw [List.find?_range_eq_some]
  refine ⟨h, by simpa using hk, fun j hj => ?_⟩
  simpa using h0 j hj
theorem ps_fp_none {P : Nat → Bool} {n : Nat} (h0 : ∀ j, j < n → P j = false) : ps_fp P n = none := by
  unfold ps_fp
  rw [List.find?_eq_none]
  intro j hj
  simpa using h0 j (List.mem_range.mp hj)
def ps_fk (g : ps_G) (d cx cy cz pl : Int32) (k : Nat) : Bool := decide (g 6 k = pl) && decide (g 5 k = d) && ps_in g d cx cy cz k
theorem ps_ab_t {g : ps_G} {rk k : Nat} (hrk : rk < 2 ^ 32) (h : ¬ lg_cmp (lN (ps_rk (g 0 k))) (lN rk) ≤ 0) : ps_ab g rk k = true := by
  rw [lg_cmp_le, pk_lLE (Nat.lt_trans (ps_rk_lt _) (by decide)) (Nat.lt_trans hrk (by decide))] at h
  simp only [ps_ab, decide_eq_true_eq]
  omega
theorem ps_ab_f {g : ps_G} {rk k : Nat} (hrk : rk < 2 ^ 32) (h : lg_cmp (lN (ps_rk (g 0 k))) (lN rk) ≤ 0) : ps_ab g rk k = false := by
  rw [lg_cmp_le, pk_lLE (Nat.lt_trans (ps_rk_lt _) (by decide)) (Nat.lt_trans hrk (by decide))] at h
  simp only [ps_ab, decide_eq_false_iff_not]
  omega
theorem ps_lk_1 {f : Nat → Int64} {b : Int64} {k : Nat} (h : lg_cmp (f k) b ≤ 0) : ps_lk f b (k + 1) = ps_lk f b k := by
  rw [lg_cmp_le] at h
  show (if b < f k ∧ f k < ps_lk f b k then f k else ps_lk f b k) = ps_lk f b k
  rw [if_neg]
  intro h2
  exact absurd h2.1 (Int64.not_lt.mpr h)
theorem ps_lk_2 {f : Nat → Int64} {b : Int64} {k : Nat} (h : 0 ≤ lg_cmp (f k) (ps_lk f b k)) : ps_lk f b (k + 1) = ps_lk f b k := by
  rw [lg_cmp_ge] at h
  show (if b < f k ∧ f k < ps_lk f b k then f k else ps_lk f b k) = ps_lk f b k
  rw [if_neg]
  intro h2
  exact absurd h2.2 (Int64.not_lt.mpr h)
theorem ps_lk_3 {f : Nat → Int64} {b : Int64} {k : Nat} (h1 : ¬ lg_cmp (f k) b ≤ 0) (h2 : ¬ 0 ≤ lg_cmp (f k) (ps_lk f b k)) : ps_lk f b (k + 1) = f k := by
  rw [lg_cmp_le] at h1
  rw [lg_cmp_ge] at h2
  show (if b < f k ∧ f k < ps_lk f b k then f k else ps_lk f b k) = f k
  rw [if_pos ⟨Int64.not_le.mp h1, Int64.not_le.mp h2⟩]
theorem ps_al_0 {g g' : ps_G} {n k : Nat} (h : ps_fi (g 0) (g' 0 k) n = none) : ps_al g n g' k = false := by
  simp [ps_al, h]
theorem ps_al_S {g g' : ps_G} {n k w : Nat} (h : ps_fi (g 0) (g' 0 k) n = some w) : ps_al g n g' k = (decide (g 1 w = g' 1 k) && decide (g 2 w = g' 2 k) && decide (g 3 w = g' 3 k) && decide (g 4 w = g' 4 k) && decide (g 5 w = g' 5 k)) := by
  simp [ps_al, h]
theorem ps_fr_m1 {r : Option Nat} (h : ∀ w, r = some w → w < 2 ^ 31) : ps_fr r = -1 ↔ r = none := by
  cases r with
  | none => simp [ps_fr]
  | some w =>
    simp only [ps_fr, reduceCtorEq, iff_false]
    intro e
    have h1 := nI_toInt (h w rfl)
    rw [e] at h1
    have h2 : (-1 : Int32).toInt = -1 := by decide
    omega
theorem ps_nI_m1 {w : Nat} (h : w < 2 ^ 31) : ¬ nI w = -1 := by
  intro e
  have h1 := nI_toInt h
  rw [e] at h1
  have h2 : (-1 : Int32).toInt = -1 := by decide
  omega
end
section
/-! the tree's cells; calls with the words that all share; branches on a Boolean -/
abbrev ps_trW (cI cZ : ClassId) (q : Nat) (a : Nat → Nat) (n : Nat) (g : ps_G) : va_W :=
  [(q, .inr (1, [.ref (a 0), .ref (a 1), .ref (a 2), .ref (a 3), .ref (a 4), .ref (a 5), .ref (a 6), .ref (a 7), .int (nI n)])),
   (a 0, .inl (cI, 48, .inl (g 0))), (a 1, .inl (cI, 48, .inl (g 1))), (a 2, .inl (cI, 48, .inl (g 2))), (a 3, .inl (cI, 48, .inl (g 3))), (a 4, .inl (cI, 48, .inl (g 4))),
   (a 5, .inl (cI, 48, .inl (g 5))), (a 6, .inl (cI, 48, .inl (g 6))), (a 7, .inl (cZ, 48, .inl (g 7)))]
abbrev ps_ty (cI cZ : ClassId) : List (ClassId × FieldType) := [(cI, .int), (cZ, .boolean)]
/-- the two private members of the nest's host that the tree calls -/
def ps_N (U : State) : Prop := va_Nw (.methodLinkNest RX1 45 yX2_rankOf RX2) U ∧ va_Nw (.methodLinkNest RX1 94 yX2_cubeIndex RX2) U
theorem ps_N.warm {s U : State} (hW : s.WarmedH U.vm) (h : ps_N s) : ps_N U := ⟨va_Nw.warmM hW h.1, va_Nw.warmM hW h.2⟩
theorem ps_N.calling {U : State} {g : JFrame} {mk : MethodId} {a : Array Value} (h : ps_N U) : ps_N (U.calling g mk a) := ⟨va_Nw.same rfl rfl h.1, va_Nw.same rfl rfl h.2⟩
/-- the start of a method that only reads: its arguments, the cells that it reads -/
def ps_pc (D : va_G) (tys : List (ClassId × FieldType)) (ws : va_W) (av : List Value) : Array Value → State → Prop := va_Pc av (fun U => ps_N U ∧ va_P D vwCl ws U.heap ∧ va_K D vwCl tys U)
theorem ps_pc_blind {D : va_G} {tys : List (ClassId × FieldType)} {ws : va_W} {av : List Value} : FrameBlind (ps_pc D tys ws av) := fun a U g mk q => by
  obtain ⟨q0, qN, qP, qK⟩ := q
  exact ⟨q0, qN.calling, qP, va_K.moved (u := U) (U := U.calling g mk a) (Vm.Alike.refl U.vm) qK⟩
theorem ps_preS {s : State} {H : Heap} {D : va_G} {tys : List (ClassId × FieldType)} {ws : va_W} {av : List Value} (hN : ps_N s) (hP : va_P D vwCl ws H) (hK : va_K D vwCl tys s) : PreS s H (ps_pc D tys ws av) av :=
  ⟨ps_pc_blind, fun U hU hW => ⟨rfl, hN.warm hW, by rw [hU]; exact hP, va_K.moved hW.alike hK⟩⟩
theorem ps_preV {s : State} {H : Heap} {D : va_G} {tys : List (ClassId × FieldType)} {ws : va_W} {As : List Value} {b q0 ci : Nat} {q : vw_C} {fs : List Value} (hN : ps_N s) (hP : va_P D vwCl ws H) (hK : va_K D vwCl tys s) (hc : vwCl[ci]? = some q) (he : ws[q0]? = some (b, .inr (ci, fs))) : PreV s H q.1 b (ps_pc D tys ws (.ref b :: As)) As :=
  ⟨ps_pc_blind, va_recv hK hP hc he, fun U hU hW => ⟨rfl, hN.warm hW, by rw [hU]; exact hP, va_K.moved hW.alike hK⟩⟩
theorem ps_gV {own C : String} {idx n : Nat} {y : MethodName} {b : ByteArray} {r : Option FieldType} (h1 : Cond.methodLink own idx y ∈ ps_T) (h2 : Cond.instanceMethod y ∈ ps_T) (h3 : Cond.selects C y y ∈ ps_T) (h4 : Cond.initialized C ∈ ps_T) (h5 : Cond.code y b n r ∈ ps_T) : GoodIn ps_T (wsV own idx C y (.code y b n r :: ps_T)) := by
  intro w hw
  refine ps_T_self w ?_
  simp only [wsV, List.cons_append, List.nil_append, List.mem_cons] at hw
  rcases hw with rfl | rfl | rfl | rfl | rfl | h <;> assumption
theorem ps_gS {own : String} {idx n : Nat} {y : MethodName} {b : ByteArray} {r : Option FieldType} (h1 : Cond.methodLink own idx y ∈ ps_T) (h2 : Cond.static y ∈ ps_T) (h4 : Cond.initialized y.cls ∈ ps_T) (h5 : Cond.code y b n r ∈ ps_T) : GoodIn ps_T (va_wsS own idx y (.code y b n r :: ps_T)) := by
  intro w hw
  refine ps_T_self w ?_
  simp only [va_wsS, List.cons_append, List.nil_append, List.mem_cons] at hw
  rcases hw with rfl | rfl | rfl | rfl | h <;> assumption
theorem ps_gC {n : Nat} {y : MethodName} {b : ByteArray} {r : Option FieldType} (h5 : Cond.code y b n r ∈ ps_T) : GoodIn ps_T (.code y b n r :: ps_T) := by
  intro w hw
  refine ps_T_self w ?_
  rcases List.mem_cons.mp hw with rfl | h <;> assumption
section PSC
variable {p : Program} {l : Launch} {e : Env} {R : Room} {s : State} {m : MethodId} {args : Array Value} {below : List Frame} {meth : Method} {c : Code} {H : Heap} {locs : List Loc} {cells slots : Nat} {Q : State → Prop}
variable {cc : ByteArray} {pc : Nat} {ls : Array Slot} {rest : List Value}
theorem ps_ifb_eq (hexec : p.tables.exec = Jvm.exec) (hb : c.code = cc) {x : Bool} {off : Int} {tgt : Nat} (hdg : decode cc pc = .ok (.ifCond .eq off, 3)) (ht : (pc : Int) + off = (tgt : Int))
    (kt : x = false → W p l e R s m args below meth c H locs cells slots Q (F0 m tgt ls rest)) (kf : x = true → W p l e R s m args below meth c H locs cells slots Q (F0 m (pc + 3) ls rest)) : W p l e R s m args below meth c H locs cells slots Q (F0 m pc ls (.int (ps_bi x) :: rest)) :=
  lv_if_eq hexec hb hdg ht (fun h => kt (ps_bi0.mp h)) (fun h => kf (ps_bi1.mp h))
theorem ps_ifb_ne (hexec : p.tables.exec = Jvm.exec) (hb : c.code = cc) {x : Bool} {off : Int} {tgt : Nat} (hdg : decode cc pc = .ok (.ifCond .ne off, 3)) (ht : (pc : Int) + off = (tgt : Int))
    (kt : x = true → W p l e R s m args below meth c H locs cells slots Q (F0 m tgt ls rest)) (kf : x = false → W p l e R s m args below meth c H locs cells slots Q (F0 m (pc + 3) ls rest)) : W p l e R s m args below meth c H locs cells slots Q (F0 m pc ls (.int (ps_bi x) :: rest)) :=
  lv_if_ne hexec hb hdg ht (fun h => kt (ps_bi1.mp h)) (fun h => kf (ps_bi0.mp h))
end PSC
end
section
/-! methods that write: their start and end; calls of them -/
def ps_qc (D : va_G) (tys : List (ClassId × FieldType)) (ws : va_W) (sz : Nat) (av : List Value) : Array Value → State → Prop := va_Pc av (fun U => U.heap.size = sz ∧ ps_N U ∧ va_P D vwCl ws U.heap ∧ va_K D vwCl tys U ∧ va_D (fun _ => True) ws)
def ps_qB (D : va_G) (tys : List (ClassId × FieldType)) (A : Nat → Prop) (ws : va_W) : Unit → State → Prop := fun _ t => va_P D vwCl ws t.heap ∧ va_K D vwCl tys t ∧ va_D A ws
theorem ps_qc_blind {D : va_G} {tys : List (ClassId × FieldType)} {ws : va_W} {sz : Nat} {av : List Value} : FrameBlind (ps_qc D tys ws sz av) := fun a U g mk q => by
  obtain ⟨q0, q1, qN, qP, qK, qD⟩ := q
  exact ⟨q0, q1, qN.calling, qP, va_K.moved (u := U) (U := U.calling g mk a) (Vm.Alike.refl U.vm) qK, qD⟩
theorem ps_qreS {s : State} {H : Heap} {D : va_G} {tys : List (ClassId × FieldType)} {ws wc : va_W} {av : List Value} {A : Nat → Prop} (isC : List Nat) (hN : ps_N s) (hP : va_P D vwCl ws H) (hK : va_K D vwCl tys s) (hD : va_D A ws) (h1 : isC.filterMap (fun i => ws[i]?) = wc) (h2 : va_nd isC = true) (h3 : isC.map (fun i => ws[i]?) = wc.map some) : PreS s H (ps_qc D tys wc H.size av) av :=
  ⟨ps_qc_blind, fun U hU hW => ⟨rfl, by rw [hU], hN.warm hW, by rw [hU]; exact hP.sub isC h1, va_K.moved hW.alike hK, (hD.sub isC h2 h3).weaken (fun _ _ _ _ => trivial)⟩⟩
theorem ps_qreV {s : State} {H : Heap} {D : va_G} {tys : List (ClassId × FieldType)} {ws wc : va_W} {As : List Value} {A : Nat → Prop} {b ci : Nat} {q : vw_C} {fs : List Value} (isC : List Nat) (hN : ps_N s) (hP : va_P D vwCl ws H) (hK : va_K D vwCl tys s) (hD : va_D A ws) (h1 : isC.filterMap (fun i => ws[i]?) = wc) (h2 : va_nd isC = true) (h3 : isC.map (fun i => ws[i]?) = wc.map some) (hc : vwCl[ci]? = some q) (he : wc[0]? = some (b, .inr (ci, fs))) : PreV s H q.1 b (ps_qc D tys wc H.size (.ref b :: As)) As :=
  ⟨ps_qc_blind, va_recv hK (hP.sub isC h1) hc he, fun U hU hW => ⟨rfl, by rw [hU], hN.warm hW, by rw [hU]; exact hP.sub isC h1, va_K.moved hW.alike hK, (hD.sub isC h2 h3).weaken (fun _ _ _ _ => trivial)⟩⟩
section PSD
variable {p : Program} {l : Launch} {e : Env} {R : Room} {s : State} {m : MethodId} {args : Array Value} {below : List Frame} {meth : Method} {c : Code} {H : Heap} {locs : List Loc} {cells slots : Nat} {Q : State → Prop}
variable {pc : Nat} {ls : Array Slot} {rest st0 : List Value} {D : va_G} {A0 : Nat → Prop} {tys : List (ClassId × FieldType)} {ws wc wr w1 ws2 : va_W} {H0 : Heap} {mc ms : Nat} {a : Array Value} {cc : ByteArray}
theorem ps_cqv (hr : va_Run p l e R s m args below meth c H locs cells slots mc ms (F0 m pc ls st0) rest (va_Qv (fun _ : Unit => True) (ps_qB D tys (va_A wc H.size) w1) (va_A wc H.size) a) (va_A wc H.size)) (hS : va_S A0 H0 H locs) (hA : ∀ q, H0.size ≤ q → A0 q) (hP : va_P D vwCl ws H) (hD : va_D A0 ws)
    (isC isR is2 : List Nat) (hC : isC.map (fun i => ws[i]?) = wc.map some) (hR : isR.map (fun i => ws[i]?) = wr.map some) (hn : va_nd isR = true) (hdis : ∀ i ∈ isR, i ∉ isC) (h2 : is2.filterMap (fun i => (wr ++ w1)[i]?) = ws2) (h3 : is2.map (fun i => (wr ++ w1)[i]?) = ws2.map some) (h4 : va_nd is2 = true)
    (kk : ∀ (H1 : Heap) (locs1 : List Loc), va_P D vwCl ws2 H1 → va_D A0 ws2 → va_S A0 H0 H1 locs1 → W p l e R s m args below meth c H1 locs1 (cells + mc) (slots + ms) Q (F0 m (pc + 3) ls rest)) : W p l e R s m args below meth c H locs cells slots Q (F0 m pc ls st0) := by
  have hF := va_free (wc := wc) hD hS hA isC hC
  refine va_callv hr hS (fun q _ h => hF q h) hF (fun u t H1 locs1 ht hvm hw hB hz1 hk1 hS1 => ?_)
  obtain ⟨hP1, hK1, hD1⟩ := hB
  rw [ht] at hP1
  obtain ⟨hP2, hD2⟩ := va_join (wr := wr) (w1 := w1) hP hD isC isR hC hR hn hdis hk1 hF hP1 hD1
  exact kk H1 locs1 (hP2.sub is2 h2) (hD2.sub is2 h4 h3) hS1
theorem ps_cqi {v : Int32} (hr : va_Run p l e R s m args below meth c H locs cells slots mc ms (F0 m pc ls st0) rest (va_Qi (fun (r : Int32) (_ : Unit) => r = v) (ps_qB D tys (va_A wc H.size) w1) (va_A wc H.size) a) (va_A wc H.size)) (hS : va_S A0 H0 H locs) (hA : ∀ q, H0.size ≤ q → A0 q) (hP : va_P D vwCl ws H) (hD : va_D A0 ws)
    (isC isR is2 : List Nat) (hC : isC.map (fun i => ws[i]?) = wc.map some) (hR : isR.map (fun i => ws[i]?) = wr.map some) (hn : va_nd isR = true) (hdis : ∀ i ∈ isR, i ∉ isC) (h2 : is2.filterMap (fun i => (wr ++ w1)[i]?) = ws2) (h3 : is2.map (fun i => (wr ++ w1)[i]?) = ws2.map some) (h4 : va_nd is2 = true)
    (kk : ∀ (H1 : Heap) (locs1 : List Loc), va_P D vwCl ws2 H1 → va_D A0 ws2 → va_S A0 H0 H1 locs1 → W p l e R s m args below meth c H1 locs1 (cells + mc) (slots + ms) Q (F0 m (pc + 3) ls (.int v :: rest))) : W p l e R s m args below meth c H locs cells slots Q (F0 m pc ls st0) := by
  have hF := va_free (wc := wc) hD hS hA isC hC
  refine va_calli hr hS (fun q _ h => hF q h) hF (fun r u t H1 locs1 ht hvm hw hB hz1 hk1 hS1 => ?_)
  have hw : r = v := hw
  subst hw
  obtain ⟨hP1, hK1, hD1⟩ := hB
  rw [ht] at hP1
  obtain ⟨hP2, hD2⟩ := va_join (wr := wr) (w1 := w1) hP hD isC isR hC hR hn hdis hk1 hF hP1 hD1
  exact kk H1 locs1 (hP2.sub is2 h2) (hD2.sub is2 h4 h3) hS1
/-- System.arraycopy between rows of ints, by numbers -/
theorem ps_copy (hexec : p.tables.exec = Jvm.exec) (hb : c.code = cc) (hml : c.maxLocals = ls.size) {own : String} {index : Nat} (hown : s.vm.findClass own = some m.cls) (hT : ∀ w ∈ ps_T, w.before args s = true) (hlink : Cond.methodLink own index arraycopyName ∈ ps_T)
    (hK : va_K D vwCl tys s) (hP : va_P D vwCl ws H) (hD : va_D A0 ws) (hS : va_S A0 H0 H locs) (q0 q1 t0 : Nat) {a0 a1 : Nat} {c0 : ClassId} {n0 n1 : Nat} {f g : Nat → Int32} (ha0 : ws[q0]? = some (a0, .inl (c0, n0, .inl f))) (ha1 : ws[q1]? = some (a1, .inl (c0, n1, .inl g))) (ht0 : tys[t0]? = some (c0, .int))
    {sp dp n : Nat} (h1 : sp < 2 ^ 31) (h2 : dp < 2 ^ 31) (h3 : n < 2 ^ 31) (h4 : sp + n ≤ n0) (h5 : dp + n ≤ n1)
    (hframes : 1 ≤ R.frames) (hlocals : (rest.map fun v => v.category).sum + (nativeFrameWords "java/lang/System" "arraycopy" 5 + 11) ≤ R.locals) (hdg : decode cc pc = .ok (.invokestatic index, 3))
    (kk : ∀ (H1 : Heap) (locs1 : List Loc), va_P D vwCl (ws.set q1 (a1, .inl (c0, n1, .inl (va_cpy f g sp dp n)))) H1 → va_D A0 (ws.set q1 (a1, .inl (c0, n1, .inl (va_cpy f g sp dp n)))) → va_S A0 H0 H1 locs1 → W p l e R s m args below meth c H1 locs1 cells slots Q (F0 m (pc + 3) ls rest)) : W p l e R s m args below meth c H locs cells slots Q (F0 m pc ls (.int (nI n) :: .int (nI dp) :: .ref a1 :: .int (nI sp) :: .ref a0 :: rest)) := by
  refine va_copyi hexec hb hml hown (hT _ hlink) (hT _ tw_na_System_arraycopy) (hT _ tw_st_System_arraycopy) (hT _ tw_in_System) hK hP hD hS q0 q1 t0 t0 ha0 ha1 ht0 ht0 rfl (nI_pos h1) (nI_pos h2) (nI_pos h3) (by rw [nI_clamp h1, nI_clamp h3]; exact h4) (by rw [nI_clamp h2, nI_clamp h3]; exact h5) (fun i _ => rfl) hframes hlocals hdg ?_
  rw [nI_clamp h1, nI_clamp h2, nI_clamp h3]
  exact kk
end PSD
theorem ps_dn_eq {c : Nat → Nat} {d : Nat} (hd : d ≤ 4) (hj : ∀ j, j < d → 3 ≤ c j) (h : 4 ≤ d ∨ c d < 3) : ps_dn c = d := by
  unfold ps_dn
  have h0 := hj 0; have h1 := hj 1; have h2 := hj 2; have h3 := hj 3
  rcases (by omega : d = 0 ∨ d = 1 ∨ d = 2 ∨ d = 3 ∨ d = 4) with rfl | rfl | rfl | rfl | rfl <;> (repeat' split) <;> omega
theorem ps_dec {n : Nat} (h : 0 < n) : nI n - 1 = nI (n - 1) := by
  obtain ⟨m, rfl⟩ : ∃ m, n = m + 1 := ⟨n - 1, by omega⟩
  exact nI_pred m
theorem ps_mk_at (g : ps_G) (n' : Nat) (o : ps_G) (k : Nat) : ps_mk g n' o (k + 1) k = ps_bi (!ps_al o n' g k) := by
  simp [ps_mk]
end
section
/-- the words of a throw of X, whose constructor passes the text on by its pool's entry ix -/
def ps_own (own : String) (ic : Nat) (X : String) (ix : Nat) (rx : ByteArray) : List Cond :=
  Bundle.throwableAtoms ++ Bundle.throwableSAtoms ++ (Bundle.passSAtoms X "java/lang/RuntimeException" ix rx ++ Bundle.chainSAtoms "java/lang/RuntimeException" ["java/lang/Exception"]) ++
  [.methodLink own ic (Bundle.initS X), .instantiable X 6, .castable X X, .selects X Bundle.tFill0 Bundle.tFill0, .selects X Bundle.tFill Bundle.tFill,
   .lays X Bundle.tN "cause" "Ljava/lang/Throwable;", .lays X Bundle.tN "stackTrace" Bundle.steD, .lays X Bundle.tN "suppressedExceptions" Bundle.listD, .lays X Bundle.tN "detailMessage" "Ljava/lang/String;",
   .isRef (.static Bundle.tN "UNASSIGNED_STACK" Bundle.steD), .isRef (.static Bundle.tN "SUPPRESSED_SENTINEL" Bundle.listD),
   .fieldLink Bundle.tN 198 Bundle.tN "backtrace" "Ljava/lang/Object;", .lays Bundle.tN Bundle.tN "backtrace" "Ljava/lang/Object;", .lays X Bundle.tN "backtrace" "Ljava/lang/Object;"]
section PSK
variable {p : Program} {l : Launch} {e : Env} {R : Room} {s : State} {m₀ : MethodId} {args : Array Value} {below : List Frame} {meth : Method} {c : Code} {W0 : State} {locs : List Loc} {cells slots : Nat}
set_option maxHeartbeats 4000000 in
/-- the constructors of X and what is above it, by the library's laws, then athrow -/
theorem ps_ctor (X : Stand p l e R s m₀ args below meth c W0 locs cells slots) (hexec : p.tables.exec = Jvm.exec) (htr : e.platform.stackTraces = false) {own cls : String} {ic ix : Nat} {rx : ByteArray}
    (r0 : decode rx 0 = .ok (.aload_n 0, 1)) (r1 : decode rx 1 = .ok (.aload_n 1, 1)) (r2 : decode rx 2 = .ok (.invokespecial ix, 3)) (r5 : decode rx 5 = .ok (.return_, 1))
    (hown : s.vm.findClass own = some m₀.cls) (hcls : Bundle.fit cls = true) (h : ∀ a ∈ ps_own own ic cls ix rx, a.before args s = true)
    (hlocs : ∀ x ∈ locs, ∀ cell, s.heap[x.base]? = some cell → cell.vm.isStatics = false)
    {a : Addr} {cX : ClassId} {kX : Class} (hfoundX : s.vm.findClass cls = some cX) (hkX : s.vm.classes[cX]? = some kX) (hcell : W0.heap[a]? = some (freshCell cX kX)) (hnew : s.heap.size ≤ a)
    {msg : Value} (hmsg : msg.isRef = true)
    {g : JFrame} (hg : g.method = m₀) (hsize : g.locals.size = c.maxLocals) (hlocked : g.locked = none) (hentered : g.entered = []) {rest : List Value} (hstack : g.stack = msg :: .ref a :: .ref a :: rest)
    (hd6 : decode c.code g.pc = .ok (.invokespecial ic, 3)) (hd9 : decode c.code (g.pc + 3) = .ok (.athrow, 1)) (hout : ∀ x ∈ c.exceptionTable.toList, covers x (g.pc + 3) = false)
    (hRframes : 5 < R.frames) (hRlocals : 2 * g.monitorRoom + ((Value.ref a :: rest).map fun v => v.category).sum + 81 ≤ R.locals) (hlocks : meth.locks = false) :
    ∃ U : State, Steps p.tables e below (W0.setTop g) U ∧ U.status = .running ∧ Ended U below (.threw a) ∧ s.WarmedH U.vm ∧ s.sameButNew ({ U with vm := s.vm } : State) locs cells slots ∧
      ∃ ce, U.heap[a]? = some ce ∧ s.vm.findClass cls = some ce.cls ∧ ce.vm = .none := by
  have howns : e.platform.frameOwnsMonitors = true := by rw [X.admits.platform]
  have hfin : e.platform.finalization = false := by rw [X.admits.platform]
  have hpl : e.platform.magicAccessors = ({} : Platform).magicAccessors := by rw [X.admits.platform]
  have a' : ∀ x, x ∈ ps_own own ic cls ix rx → x.holds args s none s [] = true := fun x hx => h x hx
  obtain ⟨T, Z0, L, -, Y⟩ := ThrowableC.of_atoms (args := args) howns hfin hpl (fun x hx => h x (by simp [ps_own, hx]))
  obtain ⟨Z, M, LZ, LM, hnZ⟩ := Init0T.ofS_atoms (args := args) hpl L Y (fun x hx => h x (by simp [ps_own, hx]))
  obtain ⟨P1, L1, hP1m, hs1⟩ := PassC.ofS_atoms (args := args) (s := s) hpl (X := cls) (Y := "java/lang/RuntimeException") (Bundle.fit_spec hcls).1 (by decide) r0 r1 r2 r5 (fun x hx => h x (by simp [ps_own, hx]))
  obtain ⟨P2, Ps, hlen, L2, hL, hP2m, hlink2, hlink⟩ := Bundle.chainS (args := args) hpl hnZ ["java/lang/Exception"] "java/lang/RuntimeException" (by decide +kernel) (by decide +kernel) (fun x hx => h x (by simp [ps_own, hx]))
  have hlink1 : P1.sup = P2.m := Option.some.inj (hs1.symm.trans hP2m)
  have hfound : s.vm.findClass cls = some P1.m.cls := findClass_of_methodNamed hP1m
  cases Option.some.inj (hfoundX.symm.trans hfound)
  obtain ⟨c1, kX', hc1, hk, hord, -, -, hn6⟩ := Cond.instantiable_spec (a' (.instantiable cls 6) (by simp [ps_own]))
  cases Option.some.inj (hc1.symm.trans hfound)
  cases Option.some.inj (hkX.symm.trans hk)
  have hsel0 : selectMethod e.platform s.vm P1.m.cls T.fill0 = .method T.fill0 := by
    obtain ⟨c2, r2, m2, q1, q2, q3, q4, -⟩ := Cond.selects_spec (a' (.selects cls Bundle.tFill0 Bundle.tFill0) (by simp [ps_own]))
    cases Option.some.inj (q1.symm.trans hfound)
    cases Option.some.inj (q2.symm.trans (State.methodFound?_of_named Y.fill0 (by decide)))
    cases Option.some.inj (q3.symm.trans Y.fill0)
    rw [Launch.admits_selectMethod X.admits]; exact q4
  have hselF : selectMethod e.platform s.vm P1.m.cls T.fill = .method T.fill := by
    obtain ⟨c2, r2, m2, q1, q2, q3, q4, -⟩ := Cond.selects_spec (a' (.selects cls Bundle.tFill Bundle.tFill) (by simp [ps_own]))
    cases Option.some.inj (q1.symm.trans hfound)
    cases Option.some.inj (q2.symm.trans (State.methodFound?_of_named Y.fill (by decide)))
    cases Option.some.inj (q3.symm.trans Y.fill)
    rw [Launch.admits_selectMethod X.admits]; exact q4
  obtain ⟨cellS0, hcS0, hiss⟩ := Y.statics
  obtain ⟨u0, hu0⟩ := Cond.staticRefV Y.unassigned L.unassignedStatic L.statics hcS0 hiss (a' (.isRef (.static Bundle.tN "UNASSIGNED_STACK" Bundle.steD)) (by simp [ps_own]))
  obtain ⟨sen, hsen⟩ := Cond.staticRefV Y.sentinel L.sentinelStatic L.statics hcS0 hiss (a' (.isRef (.static Bundle.tN "SUPPRESSED_SENTINEL" Bundle.listD)) (by simp [ps_own]))
  obtain ⟨ci198, i198, fB, hk198, hg198, ha198, hsB, -, hnB, htB, hffB⟩ := Cond.ownField (t := .object "java/lang/Object") Y.found L.cls (by decide +kernel) (a' (.fieldLink Bundle.tN 198 Bundle.tN "backtrace" "Ljava/lang/Object;") (by simp [ps_own])) (a' (.lays Bundle.tN Bundle.tN "backtrace" "Ljava/lang/Object;") (by simp [ps_own])) e.platform hpl
  obtain ⟨cellS, hcS', heS, -, hkeep⟩ := X.same.2.2.2.2.2 T.aS cellS0 hcS0
  have hcellS : W0.heap[T.aS]? = some cellS := hcS'
  have hout' : ∀ i, (⟨T.aS, i⟩ : Loc) ∉ locs := fun i hmem => by
    have := hlocs _ hmem cellS0 hcS0
    rw [hiss] at this; cases this
  have hknownS : cellS.vm ≠ .unknown := by
    rw [heS]; intro hu
    rw [show cellS0.vm = .unknown from hu] at hiss
    cases hiss
  have hneS : T.aS ≠ a := Nat.ne_of_lt (Nat.lt_of_lt_of_le (Array.getElem?_eq_some_iff.mp hcS0).1 hnew)
  obtain ⟨iM, hffM⟩ := Y.msg
  obtain ⟨tyC, dC, hdC, hdnC⟩ := Cond.laysAt hfound hk Y.cause (a' (.lays cls Bundle.tN "cause" "Ljava/lang/Throwable;") (by simp [ps_own]))
  obtain ⟨tyS, dS, hdS, hdnS⟩ := Cond.laysAt hfound hk Y.stack (a' (.lays cls Bundle.tN "stackTrace" Bundle.steD) (by simp [ps_own]))
  obtain ⟨tyP, dP, hdP, hdnP⟩ := Cond.laysAt hfound hk Y.supp (a' (.lays cls Bundle.tN "suppressedExceptions" Bundle.listD) (by simp [ps_own]))
  obtain ⟨tyM, dM, hdM, hdnM⟩ := Cond.laysAt hfound hk hffM (a' (.lays cls Bundle.tN "detailMessage" "Ljava/lang/String;") (by simp [ps_own]))
  obtain ⟨tyB, dB, hdB, hdnB⟩ := Cond.laysAt hfound hk hffB (a' (.lays cls Bundle.tN "backtrace" "Ljava/lang/Object;") (by simp [ps_own]))
  have bC := Cond.laysApart hdB hdC hdnB hdnC (by rw [hnB, Y.causeName]; decide)
  have bS := Cond.laysApart hdB hdS hdnB hdnS (by rw [hnB, Y.stackName]; decide)
  have bP := Cond.laysApart hdB hdP hdnB hdnP (by rw [hnB, Y.suppName]; decide)
  have hskip : SkipFacts T e.platform s (fun u => u) u0 ((preparedCellV T.toThrowableT (freshCell P1.m.cls kX) a u0 sen).withEntry W0.cur) :=
    ⟨{ ci198 := ci198, i198 := i198, fBack := fB }, ⟨hk198, hg198, ha198, hsB⟩, by
      have := fresh_default (c := P1.m.cls) tyB
      rw [htB] at this
      simpa [preparedCellV, Cell.setSlot, Cell.withEntry, Array.getElem?_setIfInBounds, bC, bS, bP, bC.symm, bS.symm, bP.symm, defaultValue] using this, fun _ _ => rfl⟩
  obtain ⟨tm, methC, cdC, kC, vm₁, hnC, -, -, -, -, -, -, -, hW₁, st1⟩ := Steps.initColdS (tb := p.tables) (e := e) (below := below) (s := s) (U := W0) X.here hexec X.warmed hpl hown (t := Bundle.initS cls) rfl rfl (Bundle.fit_spec hcls).2
    (a' (.methodLink own ic (Bundle.initS cls)) (by simp [ps_own])) (h (.instanceMethod (Bundle.initS cls)) (by simp [ps_own, Bundle.passSAtoms])) (bytes := rx) (maxL := 2) (h (.code (Bundle.initS cls) rx 2 none) (by simp [ps_own, Bundle.passSAtoms]))
    (f := g) hg (a := a) (msg := msg) (rest := .ref a :: rest) hstack hd6
  cases Option.some.inj (hnC.symm.trans hP1m)
  have X₁ := X.noted hW₁
  have hlen1 : Ps.length = 1 := hlen
  obtain ⟨vm₂, X₂, st2⟩ := X₁.ctorMessageOffV hexec (g := { g with stack := .ref a :: rest }) hg hsize T L Z LZ M LM (P1 :: P2 :: Ps)
    (fun P hP => by
      rcases List.mem_cons.mp hP with rfl | hP
      · exact L1
      · rcases List.mem_cons.mp hP with rfl | hP
        · exact L2
        · exact hL P hP) ⟨hlink1, hlink2, hlink⟩ (u0 := u0) (sen := sen) (self := a) hmsg (cell := freshCell P1.m.cls kX) (cellS := cellS)
    hcell (fun _ => by simp) (by simp) rfl rfl hsel0 hselF hcellS hneS hknownS (by rw [hkeep _ (hout' _)]; exact hu0) (by rw [hkeep _ (hout' _)]; exact hsen)
    (Takes.of_laid hk hord tyC (by rw [Y.causeType]; rfl)) (Takes.of_laid hk hord tyS (by rw [Y.stackType]; exact fits_refV_array _ u0)) (Takes.of_laid hk hord tyP (by rw [Y.suppType]; exact fits_refV_object _ sen))
    (Takes.of_laid hk hord tyM (by rw [Y.msgType]; exact fits_refV_object _ ⟨msg, hmsg⟩)) Y.objLocals hskip htr [] hd6
    (by simp only [List.length_cons, hlen1]; omega) (by simp only [List.length_cons, hlen1]; exact hRlocals)
  obtain ⟨hwalk, hrun, hended, hWU, hsame⟩ := X₂.athrowLeaves hexec (g := { g with stack := .ref a :: rest, pc := g.pc + 3 }) hg hlocked hentered hout (a := a) (rest := rest) rfl hd9
  have hlt : a < ((W0.setVm vm₁).setVm vm₂).heap.size := (Array.getElem?_eq_some_iff.mp hcell).1
  have hU := heapAt_setCell_self (s := (W0.setVm vm₁).setVm vm₂) (plainBareV T.toThrowableT (freshCell P1.m.cls kX) a u0 sen msg) hlt
  refine ⟨_, st1 _ (fun acts => ?_), hrun, hended, hWU, hsame.weaken (fun y hy hlt' => ?_) (Nat.le_refl _) (Nat.le_refl _), _, hU, hfound, rfl⟩
  · rw [doInvoke_state]
    exact st2 _ hwalk
  · rcases List.mem_append.mp hy with h1 | h1
    · exact h1
    · exfalso
      have hb : y.base = a := by
        simp only [List.mem_cons, List.not_mem_nil, or_false] at h1
        rcases h1 with rfl | rfl | rfl | rfl | rfl <;> rfl
      rw [hb] at hlt'
      exact Nat.not_lt.mpr hnew hlt'
end PSK
def ps_at (own : String) (ic : Nat) (X : String) (ix : Nat) (rx : ByteArray) : List Cond := (ps_own own ic X ix rx).filter vx_no
abbrev ps_dcl : List MethodName := [⟨"java/lang/RuntimeException", "<init>", "(Ljava/lang/String;)V"⟩, ⟨"java/lang/Exception", "<init>", "(Ljava/lang/String;)V"⟩, ⟨"java/lang/Throwable", "<init>", "(Ljava/lang/String;)V"⟩]
/-! methods that throw: what the throws need of the start; a contract of a throw; calls of it. -/
def ps_exs : List String := ["java/lang/IllegalArgumentException", "java/lang/IllegalStateException", "java/util/NoSuchElementException", "java/lang/UnsupportedOperationException"]
def ps_strs : List (String × Nat × String) := [(RX2, 180, "a coordinate is 0 to 15"), (RX2, 40, "there is a point with that id"), (RX2, 49, "there are 48 points"), (RX2, 208, "there is no point with that id"), (RX2, 74, "a point has the fields 0 to 4"), (RX2, 93, "a depth is 0 to 4"), (RX0, 24, "the listing is empty"), (RX2, 111, "the nearest point is the first one"), (RX2, 115, "there are fewer points"), (RX2, 125, "there is no such cube"), (RX2, 130, "the node keeps none there"), (RX2, 142, "too few pages are free"), (RX2, 149, "the power went"), (RX2, 159, "a charge is 0 to 99")]
/-- the exceptions' classes, the texts, two classes that aren't one another's -/
def ps_Ex (U : State) : Prop := ((∀ X ∈ ps_exs, va_Nw (.castable X X) U) ∧ ∀ x ∈ ps_dcl, va_Nw (.declares x) U) ∧ (∀ x ∈ ps_strs, ∃ sa : Nat, vk_R x.1 x.2.1 x.2.2 sa U) ∧ ∀ X ∈ ps_exs, ∀ Y ∈ ps_exs, X ≠ Y → va_Nc X Y U
theorem ps_Ex.warm {s U : State} (hW : s.WarmedH U.vm) (h : ps_Ex s) : ps_Ex U := ⟨⟨fun X hX => va_Nw.warmC hW (h.1.1 X hX), fun x hx => va_Nw.warmD hW (h.1.2 x hx)⟩, fun x hx => by obtain ⟨sa, h1⟩ := h.2.1 x hx; exact ⟨sa, h1.warm hW⟩, fun X hX Y hY hn => (h.2.2 X hX Y hY hn).moved hW.alike⟩
theorem ps_Ex.calling {U : State} {g : JFrame} {mk : MethodId} {a : Array Value} (h : ps_Ex U) : ps_Ex (U.calling g mk a) := ⟨⟨fun X hX => va_Nw.same rfl rfl (h.1.1 X hX), fun x hx => va_Nw.same rfl rfl (h.1.2 x hx)⟩, fun x hx => by obtain ⟨sa, h1⟩ := h.2.1 x hx; exact ⟨sa, h1.same rfl⟩, fun X hX Y hY hn => (h.2.2 X hX Y hY hn).moved (Vm.Alike.refl U.vm)⟩
def ps_Z (A : Nat → Prop) (U : State) (H : Heap) : Prop := vx_Zq Bundle.tN "UNASSIGNED_STACK" Bundle.steD A U H ∧ vx_Zq Bundle.tN "SUPPRESSED_SENTINEL" Bundle.listD A U H
theorem ps_Z.moved {A : Nat → Prop} {u U : State} {H : Heap} (hvm : u.vm.Alike U.vm) (h : ps_Z A u H) : ps_Z A U H := ⟨vx_Zq.moved hvm h.1, vx_Zq.moved hvm h.2⟩
theorem ps_Z.kept {A : Nat → Prop} {U : State} {H H1 : Heap} (h : ps_Z A U H) (hq : ∀ a : Nat, a < H.size → ¬ A a → H1[a]? = H[a]?) : ps_Z A U H1 := ⟨vx_Zq.kept h.1 hq, vx_Zq.kept h.2 hq⟩
theorem ps_Z.narrow {A B : Nat → Prop} {U : State} {H : Heap} (h : ps_Z A U H) (hAB : ∀ q, B q → A q) : ps_Z B U H := ⟨vx_Zq.narrow h.1 hAB, vx_Zq.narrow h.2 hAB⟩
/-- the start of a method that throws -/
def ps_xc (D : va_G) (tys : List (ClassId × FieldType)) (ws : va_W) (sz : Nat) (av : List Value) : Array Value → State → Prop := va_Pc av (fun U => U.heap.size = sz ∧ ps_N U ∧ ps_Ex U ∧ ps_Z (va_A ws sz) U U.heap ∧ va_P D vwCl ws U.heap ∧ va_K D vwCl tys U ∧ va_D (fun _ => True) ws)
/-- its end: an exception of that class, and the world -/
def ps_XC (cls : String) (D : va_G) (tys : List (ClassId × FieldType)) (A : Nat → Prop) (ws : va_W) : String → State → State → Prop := vx_X (fun _ : Unit => True) (fun E u t => E = cls ∧ ps_qB D tys A ws u t) A
def ps_no : Array Value → State → Outcome → State → Prop := fun _ _ _ _ => False
theorem ps_xc_blind {D : va_G} {tys : List (ClassId × FieldType)} {ws : va_W} {sz : Nat} {av : List Value} : FrameBlind (ps_xc D tys ws sz av) := fun a U g mk q => by
  obtain ⟨q0, q1, qN, qE, qZ, qP, qK, qD⟩ := q
  exact ⟨q0, q1, qN.calling, qE.calling, qZ.moved (u := U) (U := U.calling g mk a) (Vm.Alike.refl U.vm), qP, va_K.moved (u := U) (U := U.calling g mk a) (Vm.Alike.refl U.vm) qK, qD⟩
theorem ps_xreS {s : State} {H H0 : Heap} {locs : List Loc} {D : va_G} {tys : List (ClassId × FieldType)} {ws wc : va_W} {av : List Value} {A : Nat → Prop} (isC : List Nat) (hN : ps_N s) (hE : ps_Ex s) (hZ : ps_Z A s H0) (hS : va_S A H0 H locs) (hA : ∀ q, H0.size ≤ q → A q) (hP : va_P D vwCl ws H) (hK : va_K D vwCl tys s) (hD : va_D A ws) (h1 : isC.filterMap (fun i => ws[i]?) = wc) (h2 : va_nd isC = true) (h3 : isC.map (fun i => ws[i]?) = wc.map some) : PreS s H (ps_xc D tys wc H.size av) av :=
  ⟨ps_xc_blind, fun U hU hW => ⟨rfl, by rw [hU], hN.warm hW, hE.warm hW, by rw [hU]; exact ((hZ.kept hS.2.1).narrow (va_free (wc := wc) hD hS hA isC h3)).moved hW.alike, by rw [hU]; exact hP.sub isC h1, va_K.moved hW.alike hK, (hD.sub isC h2 h3).weaken (fun _ _ _ _ => trivial)⟩⟩
theorem ps_xreV {s : State} {H H0 : Heap} {locs : List Loc} {D : va_G} {tys : List (ClassId × FieldType)} {ws wc : va_W} {As : List Value} {A : Nat → Prop} {b ci : Nat} {q : vw_C} {fs : List Value} (isC : List Nat) (hN : ps_N s) (hE : ps_Ex s) (hZ : ps_Z A s H0) (hS : va_S A H0 H locs) (hA : ∀ q, H0.size ≤ q → A q) (hP : va_P D vwCl ws H) (hK : va_K D vwCl tys s) (hD : va_D A ws) (h1 : isC.filterMap (fun i => ws[i]?) = wc) (h2 : va_nd isC = true) (h3 : isC.map (fun i => ws[i]?) = wc.map some) (hc : vwCl[ci]? = some q) (he : wc[0]? = some (b, .inr (ci, fs))) : PreV s H q.1 b (ps_xc D tys wc H.size (.ref b :: As)) As :=
  ⟨ps_xc_blind, va_recv hK (hP.sub isC h1) hc he, (ps_xreS (av := .ref b :: As) isC hN hE hZ hS hA hP hK hD h1 h2 h3).2⟩
section PSX
variable {p : Program} {l : Launch} {e : Env} {R : Room} {s : State} {m : MethodId} {args : Array Value} {below : List Frame} {meth : Method} {c : Code} {H : Heap} {locs : List Loc} {cells slots : Nat} {Q : State → Prop}
variable {pc : Nat} {ls : Array Slot} {rest st0 : List Value} {D : va_G} {A0 : Nat → Prop} {tys : List (ClassId × FieldType)} {ws wc wr w1 ws2 : va_W} {H0 : Heap} {mc ms : Nat} {a : Array Value} {cc : ByteArray} {cls : String}
/-- a call that throws -/
theorem ps_cx (hr : vx_Run p l e R s m args below meth c H locs cells slots mc ms (F0 m pc ls st0) rest (ps_no a) (ps_XC cls D tys (va_A wc H.size) w1) (va_A wc H.size)) (hS : va_S A0 H0 H locs) (hA : ∀ q, H0.size ≤ q → A0 q) (hP : va_P D vwCl ws H) (hD : va_D A0 ws)
    (isC isR is2 : List Nat) (hC : isC.map (fun i => ws[i]?) = wc.map some) (hR : isR.map (fun i => ws[i]?) = wr.map some) (hn : va_nd isR = true) (hdis : ∀ i ∈ isR, i ∉ isC) (h2 : is2.filterMap (fun i => (wr ++ w1)[i]?) = ws2) (h3 : is2.map (fun i => (wr ++ w1)[i]?) = ws2.map some) (h4 : va_nd is2 = true)
    (kx : ∀ (ce : Cell) (q9 : Addr) (H1 : Heap) (locs1 : List Loc), va_P D vwCl ws2 H1 → va_D A0 ws2 → va_S A0 H0 H1 locs1 → H1[q9]? = some ce → ce.vm = .none → s.vm.findClass cls = some ce.cls → vx_W p l e R s m args below meth c H1 locs1 (cells + mc) (slots + ms) Q (F0 m pc ls rest) q9) : W p l e R s m args below meth c H locs cells slots Q (F0 m pc ls st0) := by
  have hF := va_free (wc := wc) hD hS hA isC hC
  intro T hT X
  rcases hr T hT X with ⟨v, st₀, t, T', L, h0, X', hL, e1, e2, hq, st⟩ | ⟨q, st₀, t, T', L, E, ce, h0, X', hL, e1, e2, ⟨u, hp, ⟨hE, hP1, hK1, hD1⟩, hFr⟩, hce, hcv, hcl, st⟩
  · exact hq.elim
  · subst hE
    obtain ⟨k1, k2, k3⟩ := vx_keep h0 e1 hS (fun q _ h => hF q h) hF hL hFr
    rw [← e1] at hP1
    obtain ⟨hP2, hD2⟩ := va_join (wr := wr) (w1 := w1) hP hD isC isR hC hR hn hdis k2 hF hP1 hD1
    obtain ⟨t2, a1, b1⟩ := kx ce q T'.heap (locs ++ L) (hP2.sub is2 h2) (hD2.sub is2 h4 h3) k3 (by rw [e1]; exact hce) hcv hcl T' rfl X'
    exact ⟨t2, st.trans a1, b1⟩
/-- it isn't caught here -/
theorem ps_xout {q9 : Addr} {ce : Cell} (htab : ∀ x ∈ c.exceptionTable.toList, False) (hlocks : meth.locks = false) (hK : va_K D vwCl tys s) (hP : va_P D vwCl ws H) (hD : va_D A0 ws) (hS : va_S A0 s.heap H locs) (hce : H[q9]? = some ce) (hcv : ce.vm = .none) (hcl : s.vm.findClass cls = some ce.cls) (hc : cells ≤ mc) (hs : slots ≤ ms) :
    vx_W p l e R s m args below meth c H locs cells slots (vx_MQ below ps_no (ps_XC cls D tys A0 ws) args s mc ms A0) (F0 m pc ls rest) q9 :=
  vx_out (fun x h => (htab x h).elim) hlocks hce hcv hcl (fun t ht hvm => ⟨(), trivial, ⟨rfl, by rw [ht]; exact hP, va_K.moved hvm hK, hD⟩, hS.F ht⟩) hS.2.2 hc hs
/-- new X("..") and its throwing -/
theorem ps_throw {own text : String} {ik is ic ix : Nat} {rx : ByteArray} (hexec : p.tables.exec = Jvm.exec) (hb : c.code = cc) (hl : l.stackTraces = false) (hown : s.vm.findClass own = some m.cls) (hT : ∀ w ∈ ps_T, w.before args s = true) (hE : ps_Ex s) (hZ : ps_Z A0 s s.heap) (hS : va_S A0 s.heap H locs) (hsize : ls.size = c.maxLocals)
    (r0 : decode rx 0 = .ok (.aload_n 0, 1)) (r1 : decode rx 1 = .ok (.aload_n 1, 1)) (r2 : decode rx 2 = .ok (.invokespecial ix, 3)) (r5 : decode rx 5 = .ok (.return_, 1))
    (hk : Cond.classLink own ik cls ∈ ps_T) (hini : Cond.initialized cls ∈ ps_T) (hst : (own, is, text) ∈ ps_strs) (hce0 : cls ∈ ps_exs) (hfit : Bundle.fit cls = true) (xa : ∀ w ∈ (ps_at own ic cls ix rx).filter goodWord, w ∈ ps_T) (xb : ∀ w ∈ (ps_at own ic cls ix rx).filter (fun w => !goodWord w), w ∈ Cond.castable cls cls :: ps_dcl.map Cond.declares)
    (xg : ∀ w ∈ Cond.classLink own ik cls :: Cond.initialized cls :: ps_at own ic cls ix rx, vx_ot w = true)
    (d0 : decode cc pc = .ok (.new ik, 3)) (d3 : decode cc (pc + 3) = .ok (.dup, 1)) (d4 : decode cc (pc + 4) = .ok (.ldc is, 2)) (d6 : decode cc (pc + 6) = .ok (.invokespecial ic, 3)) (d9 : decode cc (pc + 9) = .ok (.athrow, 1)) (htab : ∀ x ∈ c.exceptionTable.toList, False) (hlocks : meth.locks = false)
    (hK : va_K D vwCl tys s) (hP : va_P D vwCl ws H) (hD : va_D A0 ws) (hRf : 5 < R.frames) (hRl : (rest.map fun v => v.category).sum + 82 ≤ R.locals) (hRc : cells + 1 ≤ R.cells) (hRs : slots + 6 ≤ R.slots) (hc : cells + 1 ≤ mc) (hs : slots + 6 ≤ ms) :
    W p l e R s m args below meth c H locs cells slots (vx_MQ below ps_no (ps_XC cls D tys A0 ws) args s mc ms A0) (F0 m pc ls rest) := by
  obtain ⟨sa, hstr⟩ := hE.2.1 _ hst
  have hat : ∀ w ∈ ps_at own ic cls ix rx, w.before args s = true := vx_hat (fun w hw => hT w (xa w hw)) xb (vx_c (va_Nw.use rfl (hE.1.1 cls hce0)) (fun w hw => by
    obtain ⟨x, hx, rfl⟩ := List.mem_map.mp hw
    exact va_Nw.use rfl (hE.1.2 x hx)))
  have hx : ∀ t : State, s.vm.Alike t.vm → H.size ≤ t.heap.size → (∀ q : Nat, q < H.size → t.heap[q]? = H[q]?) → ps_XC cls D tys A0 ws cls s t := by
    intro t hvm hz hq
    refine ⟨(), trivial, ⟨rfl, ?_, va_K.moved hvm hK, hD⟩, ?_⟩
    · exact hP.kept (fun k q hk => hq q.1 (hP k q hk).lt)
    · exact ⟨Nat.le_trans hS.1 hz, fun q h1 h2 => by rw [hq q (Nat.lt_of_lt_of_le h1 hS.1)]; exact hS.2.1 q h1 h2⟩
  intro T hT0 X
  have htr : e.platform.stackTraces = false := (show e.platform.stackTraces = l.stackTraces by rw [X.admits.platform]).trans hl
  have Y := vx_rebase X (R' := { frames := R.frames, locals := R.locals, cells := 1, slots := 6 }) (Nat.le_refl _) (Nat.le_refl _) hRc hRs
  obtain ⟨s', hA⟩ : ∃ z, z = (T.setVm s.vm).setFrames (.invoking m args :: below) := ⟨_, rfl⟩
  rw [← hA] at Y
  have hvm : s'.vm = s.vm := by rw [hA]; rfl
  have hhp : s'.heap = H := by rw [hA]; exact hT0
  have hW0 : s.WarmedH s'.vm := by rw [hvm]; exact State.WarmedH.refl s
  have hat' : ∀ w ∈ ps_at own ic cls ix rx, w.before args s' = true := fun w hw => vx_ot_at hW0 hvm.symm (xg w (List.mem_cons_of_mem _ (List.mem_cons_of_mem _ hw))) (hat w hw)
  have hk' : (Cond.classLink own ik cls).before args s' = true := vx_ot_at hW0 hvm.symm (xg _ List.mem_cons_self) (hT _ hk)
  have hini' : (Cond.initialized cls).before args s' = true := vx_ot_at hW0 hvm.symm (xg _ (List.mem_cons_of_mem _ List.mem_cons_self)) (hT _ hini)
  have hZ' : ps_Z A0 s' s'.heap := by rw [hhp]; exact (hZ.kept hS.2.1).moved hW0.alike
  have h : ∀ w ∈ ps_own own ic cls ix rx, w.before args s' = true := vx_own hat' (vx_isRefq hZ'.1.1) (vx_isRefq hZ'.2.1) hZ'.1.2.word hZ'.2.2.word
  have hown' : s'.vm.findClass own = some m.cls := by rw [hvm]; exact hown
  have hins : (Cond.instantiable cls 6).before args s' = true := h _ (by simp [ps_own])
  obtain ⟨vm₁, cX, kX, hfX, hkX, -, -, X₁, st1⟩ := Y.newCold hexec (own := own) (C := cls) (index := ik) (n := 6) hown' hk' hins hini'
    (g := F0 m pc ls rest) rfl (by rw [hb]; exact d0) (Nat.le_refl _) (Nat.le_refl _)
  generalize hT1 : (T.setVm vm₁).pushCell { cls := cX, slots := kX.instanceTypes.map defaultValue, vm := .none } = T1 at X₁ st1
  have hcat : (Value.ref T.heap.size).category = 1 := rfl
  have hcellA : T1.heap[T.heap.size]? = some (freshCell cX kX) := by rw [← hT1]; exact State.heap_pushCell_size _ _
  have d3' : decode c.code (pc + 3) = .ok (.dup, 1) := by rw [hb]; exact d3
  have d4' : decode c.code (pc + 4) = .ok (.ldc is, 2) := by rw [hb]; exact d4
  have hstr' : vk_R own is text sa s' := vk_R.warm hW0 hstr
  obtain ⟨U, hsteps, hrun, hend, hW, hsame, ce, hce, hO, hOv⟩ := ps_ctor X₁ hexec htr (own := own) (cls := cls) (ic := ic) r0 r1 r2 r5 hown' hfit h (fun x hx => nomatch hx) hfX hkX hcellA (by rw [hhp, hT0]; exact Nat.le_refl _) (msg := .ref sa) rfl
    (g := { method := m, pc := pc + 6, locals := ls, stack := .ref sa :: .ref T.heap.size :: .ref T.heap.size :: rest, locked := none }) rfl hsize rfl rfl (rest := rest) rfl
    (by rw [hb]; exact d6) (by rw [hb]; exact d9) (fun x h => (htab x h).elim) hRf (by simp only [List.map_cons, List.sum_cons, hcat]; show 2 * 0 + _ + 81 ≤ _; omega) hlocks
  obtain ⟨f1, f2⟩ := vx_frame hsame
  rw [hhp] at f1 f2
  have hWs : s.WarmedH U.vm := State.WarmedH.trans hW0 hW
  have hcl : s.vm.findClass cls = some ce.cls := by
    rw [hvm] at hO
    exact hO
  have hall : s.sameButNew ({ U with vm := s.vm } : State) locs mc ms := by
    subst hA
    obtain ⟨e1, e2⟩ := hsame
    rw [State.setFrames_setFrames] at e1
    have h2 : (T.setVm s.vm).sameButNew ({ U with vm := s.vm } : State) [] (0 + 1) (0 + 6) := ⟨e1, e2⟩
    have h3 := X.same.trans h2
    rw [List.append_nil] at h3
    exact h3.mono hc hs
  refine ⟨U, ?_, .threw T.heap.size, hrun, hend, Or.inr ⟨T.heap.size, rfl, cls, ce, locs, hx U hWs.alike f1 (fun q hq => f2 q hq (fun z hz => nomatch hz)), hce, hOv, hcl, hWs, hall, hS.2.2⟩⟩
  refine st1 _ ?_
  show Steps p.tables e below (T1.setTop { method := m, pc := pc + 3, locals := ls, stack := .ref T.heap.size :: rest, locked := none }) _
  jvm_step X₁.here [X₁.here.top, hexec, d3', Value.category]
  exact X₁.ldcString hexec (own := own) (text := text) (index := is) (a := sa) hown' hstr'.1 hstr'.2
    (g := { method := m, pc := pc + 4, locals := ls, stack := .ref T.heap.size :: .ref T.heap.size :: rest, locked := none }) rfl d4' _ hsteps
end PSX
theorem xa_X2_IAE : ∀ w ∈ (ps_at RX2 76 "java/lang/IllegalArgumentException" 7 Bundle.six).filter goodWord, w ∈ ps_T := by decide +kernel
theorem xb_X2_IAE : ∀ w ∈ (ps_at RX2 76 "java/lang/IllegalArgumentException" 7 Bundle.six).filter (fun w => !goodWord w), w ∈ Cond.castable "java/lang/IllegalArgumentException" "java/lang/IllegalArgumentException" :: ps_dcl.map Cond.declares := by decide +kernel
theorem xg_X2_IAE : ∀ w ∈ Cond.classLink RX2 72 "java/lang/IllegalArgumentException" :: Cond.initialized "java/lang/IllegalArgumentException" :: (ps_at RX2 76 "java/lang/IllegalArgumentException" 7 Bundle.six), vx_ot w = true := by decide +kernel
theorem xa_X2_ISE : ∀ w ∈ (ps_at RX2 42 "java/lang/IllegalStateException" 7 Bundle.six).filter goodWord, w ∈ ps_T := by decide +kernel
theorem xb_X2_ISE : ∀ w ∈ (ps_at RX2 42 "java/lang/IllegalStateException" 7 Bundle.six).filter (fun w => !goodWord w), w ∈ Cond.castable "java/lang/IllegalStateException" "java/lang/IllegalStateException" :: ps_dcl.map Cond.declares := by decide +kernel
theorem xg_X2_ISE : ∀ w ∈ Cond.classLink RX2 38 "java/lang/IllegalStateException" :: Cond.initialized "java/lang/IllegalStateException" :: (ps_at RX2 42 "java/lang/IllegalStateException" 7 Bundle.six), vx_ot w = true := by decide +kernel
theorem xa_X2_NSE : ∀ w ∈ (ps_at RX2 117 "java/util/NoSuchElementException" 13 prog_15_method_4_code).filter goodWord, w ∈ ps_T := by decide +kernel
theorem xb_X2_NSE : ∀ w ∈ (ps_at RX2 117 "java/util/NoSuchElementException" 13 prog_15_method_4_code).filter (fun w => !goodWord w), w ∈ Cond.castable "java/util/NoSuchElementException" "java/util/NoSuchElementException" :: ps_dcl.map Cond.declares := by decide +kernel
theorem xg_X2_NSE : ∀ w ∈ Cond.classLink RX2 113 "java/util/NoSuchElementException" :: Cond.initialized "java/util/NoSuchElementException" :: (ps_at RX2 117 "java/util/NoSuchElementException" 13 prog_15_method_4_code), vx_ot w = true := by decide +kernel
theorem xa_X2_UOE : ∀ w ∈ (ps_at RX2 151 "java/lang/UnsupportedOperationException" 7 Bundle.six).filter goodWord, w ∈ ps_T := by decide +kernel
theorem xb_X2_UOE : ∀ w ∈ (ps_at RX2 151 "java/lang/UnsupportedOperationException" 7 Bundle.six).filter (fun w => !goodWord w), w ∈ Cond.castable "java/lang/UnsupportedOperationException" "java/lang/UnsupportedOperationException" :: ps_dcl.map Cond.declares := by decide +kernel
theorem xg_X2_UOE : ∀ w ∈ Cond.classLink RX2 147 "java/lang/UnsupportedOperationException" :: Cond.initialized "java/lang/UnsupportedOperationException" :: (ps_at RX2 151 "java/lang/UnsupportedOperationException" 7 Bundle.six), vx_ot w = true := by decide +kernel
theorem xa_X0_NSE : ∀ w ∈ (ps_at RX0 26 "java/util/NoSuchElementException" 13 prog_15_method_4_code).filter goodWord, w ∈ ps_T := by decide +kernel
theorem xb_X0_NSE : ∀ w ∈ (ps_at RX0 26 "java/util/NoSuchElementException" 13 prog_15_method_4_code).filter (fun w => !goodWord w), w ∈ Cond.castable "java/util/NoSuchElementException" "java/util/NoSuchElementException" :: ps_dcl.map Cond.declares := by decide +kernel
theorem xg_X0_NSE : ∀ w ∈ Cond.classLink RX0 22 "java/util/NoSuchElementException" :: Cond.initialized "java/util/NoSuchElementException" :: (ps_at RX0 26 "java/util/NoSuchElementException" 13 prog_15_method_4_code), vx_ot w = true := by decide +kernel
theorem rNSE_0 : decode prog_15_method_4_code 0 = .ok (.aload_n 0, 1) := by decide +kernel
theorem rNSE_1 : decode prog_15_method_4_code 1 = .ok (.aload_n 1, 1) := by decide +kernel
theorem rNSE_2 : decode prog_15_method_4_code 2 = .ok (.invokespecial 13, 3) := by decide +kernel
theorem rNSE_5 : decode prog_15_method_4_code 5 = .ok (.return_, 1) := by decide +kernel
end
section
/-! contracts: the host's static methods. By wip/tree.py. -/
set_option maxHeartbeats 4000000 in
set_option maxRecDepth 100000 in
theorem mX2_isCoordinate (l : Launch) (v : Int32) : Met l yX2_isCoordinate (.code yX2_isCoordinate cX2_isCoordinate 1 (some .boolean) :: ps_T) ({ frames := 0, cells := 0, slots := 0, locals := 0 }) (fun av _ => av = ([.int v] : List Value).toArray) (vp_Si (fun r => r = ps_bi (ps_co v))) 0 0 (fun _ => False) := by
  refine Met.ofW (cc := cX2_isCoordinate) (maxL := 1) (ret := (some .boolean)) (by decide) rfl ?_
  intro p e s m args below meth c s₁ B hml hv
  subst hv
  have hx := B.exec
  have hb := B.bytes
  have hr := B.returns
  have hlocks := B.notSynchronized
  have hT : ∀ w ∈ ps_T, w.before ([.int v] : List Value).toArray s = true := fun w h => atoms_spec (ws := (.code yX2_isCoordinate cX2_isCoordinate 1 (some .boolean) :: ps_T)) B.pre w (List.mem_cons_of_mem _ h)
  have hown : s.vm.findClass RX2 = some m.cls := findClass_of_methodNamed B.named
  have hl := lv_entry ([.int v]) (n := 1) (Nat.le_of_ble_eq_true rfl)
  rw [lg_entry_eq]
  generalize (lg_sl ([.int v]) ++ List.replicate (1 - (lg_sl ([.int v])).length) Slot.unset).toArray = ls at hl ⊢
  have hl : lv_has ls 1 [(0, .int v)] := hl
  refine lv_iload_n hx hb dX2_isCoordinate_0 rfl (lv_at hl 0 rfl) ?_
  refine lv_if_lt (tgt := 14) hx hb dX2_isCoordinate_1 rfl (fun h1 => ?_) (fun h1 => ?_)
  · skip
    refine lv_iconst (v := 0) hx hb dX2_isCoordinate_14 (by decide) ?_
    exact W.zret (v := 0) hx hb hr rfl (fun t ht hW => ⟨0, rfl, by simp_all [ps_co, ps_bi], ht⟩) (fun q h => by cases h) dX2_isCoordinate_15
  · skip
    refine lv_iload_n hx hb dX2_isCoordinate_4 rfl (lv_at hl 0 rfl) ?_
    refine lv_bipush (v := 16) hx hb dX2_isCoordinate_5 (by decide) ?_
    refine lv_icmp_ge (tgt := 14) hx hb dX2_isCoordinate_7 rfl (fun h7 => ?_) (fun h7 => ?_)
    · skip
      refine lv_iconst (v := 0) hx hb dX2_isCoordinate_14 (by decide) ?_
      exact W.zret (v := 0) hx hb hr rfl (fun t ht hW => ⟨0, rfl, by simp_all [ps_co, ps_bi], ht⟩) (fun q h => by cases h) dX2_isCoordinate_15
    · skip
      refine lv_iconst (v := 1) hx hb dX2_isCoordinate_10 (by decide) ?_
      refine lv_goto (tgt := 15) hx hb dX2_isCoordinate_11 rfl ?_
      exact W.zret (v := 1) hx hb hr rfl (fun t ht hW => ⟨1, rfl, by simp_all [ps_co, ps_bi], ht⟩) (fun q h => by cases h) dX2_isCoordinate_15
set_option maxHeartbeats 4000000 in
set_option maxRecDepth 100000 in
theorem mX2_isDepth (l : Launch) (v : Int32) : Met l yX2_isDepth (.code yX2_isDepth cX2_isDepth 1 (some .boolean) :: ps_T) ({ frames := 0, cells := 0, slots := 0, locals := 0 }) (fun av _ => av = ([.int v] : List Value).toArray) (vp_Si (fun r => r = ps_bi (ps_de v))) 0 0 (fun _ => False) := by
  refine Met.ofW (cc := cX2_isDepth) (maxL := 1) (ret := (some .boolean)) (by decide) rfl ?_
  intro p e s m args below meth c s₁ B hml hv
  subst hv
  have hx := B.exec
  have hb := B.bytes
  have hr := B.returns
  have hlocks := B.notSynchronized
  have hT : ∀ w ∈ ps_T, w.before ([.int v] : List Value).toArray s = true := fun w h => atoms_spec (ws := (.code yX2_isDepth cX2_isDepth 1 (some .boolean) :: ps_T)) B.pre w (List.mem_cons_of_mem _ h)
  have hown : s.vm.findClass RX2 = some m.cls := findClass_of_methodNamed B.named
  have hl := lv_entry ([.int v]) (n := 1) (Nat.le_of_ble_eq_true rfl)
  rw [lg_entry_eq]
  generalize (lg_sl ([.int v]) ++ List.replicate (1 - (lg_sl ([.int v])).length) Slot.unset).toArray = ls at hl ⊢
  have hl : lv_has ls 1 [(0, .int v)] := hl
  refine lv_iload_n hx hb dX2_isDepth_0 rfl (lv_at hl 0 rfl) ?_
  refine lv_if_lt (tgt := 13) hx hb dX2_isDepth_1 rfl (fun h1 => ?_) (fun h1 => ?_)
  · skip
    refine lv_iconst (v := 0) hx hb dX2_isDepth_13 (by decide) ?_
    exact W.zret (v := 0) hx hb hr rfl (fun t ht hW => ⟨0, rfl, by simp_all [ps_de, ps_bi], ht⟩) (fun q h => by cases h) dX2_isDepth_14
  · skip
    refine lv_iload_n hx hb dX2_isDepth_4 rfl (lv_at hl 0 rfl) ?_
    refine lv_iconst (v := 4) hx hb dX2_isDepth_5 (by decide) ?_
    refine lv_icmp_gt (tgt := 13) hx hb dX2_isDepth_6 rfl (fun h6 => ?_) (fun h6 => ?_)
    · skip
      refine lv_iconst (v := 0) hx hb dX2_isDepth_13 (by decide) ?_
      exact W.zret (v := 0) hx hb hr rfl (fun t ht hW => ⟨0, rfl, by simp_all [ps_de, ps_bi], ht⟩) (fun q h => by cases h) dX2_isDepth_14
    · skip
      refine lv_iconst (v := 1) hx hb dX2_isDepth_9 (by decide) ?_
      refine lv_goto (tgt := 14) hx hb dX2_isDepth_10 rfl ?_
      exact W.zret (v := 1) hx hb hr rfl (fun t ht hW => ⟨1, rfl, by simp_all [ps_de, ps_bi], ht⟩) (fun q h => by cases h) dX2_isDepth_14
set_option maxHeartbeats 4000000 in
set_option maxRecDepth 100000 in
theorem mX2_isCubeIndex (l : Launch) (d v : Int32) : Met l yX2_isCubeIndex (.code yX2_isCubeIndex cX2_isCubeIndex 2 (some .boolean) :: ps_T) ({ frames := 0, cells := 0, slots := 0, locals := 0 }) (fun av _ => av = ([.int d, .int v] : List Value).toArray) (vp_Si (fun r => r = ps_bi (ps_ci d v))) 0 0 (fun _ => False) := by
  refine Met.ofW (cc := cX2_isCubeIndex) (maxL := 2) (ret := (some .boolean)) (by decide) rfl ?_
  intro p e s m args below meth c s₁ B hml hv
  subst hv
  have hx := B.exec
  have hb := B.bytes
  have hr := B.returns
  have hlocks := B.notSynchronized
  have hT : ∀ w ∈ ps_T, w.before ([.int d, .int v] : List Value).toArray s = true := fun w h => atoms_spec (ws := (.code yX2_isCubeIndex cX2_isCubeIndex 2 (some .boolean) :: ps_T)) B.pre w (List.mem_cons_of_mem _ h)
  have hown : s.vm.findClass RX2 = some m.cls := findClass_of_methodNamed B.named
  have hl := lv_entry ([.int d, .int v]) (n := 2) (Nat.le_of_ble_eq_true rfl)
  rw [lg_entry_eq]
  generalize (lg_sl ([.int d, .int v]) ++ List.replicate (2 - (lg_sl ([.int d, .int v])).length) Slot.unset).toArray = ls at hl ⊢
  have hl : lv_has ls 2 [(0, .int d), (1, .int v)] := hl
  refine lv_iload_n hx hb dX2_isCubeIndex_0 rfl (lv_at hl 1 rfl) ?_
  refine lv_if_lt (tgt := 15) hx hb dX2_isCubeIndex_1 rfl (fun h1 => ?_) (fun h1 => ?_)
  · skip
    refine lv_iconst (v := 0) hx hb dX2_isCubeIndex_15 (by decide) ?_
    exact W.zret (v := 0) hx hb hr rfl (fun t ht hW => ⟨0, rfl, by simp_all [ps_ci, ps_bi], ht⟩) (fun q h => by cases h) dX2_isCubeIndex_16
  · skip
    refine lv_iload_n hx hb dX2_isCubeIndex_4 rfl (lv_at hl 1 rfl) ?_
    refine lv_iconst (v := 1) hx hb dX2_isCubeIndex_5 (by decide) ?_
    refine lv_iload_n hx hb dX2_isCubeIndex_6 rfl (lv_at hl 0 rfl) ?_
    refine lv_ishl hx hb dX2_isCubeIndex_7 ?_
    refine lv_icmp_ge (tgt := 15) hx hb dX2_isCubeIndex_8 rfl (fun h8 => ?_) (fun h8 => ?_)
    · skip
      refine lv_iconst (v := 0) hx hb dX2_isCubeIndex_15 (by decide) ?_
      exact W.zret (v := 0) hx hb hr rfl (fun t ht hW => ⟨0, rfl, by simp_all [ps_ci, ps_bi], ht⟩) (fun q h => by cases h) dX2_isCubeIndex_16
    · skip
      refine lv_iconst (v := 1) hx hb dX2_isCubeIndex_11 (by decide) ?_
      refine lv_goto (tgt := 16) hx hb dX2_isCubeIndex_12 rfl ?_
      exact W.zret (v := 1) hx hb hr rfl (fun t ht hW => ⟨1, rfl, by simp_all [ps_ci, ps_bi], ht⟩) (fun q h => by cases h) dX2_isCubeIndex_16
set_option maxHeartbeats 4000000 in
set_option maxRecDepth 100000 in
theorem mX2_cubeIndex (l : Launch) (d v : Int32) : Met l yX2_cubeIndex (.code yX2_cubeIndex cX2_cubeIndex 2 (some .int) :: ps_T) ({ frames := 0, cells := 0, slots := 0, locals := 0 }) (fun av _ => av = ([.int d, .int v] : List Value).toArray) (vp_Si (fun r => r = ps_cb d v)) 0 0 (fun _ => False) := by
  refine Met.ofW (cc := cX2_cubeIndex) (maxL := 2) (ret := (some .int)) (by decide) rfl ?_
  intro p e s m args below meth c s₁ B hml hv
  subst hv
  have hx := B.exec
  have hb := B.bytes
  have hr := B.returns
  have hlocks := B.notSynchronized
  have hT : ∀ w ∈ ps_T, w.before ([.int d, .int v] : List Value).toArray s = true := fun w h => atoms_spec (ws := (.code yX2_cubeIndex cX2_cubeIndex 2 (some .int) :: ps_T)) B.pre w (List.mem_cons_of_mem _ h)
  have hown : s.vm.findClass RX2 = some m.cls := findClass_of_methodNamed B.named
  have hl := lv_entry ([.int d, .int v]) (n := 2) (Nat.le_of_ble_eq_true rfl)
  rw [lg_entry_eq]
  generalize (lg_sl ([.int d, .int v]) ++ List.replicate (2 - (lg_sl ([.int d, .int v])).length) Slot.unset).toArray = ls at hl ⊢
  have hl : lv_has ls 2 [(0, .int d), (1, .int v)] := hl
  refine lv_iload_n hx hb dX2_cubeIndex_0 rfl (lv_at hl 1 rfl) ?_
  refine lv_iconst (v := 4) hx hb dX2_cubeIndex_1 (by decide) ?_
  refine lv_iload_n hx hb dX2_cubeIndex_2 rfl (lv_at hl 0 rfl) ?_
  refine lv_isub hx hb dX2_cubeIndex_3 ?_
  refine lv_ishr hx hb dX2_cubeIndex_4 ?_
  exact W.iret (v := v >>> ((4 - d) &&& 31)) hx hb hr (fun t ht hW => ⟨v >>> ((4 - d) &&& 31), rfl, rfl, ht⟩) (fun q h => by cases h) dX2_cubeIndex_5
set_option maxHeartbeats 4000000 in
set_option maxRecDepth 100000 in
theorem mX2_isCube (l : Launch) (d x y z : Int32) : Met l yX2_isCube (.code yX2_isCube cX2_isCube 4 (some .boolean) :: ps_T) ({ frames := 1, cells := 0, slots := 0, locals := 21 }) (fun av _ => av = ([.int d, .int x, .int y, .int z] : List Value).toArray) (vp_Si (fun r => r = ps_bi (ps_cu d x y z))) 0 0 (fun _ => False) := by
  refine Met.ofW (cc := cX2_isCube) (maxL := 4) (ret := (some .boolean)) (by decide) rfl ?_
  intro p e s m args below meth c s₁ B hml hv
  subst hv
  have hx := B.exec
  have hb := B.bytes
  have hr := B.returns
  have hlocks := B.notSynchronized
  have hT : ∀ w ∈ ps_T, w.before ([.int d, .int x, .int y, .int z] : List Value).toArray s = true := fun w h => atoms_spec (ws := (.code yX2_isCube cX2_isCube 4 (some .boolean) :: ps_T)) B.pre w (List.mem_cons_of_mem _ h)
  have hown : s.vm.findClass RX2 = some m.cls := findClass_of_methodNamed B.named
  have hl := lv_entry ([.int d, .int x, .int y, .int z]) (n := 4) (Nat.le_of_ble_eq_true rfl)
  rw [lg_entry_eq]
  generalize (lg_sl ([.int d, .int x, .int y, .int z]) ++ List.replicate (4 - (lg_sl ([.int d, .int x, .int y, .int z])).length) Slot.unset).toArray = ls at hl ⊢
  have hl : lv_has ls 4 [(0, .int d), (1, .int x), (2, .int y), (3, .int z)] := hl
  refine lv_iload_n hx hb dX2_isCube_0 rfl (lv_at hl 0 rfl) ?_
  refine vp_callSi (va_Run.run (va_runS (As := [.int d]) (rest := []) ⟨hx, hb, hml, hown, hT⟩ (mX2_isDepth l d) (va_cwS 1 hT (ps_gS tw_ml_X2_89 tw_st_X2_isDepth tw_in_X2 tw_co_X2_isDepth) rfl rfl rfl ⟨by decide, by decide, by decide +kernel⟩ ⟨Nat.le_of_ble_eq_true rfl, Nat.le_of_ble_eq_true rfl⟩) preEq rfl rfl hl.1 rfl (lv_room (Nat.le_of_ble_eq_true rfl)) dX2_isCube_1 ⟨Nat.le_of_ble_eq_true rfl, Nat.le_of_ble_eq_true rfl⟩)) (fun r hr => ?_)
  obtain rfl : r = ps_bi (ps_de d) := hr
  refine ps_ifb_eq (tgt := 35) hx hb dX2_isCube_4 rfl (fun h4 => ?_) (fun h4 => ?_)
  · skip
    refine lv_iconst (v := 0) hx hb dX2_isCube_35 (by decide) ?_
    exact W.zret (v := 0) hx hb hr rfl (fun t ht hW => ⟨0, rfl, by simp_all [ps_cu, ps_bi], ht⟩) (fun q h => by cases h) dX2_isCube_36
  · skip
    refine lv_iload_n hx hb dX2_isCube_7 rfl (lv_at hl 0 rfl) ?_
    refine lv_iload_n hx hb dX2_isCube_8 rfl (lv_at hl 1 rfl) ?_
    refine vp_callSi (va_Run.run (va_runS (As := [.int d, .int x]) (rest := []) ⟨hx, hb, hml, hown, hT⟩ (mX2_isCubeIndex l d x) (va_cwS 2 hT (ps_gS tw_ml_X2_182 tw_st_X2_isCubeIndex tw_in_X2 tw_co_X2_isCubeIndex) rfl rfl rfl ⟨by decide, by decide, by decide +kernel⟩ ⟨Nat.le_of_ble_eq_true rfl, Nat.le_of_ble_eq_true rfl⟩) preEq rfl rfl hl.1 rfl (lv_room (Nat.le_of_ble_eq_true rfl)) dX2_isCube_9 ⟨Nat.le_of_ble_eq_true rfl, Nat.le_of_ble_eq_true rfl⟩)) (fun r hr => ?_)
    obtain rfl : r = ps_bi (ps_ci d x) := hr
    refine ps_ifb_eq (tgt := 35) hx hb dX2_isCube_12 rfl (fun h12 => ?_) (fun h12 => ?_)
    · skip
      refine lv_iconst (v := 0) hx hb dX2_isCube_35 (by decide) ?_
      exact W.zret (v := 0) hx hb hr rfl (fun t ht hW => ⟨0, rfl, by simp_all [ps_cu, ps_bi], ht⟩) (fun q h => by cases h) dX2_isCube_36
    · skip
      refine lv_iload_n hx hb dX2_isCube_15 rfl (lv_at hl 0 rfl) ?_
      refine lv_iload_n hx hb dX2_isCube_16 rfl (lv_at hl 2 rfl) ?_
      refine vp_callSi (va_Run.run (va_runS (As := [.int d, .int y]) (rest := []) ⟨hx, hb, hml, hown, hT⟩ (mX2_isCubeIndex l d y) (va_cwS 2 hT (ps_gS tw_ml_X2_182 tw_st_X2_isCubeIndex tw_in_X2 tw_co_X2_isCubeIndex) rfl rfl rfl ⟨by decide, by decide, by decide +kernel⟩ ⟨Nat.le_of_ble_eq_true rfl, Nat.le_of_ble_eq_true rfl⟩) preEq rfl rfl hl.1 rfl (lv_room (Nat.le_of_ble_eq_true rfl)) dX2_isCube_17 ⟨Nat.le_of_ble_eq_true rfl, Nat.le_of_ble_eq_true rfl⟩)) (fun r hr => ?_)
      obtain rfl : r = ps_bi (ps_ci d y) := hr
      refine ps_ifb_eq (tgt := 35) hx hb dX2_isCube_20 rfl (fun h20 => ?_) (fun h20 => ?_)
      · skip
        refine lv_iconst (v := 0) hx hb dX2_isCube_35 (by decide) ?_
        exact W.zret (v := 0) hx hb hr rfl (fun t ht hW => ⟨0, rfl, by simp_all [ps_cu, ps_bi], ht⟩) (fun q h => by cases h) dX2_isCube_36
      · skip
        refine lv_iload_n hx hb dX2_isCube_23 rfl (lv_at hl 0 rfl) ?_
        refine lv_iload_n hx hb dX2_isCube_24 rfl (lv_at hl 3 rfl) ?_
        refine vp_callSi (va_Run.run (va_runS (As := [.int d, .int z]) (rest := []) ⟨hx, hb, hml, hown, hT⟩ (mX2_isCubeIndex l d z) (va_cwS 2 hT (ps_gS tw_ml_X2_182 tw_st_X2_isCubeIndex tw_in_X2 tw_co_X2_isCubeIndex) rfl rfl rfl ⟨by decide, by decide, by decide +kernel⟩ ⟨Nat.le_of_ble_eq_true rfl, Nat.le_of_ble_eq_true rfl⟩) preEq rfl rfl hl.1 rfl (lv_room (Nat.le_of_ble_eq_true rfl)) dX2_isCube_25 ⟨Nat.le_of_ble_eq_true rfl, Nat.le_of_ble_eq_true rfl⟩)) (fun r hr => ?_)
        obtain rfl : r = ps_bi (ps_ci d z) := hr
        refine ps_ifb_eq (tgt := 35) hx hb dX2_isCube_28 rfl (fun h28 => ?_) (fun h28 => ?_)
        · skip
          refine lv_iconst (v := 0) hx hb dX2_isCube_35 (by decide) ?_
          exact W.zret (v := 0) hx hb hr rfl (fun t ht hW => ⟨0, rfl, by simp_all [ps_cu, ps_bi], ht⟩) (fun q h => by cases h) dX2_isCube_36
        · skip
          refine lv_iconst (v := 1) hx hb dX2_isCube_31 (by decide) ?_
          refine lv_goto (tgt := 36) hx hb dX2_isCube_32 rfl ?_
          exact W.zret (v := 1) hx hb hr rfl (fun t ht hW => ⟨1, rfl, by simp_all [ps_cu, ps_bi], ht⟩) (fun q h => by cases h) dX2_isCube_36
set_option maxHeartbeats 4000000 in
set_option maxRecDepth 100000 in
theorem mX2_isBetween (l : Launch) (x v y : Int32) : Met l yX2_isBetween (.code yX2_isBetween cX2_isBetween 3 (some .boolean) :: ps_T) ({ frames := 1, cells := 0, slots := 0, locals := 21 }) (fun av _ => av = ([.int x, .int v, .int y] : List Value).toArray) (vp_Si (fun r => r = ps_bi (ps_bt x v y))) 0 0 (fun _ => False) := by
  refine Met.ofW (cc := cX2_isBetween) (maxL := 3) (ret := (some .boolean)) (by decide) rfl ?_
  intro p e s m args below meth c s₁ B hml hv
  subst hv
  have hx := B.exec
  have hb := B.bytes
  have hr := B.returns
  have hlocks := B.notSynchronized
  have hT : ∀ w ∈ ps_T, w.before ([.int x, .int v, .int y] : List Value).toArray s = true := fun w h => atoms_spec (ws := (.code yX2_isBetween cX2_isBetween 3 (some .boolean) :: ps_T)) B.pre w (List.mem_cons_of_mem _ h)
  have hown : s.vm.findClass RX2 = some m.cls := findClass_of_methodNamed B.named
  have hl := lv_entry ([.int x, .int v, .int y]) (n := 3) (Nat.le_of_ble_eq_true rfl)
  rw [lg_entry_eq]
  generalize (lg_sl ([.int x, .int v, .int y]) ++ List.replicate (3 - (lg_sl ([.int x, .int v, .int y])).length) Slot.unset).toArray = ls at hl ⊢
  have hl : lv_has ls 3 [(0, .int x), (1, .int v), (2, .int y)] := hl
  refine lv_iload_n hx hb dX2_isBetween_0 rfl (lv_at hl 0 rfl) ?_
  refine lv_iload_n hx hb dX2_isBetween_1 rfl (lv_at hl 2 rfl) ?_
  refine va_mmin hx hb (hml.trans hl.1.symm) hown (hT _ tw_ml_X2_186) (hT _ tw_st_Math_min) (hT _ tw_in_Math) (hT _ tw_co_Math_min) (Nat.le_of_ble_eq_true rfl) (Nat.le_of_ble_eq_true rfl) (Nat.le_of_ble_eq_true rfl) (Nat.le_of_ble_eq_true rfl) dX2_isBetween_2 ?_
  refine lv_iload_n hx hb dX2_isBetween_5 rfl (lv_at hl 1 rfl) ?_
  refine lv_icmp_gt (tgt := 22) hx hb dX2_isBetween_6 rfl (fun h6 => ?_) (fun h6 => ?_)
  · skip
    refine lv_iconst (v := 0) hx hb dX2_isBetween_22 (by decide) ?_
    exact W.zret (v := 0) hx hb hr rfl (fun t ht hW => ⟨0, rfl, by simp_all [ps_bt, ps_bi], ht⟩) (fun q h => by cases h) dX2_isBetween_23
  · skip
    refine lv_iload_n hx hb dX2_isBetween_9 rfl (lv_at hl 1 rfl) ?_
    refine lv_iload_n hx hb dX2_isBetween_10 rfl (lv_at hl 0 rfl) ?_
    refine lv_iload_n hx hb dX2_isBetween_11 rfl (lv_at hl 2 rfl) ?_
    refine va_mmax hx hb (hml.trans hl.1.symm) hown (hT _ tw_ml_X2_192) (hT _ tw_st_Math_max) (hT _ tw_in_Math) (hT _ tw_co_Math_max) (Nat.le_of_ble_eq_true rfl) (Nat.le_of_ble_eq_true rfl) (Nat.le_of_ble_eq_true rfl) (Nat.le_of_ble_eq_true rfl) dX2_isBetween_12 ?_
    refine lv_icmp_gt (tgt := 22) hx hb dX2_isBetween_15 rfl (fun h15 => ?_) (fun h15 => ?_)
    · skip
      refine lv_iconst (v := 0) hx hb dX2_isBetween_22 (by decide) ?_
      exact W.zret (v := 0) hx hb hr rfl (fun t ht hW => ⟨0, rfl, by simp_all [ps_bt, ps_bi], ht⟩) (fun q h => by cases h) dX2_isBetween_23
    · skip
      refine lv_iconst (v := 1) hx hb dX2_isBetween_18 (by decide) ?_
      refine lv_goto (tgt := 23) hx hb dX2_isBetween_19 rfl ?_
      exact W.zret (v := 1) hx hb hr rfl (fun t ht hW => ⟨1, rfl, by simp_all [ps_bt, ps_bi], ht⟩) (fun q h => by cases h) dX2_isBetween_23
set_option maxHeartbeats 4000000 in
set_option maxRecDepth 100000 in
theorem mX2_rankOf (l : Launch) (v : Int32) : Met l yX2_rankOf (.code yX2_rankOf cX2_rankOf 3 (some .long) :: ps_T) ({ frames := 0, cells := 0, slots := 0, locals := 0 }) (fun av _ => av = ([.int v] : List Value).toArray) (vp_Sl (fun r => r = lN (ps_rk v))) 0 0 (fun _ => False) := by
  refine Met.ofW (cc := cX2_rankOf) (maxL := 3) (ret := (some .long)) (by decide) rfl ?_
  intro p e s m args below meth c s₁ B hml hv
  subst hv
  have hx := B.exec
  have hb := B.bytes
  have hr := B.returns
  have hlocks := B.notSynchronized
  have hT : ∀ w ∈ ps_T, w.before ([.int v] : List Value).toArray s = true := fun w h => atoms_spec (ws := (.code yX2_rankOf cX2_rankOf 3 (some .long) :: ps_T)) B.pre w (List.mem_cons_of_mem _ h)
  have hown : s.vm.findClass RX2 = some m.cls := findClass_of_methodNamed B.named
  have hl := lv_entry ([.int v]) (n := 3) (Nat.le_of_ble_eq_true rfl)
  rw [lg_entry_eq]
  generalize (lg_sl ([.int v]) ++ List.replicate (3 - (lg_sl ([.int v])).length) Slot.unset).toArray = ls at hl ⊢
  have hl : lv_has ls 3 [(0, .int v)] := hl
  refine lv_iload_n hx hb dX2_rankOf_0 rfl (lv_at hl 0 rfl) ?_
  refine lv_istore_n (lv' := [(1, .int v), (0, .int v)]) hx hb dX2_rankOf_1 rfl hl (by decide) rfl (fun ls hl => ?_)
  refine lv_iconst (v := 0) hx hb dX2_rankOf_2 (by decide) ?_
  refine lv_istore_n (lv' := [(2, .int 0), (1, .int v), (0, .int v)]) hx hb dX2_rankOf_3 rfl hl (by decide) rfl (fun ls hl => ?_)
  have hl : lv_has ls 3 [(2, .int (nI 0)), (1, .int (ps_hn 0 v)), (0, .int v)] := hl
  refine ps_loopS (α := Nat) (fun k => 3 - k) (fun k ls => (k ≤ 3) ∧ lv_has ls 3 [(0, .int v), (1, .int (ps_hn k v)), (2, .int (nI k))]) ?_ 0 ls ⟨by omega, lv_sub hl [2, 1, 0] rfl⟩
  intro k ls ih hI
  obtain ⟨hk, hl⟩ := hI
  refine lv_iload_n hx hb dX2_rankOf_4 rfl (lv_at hl 2 rfl) ?_
  refine lv_iconst (v := 3) hx hb dX2_rankOf_5 (by decide) ?_
  refine ps_icmp_ge (tgt := 27) (a := k) (b := 3) hx hb dX2_rankOf_6 rfl (by omega) (by omega) (fun h6 => ?_) (fun h6 => ?_)
  · skip
    refine lv_iload_n hx hb dX2_rankOf_27 rfl (lv_at hl 1 rfl) ?_
    refine lv_i2l (v := (ps_hn k v).toInt64) hx hb dX2_rankOf_28 rfl ?_
    refine lv_ldc2 (v := (4294967295)) hx hb hown (hT _ tw_kl_X2_175) dX2_rankOf_29 ?_
    refine lv_land hx hb dX2_rankOf_32 ?_
    exact W.lret (v := ((ps_hn k v).toInt64) &&& ((4294967295))) hx hb hr (fun t ht hW => ⟨((ps_hn k v).toInt64) &&& ((4294967295)), rfl, ps_rkS hk h6, ht⟩) (fun q h => by cases h) dX2_rankOf_33
  · skip
    refine lv_iload_n hx hb dX2_rankOf_9 rfl (lv_at hl 1 rfl) ?_
    refine lv_ldc (v := (-1640531535)) hx hb hown (hT _ tw_kc_X2_174) dX2_rankOf_10 ?_
    refine lv_imul hx hb dX2_rankOf_12 ?_
    refine lv_istore_n (lv' := [(1, .int ((ps_hn k v) * ((-1640531535)))), (0, .int v), (2, .int (nI k))]) hx hb dX2_rankOf_13 rfl hl (by decide) rfl (fun ls hl => ?_)
    refine lv_iload_n hx hb dX2_rankOf_14 rfl (lv_at hl 0 rfl) ?_
    refine lv_iload_n hx hb dX2_rankOf_15 rfl (lv_at hl 0 rfl) ?_
    refine lv_bipush (v := 16) hx hb dX2_rankOf_16 (by decide) ?_
    refine lv_iushr (v := (((ps_hn k v) * ((-1640531535))).toUInt32 >>> ((16 : Int32).toUInt32 &&& Int32.toUInt32 31)).toInt32) hx hb dX2_rankOf_18 rfl ?_
    refine lv_ixor hx hb dX2_rankOf_19 ?_
    refine lv_istore_n (lv' := [(1, .int (((ps_hn k v) * ((-1640531535))) ^^^ ((((ps_hn k v) * ((-1640531535))).toUInt32 >>> ((16 : Int32).toUInt32 &&& Int32.toUInt32 31)).toInt32))), (0, .int v), (2, .int (nI k))]) hx hb dX2_rankOf_20 rfl hl (by decide) rfl (fun ls hl => ?_)
    refine lv_iinc (k := 2) (v := nI (k + 1)) (lv' := [(2, .int (nI (k + 1))), (1, .int (((ps_hn k v) * ((-1640531535))) ^^^ ((((ps_hn k v) * ((-1640531535))).toUInt32 >>> ((16 : Int32).toUInt32 &&& Int32.toUInt32 31)).toInt32))), (0, .int v)]) hx hb dX2_rankOf_21 hl rfl (ps_inc _) (by decide) rfl (fun ls hl => ?_)
    refine lv_goto (tgt := 4) hx hb dX2_rankOf_24 rfl ?_
    exact ih ((k + 1)) ls (by omega) ⟨by omega, lv_sub hl [2, 1, 0] rfl⟩
end
section
/-! contracts: the tree's readers. By wip/tree.py. -/
set_option maxHeartbeats 4000000 in
set_option maxRecDepth 100000 in
theorem mX1_size (l : Launch) (dC : Nat → ClassId) (dI : Nat → Nat → Nat) (cI cZ : ClassId) (q : Nat) (a : Nat → Nat) (n : Nat) (g : ps_G) : Met l yX1_size (.code yX1_size cX1_size 1 (some .int) :: ps_T) ({ frames := 0, cells := 0, slots := 0, locals := 0 }) (ps_pc (dC, dI) (ps_ty cI cZ) (ps_trW cI cZ q a n g) [.ref q]) (vp_Si (fun r => r = nI n)) 0 0 (fun _ => False) := by
  refine Met.ofW (cc := cX1_size) (maxL := 1) (ret := (some .int)) (by decide) rfl ?_
  intro p e s m args below meth c s₁ B hml hv
  obtain ⟨rfl, hN, hP, hK⟩ := hv
  have hx := B.exec
  have hb := B.bytes
  have hr := B.returns
  have hlocks := B.notSynchronized
  have hT : ∀ w ∈ ps_T, w.before ([.ref q] : List Value).toArray s = true := fun w h => atoms_spec (ws := (.code yX1_size cX1_size 1 (some .int) :: ps_T)) B.pre w (List.mem_cons_of_mem _ h)
  have hown : s.vm.findClass RX1 = some m.cls := findClass_of_methodNamed B.named
  have hl := lv_entry ([.ref q]) (n := 1) (Nat.le_of_ble_eq_true rfl)
  rw [lg_entry_eq]
  generalize (lg_sl ([.ref q]) ++ List.replicate (1 - (lg_sl ([.ref q])).length) Slot.unset).toArray = ls at hl ⊢
  have hl : lv_has ls 1 [(0, .ref q)] := hl
  refine lv_aload_n hx hb dX1_size_0 rfl (lv_at hl 0 rfl) ?_
  refine va_get (D := (dC, dI)) (ci := 1) (v := .int (nI n)) (C := RX1) (T := TX1) (N := 9) hx hb hT inX1 hown hK hP 0 rfl rfl 8 (by decide) (hT _ tw_fl_X1_37) (fun _ h9 => h9) rfl dX1_size_1 ?_
  exact W.iret (v := nI n) hx hb hr (fun t ht hW => ⟨nI n, rfl, rfl, ht⟩) (fun q h => by cases h) dX1_size_4
set_option maxHeartbeats 4000000 in
set_option maxRecDepth 100000 in
theorem mX1_idOf (l : Launch) (dC : Nat → ClassId) (dI : Nat → Nat → Nat) (cI cZ : ClassId) (q : Nat) (a : Nat → Nat) (n : Nat) (g : ps_G) (k : Nat) (hk : k < 48) : Met l yX1_idOf (.code yX1_idOf cX1_idOf 2 (some .int) :: ps_T) ({ frames := 0, cells := 0, slots := 0, locals := 0 }) (ps_pc (dC, dI) (ps_ty cI cZ) (ps_trW cI cZ q a n g) [.ref q, .int (nI k)]) (vp_Si (fun r => r = g 0 k)) 0 0 (fun _ => False) := by
  refine Met.ofW (cc := cX1_idOf) (maxL := 2) (ret := (some .int)) (by decide) rfl ?_
  intro p e s m args below meth c s₁ B hml hv
  obtain ⟨rfl, hN, hP, hK⟩ := hv
  have hx := B.exec
  have hb := B.bytes
  have hr := B.returns
  have hlocks := B.notSynchronized
  have hT : ∀ w ∈ ps_T, w.before ([.ref q, .int (nI k)] : List Value).toArray s = true := fun w h => atoms_spec (ws := (.code yX1_idOf cX1_idOf 2 (some .int) :: ps_T)) B.pre w (List.mem_cons_of_mem _ h)
  have hown : s.vm.findClass RX1 = some m.cls := findClass_of_methodNamed B.named
  have hl := lv_entry ([.ref q, .int (nI k)]) (n := 2) (Nat.le_of_ble_eq_true rfl)
  rw [lg_entry_eq]
  generalize (lg_sl ([.ref q, .int (nI k)]) ++ List.replicate (2 - (lg_sl ([.ref q, .int (nI k)])).length) Slot.unset).toArray = ls at hl ⊢
  have hl : lv_has ls 2 [(0, .ref q), (1, .int (nI k))] := hl
  refine lv_aload_n hx hb dX1_idOf_0 rfl (lv_at hl 0 rfl) ?_
  refine va_get (D := (dC, dI)) (ci := 1) (v := .ref (a 0)) (C := RX1) (T := TX1) (N := 9) hx hb hT inX1 hown hK hP 0 rfl rfl 0 (by decide) (hT _ tw_fl_X1_9) (fun _ h9 => h9) rfl dX1_idOf_1 ?_
  refine lv_iload_n hx hb dX1_idOf_4 rfl (lv_at hl 1 rfl) ?_
  refine ps_iald (k := k) (f := g 0) hx hb hK hP 1 0 rfl rfl (by omega) (by decide) dX1_idOf_5 ?_
  exact W.iret (v := g 0 k) hx hb hr (fun t ht hW => ⟨g 0 k, rfl, rfl, ht⟩) (fun q h => by cases h) dX1_idOf_6
set_option maxHeartbeats 4000000 in
set_option maxRecDepth 100000 in
theorem mX1_xOf (l : Launch) (dC : Nat → ClassId) (dI : Nat → Nat → Nat) (cI cZ : ClassId) (q : Nat) (a : Nat → Nat) (n : Nat) (g : ps_G) (k : Nat) (hk : k < 48) : Met l yX1_xOf (.code yX1_xOf cX1_xOf 2 (some .int) :: ps_T) ({ frames := 0, cells := 0, slots := 0, locals := 0 }) (ps_pc (dC, dI) (ps_ty cI cZ) (ps_trW cI cZ q a n g) [.ref q, .int (nI k)]) (vp_Si (fun r => r = g 1 k)) 0 0 (fun _ => False) := by
  refine Met.ofW (cc := cX1_xOf) (maxL := 2) (ret := (some .int)) (by decide) rfl ?_
  intro p e s m args below meth c s₁ B hml hv
  obtain ⟨rfl, hN, hP, hK⟩ := hv
  have hx := B.exec
  have hb := B.bytes
  have hr := B.returns
  have hlocks := B.notSynchronized
  have hT : ∀ w ∈ ps_T, w.before ([.ref q, .int (nI k)] : List Value).toArray s = true := fun w h => atoms_spec (ws := (.code yX1_xOf cX1_xOf 2 (some .int) :: ps_T)) B.pre w (List.mem_cons_of_mem _ h)
  have hown : s.vm.findClass RX1 = some m.cls := findClass_of_methodNamed B.named
  have hl := lv_entry ([.ref q, .int (nI k)]) (n := 2) (Nat.le_of_ble_eq_true rfl)
  rw [lg_entry_eq]
  generalize (lg_sl ([.ref q, .int (nI k)]) ++ List.replicate (2 - (lg_sl ([.ref q, .int (nI k)])).length) Slot.unset).toArray = ls at hl ⊢
  have hl : lv_has ls 2 [(0, .ref q), (1, .int (nI k))] := hl
  refine lv_aload_n hx hb dX1_xOf_0 rfl (lv_at hl 0 rfl) ?_
  refine va_get (D := (dC, dI)) (ci := 1) (v := .ref (a 1)) (C := RX1) (T := TX1) (N := 9) hx hb hT inX1 hown hK hP 0 rfl rfl 1 (by decide) (hT _ tw_fl_X1_15) (fun _ h9 => h9) rfl dX1_xOf_1 ?_
  refine lv_iload_n hx hb dX1_xOf_4 rfl (lv_at hl 1 rfl) ?_
  refine ps_iald (k := k) (f := g 1) hx hb hK hP 2 0 rfl rfl (by omega) (by decide) dX1_xOf_5 ?_
  exact W.iret (v := g 1 k) hx hb hr (fun t ht hW => ⟨g 1 k, rfl, rfl, ht⟩) (fun q h => by cases h) dX1_xOf_6
set_option maxHeartbeats 4000000 in
set_option maxRecDepth 100000 in
theorem mX1_yOf (l : Launch) (dC : Nat → ClassId) (dI : Nat → Nat → Nat) (cI cZ : ClassId) (q : Nat) (a : Nat → Nat) (n : Nat) (g : ps_G) (k : Nat) (hk : k < 48) : Met l yX1_yOf (.code yX1_yOf cX1_yOf 2 (some .int) :: ps_T) ({ frames := 0, cells := 0, slots := 0, locals := 0 }) (ps_pc (dC, dI) (ps_ty cI cZ) (ps_trW cI cZ q a n g) [.ref q, .int (nI k)]) (vp_Si (fun r => r = g 2 k)) 0 0 (fun _ => False) := by
  refine Met.ofW (cc := cX1_yOf) (maxL := 2) (ret := (some .int)) (by decide) rfl ?_
  intro p e s m args below meth c s₁ B hml hv
  obtain ⟨rfl, hN, hP, hK⟩ := hv
  have hx := B.exec
  have hb := B.bytes
  have hr := B.returns
  have hlocks := B.notSynchronized
  have hT : ∀ w ∈ ps_T, w.before ([.ref q, .int (nI k)] : List Value).toArray s = true := fun w h => atoms_spec (ws := (.code yX1_yOf cX1_yOf 2 (some .int) :: ps_T)) B.pre w (List.mem_cons_of_mem _ h)
  have hown : s.vm.findClass RX1 = some m.cls := findClass_of_methodNamed B.named
  have hl := lv_entry ([.ref q, .int (nI k)]) (n := 2) (Nat.le_of_ble_eq_true rfl)
  rw [lg_entry_eq]
  generalize (lg_sl ([.ref q, .int (nI k)]) ++ List.replicate (2 - (lg_sl ([.ref q, .int (nI k)])).length) Slot.unset).toArray = ls at hl ⊢
  have hl : lv_has ls 2 [(0, .ref q), (1, .int (nI k))] := hl
  refine lv_aload_n hx hb dX1_yOf_0 rfl (lv_at hl 0 rfl) ?_
  refine va_get (D := (dC, dI)) (ci := 1) (v := .ref (a 2)) (C := RX1) (T := TX1) (N := 9) hx hb hT inX1 hown hK hP 0 rfl rfl 2 (by decide) (hT _ tw_fl_X1_18) (fun _ h9 => h9) rfl dX1_yOf_1 ?_
  refine lv_iload_n hx hb dX1_yOf_4 rfl (lv_at hl 1 rfl) ?_
  refine ps_iald (k := k) (f := g 2) hx hb hK hP 3 0 rfl rfl (by omega) (by decide) dX1_yOf_5 ?_
  exact W.iret (v := g 2 k) hx hb hr (fun t ht hW => ⟨g 2 k, rfl, rfl, ht⟩) (fun q h => by cases h) dX1_yOf_6
set_option maxHeartbeats 4000000 in
set_option maxRecDepth 100000 in
theorem mX1_zOf (l : Launch) (dC : Nat → ClassId) (dI : Nat → Nat → Nat) (cI cZ : ClassId) (q : Nat) (a : Nat → Nat) (n : Nat) (g : ps_G) (k : Nat) (hk : k < 48) : Met l yX1_zOf (.code yX1_zOf cX1_zOf 2 (some .int) :: ps_T) ({ frames := 0, cells := 0, slots := 0, locals := 0 }) (ps_pc (dC, dI) (ps_ty cI cZ) (ps_trW cI cZ q a n g) [.ref q, .int (nI k)]) (vp_Si (fun r => r = g 3 k)) 0 0 (fun _ => False) := by
  refine Met.ofW (cc := cX1_zOf) (maxL := 2) (ret := (some .int)) (by decide) rfl ?_
  intro p e s m args below meth c s₁ B hml hv
  obtain ⟨rfl, hN, hP, hK⟩ := hv
  have hx := B.exec
  have hb := B.bytes
  have hr := B.returns
  have hlocks := B.notSynchronized
  have hT : ∀ w ∈ ps_T, w.before ([.ref q, .int (nI k)] : List Value).toArray s = true := fun w h => atoms_spec (ws := (.code yX1_zOf cX1_zOf 2 (some .int) :: ps_T)) B.pre w (List.mem_cons_of_mem _ h)
  have hown : s.vm.findClass RX1 = some m.cls := findClass_of_methodNamed B.named
  have hl := lv_entry ([.ref q, .int (nI k)]) (n := 2) (Nat.le_of_ble_eq_true rfl)
  rw [lg_entry_eq]
  generalize (lg_sl ([.ref q, .int (nI k)]) ++ List.replicate (2 - (lg_sl ([.ref q, .int (nI k)])).length) Slot.unset).toArray = ls at hl ⊢
  have hl : lv_has ls 2 [(0, .ref q), (1, .int (nI k))] := hl
  refine lv_aload_n hx hb dX1_zOf_0 rfl (lv_at hl 0 rfl) ?_
  refine va_get (D := (dC, dI)) (ci := 1) (v := .ref (a 3)) (C := RX1) (T := TX1) (N := 9) hx hb hT inX1 hown hK hP 0 rfl rfl 3 (by decide) (hT _ tw_fl_X1_21) (fun _ h9 => h9) rfl dX1_zOf_1 ?_
  refine lv_iload_n hx hb dX1_zOf_4 rfl (lv_at hl 1 rfl) ?_
  refine ps_iald (k := k) (f := g 3) hx hb hK hP 4 0 rfl rfl (by omega) (by decide) dX1_zOf_5 ?_
  exact W.iret (v := g 3 k) hx hb hr (fun t ht hW => ⟨g 3 k, rfl, rfl, ht⟩) (fun q h => by cases h) dX1_zOf_6
set_option maxHeartbeats 4000000 in
set_option maxRecDepth 100000 in
theorem mX1_colourOf (l : Launch) (dC : Nat → ClassId) (dI : Nat → Nat → Nat) (cI cZ : ClassId) (q : Nat) (a : Nat → Nat) (n : Nat) (g : ps_G) (k : Nat) (hk : k < 48) : Met l yX1_colourOf (.code yX1_colourOf cX1_colourOf 2 (some .int) :: ps_T) ({ frames := 0, cells := 0, slots := 0, locals := 0 }) (ps_pc (dC, dI) (ps_ty cI cZ) (ps_trW cI cZ q a n g) [.ref q, .int (nI k)]) (vp_Si (fun r => r = g 4 k)) 0 0 (fun _ => False) := by
  refine Met.ofW (cc := cX1_colourOf) (maxL := 2) (ret := (some .int)) (by decide) rfl ?_
  intro p e s m args below meth c s₁ B hml hv
  obtain ⟨rfl, hN, hP, hK⟩ := hv
  have hx := B.exec
  have hb := B.bytes
  have hr := B.returns
  have hlocks := B.notSynchronized
  have hT : ∀ w ∈ ps_T, w.before ([.ref q, .int (nI k)] : List Value).toArray s = true := fun w h => atoms_spec (ws := (.code yX1_colourOf cX1_colourOf 2 (some .int) :: ps_T)) B.pre w (List.mem_cons_of_mem _ h)
  have hown : s.vm.findClass RX1 = some m.cls := findClass_of_methodNamed B.named
  have hl := lv_entry ([.ref q, .int (nI k)]) (n := 2) (Nat.le_of_ble_eq_true rfl)
  rw [lg_entry_eq]
  generalize (lg_sl ([.ref q, .int (nI k)]) ++ List.replicate (2 - (lg_sl ([.ref q, .int (nI k)])).length) Slot.unset).toArray = ls at hl ⊢
  have hl : lv_has ls 2 [(0, .ref q), (1, .int (nI k))] := hl
  refine lv_aload_n hx hb dX1_colourOf_0 rfl (lv_at hl 0 rfl) ?_
  refine va_get (D := (dC, dI)) (ci := 1) (v := .ref (a 4)) (C := RX1) (T := TX1) (N := 9) hx hb hT inX1 hown hK hP 0 rfl rfl 4 (by decide) (hT _ tw_fl_X1_24) (fun _ h9 => h9) rfl dX1_colourOf_1 ?_
  refine lv_iload_n hx hb dX1_colourOf_4 rfl (lv_at hl 1 rfl) ?_
  refine ps_iald (k := k) (f := g 4) hx hb hK hP 5 0 rfl rfl (by omega) (by decide) dX1_colourOf_5 ?_
  exact W.iret (v := g 4 k) hx hb hr (fun t ht hW => ⟨g 4 k, rfl, rfl, ht⟩) (fun q h => by cases h) dX1_colourOf_6
set_option maxHeartbeats 4000000 in
set_option maxRecDepth 100000 in
theorem mX1_depthOf (l : Launch) (dC : Nat → ClassId) (dI : Nat → Nat → Nat) (cI cZ : ClassId) (q : Nat) (a : Nat → Nat) (n : Nat) (g : ps_G) (k : Nat) (hk : k < 48) : Met l yX1_depthOf (.code yX1_depthOf cX1_depthOf 2 (some .int) :: ps_T) ({ frames := 0, cells := 0, slots := 0, locals := 0 }) (ps_pc (dC, dI) (ps_ty cI cZ) (ps_trW cI cZ q a n g) [.ref q, .int (nI k)]) (vp_Si (fun r => r = g 5 k)) 0 0 (fun _ => False) := by
  refine Met.ofW (cc := cX1_depthOf) (maxL := 2) (ret := (some .int)) (by decide) rfl ?_
  intro p e s m args below meth c s₁ B hml hv
  obtain ⟨rfl, hN, hP, hK⟩ := hv
  have hx := B.exec
  have hb := B.bytes
  have hr := B.returns
  have hlocks := B.notSynchronized
  have hT : ∀ w ∈ ps_T, w.before ([.ref q, .int (nI k)] : List Value).toArray s = true := fun w h => atoms_spec (ws := (.code yX1_depthOf cX1_depthOf 2 (some .int) :: ps_T)) B.pre w (List.mem_cons_of_mem _ h)
  have hown : s.vm.findClass RX1 = some m.cls := findClass_of_methodNamed B.named
  have hl := lv_entry ([.ref q, .int (nI k)]) (n := 2) (Nat.le_of_ble_eq_true rfl)
  rw [lg_entry_eq]
  generalize (lg_sl ([.ref q, .int (nI k)]) ++ List.replicate (2 - (lg_sl ([.ref q, .int (nI k)])).length) Slot.unset).toArray = ls at hl ⊢
  have hl : lv_has ls 2 [(0, .ref q), (1, .int (nI k))] := hl
  refine lv_aload_n hx hb dX1_depthOf_0 rfl (lv_at hl 0 rfl) ?_
  refine va_get (D := (dC, dI)) (ci := 1) (v := .ref (a 5)) (C := RX1) (T := TX1) (N := 9) hx hb hT inX1 hown hK hP 0 rfl rfl 5 (by decide) (hT _ tw_fl_X1_27) (fun _ h9 => h9) rfl dX1_depthOf_1 ?_
  refine lv_iload_n hx hb dX1_depthOf_4 rfl (lv_at hl 1 rfl) ?_
  refine ps_iald (k := k) (f := g 5) hx hb hK hP 6 0 rfl rfl (by omega) (by decide) dX1_depthOf_5 ?_
  exact W.iret (v := g 5 k) hx hb hr (fun t ht hW => ⟨g 5 k, rfl, rfl, ht⟩) (fun q h => by cases h) dX1_depthOf_6
set_option maxHeartbeats 4000000 in
set_option maxRecDepth 100000 in
theorem mX1_find (l : Launch) (dC : Nat → ClassId) (dI : Nat → Nat → Nat) (cI cZ : ClassId) (q : Nat) (a : Nat → Nat) (n : Nat) (g : ps_G) (hn : n ≤ 48) (id : Int32) : Met l yX1_find (.code yX1_find cX1_find 3 (some .int) :: ps_T) ({ frames := 0, cells := 0, slots := 0, locals := 0 }) (ps_pc (dC, dI) (ps_ty cI cZ) (ps_trW cI cZ q a n g) [.ref q, .int id]) (vp_Si (fun r => r = ps_fr (ps_fi (g 0) id n))) 0 0 (fun _ => False) := by
  refine Met.ofW (cc := cX1_find) (maxL := 3) (ret := (some .int)) (by decide) rfl ?_
  intro p e s m args below meth c s₁ B hml hv
  obtain ⟨rfl, hN, hP, hK⟩ := hv
  have hx := B.exec
  have hb := B.bytes
  have hr := B.returns
  have hlocks := B.notSynchronized
  have hT : ∀ w ∈ ps_T, w.before ([.ref q, .int id] : List Value).toArray s = true := fun w h => atoms_spec (ws := (.code yX1_find cX1_find 3 (some .int) :: ps_T)) B.pre w (List.mem_cons_of_mem _ h)
  have hown : s.vm.findClass RX1 = some m.cls := findClass_of_methodNamed B.named
  have hl := lv_entry ([.ref q, .int id]) (n := 3) (Nat.le_of_ble_eq_true rfl)
  rw [lg_entry_eq]
  generalize (lg_sl ([.ref q, .int id]) ++ List.replicate (3 - (lg_sl ([.ref q, .int id])).length) Slot.unset).toArray = ls at hl ⊢
  have hl : lv_has ls 3 [(0, .ref q), (1, .int id)] := hl
  refine lv_iconst (v := 0) hx hb dX1_find_0 (by decide) ?_
  refine lv_istore_n (lv' := [(2, .int 0), (0, .ref q), (1, .int id)]) hx hb dX1_find_1 rfl hl (by decide) rfl (fun ls hl => ?_)
  have hl : lv_has ls 3 [(2, .int (nI 0)), (0, .ref q), (1, .int id)] := hl
  refine ps_loopS (α := Nat) (fun k => n - k) (fun k ls => (k ≤ n) ∧ (∀ j, j < k → g 0 j ≠ id) ∧ lv_has ls 3 [(0, .ref q), (1, .int id), (2, .int (nI k))]) ?_ 0 ls ⟨by omega, fun j hj => absurd hj (Nat.not_lt_zero j), lv_sub hl [1, 2, 0] rfl⟩
  intro k ls ih hI
  obtain ⟨hk, hj, hl⟩ := hI
  refine lv_iload_n hx hb dX1_find_2 rfl (lv_at hl 2 rfl) ?_
  refine lv_aload_n hx hb dX1_find_3 rfl (lv_at hl 0 rfl) ?_
  refine va_get (D := (dC, dI)) (ci := 1) (v := .int (nI n)) (C := RX1) (T := TX1) (N := 9) hx hb hT inX1 hown hK hP 0 rfl rfl 8 (by decide) (hT _ tw_fl_X1_37) (fun _ h9 => h9) rfl dX1_find_4 ?_
  refine ps_icmp_ge (tgt := 28) (a := k) (b := n) hx hb dX1_find_7 rfl (by omega) (by omega) (fun h7 => ?_) (fun h7 => ?_)
  · skip
    refine lv_iconst (v := (-1)) hx hb dX1_find_28 (by decide) ?_
    exact W.iret (v := (-1)) hx hb hr (fun t ht hW => ⟨(-1), rfl, by rw [ps_fi_none (fun j h => hj j (by omega))]; rfl, ht⟩) (fun q h => by cases h) dX1_find_29
  · skip
    refine lv_aload_n hx hb dX1_find_10 rfl (lv_at hl 0 rfl) ?_
    refine va_get (D := (dC, dI)) (ci := 1) (v := .ref (a 0)) (C := RX1) (T := TX1) (N := 9) hx hb hT inX1 hown hK hP 0 rfl rfl 0 (by decide) (hT _ tw_fl_X1_9) (fun _ h9 => h9) rfl dX1_find_11 ?_
    refine lv_iload_n hx hb dX1_find_14 rfl (lv_at hl 2 rfl) ?_
    refine ps_iald (k := k) (f := g 0) hx hb hK hP 1 0 rfl rfl (by omega) (by decide) dX1_find_15 ?_
    refine lv_iload_n hx hb dX1_find_16 rfl (lv_at hl 1 rfl) ?_
    refine lv_icmp_ne (tgt := 22) hx hb dX1_find_17 rfl (fun h17 => ?_) (fun h17 => ?_)
    · skip
      refine lv_iinc (k := 2) (v := nI (k + 1)) (lv' := [(2, .int (nI (k + 1))), (0, .ref q), (1, .int id)]) hx hb dX1_find_22 hl rfl (ps_inc _) (by decide) rfl (fun ls hl => ?_)
      refine lv_goto (tgt := 2) hx hb dX1_find_25 rfl ?_
      exact ih ((k + 1)) ls (by omega) ⟨by omega, lt_s hj h17, lv_sub hl [1, 2, 0] rfl⟩
    · skip
      refine lv_iload_n hx hb dX1_find_20 rfl (lv_at hl 2 rfl) ?_
      exact W.iret (v := nI k) hx hb hr (fun t ht hW => ⟨nI k, rfl, by rw [ps_fi_some h7 h17 hj]; rfl, ht⟩) (fun q h => by cases h) dX1_find_21
set_option maxHeartbeats 4000000 in
set_option maxRecDepth 100000 in
theorem mX1_isInCube (l : Launch) (dC : Nat → ClassId) (dI : Nat → Nat → Nat) (cI cZ : ClassId) (q : Nat) (a : Nat → Nat) (n : Nat) (g : ps_G) (k : Nat) (hk : k < 48) (d cx cy cz : Int32) : Met l yX1_isInCube (.code yX1_isInCube cX1_isInCube 6 (some .boolean) :: ps_T) ({ frames := 1, cells := 0, slots := 0, locals := 21 }) (ps_pc (dC, dI) (ps_ty cI cZ) (ps_trW cI cZ q a n g) [.ref q, .int (nI k), .int d, .int cx, .int cy, .int cz]) (vp_Si (fun r => r = ps_bi (ps_in g d cx cy cz k))) 0 0 (fun _ => False) := by
  refine Met.ofW (cc := cX1_isInCube) (maxL := 6) (ret := (some .boolean)) (by decide) rfl ?_
  intro p e s m args below meth c s₁ B hml hv
  obtain ⟨rfl, hN, hP, hK⟩ := hv
  have hx := B.exec
  have hb := B.bytes
  have hr := B.returns
  have hlocks := B.notSynchronized
  have hT : ∀ w ∈ ps_T, w.before ([.ref q, .int (nI k), .int d, .int cx, .int cy, .int cz] : List Value).toArray s = true := fun w h => atoms_spec (ws := (.code yX1_isInCube cX1_isInCube 6 (some .boolean) :: ps_T)) B.pre w (List.mem_cons_of_mem _ h)
  have hown : s.vm.findClass RX1 = some m.cls := findClass_of_methodNamed B.named
  have hl := lv_entry ([.ref q, .int (nI k), .int d, .int cx, .int cy, .int cz]) (n := 6) (Nat.le_of_ble_eq_true rfl)
  rw [lg_entry_eq]
  generalize (lg_sl ([.ref q, .int (nI k), .int d, .int cx, .int cy, .int cz]) ++ List.replicate (6 - (lg_sl ([.ref q, .int (nI k), .int d, .int cx, .int cy, .int cz])).length) Slot.unset).toArray = ls at hl ⊢
  have hl : lv_has ls 6 [(0, .ref q), (1, .int (nI k)), (2, .int d), (3, .int cx), (4, .int cy), (5, .int cz)] := hl
  refine lv_iload_n hx hb dX1_isInCube_0 rfl (lv_at hl 2 rfl) ?_
  refine lv_aload_n hx hb dX1_isInCube_1 rfl (lv_at hl 0 rfl) ?_
  refine va_get (D := (dC, dI)) (ci := 1) (v := .ref (a 1)) (C := RX1) (T := TX1) (N := 9) hx hb hT inX1 hown hK hP 0 rfl rfl 1 (by decide) (hT _ tw_fl_X1_15) (fun _ h9 => h9) rfl dX1_isInCube_2 ?_
  refine lv_iload_n hx hb dX1_isInCube_5 rfl (lv_at hl 1 rfl) ?_
  refine ps_iald (k := k) (f := g 1) hx hb hK hP 2 0 rfl rfl (by omega) (by decide) dX1_isInCube_6 ?_
  refine vp_callSi (va_Run.run (va_runSN (As := [.int d, .int (g 1 k)]) (rest := []) ⟨hx, hb, hml, hown, hT⟩ (mX2_cubeIndex l d (g 1 k)) ⟨va_cnB 2 hT (ps_gC tw_co_X2_cubeIndex) rfl rfl rfl hN.2 (hT _ tw_in_X2) ⟨by decide, by decide, by decide +kernel⟩ ⟨Nat.le_of_ble_eq_true rfl, Nat.le_of_ble_eq_true rfl⟩, hT _ tw_st_X2_cubeIndex, trivial⟩ preEq rfl rfl hl.1 rfl (lv_room (Nat.le_of_ble_eq_true rfl)) dX1_isInCube_7 ⟨Nat.le_of_ble_eq_true rfl, Nat.le_of_ble_eq_true rfl⟩)) (fun r hr => ?_)
  obtain rfl : r = ps_cb d (g 1 k) := hr
  refine lv_iload_n hx hb dX1_isInCube_10 rfl (lv_at hl 3 rfl) ?_
  refine lv_icmp_ne (tgt := 48) hx hb dX1_isInCube_11 rfl (fun h11 => ?_) (fun h11 => ?_)
  · skip
    refine lv_iconst (v := 0) hx hb dX1_isInCube_48 (by decide) ?_
    exact W.zret (v := 0) hx hb hr rfl (fun t ht hW => ⟨0, rfl, by simp_all [ps_in, ps_bi], ht⟩) (fun q h => by cases h) dX1_isInCube_49
  · skip
    refine lv_iload_n hx hb dX1_isInCube_14 rfl (lv_at hl 2 rfl) ?_
    refine lv_aload_n hx hb dX1_isInCube_15 rfl (lv_at hl 0 rfl) ?_
    refine va_get (D := (dC, dI)) (ci := 1) (v := .ref (a 2)) (C := RX1) (T := TX1) (N := 9) hx hb hT inX1 hown hK hP 0 rfl rfl 2 (by decide) (hT _ tw_fl_X1_18) (fun _ h9 => h9) rfl dX1_isInCube_16 ?_
    refine lv_iload_n hx hb dX1_isInCube_19 rfl (lv_at hl 1 rfl) ?_
    refine ps_iald (k := k) (f := g 2) hx hb hK hP 3 0 rfl rfl (by omega) (by decide) dX1_isInCube_20 ?_
    refine vp_callSi (va_Run.run (va_runSN (As := [.int d, .int (g 2 k)]) (rest := []) ⟨hx, hb, hml, hown, hT⟩ (mX2_cubeIndex l d (g 2 k)) ⟨va_cnB 2 hT (ps_gC tw_co_X2_cubeIndex) rfl rfl rfl hN.2 (hT _ tw_in_X2) ⟨by decide, by decide, by decide +kernel⟩ ⟨Nat.le_of_ble_eq_true rfl, Nat.le_of_ble_eq_true rfl⟩, hT _ tw_st_X2_cubeIndex, trivial⟩ preEq rfl rfl hl.1 rfl (lv_room (Nat.le_of_ble_eq_true rfl)) dX1_isInCube_21 ⟨Nat.le_of_ble_eq_true rfl, Nat.le_of_ble_eq_true rfl⟩)) (fun r hr => ?_)
    obtain rfl : r = ps_cb d (g 2 k) := hr
    refine lv_iload hx hb dX1_isInCube_24 (lv_at hl 4 rfl) ?_
    refine lv_icmp_ne (tgt := 48) hx hb dX1_isInCube_26 rfl (fun h26 => ?_) (fun h26 => ?_)
    · skip
      refine lv_iconst (v := 0) hx hb dX1_isInCube_48 (by decide) ?_
      exact W.zret (v := 0) hx hb hr rfl (fun t ht hW => ⟨0, rfl, by simp_all [ps_in, ps_bi], ht⟩) (fun q h => by cases h) dX1_isInCube_49
    · skip
      refine lv_iload_n hx hb dX1_isInCube_29 rfl (lv_at hl 2 rfl) ?_
      refine lv_aload_n hx hb dX1_isInCube_30 rfl (lv_at hl 0 rfl) ?_
      refine va_get (D := (dC, dI)) (ci := 1) (v := .ref (a 3)) (C := RX1) (T := TX1) (N := 9) hx hb hT inX1 hown hK hP 0 rfl rfl 3 (by decide) (hT _ tw_fl_X1_21) (fun _ h9 => h9) rfl dX1_isInCube_31 ?_
      refine lv_iload_n hx hb dX1_isInCube_34 rfl (lv_at hl 1 rfl) ?_
      refine ps_iald (k := k) (f := g 3) hx hb hK hP 4 0 rfl rfl (by omega) (by decide) dX1_isInCube_35 ?_
      refine vp_callSi (va_Run.run (va_runSN (As := [.int d, .int (g 3 k)]) (rest := []) ⟨hx, hb, hml, hown, hT⟩ (mX2_cubeIndex l d (g 3 k)) ⟨va_cnB 2 hT (ps_gC tw_co_X2_cubeIndex) rfl rfl rfl hN.2 (hT _ tw_in_X2) ⟨by decide, by decide, by decide +kernel⟩ ⟨Nat.le_of_ble_eq_true rfl, Nat.le_of_ble_eq_true rfl⟩, hT _ tw_st_X2_cubeIndex, trivial⟩ preEq rfl rfl hl.1 rfl (lv_room (Nat.le_of_ble_eq_true rfl)) dX1_isInCube_36 ⟨Nat.le_of_ble_eq_true rfl, Nat.le_of_ble_eq_true rfl⟩)) (fun r hr => ?_)
      obtain rfl : r = ps_cb d (g 3 k) := hr
      refine lv_iload hx hb dX1_isInCube_39 (lv_at hl 5 rfl) ?_
      refine lv_icmp_ne (tgt := 48) hx hb dX1_isInCube_41 rfl (fun h41 => ?_) (fun h41 => ?_)
      · skip
        refine lv_iconst (v := 0) hx hb dX1_isInCube_48 (by decide) ?_
        exact W.zret (v := 0) hx hb hr rfl (fun t ht hW => ⟨0, rfl, by simp_all [ps_in, ps_bi], ht⟩) (fun q h => by cases h) dX1_isInCube_49
      · skip
        refine lv_iconst (v := 1) hx hb dX1_isInCube_44 (by decide) ?_
        refine lv_goto (tgt := 49) hx hb dX1_isInCube_45 rfl ?_
        exact W.zret (v := 1) hx hb hr rfl (fun t ht hW => ⟨1, rfl, by simp_all [ps_in, ps_bi], ht⟩) (fun q h => by cases h) dX1_isInCube_49
set_option maxHeartbeats 4000000 in
set_option maxRecDepth 100000 in
theorem mX1_beginsPage (l : Launch) (dC : Nat → ClassId) (dI : Nat → Nat → Nat) (cI cZ : ClassId) (q : Nat) (a : Nat → Nat) (n : Nat) (g : ps_G) (k : Nat) (hk : k < 48) : Met l yX1_beginsPage (.code yX1_beginsPage cX1_beginsPage 2 (some .boolean) :: ps_T) ({ frames := 0, cells := 0, slots := 0, locals := 0 }) (ps_pc (dC, dI) (ps_ty cI cZ) (ps_trW cI cZ q a n g) [.ref q, .int (nI k)]) (vp_Si (fun r => r = ps_bi (ps_bp (g 6 k)))) 0 0 (fun _ => False) := by
  refine Met.ofW (cc := cX1_beginsPage) (maxL := 2) (ret := (some .boolean)) (by decide) rfl ?_
  intro p e s m args below meth c s₁ B hml hv
  obtain ⟨rfl, hN, hP, hK⟩ := hv
  have hx := B.exec
  have hb := B.bytes
  have hr := B.returns
  have hlocks := B.notSynchronized
  have hT : ∀ w ∈ ps_T, w.before ([.ref q, .int (nI k)] : List Value).toArray s = true := fun w h => atoms_spec (ws := (.code yX1_beginsPage cX1_beginsPage 2 (some .boolean) :: ps_T)) B.pre w (List.mem_cons_of_mem _ h)
  have hown : s.vm.findClass RX1 = some m.cls := findClass_of_methodNamed B.named
  have hl := lv_entry ([.ref q, .int (nI k)]) (n := 2) (Nat.le_of_ble_eq_true rfl)
  rw [lg_entry_eq]
  generalize (lg_sl ([.ref q, .int (nI k)]) ++ List.replicate (2 - (lg_sl ([.ref q, .int (nI k)])).length) Slot.unset).toArray = ls at hl ⊢
  have hl : lv_has ls 2 [(0, .ref q), (1, .int (nI k))] := hl
  refine lv_aload_n hx hb dX1_beginsPage_0 rfl (lv_at hl 0 rfl) ?_
  refine va_get (D := (dC, dI)) (ci := 1) (v := .ref (a 6)) (C := RX1) (T := TX1) (N := 9) hx hb hT inX1 hown hK hP 0 rfl rfl 6 (by decide) (hT _ tw_fl_X1_30) (fun _ h9 => h9) rfl dX1_beginsPage_1 ?_
  refine lv_iload_n hx hb dX1_beginsPage_4 rfl (lv_at hl 1 rfl) ?_
  refine ps_iald (k := k) (f := g 6) hx hb hK hP 7 0 rfl rfl (by omega) (by decide) dX1_beginsPage_5 ?_
  refine lv_bipush (v := 6) hx hb dX1_beginsPage_6 (by decide) ?_
  refine lv_irem hx hb dX1_beginsPage_8 (by decide) ?_
  refine lv_if_ne (tgt := 16) hx hb dX1_beginsPage_9 rfl (fun h9 => ?_) (fun h9 => ?_)
  · skip
    refine lv_iconst (v := 0) hx hb dX1_beginsPage_16 (by decide) ?_
    exact W.zret (v := 0) hx hb hr rfl (fun t ht hW => ⟨0, rfl, by simp_all [ps_bp, ps_bi], ht⟩) (fun q h => by cases h) dX1_beginsPage_17
  · skip
    refine lv_iconst (v := 1) hx hb dX1_beginsPage_12 (by decide) ?_
    refine lv_goto (tgt := 17) hx hb dX1_beginsPage_13 rfl ?_
    exact W.zret (v := 1) hx hb hr rfl (fun t ht hW => ⟨1, rfl, by simp_all [ps_bp, ps_bi], ht⟩) (fun q h => by cases h) dX1_beginsPage_17
set_option maxHeartbeats 4000000 in
set_option maxRecDepth 100000 in
theorem mX1_nodes (l : Launch) (dC : Nat → ClassId) (dI : Nat → Nat → Nat) (cI cZ : ClassId) (q : Nat) (a : Nat → Nat) (n : Nat) (g : ps_G) (hn : n ≤ 48) : Met l yX1_nodes (.code yX1_nodes cX1_nodes 3 (some .int) :: ps_T) ({ frames := 0, cells := 0, slots := 0, locals := 0 }) (ps_pc (dC, dI) (ps_ty cI cZ) (ps_trW cI cZ q a n g) [.ref q]) (vp_Si (fun r => r = nI (ps_cn (fun k => decide (g 6 k = 0)) n))) 0 0 (fun _ => False) := by
  refine Met.ofW (cc := cX1_nodes) (maxL := 3) (ret := (some .int)) (by decide) rfl ?_
  intro p e s m args below meth c s₁ B hml hv
  obtain ⟨rfl, hN, hP, hK⟩ := hv
  have hx := B.exec
  have hb := B.bytes
  have hr := B.returns
  have hlocks := B.notSynchronized
  have hT : ∀ w ∈ ps_T, w.before ([.ref q] : List Value).toArray s = true := fun w h => atoms_spec (ws := (.code yX1_nodes cX1_nodes 3 (some .int) :: ps_T)) B.pre w (List.mem_cons_of_mem _ h)
  have hown : s.vm.findClass RX1 = some m.cls := findClass_of_methodNamed B.named
  have hl := lv_entry ([.ref q]) (n := 3) (Nat.le_of_ble_eq_true rfl)
  rw [lg_entry_eq]
  generalize (lg_sl ([.ref q]) ++ List.replicate (3 - (lg_sl ([.ref q])).length) Slot.unset).toArray = ls at hl ⊢
  have hl : lv_has ls 3 [(0, .ref q)] := hl
  refine lv_iconst (v := 0) hx hb dX1_nodes_0 (by decide) ?_
  refine lv_istore_n (lv' := [(1, .int 0), (0, .ref q)]) hx hb dX1_nodes_1 rfl hl (by decide) rfl (fun ls hl => ?_)
  refine lv_iconst (v := 0) hx hb dX1_nodes_2 (by decide) ?_
  refine lv_istore_n (lv' := [(2, .int 0), (1, .int 0), (0, .ref q)]) hx hb dX1_nodes_3 rfl hl (by decide) rfl (fun ls hl => ?_)
  have hl : lv_has ls 3 [(2, .int (nI 0)), (1, .int (nI (ps_cn (fun k => decide (g 6 k = 0)) 0))), (0, .ref q)] := hl
  refine ps_loopS (α := Nat) (fun k => n - k) (fun k ls => (k ≤ n) ∧ lv_has ls 3 [(0, .ref q), (1, .int (nI (ps_cn (fun k => decide (g 6 k = 0)) k))), (2, .int (nI k))]) ?_ 0 ls ⟨by omega, lv_sub hl [2, 1, 0] rfl⟩
  intro k ls ih hI
  obtain ⟨hk, hl⟩ := hI
  refine lv_iload_n hx hb dX1_nodes_4 rfl (lv_at hl 2 rfl) ?_
  refine lv_aload_n hx hb dX1_nodes_5 rfl (lv_at hl 0 rfl) ?_
  refine va_get (D := (dC, dI)) (ci := 1) (v := .int (nI n)) (C := RX1) (T := TX1) (N := 9) hx hb hT inX1 hown hK hP 0 rfl rfl 8 (by decide) (hT _ tw_fl_X1_37) (fun _ h9 => h9) rfl dX1_nodes_6 ?_
  refine ps_icmp_ge (tgt := 30) (a := k) (b := n) hx hb dX1_nodes_9 rfl (by omega) (by omega) (fun h9 => ?_) (fun h9 => ?_)
  · skip
    refine lv_iload_n hx hb dX1_nodes_30 rfl (lv_at hl 1 rfl) ?_
    exact W.iret (v := nI (ps_cn (fun k => decide (g 6 k = 0)) k)) hx hb hr (fun t ht hW => ⟨nI (ps_cn (fun k => decide (g 6 k = 0)) k), rfl, by rw [show k = n by omega], ht⟩) (fun q h => by cases h) dX1_nodes_31
  · skip
    refine lv_aload_n hx hb dX1_nodes_12 rfl (lv_at hl 0 rfl) ?_
    refine va_get (D := (dC, dI)) (ci := 1) (v := .ref (a 6)) (C := RX1) (T := TX1) (N := 9) hx hb hT inX1 hown hK hP 0 rfl rfl 6 (by decide) (hT _ tw_fl_X1_30) (fun _ h9 => h9) rfl dX1_nodes_13 ?_
    refine lv_iload_n hx hb dX1_nodes_16 rfl (lv_at hl 2 rfl) ?_
    refine ps_iald (k := k) (f := g 6) hx hb hK hP 7 0 rfl rfl (by omega) (by decide) dX1_nodes_17 ?_
    refine lv_if_ne (tgt := 24) hx hb dX1_nodes_18 rfl (fun h18 => ?_) (fun h18 => ?_)
    · skip
      have hc : (fun k => decide (g 6 k = 0)) k = false := by simpa using h18
      refine lv_iinc (k := 2) (v := nI (k + 1)) (lv' := [(2, .int (nI (k + 1))), (0, .ref q), (1, .int (nI (ps_cn (fun k => decide (g 6 k = 0)) k)))]) hx hb dX1_nodes_24 hl rfl (ps_inc _) (by decide) rfl (fun ls hl => ?_)
      refine lv_goto (tgt := 4) hx hb dX1_nodes_27 rfl ?_
      first | rw [← ps_cnT hc] at hl | rw [← ps_cnF hc] at hl
      exact ih ((k + 1)) ls (by omega) ⟨by omega, lv_sub hl [1, 2, 0] rfl⟩
    · skip
      have hc : (fun k => decide (g 6 k = 0)) k = true := by simpa using h18
      refine lv_iinc (k := 1) (v := nI ((ps_cn (fun k => decide (g 6 k = 0)) k) + 1)) (lv' := [(1, .int (nI ((ps_cn (fun k => decide (g 6 k = 0)) k) + 1))), (0, .ref q), (2, .int (nI k))]) hx hb dX1_nodes_21 hl rfl (ps_inc _) (by decide) rfl (fun ls hl => ?_)
      refine lv_iinc (k := 2) (v := nI (k + 1)) (lv' := [(2, .int (nI (k + 1))), (1, .int (nI ((ps_cn (fun k => decide (g 6 k = 0)) k) + 1))), (0, .ref q)]) hx hb dX1_nodes_24 hl rfl (ps_inc _) (by decide) rfl (fun ls hl => ?_)
      refine lv_goto (tgt := 4) hx hb dX1_nodes_27 rfl ?_
      first | rw [← ps_cnT hc] at hl | rw [← ps_cnF hc] at hl
      exact ih ((k + 1)) ls (by omega) ⟨by omega, lv_sub hl [2, 1, 0] rfl⟩
set_option maxHeartbeats 4000000 in
set_option maxRecDepth 100000 in
theorem mX1_pages (l : Launch) (dC : Nat → ClassId) (dI : Nat → Nat → Nat) (cI cZ : ClassId) (q : Nat) (a : Nat → Nat) (n : Nat) (g : ps_G) (hn : n ≤ 48) : Met l yX1_pages (.code yX1_pages cX1_pages 3 (some .int) :: ps_T) ({ frames := 1, cells := 0, slots := 0, locals := 21 }) (ps_pc (dC, dI) (ps_ty cI cZ) (ps_trW cI cZ q a n g) [.ref q]) (vp_Si (fun r => r = nI (ps_cn (fun k => ps_bp (g 6 k)) n))) 0 0 (fun _ => False) := by
  refine Met.ofW (cc := cX1_pages) (maxL := 3) (ret := (some .int)) (by decide) rfl ?_
  intro p e s m args below meth c s₁ B hml hv
  obtain ⟨rfl, hN, hP, hK⟩ := hv
  have hx := B.exec
  have hb := B.bytes
  have hr := B.returns
  have hlocks := B.notSynchronized
  have hT : ∀ w ∈ ps_T, w.before ([.ref q] : List Value).toArray s = true := fun w h => atoms_spec (ws := (.code yX1_pages cX1_pages 3 (some .int) :: ps_T)) B.pre w (List.mem_cons_of_mem _ h)
  have hown : s.vm.findClass RX1 = some m.cls := findClass_of_methodNamed B.named
  have hl := lv_entry ([.ref q]) (n := 3) (Nat.le_of_ble_eq_true rfl)
  rw [lg_entry_eq]
  generalize (lg_sl ([.ref q]) ++ List.replicate (3 - (lg_sl ([.ref q])).length) Slot.unset).toArray = ls at hl ⊢
  have hl : lv_has ls 3 [(0, .ref q)] := hl
  refine lv_iconst (v := 0) hx hb dX1_pages_0 (by decide) ?_
  refine lv_istore_n (lv' := [(1, .int 0), (0, .ref q)]) hx hb dX1_pages_1 rfl hl (by decide) rfl (fun ls hl => ?_)
  refine lv_iconst (v := 0) hx hb dX1_pages_2 (by decide) ?_
  refine lv_istore_n (lv' := [(2, .int 0), (1, .int 0), (0, .ref q)]) hx hb dX1_pages_3 rfl hl (by decide) rfl (fun ls hl => ?_)
  have hl : lv_has ls 3 [(2, .int (nI 0)), (1, .int (nI (ps_cn (fun k => ps_bp (g 6 k)) 0))), (0, .ref q)] := hl
  refine ps_loopS (α := Nat) (fun k => n - k) (fun k ls => (k ≤ n) ∧ lv_has ls 3 [(0, .ref q), (1, .int (nI (ps_cn (fun k => ps_bp (g 6 k)) k))), (2, .int (nI k))]) ?_ 0 ls ⟨by omega, lv_sub hl [2, 1, 0] rfl⟩
  intro k ls ih hI
  obtain ⟨hk, hl⟩ := hI
  refine lv_iload_n hx hb dX1_pages_4 rfl (lv_at hl 2 rfl) ?_
  refine lv_aload_n hx hb dX1_pages_5 rfl (lv_at hl 0 rfl) ?_
  refine va_get (D := (dC, dI)) (ci := 1) (v := .int (nI n)) (C := RX1) (T := TX1) (N := 9) hx hb hT inX1 hown hK hP 0 rfl rfl 8 (by decide) (hT _ tw_fl_X1_37) (fun _ h9 => h9) rfl dX1_pages_6 ?_
  refine ps_icmp_ge (tgt := 29) (a := k) (b := n) hx hb dX1_pages_9 rfl (by omega) (by omega) (fun h9 => ?_) (fun h9 => ?_)
  · skip
    refine lv_iload_n hx hb dX1_pages_29 rfl (lv_at hl 1 rfl) ?_
    exact W.iret (v := nI (ps_cn (fun k => ps_bp (g 6 k)) k)) hx hb hr (fun t ht hW => ⟨nI (ps_cn (fun k => ps_bp (g 6 k)) k), rfl, by rw [show k = n by omega], ht⟩) (fun q h => by cases h) dX1_pages_30
  · skip
    refine lv_aload_n hx hb dX1_pages_12 rfl (lv_at hl 0 rfl) ?_
    refine lv_iload_n hx hb dX1_pages_13 rfl (lv_at hl 2 rfl) ?_
    refine vp_callSi (va_Run.run (va_runV (C := RX1) (As := [.int (nI k)]) (rest := []) ⟨hx, hb, hml, hown, hT⟩ (mX1_beginsPage l dC dI cI cZ q a n g k (by omega)) (cwV 1 hT (ps_gV tw_ml_X1_75 tw_im_X1_beginsPage tw_se_X1_beginsPage tw_in_X1 tw_co_X1_beginsPage) rfl rfl rfl ⟨rfl, by decide, by decide, by decide +kernel⟩ ⟨Nat.le_of_ble_eq_true rfl, Nat.le_of_ble_eq_true rfl⟩) (ps_preV (ci := 1) (q0 := 0) hN hP hK rfl rfl) rfl rfl hl.1 rfl (lv_room (Nat.le_of_ble_eq_true rfl)) dX1_pages_14 ⟨Nat.le_of_ble_eq_true rfl, Nat.le_of_ble_eq_true rfl⟩)) (fun r hr => ?_)
    obtain rfl : r = ps_bi (ps_bp (g 6 k)) := hr
    refine ps_ifb_eq (tgt := 23) hx hb dX1_pages_17 rfl (fun h17 => ?_) (fun h17 => ?_)
    · skip
      have hc : (fun k => ps_bp (g 6 k)) k = false := h17
      refine lv_iinc (k := 2) (v := nI (k + 1)) (lv' := [(2, .int (nI (k + 1))), (0, .ref q), (1, .int (nI (ps_cn (fun k => ps_bp (g 6 k)) k)))]) hx hb dX1_pages_23 hl rfl (ps_inc _) (by decide) rfl (fun ls hl => ?_)
      refine lv_goto (tgt := 4) hx hb dX1_pages_26 rfl ?_
      first | rw [← ps_cnT hc] at hl | rw [← ps_cnF hc] at hl
      exact ih ((k + 1)) ls (by omega) ⟨by omega, lv_sub hl [1, 2, 0] rfl⟩
    · skip
      have hc : (fun k => ps_bp (g 6 k)) k = true := h17
      refine lv_iinc (k := 1) (v := nI ((ps_cn (fun k => ps_bp (g 6 k)) k) + 1)) (lv' := [(1, .int (nI ((ps_cn (fun k => ps_bp (g 6 k)) k) + 1))), (0, .ref q), (2, .int (nI k))]) hx hb dX1_pages_20 hl rfl (ps_inc _) (by decide) rfl (fun ls hl => ?_)
      refine lv_iinc (k := 2) (v := nI (k + 1)) (lv' := [(2, .int (nI (k + 1))), (1, .int (nI ((ps_cn (fun k => ps_bp (g 6 k)) k) + 1))), (0, .ref q)]) hx hb dX1_pages_23 hl rfl (ps_inc _) (by decide) rfl (fun ls hl => ?_)
      refine lv_goto (tgt := 4) hx hb dX1_pages_26 rfl ?_
      first | rw [← ps_cnT hc] at hl | rw [← ps_cnF hc] at hl
      exact ih ((k + 1)) ls (by omega) ⟨by omega, lv_sub hl [2, 1, 0] rfl⟩
set_option maxHeartbeats 4000000 in
set_option maxRecDepth 100000 in
theorem mX1_pointsAbove (l : Launch) (dC : Nat → ClassId) (dI : Nat → Nat → Nat) (cI cZ : ClassId) (q : Nat) (a : Nat → Nat) (n : Nat) (g : ps_G) (hn : n ≤ 48) (rk : Nat) (hrk : rk < 2 ^ 32) : Met l yX1_pointsAbove (.code yX1_pointsAbove cX1_pointsAbove 5 (some .int) :: ps_T) ({ frames := 1, cells := 0, slots := 0, locals := 22 }) (ps_pc (dC, dI) (ps_ty cI cZ) (ps_trW cI cZ q a n g) [.ref q, .long (lN rk)]) (vp_Si (fun r => r = nI (ps_cn (ps_ab g rk) n))) 0 0 (fun _ => False) := by
  refine Met.ofW (cc := cX1_pointsAbove) (maxL := 5) (ret := (some .int)) (by decide) rfl ?_
  intro p e s m args below meth c s₁ B hml hv
  obtain ⟨rfl, hN, hP, hK⟩ := hv
  have hx := B.exec
  have hb := B.bytes
  have hr := B.returns
  have hlocks := B.notSynchronized
  have hT : ∀ w ∈ ps_T, w.before ([.ref q, .long (lN rk)] : List Value).toArray s = true := fun w h => atoms_spec (ws := (.code yX1_pointsAbove cX1_pointsAbove 5 (some .int) :: ps_T)) B.pre w (List.mem_cons_of_mem _ h)
  have hown : s.vm.findClass RX1 = some m.cls := findClass_of_methodNamed B.named
  have hl := lv_entry ([.ref q, .long (lN rk)]) (n := 5) (Nat.le_of_ble_eq_true rfl)
  rw [lg_entry_eq]
  generalize (lg_sl ([.ref q, .long (lN rk)]) ++ List.replicate (5 - (lg_sl ([.ref q, .long (lN rk)])).length) Slot.unset).toArray = ls at hl ⊢
  have hl : lv_has ls 5 [(0, .ref q), (1, .long (lN rk))] := hl
  refine lv_iconst (v := 0) hx hb dX1_pointsAbove_0 (by decide) ?_
  refine lv_istore_n (lv' := [(3, .int 0), (0, .ref q), (1, .long (lN rk))]) hx hb dX1_pointsAbove_1 rfl hl (by decide) rfl (fun ls hl => ?_)
  refine lv_iconst (v := 0) hx hb dX1_pointsAbove_2 (by decide) ?_
  refine lv_istore (lv' := [(4, .int 0), (3, .int 0), (0, .ref q), (1, .long (lN rk))]) hx hb dX1_pointsAbove_3 hl (by decide) rfl (fun ls hl => ?_)
  have hl : lv_has ls 5 [(4, .int (nI 0)), (3, .int (nI (ps_cn (ps_ab g rk) 0))), (0, .ref q), (1, .long (lN rk))] := hl
  refine ps_loopS (α := Nat) (fun k => n - k) (fun k ls => (k ≤ n) ∧ lv_has ls 5 [(0, .ref q), (1, .long (lN rk)), (3, .int (nI (ps_cn (ps_ab g rk) k))), (4, .int (nI k))]) ?_ 0 ls ⟨by omega, lv_sub hl [2, 3, 1, 0] rfl⟩
  intro k ls ih hI
  obtain ⟨hk, hl⟩ := hI
  refine lv_iload hx hb dX1_pointsAbove_5 (lv_at hl 3 rfl) ?_
  refine lv_aload_n hx hb dX1_pointsAbove_7 rfl (lv_at hl 0 rfl) ?_
  refine va_get (D := (dC, dI)) (ci := 1) (v := .int (nI n)) (C := RX1) (T := TX1) (N := 9) hx hb hT inX1 hown hK hP 0 rfl rfl 8 (by decide) (hT _ tw_fl_X1_37) (fun _ h9 => h9) rfl dX1_pointsAbove_8 ?_
  refine ps_icmp_ge (tgt := 38) (a := k) (b := n) hx hb dX1_pointsAbove_11 rfl (by omega) (by omega) (fun h11 => ?_) (fun h11 => ?_)
  · skip
    refine lv_iload_n hx hb dX1_pointsAbove_38 rfl (lv_at hl 2 rfl) ?_
    exact W.iret (v := nI (ps_cn (ps_ab g rk) k)) hx hb hr (fun t ht hW => ⟨nI (ps_cn (ps_ab g rk) k), rfl, by rw [show k = n by omega], ht⟩) (fun q h => by cases h) dX1_pointsAbove_39
  · skip
    refine lv_aload_n hx hb dX1_pointsAbove_14 rfl (lv_at hl 0 rfl) ?_
    refine va_get (D := (dC, dI)) (ci := 1) (v := .ref (a 0)) (C := RX1) (T := TX1) (N := 9) hx hb hT inX1 hown hK hP 0 rfl rfl 0 (by decide) (hT _ tw_fl_X1_9) (fun _ h9 => h9) rfl dX1_pointsAbove_15 ?_
    refine lv_iload hx hb dX1_pointsAbove_18 (lv_at hl 3 rfl) ?_
    refine ps_iald (k := k) (f := g 0) hx hb hK hP 1 0 rfl rfl (by omega) (by decide) dX1_pointsAbove_20 ?_
    refine vp_callSl (va_Run.run (va_runSN (As := [.int (g 0 k)]) (rest := []) ⟨hx, hb, hml, hown, hT⟩ (mX2_rankOf l (g 0 k)) ⟨va_cnB 1 hT (ps_gC tw_co_X2_rankOf) rfl rfl rfl hN.1 (hT _ tw_in_X2) ⟨by decide, by decide, by decide +kernel⟩ ⟨Nat.le_of_ble_eq_true rfl, Nat.le_of_ble_eq_true rfl⟩, hT _ tw_st_X2_rankOf, trivial⟩ preEq rfl rfl hl.1 rfl (lv_room (Nat.le_of_ble_eq_true rfl)) dX1_pointsAbove_21 ⟨Nat.le_of_ble_eq_true rfl, Nat.le_of_ble_eq_true rfl⟩)) (fun r hr => ?_)
    obtain rfl : r = lN (ps_rk (g 0 k)) := hr
    refine lv_lload_n hx hb dX1_pointsAbove_24 rfl (lv_at hl 1 rfl) ?_
    refine W.lcmp hx hb dX1_pointsAbove_25 ?_
    refine lv_if_le (tgt := 32) hx hb dX1_pointsAbove_26 rfl (fun h26 => ?_) (fun h26 => ?_)
    · skip
      have hc : ps_ab g rk k = false := ps_ab_f hrk h26
      refine lv_iinc (k := 3) (v := nI (k + 1)) (lv' := [(4, .int (nI (k + 1))), (0, .ref q), (1, .long (lN rk)), (3, .int (nI (ps_cn (ps_ab g rk) k)))]) hx hb dX1_pointsAbove_32 hl rfl (ps_inc _) (by decide) rfl (fun ls hl => ?_)
      refine lv_goto (tgt := 5) hx hb dX1_pointsAbove_35 rfl ?_
      first | rw [← ps_cnT hc] at hl | rw [← ps_cnF hc] at hl
      exact ih ((k + 1)) ls (by omega) ⟨by omega, lv_sub hl [1, 2, 3, 0] rfl⟩
    · skip
      have hc : ps_ab g rk k = true := ps_ab_t hrk h26
      refine lv_iinc (k := 2) (v := nI ((ps_cn (ps_ab g rk) k) + 1)) (lv' := [(3, .int (nI ((ps_cn (ps_ab g rk) k) + 1))), (0, .ref q), (1, .long (lN rk)), (4, .int (nI k))]) hx hb dX1_pointsAbove_29 hl rfl (ps_inc _) (by decide) rfl (fun ls hl => ?_)
      refine lv_iinc (k := 3) (v := nI (k + 1)) (lv' := [(4, .int (nI (k + 1))), (3, .int (nI ((ps_cn (ps_ab g rk) k) + 1))), (0, .ref q), (1, .long (lN rk))]) hx hb dX1_pointsAbove_32 hl rfl (ps_inc _) (by decide) rfl (fun ls hl => ?_)
      refine lv_goto (tgt := 5) hx hb dX1_pointsAbove_35 rfl ?_
      first | rw [← ps_cnT hc] at hl | rw [← ps_cnF hc] at hl
      exact ih ((k + 1)) ls (by omega) ⟨by omega, lv_sub hl [2, 3, 1, 0] rfl⟩
set_option maxHeartbeats 4000000 in
set_option maxRecDepth 100000 in
theorem mX1_keptBefore (l : Launch) (dC : Nat → ClassId) (dI : Nat → Nat → Nat) (cI cZ : ClassId) (q : Nat) (a : Nat → Nat) (n : Nat) (g : ps_G) (k0 : Nat) (hk0 : k0 < 48) (d : Int32) : Met l yX1_keptBefore (.code yX1_keptBefore cX1_keptBefore 8 (some .int) :: ps_T) ({ frames := 2, cells := 0, slots := 0, locals := 46 }) (ps_pc (dC, dI) (ps_ty cI cZ) (ps_trW cI cZ q a n g) [.ref q, .int (nI k0), .int d]) (vp_Si (fun r => r = nI (ps_cn (ps_kb g d k0) k0))) 0 0 (fun _ => False) := by
  refine Met.ofW (cc := cX1_keptBefore) (maxL := 8) (ret := (some .int)) (by decide) rfl ?_
  intro p e s m args below meth c s₁ B hml hv
  obtain ⟨rfl, hN, hP, hK⟩ := hv
  have hx := B.exec
  have hb := B.bytes
  have hr := B.returns
  have hlocks := B.notSynchronized
  have hT : ∀ w ∈ ps_T, w.before ([.ref q, .int (nI k0), .int d] : List Value).toArray s = true := fun w h => atoms_spec (ws := (.code yX1_keptBefore cX1_keptBefore 8 (some .int) :: ps_T)) B.pre w (List.mem_cons_of_mem _ h)
  have hown : s.vm.findClass RX1 = some m.cls := findClass_of_methodNamed B.named
  have hl := lv_entry ([.ref q, .int (nI k0), .int d]) (n := 8) (Nat.le_of_ble_eq_true rfl)
  rw [lg_entry_eq]
  generalize (lg_sl ([.ref q, .int (nI k0), .int d]) ++ List.replicate (8 - (lg_sl ([.ref q, .int (nI k0), .int d])).length) Slot.unset).toArray = ls at hl ⊢
  have hl : lv_has ls 8 [(0, .ref q), (1, .int (nI k0)), (2, .int d)] := hl
  refine lv_iload_n hx hb dX1_keptBefore_0 rfl (lv_at hl 2 rfl) ?_
  refine lv_aload_n hx hb dX1_keptBefore_1 rfl (lv_at hl 0 rfl) ?_
  refine va_get (D := (dC, dI)) (ci := 1) (v := .ref (a 1)) (C := RX1) (T := TX1) (N := 9) hx hb hT inX1 hown hK hP 0 rfl rfl 1 (by decide) (hT _ tw_fl_X1_15) (fun _ h9 => h9) rfl dX1_keptBefore_2 ?_
  refine lv_iload_n hx hb dX1_keptBefore_5 rfl (lv_at hl 1 rfl) ?_
  refine ps_iald (k := k0) (f := g 1) hx hb hK hP 2 0 rfl rfl (by omega) (by decide) dX1_keptBefore_6 ?_
  refine vp_callSi (va_Run.run (va_runSN (As := [.int d, .int (g 1 k0)]) (rest := []) ⟨hx, hb, hml, hown, hT⟩ (mX2_cubeIndex l d (g 1 k0)) ⟨va_cnB 2 hT (ps_gC tw_co_X2_cubeIndex) rfl rfl rfl hN.2 (hT _ tw_in_X2) ⟨by decide, by decide, by decide +kernel⟩ ⟨Nat.le_of_ble_eq_true rfl, Nat.le_of_ble_eq_true rfl⟩, hT _ tw_st_X2_cubeIndex, trivial⟩ preEq rfl rfl hl.1 rfl (lv_room (Nat.le_of_ble_eq_true rfl)) dX1_keptBefore_7 ⟨Nat.le_of_ble_eq_true rfl, Nat.le_of_ble_eq_true rfl⟩)) (fun r hr => ?_)
  obtain rfl : r = ps_cb d (g 1 k0) := hr
  refine lv_istore_n (lv' := [(3, .int (ps_cb d (g 1 k0))), (0, .ref q), (1, .int (nI k0)), (2, .int d)]) hx hb dX1_keptBefore_10 rfl hl (by decide) rfl (fun ls hl => ?_)
  refine lv_iload_n hx hb dX1_keptBefore_11 rfl (lv_at hl 3 rfl) ?_
  refine lv_aload_n hx hb dX1_keptBefore_12 rfl (lv_at hl 1 rfl) ?_
  refine va_get (D := (dC, dI)) (ci := 1) (v := .ref (a 2)) (C := RX1) (T := TX1) (N := 9) hx hb hT inX1 hown hK hP 0 rfl rfl 2 (by decide) (hT _ tw_fl_X1_18) (fun _ h9 => h9) rfl dX1_keptBefore_13 ?_
  refine lv_iload_n hx hb dX1_keptBefore_16 rfl (lv_at hl 2 rfl) ?_
  refine ps_iald (k := k0) (f := g 2) hx hb hK hP 3 0 rfl rfl (by omega) (by decide) dX1_keptBefore_17 ?_
  refine vp_callSi (va_Run.run (va_runSN (As := [.int d, .int (g 2 k0)]) (rest := []) ⟨hx, hb, hml, hown, hT⟩ (mX2_cubeIndex l d (g 2 k0)) ⟨va_cnB 2 hT (ps_gC tw_co_X2_cubeIndex) rfl rfl rfl hN.2 (hT _ tw_in_X2) ⟨by decide, by decide, by decide +kernel⟩ ⟨Nat.le_of_ble_eq_true rfl, Nat.le_of_ble_eq_true rfl⟩, hT _ tw_st_X2_cubeIndex, trivial⟩ preEq rfl rfl hl.1 rfl (lv_room (Nat.le_of_ble_eq_true rfl)) dX1_keptBefore_18 ⟨Nat.le_of_ble_eq_true rfl, Nat.le_of_ble_eq_true rfl⟩)) (fun r hr => ?_)
  obtain rfl : r = ps_cb d (g 2 k0) := hr
  refine lv_istore (lv' := [(4, .int (ps_cb d (g 2 k0))), (3, .int (ps_cb d (g 1 k0))), (0, .ref q), (1, .int (nI k0)), (2, .int d)]) hx hb dX1_keptBefore_21 hl (by decide) rfl (fun ls hl => ?_)
  refine lv_iload_n hx hb dX1_keptBefore_23 rfl (lv_at hl 4 rfl) ?_
  refine lv_aload_n hx hb dX1_keptBefore_24 rfl (lv_at hl 2 rfl) ?_
  refine va_get (D := (dC, dI)) (ci := 1) (v := .ref (a 3)) (C := RX1) (T := TX1) (N := 9) hx hb hT inX1 hown hK hP 0 rfl rfl 3 (by decide) (hT _ tw_fl_X1_21) (fun _ h9 => h9) rfl dX1_keptBefore_25 ?_
  refine lv_iload_n hx hb dX1_keptBefore_28 rfl (lv_at hl 3 rfl) ?_
  refine ps_iald (k := k0) (f := g 3) hx hb hK hP 4 0 rfl rfl (by omega) (by decide) dX1_keptBefore_29 ?_
  refine vp_callSi (va_Run.run (va_runSN (As := [.int d, .int (g 3 k0)]) (rest := []) ⟨hx, hb, hml, hown, hT⟩ (mX2_cubeIndex l d (g 3 k0)) ⟨va_cnB 2 hT (ps_gC tw_co_X2_cubeIndex) rfl rfl rfl hN.2 (hT _ tw_in_X2) ⟨by decide, by decide, by decide +kernel⟩ ⟨Nat.le_of_ble_eq_true rfl, Nat.le_of_ble_eq_true rfl⟩, hT _ tw_st_X2_cubeIndex, trivial⟩ preEq rfl rfl hl.1 rfl (lv_room (Nat.le_of_ble_eq_true rfl)) dX1_keptBefore_30 ⟨Nat.le_of_ble_eq_true rfl, Nat.le_of_ble_eq_true rfl⟩)) (fun r hr => ?_)
  obtain rfl : r = ps_cb d (g 3 k0) := hr
  refine lv_istore (lv' := [(5, .int (ps_cb d (g 3 k0))), (4, .int (ps_cb d (g 2 k0))), (3, .int (ps_cb d (g 1 k0))), (0, .ref q), (1, .int (nI k0)), (2, .int d)]) hx hb dX1_keptBefore_33 hl (by decide) rfl (fun ls hl => ?_)
  refine lv_iconst (v := 0) hx hb dX1_keptBefore_35 (by decide) ?_
  refine lv_istore (lv' := [(6, .int 0), (5, .int (ps_cb d (g 3 k0))), (4, .int (ps_cb d (g 2 k0))), (3, .int (ps_cb d (g 1 k0))), (0, .ref q), (1, .int (nI k0)), (2, .int d)]) hx hb dX1_keptBefore_36 hl (by decide) rfl (fun ls hl => ?_)
  refine lv_iconst (v := 0) hx hb dX1_keptBefore_38 (by decide) ?_
  refine lv_istore (lv' := [(7, .int 0), (6, .int 0), (5, .int (ps_cb d (g 3 k0))), (4, .int (ps_cb d (g 2 k0))), (3, .int (ps_cb d (g 1 k0))), (0, .ref q), (1, .int (nI k0)), (2, .int d)]) hx hb dX1_keptBefore_39 hl (by decide) rfl (fun ls hl => ?_)
  have hl : lv_has ls 8 [(7, .int (nI 0)), (6, .int (nI (ps_cn (ps_kb g d k0) 0))), (5, .int (ps_cb d (g 3 k0))), (4, .int (ps_cb d (g 2 k0))), (3, .int (ps_cb d (g 1 k0))), (0, .ref q), (1, .int (nI k0)), (2, .int d)] := hl
  refine ps_loopS (α := Nat) (fun k => k0 - k) (fun k ls => (k ≤ k0) ∧ lv_has ls 8 [(0, .ref q), (1, .int (nI k0)), (2, .int d), (3, .int (ps_cb d (g 1 k0))), (4, .int (ps_cb d (g 2 k0))), (5, .int (ps_cb d (g 3 k0))), (6, .int (nI (ps_cn (ps_kb g d k0) k))), (7, .int (nI k))]) ?_ 0 ls ⟨by omega, lv_sub hl [5, 6, 7, 4, 3, 2, 1, 0] rfl⟩
  intro k ls ih hI
  obtain ⟨hk, hl⟩ := hI
  refine lv_iload hx hb dX1_keptBefore_41 (lv_at hl 7 rfl) ?_
  refine lv_iload_n hx hb dX1_keptBefore_43 rfl (lv_at hl 1 rfl) ?_
  refine ps_icmp_ge (tgt := 82) (a := k) (b := k0) hx hb dX1_keptBefore_44 rfl (by omega) (by omega) (fun h44 => ?_) (fun h44 => ?_)
  · skip
    refine lv_iload hx hb dX1_keptBefore_82 (lv_at hl 6 rfl) ?_
    exact W.iret (v := nI (ps_cn (ps_kb g d k0) k)) hx hb hr (fun t ht hW => ⟨nI (ps_cn (ps_kb g d k0) k), rfl, by rw [show k = k0 by omega], ht⟩) (fun q h => by cases h) dX1_keptBefore_84
  · skip
    refine lv_aload_n hx hb dX1_keptBefore_47 rfl (lv_at hl 0 rfl) ?_
    refine va_get (D := (dC, dI)) (ci := 1) (v := .ref (a 5)) (C := RX1) (T := TX1) (N := 9) hx hb hT inX1 hown hK hP 0 rfl rfl 5 (by decide) (hT _ tw_fl_X1_27) (fun _ h9 => h9) rfl dX1_keptBefore_48 ?_
    refine lv_iload hx hb dX1_keptBefore_51 (lv_at hl 7 rfl) ?_
    refine ps_iald (k := k) (f := g 5) hx hb hK hP 6 0 rfl rfl (by omega) (by decide) dX1_keptBefore_53 ?_
    refine lv_iload_n hx hb dX1_keptBefore_54 rfl (lv_at hl 2 rfl) ?_
    refine lv_icmp_ne (tgt := 76) hx hb dX1_keptBefore_55 rfl (fun h55 => ?_) (fun h55 => ?_)
    · skip
      have hc : ps_kb g d k0 k = false := by simp [ps_kb, h55]
      refine lv_iinc (k := 7) (v := nI (k + 1)) (lv' := [(7, .int (nI (k + 1))), (0, .ref q), (1, .int (nI k0)), (2, .int d), (3, .int (ps_cb d (g 1 k0))), (4, .int (ps_cb d (g 2 k0))), (5, .int (ps_cb d (g 3 k0))), (6, .int (nI (ps_cn (ps_kb g d k0) k)))]) hx hb dX1_keptBefore_76 hl rfl (ps_inc _) (by decide) rfl (fun ls hl => ?_)
      refine lv_goto (tgt := 41) hx hb dX1_keptBefore_79 rfl ?_
      first | rw [← ps_cnT hc] at hl | rw [← ps_cnF hc] at hl
      exact ih ((k + 1)) ls (by omega) ⟨by omega, lv_sub hl [1, 2, 3, 4, 5, 6, 7, 0] rfl⟩
    · skip
      refine lv_aload_n hx hb dX1_keptBefore_58 rfl (lv_at hl 0 rfl) ?_
      refine lv_iload hx hb dX1_keptBefore_59 (lv_at hl 7 rfl) ?_
      refine lv_iload_n hx hb dX1_keptBefore_61 rfl (lv_at hl 2 rfl) ?_
      refine lv_iload_n hx hb dX1_keptBefore_62 rfl (lv_at hl 3 rfl) ?_
      refine lv_iload hx hb dX1_keptBefore_63 (lv_at hl 4 rfl) ?_
      refine lv_iload hx hb dX1_keptBefore_65 (lv_at hl 5 rfl) ?_
      refine vp_callSi (va_Run.run (va_runV (C := RX1) (As := [.int (nI k), .int d, .int (ps_cb d (g 1 k0)), .int (ps_cb d (g 2 k0)), .int (ps_cb d (g 3 k0))]) (rest := []) ⟨hx, hb, hml, hown, hT⟩ (mX1_isInCube l dC dI cI cZ q a n g k (by omega) d (ps_cb d (g 1 k0)) (ps_cb d (g 2 k0)) (ps_cb d (g 3 k0))) (cwV 5 hT (ps_gV tw_ml_X1_41 tw_im_X1_isInCube tw_se_X1_isInCube tw_in_X1 tw_co_X1_isInCube) rfl rfl rfl ⟨rfl, by decide, by decide, by decide +kernel⟩ ⟨Nat.le_of_ble_eq_true rfl, Nat.le_of_ble_eq_true rfl⟩) (ps_preV (ci := 1) (q0 := 0) hN hP hK rfl rfl) rfl rfl hl.1 rfl (lv_room (Nat.le_of_ble_eq_true rfl)) dX1_keptBefore_67 ⟨Nat.le_of_ble_eq_true rfl, Nat.le_of_ble_eq_true rfl⟩)) (fun r hr => ?_)
      obtain rfl : r = ps_bi (ps_in g d (ps_cb d (g 1 k0)) (ps_cb d (g 2 k0)) (ps_cb d (g 3 k0)) k) := hr
      refine ps_ifb_eq (tgt := 76) hx hb dX1_keptBefore_70 rfl (fun h70 => ?_) (fun h70 => ?_)
      · skip
        have hc : ps_kb g d k0 k = false := by simp [ps_kb, ps_one, h70]
        refine lv_iinc (k := 7) (v := nI (k + 1)) (lv' := [(7, .int (nI (k + 1))), (0, .ref q), (1, .int (nI k0)), (2, .int d), (3, .int (ps_cb d (g 1 k0))), (4, .int (ps_cb d (g 2 k0))), (5, .int (ps_cb d (g 3 k0))), (6, .int (nI (ps_cn (ps_kb g d k0) k)))]) hx hb dX1_keptBefore_76 hl rfl (ps_inc _) (by decide) rfl (fun ls hl => ?_)
        refine lv_goto (tgt := 41) hx hb dX1_keptBefore_79 rfl ?_
        first | rw [← ps_cnT hc] at hl | rw [← ps_cnF hc] at hl
        exact ih ((k + 1)) ls (by omega) ⟨by omega, lv_sub hl [1, 2, 3, 4, 5, 6, 7, 0] rfl⟩
      · skip
        have hc : ps_kb g d k0 k = true := by simp [ps_kb, ps_one, h55, h70]
        refine lv_iinc (k := 6) (v := nI ((ps_cn (ps_kb g d k0) k) + 1)) (lv' := [(6, .int (nI ((ps_cn (ps_kb g d k0) k) + 1))), (0, .ref q), (1, .int (nI k0)), (2, .int d), (3, .int (ps_cb d (g 1 k0))), (4, .int (ps_cb d (g 2 k0))), (5, .int (ps_cb d (g 3 k0))), (7, .int (nI k))]) hx hb dX1_keptBefore_73 hl rfl (ps_inc _) (by decide) rfl (fun ls hl => ?_)
        refine lv_iinc (k := 7) (v := nI (k + 1)) (lv' := [(7, .int (nI (k + 1))), (6, .int (nI ((ps_cn (ps_kb g d k0) k) + 1))), (0, .ref q), (1, .int (nI k0)), (2, .int d), (3, .int (ps_cb d (g 1 k0))), (4, .int (ps_cb d (g 2 k0))), (5, .int (ps_cb d (g 3 k0)))]) hx hb dX1_keptBefore_76 hl rfl (ps_inc _) (by decide) rfl (fun ls hl => ?_)
        refine lv_goto (tgt := 41) hx hb dX1_keptBefore_79 rfl ?_
        first | rw [← ps_cnT hc] at hl | rw [← ps_cnF hc] at hl
        exact ih ((k + 1)) ls (by omega) ⟨by omega, lv_sub hl [2, 3, 4, 5, 6, 7, 1, 0] rfl⟩
set_option maxHeartbeats 4000000 in
set_option maxRecDepth 100000 in
theorem mX1_findKept (l : Launch) (dC : Nat → ClassId) (dI : Nat → Nat → Nat) (cI cZ : ClassId) (q : Nat) (a : Nat → Nat) (n : Nat) (g : ps_G) (hn : n ≤ 48) (d cx cy cz pl : Int32) : Met l yX1_findKept (.code yX1_findKept cX1_findKept 7 (some .int) :: ps_T) ({ frames := 2, cells := 0, slots := 0, locals := 46 }) (ps_pc (dC, dI) (ps_ty cI cZ) (ps_trW cI cZ q a n g) [.ref q, .int d, .int cx, .int cy, .int cz, .int pl]) (vp_Si (fun r => r = ps_fr (ps_fp (ps_fk g d cx cy cz pl) n))) 0 0 (fun _ => False) := by
  refine Met.ofW (cc := cX1_findKept) (maxL := 7) (ret := (some .int)) (by decide) rfl ?_
  intro p e s m args below meth c s₁ B hml hv
  obtain ⟨rfl, hN, hP, hK⟩ := hv
  have hx := B.exec
  have hb := B.bytes
  have hr := B.returns
  have hlocks := B.notSynchronized
  have hT : ∀ w ∈ ps_T, w.before ([.ref q, .int d, .int cx, .int cy, .int cz, .int pl] : List Value).toArray s = true := fun w h => atoms_spec (ws := (.code yX1_findKept cX1_findKept 7 (some .int) :: ps_T)) B.pre w (List.mem_cons_of_mem _ h)
  have hown : s.vm.findClass RX1 = some m.cls := findClass_of_methodNamed B.named
  have hl := lv_entry ([.ref q, .int d, .int cx, .int cy, .int cz, .int pl]) (n := 7) (Nat.le_of_ble_eq_true rfl)
  rw [lg_entry_eq]
  generalize (lg_sl ([.ref q, .int d, .int cx, .int cy, .int cz, .int pl]) ++ List.replicate (7 - (lg_sl ([.ref q, .int d, .int cx, .int cy, .int cz, .int pl])).length) Slot.unset).toArray = ls at hl ⊢
  have hl : lv_has ls 7 [(0, .ref q), (1, .int d), (2, .int cx), (3, .int cy), (4, .int cz), (5, .int pl)] := hl
  refine lv_iconst (v := 0) hx hb dX1_findKept_0 (by decide) ?_
  refine lv_istore (lv' := [(6, .int 0), (0, .ref q), (1, .int d), (2, .int cx), (3, .int cy), (4, .int cz), (5, .int pl)]) hx hb dX1_findKept_1 hl (by decide) rfl (fun ls hl => ?_)
  have hl : lv_has ls 7 [(6, .int (nI 0)), (0, .ref q), (1, .int d), (2, .int cx), (3, .int cy), (4, .int cz), (5, .int pl)] := hl
  refine ps_loopS (α := Nat) (fun k => n - k) (fun k ls => (k ≤ n) ∧ (∀ j, j < k → ps_fk g d cx cy cz pl j = false) ∧ lv_has ls 7 [(0, .ref q), (1, .int d), (2, .int cx), (3, .int cy), (4, .int cz), (5, .int pl), (6, .int (nI k))]) ?_ 0 ls ⟨by omega, fun j hj => absurd hj (Nat.not_lt_zero j), lv_sub hl [1, 2, 3, 4, 5, 6, 0] rfl⟩
  intro k ls ih hI
  obtain ⟨hk, hj, hl⟩ := hI
  refine lv_iload hx hb dX1_findKept_3 (lv_at hl 6 rfl) ?_
  refine lv_aload_n hx hb dX1_findKept_5 rfl (lv_at hl 0 rfl) ?_
  refine va_get (D := (dC, dI)) (ci := 1) (v := .int (nI n)) (C := RX1) (T := TX1) (N := 9) hx hb hT inX1 hown hK hP 0 rfl rfl 8 (by decide) (hT _ tw_fl_X1_37) (fun _ h9 => h9) rfl dX1_findKept_6 ?_
  refine ps_icmp_ge (tgt := 58) (a := k) (b := n) hx hb dX1_findKept_9 rfl (by omega) (by omega) (fun h9 => ?_) (fun h9 => ?_)
  · skip
    refine lv_iconst (v := (-1)) hx hb dX1_findKept_58 (by decide) ?_
    exact W.iret (v := (-1)) hx hb hr (fun t ht hW => ⟨(-1), rfl, by rw [ps_fp_none (fun j h => hj j (by omega))]; rfl, ht⟩) (fun q h => by cases h) dX1_findKept_59
  · skip
    refine lv_aload_n hx hb dX1_findKept_12 rfl (lv_at hl 0 rfl) ?_
    refine va_get (D := (dC, dI)) (ci := 1) (v := .ref (a 6)) (C := RX1) (T := TX1) (N := 9) hx hb hT inX1 hown hK hP 0 rfl rfl 6 (by decide) (hT _ tw_fl_X1_30) (fun _ h9 => h9) rfl dX1_findKept_13 ?_
    refine lv_iload hx hb dX1_findKept_16 (lv_at hl 6 rfl) ?_
    refine ps_iald (k := k) (f := g 6) hx hb hK hP 7 0 rfl rfl (by omega) (by decide) dX1_findKept_18 ?_
    refine lv_iload hx hb dX1_findKept_19 (lv_at hl 5 rfl) ?_
    refine lv_icmp_ne (tgt := 52) hx hb dX1_findKept_21 rfl (fun h21 => ?_) (fun h21 => ?_)
    · skip
      have hc : ps_fk g d cx cy cz pl k = false := by simp [ps_fk, h21]
      refine lv_iinc (k := 6) (v := nI (k + 1)) (lv' := [(6, .int (nI (k + 1))), (0, .ref q), (1, .int d), (2, .int cx), (3, .int cy), (4, .int cz), (5, .int pl)]) hx hb dX1_findKept_52 hl rfl (ps_inc _) (by decide) rfl (fun ls hl => ?_)
      refine lv_goto (tgt := 3) hx hb dX1_findKept_55 rfl ?_
      exact ih ((k + 1)) ls (by omega) ⟨by omega, lt_s hj hc, lv_sub hl [1, 2, 3, 4, 5, 6, 0] rfl⟩
    · skip
      refine lv_aload_n hx hb dX1_findKept_24 rfl (lv_at hl 0 rfl) ?_
      refine va_get (D := (dC, dI)) (ci := 1) (v := .ref (a 5)) (C := RX1) (T := TX1) (N := 9) hx hb hT inX1 hown hK hP 0 rfl rfl 5 (by decide) (hT _ tw_fl_X1_27) (fun _ h9 => h9) rfl dX1_findKept_25 ?_
      refine lv_iload hx hb dX1_findKept_28 (lv_at hl 6 rfl) ?_
      refine ps_iald (k := k) (f := g 5) hx hb hK hP 6 0 rfl rfl (by omega) (by decide) dX1_findKept_30 ?_
      refine lv_iload_n hx hb dX1_findKept_31 rfl (lv_at hl 1 rfl) ?_
      refine lv_icmp_ne (tgt := 52) hx hb dX1_findKept_32 rfl (fun h32 => ?_) (fun h32 => ?_)
      · skip
        have hc : ps_fk g d cx cy cz pl k = false := by simp [ps_fk, h32]
        refine lv_iinc (k := 6) (v := nI (k + 1)) (lv' := [(6, .int (nI (k + 1))), (0, .ref q), (1, .int d), (2, .int cx), (3, .int cy), (4, .int cz), (5, .int pl)]) hx hb dX1_findKept_52 hl rfl (ps_inc _) (by decide) rfl (fun ls hl => ?_)
        refine lv_goto (tgt := 3) hx hb dX1_findKept_55 rfl ?_
        exact ih ((k + 1)) ls (by omega) ⟨by omega, lt_s hj hc, lv_sub hl [1, 2, 3, 4, 5, 6, 0] rfl⟩
      · skip
        refine lv_aload_n hx hb dX1_findKept_35 rfl (lv_at hl 0 rfl) ?_
        refine lv_iload hx hb dX1_findKept_36 (lv_at hl 6 rfl) ?_
        refine lv_iload_n hx hb dX1_findKept_38 rfl (lv_at hl 1 rfl) ?_
        refine lv_iload_n hx hb dX1_findKept_39 rfl (lv_at hl 2 rfl) ?_
        refine lv_iload_n hx hb dX1_findKept_40 rfl (lv_at hl 3 rfl) ?_
        refine lv_iload hx hb dX1_findKept_41 (lv_at hl 4 rfl) ?_
        refine vp_callSi (va_Run.run (va_runV (C := RX1) (As := [.int (nI k), .int d, .int cx, .int cy, .int cz]) (rest := []) ⟨hx, hb, hml, hown, hT⟩ (mX1_isInCube l dC dI cI cZ q a n g k (by omega) d cx cy cz) (cwV 5 hT (ps_gV tw_ml_X1_41 tw_im_X1_isInCube tw_se_X1_isInCube tw_in_X1 tw_co_X1_isInCube) rfl rfl rfl ⟨rfl, by decide, by decide, by decide +kernel⟩ ⟨Nat.le_of_ble_eq_true rfl, Nat.le_of_ble_eq_true rfl⟩) (ps_preV (ci := 1) (q0 := 0) hN hP hK rfl rfl) rfl rfl hl.1 rfl (lv_room (Nat.le_of_ble_eq_true rfl)) dX1_findKept_43 ⟨Nat.le_of_ble_eq_true rfl, Nat.le_of_ble_eq_true rfl⟩)) (fun r hr => ?_)
        obtain rfl : r = ps_bi (ps_in g d cx cy cz k) := hr
        refine ps_ifb_eq (tgt := 52) hx hb dX1_findKept_46 rfl (fun h46 => ?_) (fun h46 => ?_)
        · skip
          have hc : ps_fk g d cx cy cz pl k = false := by simp [ps_fk, h46]
          refine lv_iinc (k := 6) (v := nI (k + 1)) (lv' := [(6, .int (nI (k + 1))), (0, .ref q), (1, .int d), (2, .int cx), (3, .int cy), (4, .int cz), (5, .int pl)]) hx hb dX1_findKept_52 hl rfl (ps_inc _) (by decide) rfl (fun ls hl => ?_)
          refine lv_goto (tgt := 3) hx hb dX1_findKept_55 rfl ?_
          exact ih ((k + 1)) ls (by omega) ⟨by omega, lt_s hj hc, lv_sub hl [1, 2, 3, 4, 5, 6, 0] rfl⟩
        · skip
          have hc : ps_fk g d cx cy cz pl k = true := by simp [ps_fk, h21, h32, h46]
          refine lv_iload hx hb dX1_findKept_49 (lv_at hl 6 rfl) ?_
          exact W.iret (v := nI k) hx hb hr (fun t ht hW => ⟨nI k, rfl, by rw [ps_fp_some h9 hc hj]; rfl, ht⟩) (fun q h => by cases h) dX1_findKept_51
set_option maxHeartbeats 4000000 in
set_option maxRecDepth 100000 in
theorem mX1_hasChange (l : Launch) (dC : Nat → ClassId) (dI : Nat → Nat → Nat) (cI cZ : ClassId) (q : Nat) (a : Nat → Nat) (n : Nat) (g : ps_G) (hn : n ≤ 48) (d cx cy cz : Int32) : Met l yX1_hasChange (.code yX1_hasChange cX1_hasChange 6 (some .boolean) :: ps_T) ({ frames := 2, cells := 0, slots := 0, locals := 46 }) (ps_pc (dC, dI) (ps_ty cI cZ) (ps_trW cI cZ q a n g) [.ref q, .int d, .int cx, .int cy, .int cz]) (vp_Si (fun r => r = ps_bi (ps_hc g n d cx cy cz))) 0 0 (fun _ => False) := by
  refine Met.ofW (cc := cX1_hasChange) (maxL := 6) (ret := (some .boolean)) (by decide) rfl ?_
  intro p e s m args below meth c s₁ B hml hv
  obtain ⟨rfl, hN, hP, hK⟩ := hv
  have hx := B.exec
  have hb := B.bytes
  have hr := B.returns
  have hlocks := B.notSynchronized
  have hT : ∀ w ∈ ps_T, w.before ([.ref q, .int d, .int cx, .int cy, .int cz] : List Value).toArray s = true := fun w h => atoms_spec (ws := (.code yX1_hasChange cX1_hasChange 6 (some .boolean) :: ps_T)) B.pre w (List.mem_cons_of_mem _ h)
  have hown : s.vm.findClass RX1 = some m.cls := findClass_of_methodNamed B.named
  have hl := lv_entry ([.ref q, .int d, .int cx, .int cy, .int cz]) (n := 6) (Nat.le_of_ble_eq_true rfl)
  rw [lg_entry_eq]
  generalize (lg_sl ([.ref q, .int d, .int cx, .int cy, .int cz]) ++ List.replicate (6 - (lg_sl ([.ref q, .int d, .int cx, .int cy, .int cz])).length) Slot.unset).toArray = ls at hl ⊢
  have hl : lv_has ls 6 [(0, .ref q), (1, .int d), (2, .int cx), (3, .int cy), (4, .int cz)] := hl
  refine lv_iconst (v := 0) hx hb dX1_hasChange_0 (by decide) ?_
  refine lv_istore (lv' := [(5, .int 0), (0, .ref q), (1, .int d), (2, .int cx), (3, .int cy), (4, .int cz)]) hx hb dX1_hasChange_1 hl (by decide) rfl (fun ls hl => ?_)
  have hl : lv_has ls 6 [(5, .int (nI 0)), (0, .ref q), (1, .int d), (2, .int cx), (3, .int cy), (4, .int cz)] := hl
  refine ps_loopS (α := Nat) (fun k => n - k) (fun k ls => (k ≤ n) ∧ (∀ j, j < k → ps_hp g d cx cy cz j = false) ∧ lv_has ls 6 [(0, .ref q), (1, .int d), (2, .int cx), (3, .int cy), (4, .int cz), (5, .int (nI k))]) ?_ 0 ls ⟨by omega, fun j hj => absurd hj (Nat.not_lt_zero j), lv_sub hl [1, 2, 3, 4, 5, 0] rfl⟩
  intro k ls ih hI
  obtain ⟨hk, hj, hl⟩ := hI
  refine lv_iload hx hb dX1_hasChange_3 (lv_at hl 5 rfl) ?_
  refine lv_aload_n hx hb dX1_hasChange_5 rfl (lv_at hl 0 rfl) ?_
  refine va_get (D := (dC, dI)) (ci := 1) (v := .int (nI n)) (C := RX1) (T := TX1) (N := 9) hx hb hT inX1 hown hK hP 0 rfl rfl 8 (by decide) (hT _ tw_fl_X1_37) (fun _ h9 => h9) rfl dX1_hasChange_6 ?_
  refine ps_icmp_ge (tgt := 55) (a := k) (b := n) hx hb dX1_hasChange_9 rfl (by omega) (by omega) (fun h9 => ?_) (fun h9 => ?_)
  · skip
    refine lv_iconst (v := 0) hx hb dX1_hasChange_55 (by decide) ?_
    exact W.zret (v := 0) hx hb hr rfl (fun t ht hW => ⟨0, rfl, ps_bi_f (ps_any_f (fun j h => hj j (by omega))), ht⟩) (fun q h => by cases h) dX1_hasChange_56
  · skip
    refine lv_aload_n hx hb dX1_hasChange_12 rfl (lv_at hl 0 rfl) ?_
    refine va_get (D := (dC, dI)) (ci := 1) (v := .ref (a 7)) (C := RX1) (T := TX1) (N := 9) hx hb hT inX1 hown hK hP 0 rfl rfl 7 (by decide) (hT _ tw_fl_X1_33) (fun _ h9 => h9) rfl dX1_hasChange_13 ?_
    refine lv_iload hx hb dX1_hasChange_16 (lv_at hl 5 rfl) ?_
    refine ps_zald (k := k) (f := g 7) hx hb hK hP 8 1 rfl rfl (by omega) (by decide) dX1_hasChange_18 ?_
    refine lv_if_eq (tgt := 49) hx hb dX1_hasChange_19 rfl (fun h19 => ?_) (fun h19 => ?_)
    · skip
      have hc : ps_hp g d cx cy cz k = false := by simp [ps_hp, h19]
      refine lv_iinc (k := 5) (v := nI (k + 1)) (lv' := [(5, .int (nI (k + 1))), (0, .ref q), (1, .int d), (2, .int cx), (3, .int cy), (4, .int cz)]) hx hb dX1_hasChange_49 hl rfl (ps_inc _) (by decide) rfl (fun ls hl => ?_)
      refine lv_goto (tgt := 3) hx hb dX1_hasChange_52 rfl ?_
      exact ih ((k + 1)) ls (by omega) ⟨by omega, lt_s hj hc, lv_sub hl [1, 2, 3, 4, 5, 0] rfl⟩
    · skip
      refine lv_aload_n hx hb dX1_hasChange_22 rfl (lv_at hl 0 rfl) ?_
      refine va_get (D := (dC, dI)) (ci := 1) (v := .ref (a 5)) (C := RX1) (T := TX1) (N := 9) hx hb hT inX1 hown hK hP 0 rfl rfl 5 (by decide) (hT _ tw_fl_X1_27) (fun _ h9 => h9) rfl dX1_hasChange_23 ?_
      refine lv_iload hx hb dX1_hasChange_26 (lv_at hl 5 rfl) ?_
      refine ps_iald (k := k) (f := g 5) hx hb hK hP 6 0 rfl rfl (by omega) (by decide) dX1_hasChange_28 ?_
      refine lv_iload_n hx hb dX1_hasChange_29 rfl (lv_at hl 1 rfl) ?_
      refine lv_icmp_lt (tgt := 49) hx hb dX1_hasChange_30 rfl (fun h30 => ?_) (fun h30 => ?_)
      · skip
        have hc : ps_hp g d cx cy cz k = false := by simp [ps_hp, Int32.not_le.mpr h30]
        refine lv_iinc (k := 5) (v := nI (k + 1)) (lv' := [(5, .int (nI (k + 1))), (0, .ref q), (1, .int d), (2, .int cx), (3, .int cy), (4, .int cz)]) hx hb dX1_hasChange_49 hl rfl (ps_inc _) (by decide) rfl (fun ls hl => ?_)
        refine lv_goto (tgt := 3) hx hb dX1_hasChange_52 rfl ?_
        exact ih ((k + 1)) ls (by omega) ⟨by omega, lt_s hj hc, lv_sub hl [1, 2, 3, 4, 5, 0] rfl⟩
      · skip
        refine lv_aload_n hx hb dX1_hasChange_33 rfl (lv_at hl 0 rfl) ?_
        refine lv_iload hx hb dX1_hasChange_34 (lv_at hl 5 rfl) ?_
        refine lv_iload_n hx hb dX1_hasChange_36 rfl (lv_at hl 1 rfl) ?_
        refine lv_iload_n hx hb dX1_hasChange_37 rfl (lv_at hl 2 rfl) ?_
        refine lv_iload_n hx hb dX1_hasChange_38 rfl (lv_at hl 3 rfl) ?_
        refine lv_iload hx hb dX1_hasChange_39 (lv_at hl 4 rfl) ?_
        refine vp_callSi (va_Run.run (va_runV (C := RX1) (As := [.int (nI k), .int d, .int cx, .int cy, .int cz]) (rest := []) ⟨hx, hb, hml, hown, hT⟩ (mX1_isInCube l dC dI cI cZ q a n g k (by omega) d cx cy cz) (cwV 5 hT (ps_gV tw_ml_X1_41 tw_im_X1_isInCube tw_se_X1_isInCube tw_in_X1 tw_co_X1_isInCube) rfl rfl rfl ⟨rfl, by decide, by decide, by decide +kernel⟩ ⟨Nat.le_of_ble_eq_true rfl, Nat.le_of_ble_eq_true rfl⟩) (ps_preV (ci := 1) (q0 := 0) hN hP hK rfl rfl) rfl rfl hl.1 rfl (lv_room (Nat.le_of_ble_eq_true rfl)) dX1_hasChange_41 ⟨Nat.le_of_ble_eq_true rfl, Nat.le_of_ble_eq_true rfl⟩)) (fun r hr => ?_)
        obtain rfl : r = ps_bi (ps_in g d cx cy cz k) := hr
        refine ps_ifb_eq (tgt := 49) hx hb dX1_hasChange_44 rfl (fun h44 => ?_) (fun h44 => ?_)
        · skip
          have hc : ps_hp g d cx cy cz k = false := by simp [ps_hp, h44]
          refine lv_iinc (k := 5) (v := nI (k + 1)) (lv' := [(5, .int (nI (k + 1))), (0, .ref q), (1, .int d), (2, .int cx), (3, .int cy), (4, .int cz)]) hx hb dX1_hasChange_49 hl rfl (ps_inc _) (by decide) rfl (fun ls hl => ?_)
          refine lv_goto (tgt := 3) hx hb dX1_hasChange_52 rfl ?_
          exact ih ((k + 1)) ls (by omega) ⟨by omega, lt_s hj hc, lv_sub hl [1, 2, 3, 4, 5, 0] rfl⟩
        · skip
          have hc : ps_hp g d cx cy cz k = true := by simp [ps_hp, h19, Int32.not_lt.mp h30, h44]
          refine lv_iconst (v := 1) hx hb dX1_hasChange_47 (by decide) ?_
          exact W.zret (v := 1) hx hb hr rfl (fun t ht hW => ⟨1, rfl, ps_bi_t (ps_any_t h9 hc), ht⟩) (fun q h => by cases h) dX1_hasChange_48
set_option maxHeartbeats 4000000 in
set_option maxRecDepth 100000 in
theorem mX1_distanceKey (l : Launch) (dC : Nat → ClassId) (dI : Nat → Nat → Nat) (cI cZ : ClassId) (q : Nat) (a : Nat → Nat) (n : Nat) (g : ps_G) (k : Nat) (hk : k < 48) (x y z : Int32) : Met l yX1_distanceKey (.code yX1_distanceKey cX1_distanceKey 8 (some .long) :: ps_T) ({ frames := 0, cells := 0, slots := 0, locals := 0 }) (ps_pc (dC, dI) (ps_ty cI cZ) (ps_trW cI cZ q a n g) [.ref q, .int (nI k), .int x, .int y, .int z]) (vp_Sl (fun r => r = ps_dk g x y z k)) 0 0 (fun _ => False) := by
  refine Met.ofW (cc := cX1_distanceKey) (maxL := 8) (ret := (some .long)) (by decide) rfl ?_
  intro p e s m args below meth c s₁ B hml hv
  obtain ⟨rfl, hN, hP, hK⟩ := hv
  have hx := B.exec
  have hb := B.bytes
  have hr := B.returns
  have hlocks := B.notSynchronized
  have hT : ∀ w ∈ ps_T, w.before ([.ref q, .int (nI k), .int x, .int y, .int z] : List Value).toArray s = true := fun w h => atoms_spec (ws := (.code yX1_distanceKey cX1_distanceKey 8 (some .long) :: ps_T)) B.pre w (List.mem_cons_of_mem _ h)
  have hown : s.vm.findClass RX1 = some m.cls := findClass_of_methodNamed B.named
  have hl := lv_entry ([.ref q, .int (nI k), .int x, .int y, .int z]) (n := 8) (Nat.le_of_ble_eq_true rfl)
  rw [lg_entry_eq]
  generalize (lg_sl ([.ref q, .int (nI k), .int x, .int y, .int z]) ++ List.replicate (8 - (lg_sl ([.ref q, .int (nI k), .int x, .int y, .int z])).length) Slot.unset).toArray = ls at hl ⊢
  have hl : lv_has ls 8 [(0, .ref q), (1, .int (nI k)), (2, .int x), (3, .int y), (4, .int z)] := hl
  refine lv_aload_n hx hb dX1_distanceKey_0 rfl (lv_at hl 0 rfl) ?_
  refine va_get (D := (dC, dI)) (ci := 1) (v := .ref (a 1)) (C := RX1) (T := TX1) (N := 9) hx hb hT inX1 hown hK hP 0 rfl rfl 1 (by decide) (hT _ tw_fl_X1_15) (fun _ h9 => h9) rfl dX1_distanceKey_1 ?_
  refine lv_iload_n hx hb dX1_distanceKey_4 rfl (lv_at hl 1 rfl) ?_
  refine ps_iald (k := k) (f := g 1) hx hb hK hP 2 0 rfl rfl (by omega) (by decide) dX1_distanceKey_5 ?_
  refine lv_iload_n hx hb dX1_distanceKey_6 rfl (lv_at hl 2 rfl) ?_
  refine lv_isub hx hb dX1_distanceKey_7 ?_
  refine lv_istore (lv' := [(5, .int ((g 1 k) - x)), (0, .ref q), (1, .int (nI k)), (2, .int x), (3, .int y), (4, .int z)]) hx hb dX1_distanceKey_8 hl (by decide) rfl (fun ls hl => ?_)
  refine lv_aload_n hx hb dX1_distanceKey_10 rfl (lv_at hl 1 rfl) ?_
  refine va_get (D := (dC, dI)) (ci := 1) (v := .ref (a 2)) (C := RX1) (T := TX1) (N := 9) hx hb hT inX1 hown hK hP 0 rfl rfl 2 (by decide) (hT _ tw_fl_X1_18) (fun _ h9 => h9) rfl dX1_distanceKey_11 ?_
  refine lv_iload_n hx hb dX1_distanceKey_14 rfl (lv_at hl 2 rfl) ?_
  refine ps_iald (k := k) (f := g 2) hx hb hK hP 3 0 rfl rfl (by omega) (by decide) dX1_distanceKey_15 ?_
  refine lv_iload_n hx hb dX1_distanceKey_16 rfl (lv_at hl 4 rfl) ?_
  refine lv_isub hx hb dX1_distanceKey_17 ?_
  refine lv_istore (lv' := [(6, .int ((g 2 k) - y)), (5, .int ((g 1 k) - x)), (0, .ref q), (1, .int (nI k)), (2, .int x), (3, .int y), (4, .int z)]) hx hb dX1_distanceKey_18 hl (by decide) rfl (fun ls hl => ?_)
  refine lv_aload_n hx hb dX1_distanceKey_20 rfl (lv_at hl 2 rfl) ?_
  refine va_get (D := (dC, dI)) (ci := 1) (v := .ref (a 3)) (C := RX1) (T := TX1) (N := 9) hx hb hT inX1 hown hK hP 0 rfl rfl 3 (by decide) (hT _ tw_fl_X1_21) (fun _ h9 => h9) rfl dX1_distanceKey_21 ?_
  refine lv_iload_n hx hb dX1_distanceKey_24 rfl (lv_at hl 3 rfl) ?_
  refine ps_iald (k := k) (f := g 3) hx hb hK hP 4 0 rfl rfl (by omega) (by decide) dX1_distanceKey_25 ?_
  refine lv_iload hx hb dX1_distanceKey_26 (lv_at hl 6 rfl) ?_
  refine lv_isub hx hb dX1_distanceKey_28 ?_
  refine lv_istore (lv' := [(7, .int ((g 3 k) - z)), (6, .int ((g 2 k) - y)), (5, .int ((g 1 k) - x)), (0, .ref q), (1, .int (nI k)), (2, .int x), (3, .int y), (4, .int z)]) hx hb dX1_distanceKey_29 hl (by decide) rfl (fun ls hl => ?_)
  refine lv_iload hx hb dX1_distanceKey_31 (lv_at hl 2 rfl) ?_
  refine lv_iload hx hb dX1_distanceKey_33 (lv_at hl 2 rfl) ?_
  refine lv_imul hx hb dX1_distanceKey_35 ?_
  refine lv_iload hx hb dX1_distanceKey_36 (lv_at hl 1 rfl) ?_
  refine lv_iload hx hb dX1_distanceKey_38 (lv_at hl 1 rfl) ?_
  refine lv_imul hx hb dX1_distanceKey_40 ?_
  refine lv_iadd hx hb dX1_distanceKey_41 ?_
  refine lv_iload hx hb dX1_distanceKey_42 (lv_at hl 0 rfl) ?_
  refine lv_iload hx hb dX1_distanceKey_44 (lv_at hl 0 rfl) ?_
  refine lv_imul hx hb dX1_distanceKey_46 ?_
  refine lv_iadd hx hb dX1_distanceKey_47 ?_
  refine lv_i2l (v := (((((g 1 k) - x) * ((g 1 k) - x)) + (((g 2 k) - y) * ((g 2 k) - y))) + (((g 3 k) - z) * ((g 3 k) - z))).toInt64) hx hb dX1_distanceKey_48 rfl ?_
  refine lv_ldc2 (v := (4294967296)) hx hb hown (hT _ tw_kl_X1_111) dX1_distanceKey_49 ?_
  refine lv_lmul hx hb dX1_distanceKey_52 ?_
  refine lv_aload_n hx hb dX1_distanceKey_53 rfl (lv_at hl 3 rfl) ?_
  refine va_get (D := (dC, dI)) (ci := 1) (v := .ref (a 0)) (C := RX1) (T := TX1) (N := 9) hx hb hT inX1 hown hK hP 0 rfl rfl 0 (by decide) (hT _ tw_fl_X1_9) (fun _ h9 => h9) rfl dX1_distanceKey_54 ?_
  refine lv_iload_n hx hb dX1_distanceKey_57 rfl (lv_at hl 4 rfl) ?_
  refine ps_iald (k := k) (f := g 0) hx hb hK hP 1 0 rfl rfl (by omega) (by decide) dX1_distanceKey_58 ?_
  refine lv_i2l (v := (g 0 k).toInt64) hx hb dX1_distanceKey_59 rfl ?_
  refine lv_ladd hx hb dX1_distanceKey_60 ?_
  exact W.lret (v := (((((((g 1 k) - x) * ((g 1 k) - x)) + (((g 2 k) - y) * ((g 2 k) - y))) + (((g 3 k) - z) * ((g 3 k) - z))).toInt64) * ((4294967296))) + ((g 0 k).toInt64)) hx hb hr (fun t ht hW => ⟨(((((((g 1 k) - x) * ((g 1 k) - x)) + (((g 2 k) - y) * ((g 2 k) - y))) + (((g 3 k) - z) * ((g 3 k) - z))).toInt64) * ((4294967296))) + ((g 0 k).toInt64), rfl, rfl, ht⟩) (fun q h => by cases h) dX1_distanceKey_61
set_option maxHeartbeats 4000000 in
set_option maxRecDepth 100000 in
theorem mX1_leastKeyAbove (l : Launch) (dC : Nat → ClassId) (dI : Nat → Nat → Nat) (cI cZ : ClassId) (q : Nat) (a : Nat → Nat) (n : Nat) (g : ps_G) (hn : n ≤ 48) (b : Int64) (x y z : Int32) : Met l yX1_leastKeyAbove (.code yX1_leastKeyAbove cX1_leastKeyAbove 11 (some .long) :: ps_T) ({ frames := 1, cells := 0, slots := 0, locals := 27 }) (ps_pc (dC, dI) (ps_ty cI cZ) (ps_trW cI cZ q a n g) [.ref q, .long b, .int x, .int y, .int z]) (vp_Sl (fun r => r = ps_lk (ps_dk g x y z) b n)) 0 0 (fun _ => False) := by
  refine Met.ofW (cc := cX1_leastKeyAbove) (maxL := 11) (ret := (some .long)) (by decide) rfl ?_
  intro p e s m args below meth c s₁ B hml hv
  obtain ⟨rfl, hN, hP, hK⟩ := hv
  have hx := B.exec
  have hb := B.bytes
  have hr := B.returns
  have hlocks := B.notSynchronized
  have hT : ∀ w ∈ ps_T, w.before ([.ref q, .long b, .int x, .int y, .int z] : List Value).toArray s = true := fun w h => atoms_spec (ws := (.code yX1_leastKeyAbove cX1_leastKeyAbove 11 (some .long) :: ps_T)) B.pre w (List.mem_cons_of_mem _ h)
  have hown : s.vm.findClass RX1 = some m.cls := findClass_of_methodNamed B.named
  have hl := lv_entry ([.ref q, .long b, .int x, .int y, .int z]) (n := 11) (Nat.le_of_ble_eq_true rfl)
  rw [lg_entry_eq]
  generalize (lg_sl ([.ref q, .long b, .int x, .int y, .int z]) ++ List.replicate (11 - (lg_sl ([.ref q, .long b, .int x, .int y, .int z])).length) Slot.unset).toArray = ls at hl ⊢
  have hl : lv_has ls 11 [(0, .ref q), (1, .long b), (3, .int x), (4, .int y), (5, .int z)] := hl
  refine lv_ldc2 (v := (9223372036854775807)) hx hb hown (hT _ tw_kl_X1_105) dX1_leastKeyAbove_0 ?_
  refine lv_lstore (lv' := [(6, .long ((9223372036854775807))), (0, .ref q), (1, .long b), (3, .int x), (4, .int y), (5, .int z)]) hx hb dX1_leastKeyAbove_3 hl (by decide) rfl (fun ls hl => ?_)
  refine lv_iconst (v := 0) hx hb dX1_leastKeyAbove_5 (by decide) ?_
  refine lv_istore (lv' := [(8, .int 0), (6, .long ((9223372036854775807))), (0, .ref q), (1, .long b), (3, .int x), (4, .int y), (5, .int z)]) hx hb dX1_leastKeyAbove_6 hl (by decide) rfl (fun ls hl => ?_)
  have hl : lv_has ls 11 [(8, .int (nI 0)), (6, .long (ps_lk (ps_dk g x y z) b 0)), (0, .ref q), (1, .long b), (3, .int x), (4, .int y), (5, .int z)] := hl
  refine ps_loopS (α := Nat) (fun k => n - k) (fun k ls => (k ≤ n) ∧ lv_has ls 11 [(0, .ref q), (1, .long b), (3, .int x), (4, .int y), (5, .int z), (6, .long (ps_lk (ps_dk g x y z) b k)), (8, .int (nI k))]) ?_ 0 ls ⟨by omega, lv_sub hl [2, 3, 4, 5, 6, 1, 0] rfl⟩
  intro k ls ih hI
  obtain ⟨hk, hl⟩ := hI
  refine lv_iload hx hb dX1_leastKeyAbove_8 (lv_at hl 6 rfl) ?_
  refine lv_aload_n hx hb dX1_leastKeyAbove_10 rfl (lv_at hl 0 rfl) ?_
  refine va_get (D := (dC, dI)) (ci := 1) (v := .int (nI n)) (C := RX1) (T := TX1) (N := 9) hx hb hT inX1 hown hK hP 0 rfl rfl 8 (by decide) (hT _ tw_fl_X1_37) (fun _ h9 => h9) rfl dX1_leastKeyAbove_11 ?_
  refine ps_icmp_ge (tgt := 55) (a := k) (b := n) hx hb dX1_leastKeyAbove_14 rfl (by omega) (by omega) (fun h14 => ?_) (fun h14 => ?_)
  · skip
    refine lv_lload hx hb dX1_leastKeyAbove_55 (lv_at hl 5 rfl) ?_
    exact W.lret (v := ps_lk (ps_dk g x y z) b k) hx hb hr (fun t ht hW => ⟨ps_lk (ps_dk g x y z) b k, rfl, by rw [show k = n by omega], ht⟩) (fun q h => by cases h) dX1_leastKeyAbove_57
  · skip
    refine lv_aload_n hx hb dX1_leastKeyAbove_17 rfl (lv_at hl 0 rfl) ?_
    refine lv_iload hx hb dX1_leastKeyAbove_18 (lv_at hl 6 rfl) ?_
    refine lv_iload_n hx hb dX1_leastKeyAbove_20 rfl (lv_at hl 2 rfl) ?_
    refine lv_iload hx hb dX1_leastKeyAbove_21 (lv_at hl 3 rfl) ?_
    refine lv_iload hx hb dX1_leastKeyAbove_23 (lv_at hl 4 rfl) ?_
    refine vp_callSl (va_Run.run (va_runV (C := RX1) (As := [.int (nI k), .int x, .int y, .int z]) (rest := []) ⟨hx, hb, hml, hown, hT⟩ (mX1_distanceKey l dC dI cI cZ q a n g k (by omega) x y z) (cwV 4 hT (ps_gV tw_ml_X1_107 tw_im_X1_distanceKey tw_se_X1_distanceKey tw_in_X1 tw_co_X1_distanceKey) rfl rfl rfl ⟨rfl, by decide, by decide, by decide +kernel⟩ ⟨Nat.le_of_ble_eq_true rfl, Nat.le_of_ble_eq_true rfl⟩) (ps_preV (ci := 1) (q0 := 0) hN hP hK rfl rfl) rfl rfl hl.1 rfl (lv_room (Nat.le_of_ble_eq_true rfl)) dX1_leastKeyAbove_25 ⟨Nat.le_of_ble_eq_true rfl, Nat.le_of_ble_eq_true rfl⟩)) (fun r hr => ?_)
    obtain rfl : r = ps_dk g x y z k := hr
    refine lv_lstore (lv' := [(9, .long (ps_dk g x y z k)), (0, .ref q), (1, .long b), (3, .int x), (4, .int y), (5, .int z), (6, .long (ps_lk (ps_dk g x y z) b k)), (8, .int (nI k))]) hx hb dX1_leastKeyAbove_28 hl (by decide) rfl (fun ls hl => ?_)
    refine lv_lload hx hb dX1_leastKeyAbove_30 (lv_at hl 0 rfl) ?_
    refine lv_lload_n hx hb dX1_leastKeyAbove_32 rfl (lv_at hl 2 rfl) ?_
    refine W.lcmp hx hb dX1_leastKeyAbove_33 ?_
    refine lv_if_le (tgt := 49) hx hb dX1_leastKeyAbove_34 rfl (fun h34 => ?_) (fun h34 => ?_)
    · skip
      have hc : ps_lk (ps_dk g x y z) b (k + 1) = ps_lk (ps_dk g x y z) b k := ps_lk_1 h34
      refine lv_iinc (k := 7) (v := nI (k + 1)) (lv' := [(8, .int (nI (k + 1))), (9, .long (ps_dk g x y z k)), (0, .ref q), (1, .long b), (3, .int x), (4, .int y), (5, .int z), (6, .long (ps_lk (ps_dk g x y z) b k))]) hx hb dX1_leastKeyAbove_49 hl rfl (ps_inc _) (by decide) rfl (fun ls hl => ?_)
      refine lv_goto (tgt := 8) hx hb dX1_leastKeyAbove_52 rfl ?_
      rw [← hc] at hl
      exact ih ((k + 1)) ls (by omega) ⟨by omega, lv_sub hl [2, 3, 4, 5, 6, 7, 0] rfl⟩
    · skip
      refine lv_lload hx hb dX1_leastKeyAbove_37 (lv_at hl 0 rfl) ?_
      refine lv_lload hx hb dX1_leastKeyAbove_39 (lv_at hl 6 rfl) ?_
      refine W.lcmp hx hb dX1_leastKeyAbove_41 ?_
      refine lv_if_ge (tgt := 49) hx hb dX1_leastKeyAbove_42 rfl (fun h42 => ?_) (fun h42 => ?_)
      · skip
        have hc : ps_lk (ps_dk g x y z) b (k + 1) = ps_lk (ps_dk g x y z) b k := ps_lk_2 h42
        refine lv_iinc (k := 7) (v := nI (k + 1)) (lv' := [(8, .int (nI (k + 1))), (9, .long (ps_dk g x y z k)), (0, .ref q), (1, .long b), (3, .int x), (4, .int y), (5, .int z), (6, .long (ps_lk (ps_dk g x y z) b k))]) hx hb dX1_leastKeyAbove_49 hl rfl (ps_inc _) (by decide) rfl (fun ls hl => ?_)
        refine lv_goto (tgt := 8) hx hb dX1_leastKeyAbove_52 rfl ?_
        rw [← hc] at hl
        exact ih ((k + 1)) ls (by omega) ⟨by omega, lv_sub hl [2, 3, 4, 5, 6, 7, 0] rfl⟩
      · skip
        have hc : ps_lk (ps_dk g x y z) b (k + 1) = ps_dk g x y z k := ps_lk_3 h34 h42
        refine lv_lload hx hb dX1_leastKeyAbove_45 (lv_at hl 0 rfl) ?_
        refine lv_lstore (lv' := [(6, .long (ps_dk g x y z k)), (9, .long (ps_dk g x y z k)), (0, .ref q), (1, .long b), (3, .int x), (4, .int y), (5, .int z), (8, .int (nI k))]) hx hb dX1_leastKeyAbove_47 hl (by decide) rfl (fun ls hl => ?_)
        refine lv_iinc (k := 7) (v := nI (k + 1)) (lv' := [(8, .int (nI (k + 1))), (6, .long (ps_dk g x y z k)), (9, .long (ps_dk g x y z k)), (0, .ref q), (1, .long b), (3, .int x), (4, .int y), (5, .int z)]) hx hb dX1_leastKeyAbove_49 hl rfl (ps_inc _) (by decide) rfl (fun ls hl => ?_)
        refine lv_goto (tgt := 8) hx hb dX1_leastKeyAbove_52 rfl ?_
        rw [← hc] at hl
        exact ih ((k + 1)) ls (by omega) ⟨by omega, lv_sub hl [3, 4, 5, 6, 7, 1, 0] rfl⟩
set_option maxHeartbeats 4000000 in
set_option maxRecDepth 100000 in
theorem mX1_idByDistance (l : Launch) (dC : Nat → ClassId) (dI : Nat → Nat → Nat) (cI cZ : ClassId) (q : Nat) (a : Nat → Nat) (n : Nat) (g : ps_G) (hn : n ≤ 48) (x y z : Int32) (k : Nat) (hk : k < 2 ^ 31) : Met l yX1_idByDistance (.code yX1_idByDistance cX1_idByDistance 8 (some .int) :: ps_T) ({ frames := 2, cells := 0, slots := 0, locals := 57 }) (ps_pc (dC, dI) (ps_ty cI cZ) (ps_trW cI cZ q a n g) [.ref q, .int x, .int y, .int z, .int (nI k)]) (vp_Si (fun r => r = (ps_ik (ps_dk g x y z) n k).toInt32)) 0 0 (fun _ => False) := by
  refine Met.ofW (cc := cX1_idByDistance) (maxL := 8) (ret := (some .int)) (by decide) rfl ?_
  intro p e s m args below meth c s₁ B hml hv
  obtain ⟨rfl, hN, hP, hK⟩ := hv
  have hx := B.exec
  have hb := B.bytes
  have hr := B.returns
  have hlocks := B.notSynchronized
  have hT : ∀ w ∈ ps_T, w.before ([.ref q, .int x, .int y, .int z, .int (nI k)] : List Value).toArray s = true := fun w h => atoms_spec (ws := (.code yX1_idByDistance cX1_idByDistance 8 (some .int) :: ps_T)) B.pre w (List.mem_cons_of_mem _ h)
  have hown : s.vm.findClass RX1 = some m.cls := findClass_of_methodNamed B.named
  have hl := lv_entry ([.ref q, .int x, .int y, .int z, .int (nI k)]) (n := 8) (Nat.le_of_ble_eq_true rfl)
  rw [lg_entry_eq]
  generalize (lg_sl ([.ref q, .int x, .int y, .int z, .int (nI k)]) ++ List.replicate (8 - (lg_sl ([.ref q, .int x, .int y, .int z, .int (nI k)])).length) Slot.unset).toArray = ls at hl ⊢
  have hl : lv_has ls 8 [(0, .ref q), (1, .int x), (2, .int y), (3, .int z), (4, .int (nI k))] := hl
  refine lv_ldc2 (v := (-9223372036854775808)) hx hb hown (hT _ tw_kl_X1_69) dX1_idByDistance_0 ?_
  refine lv_lstore (lv' := [(5, .long ((-9223372036854775808))), (0, .ref q), (1, .int x), (2, .int y), (3, .int z), (4, .int (nI k))]) hx hb dX1_idByDistance_3 hl (by decide) rfl (fun ls hl => ?_)
  refine lv_iconst (v := 0) hx hb dX1_idByDistance_5 (by decide) ?_
  refine lv_istore (lv' := [(7, .int 0), (5, .long ((-9223372036854775808))), (0, .ref q), (1, .int x), (2, .int y), (3, .int z), (4, .int (nI k))]) hx hb dX1_idByDistance_6 hl (by decide) rfl (fun ls hl => ?_)
  have hl : lv_has ls 8 [(7, .int (nI 0)), (5, .long (ps_ik (ps_dk g x y z) n 0)), (0, .ref q), (1, .int x), (2, .int y), (3, .int z), (4, .int (nI k))] := hl
  refine ps_loopS (α := Nat) (fun j => k - j) (fun j ls => (j ≤ k) ∧ lv_has ls 8 [(0, .ref q), (1, .int x), (2, .int y), (3, .int z), (4, .int (nI k)), (5, .long (ps_ik (ps_dk g x y z) n j)), (7, .int (nI j))]) ?_ 0 ls ⟨by omega, lv_sub hl [2, 3, 4, 5, 6, 1, 0] rfl⟩
  intro j ls ih hI
  obtain ⟨hj, hl⟩ := hI
  refine lv_iload hx hb dX1_idByDistance_8 (lv_at hl 6 rfl) ?_
  refine lv_iload hx hb dX1_idByDistance_10 (lv_at hl 4 rfl) ?_
  refine ps_icmp_ge (tgt := 32) (a := j) (b := k) hx hb dX1_idByDistance_12 rfl (by omega) (by omega) (fun h12 => ?_) (fun h12 => ?_)
  · skip
    refine lv_lload hx hb dX1_idByDistance_32 (lv_at hl 5 rfl) ?_
    refine lv_l2i (v := (ps_ik (ps_dk g x y z) n j).toInt32) hx hb dX1_idByDistance_34 rfl ?_
    exact W.iret (v := (ps_ik (ps_dk g x y z) n j).toInt32) hx hb hr (fun t ht hW => ⟨(ps_ik (ps_dk g x y z) n j).toInt32, rfl, by rw [show j = k by omega], ht⟩) (fun q h => by cases h) dX1_idByDistance_35
  · skip
    refine lv_aload_n hx hb dX1_idByDistance_15 rfl (lv_at hl 0 rfl) ?_
    refine lv_lload hx hb dX1_idByDistance_16 (lv_at hl 5 rfl) ?_
    refine lv_iload_n hx hb dX1_idByDistance_18 rfl (lv_at hl 1 rfl) ?_
    refine lv_iload_n hx hb dX1_idByDistance_19 rfl (lv_at hl 2 rfl) ?_
    refine lv_iload_n hx hb dX1_idByDistance_20 rfl (lv_at hl 3 rfl) ?_
    refine vp_callSl (va_Run.run (va_runV (C := RX1) (As := [.long (ps_ik (ps_dk g x y z) n j), .int x, .int y, .int z]) (rest := []) ⟨hx, hb, hml, hown, hT⟩ (mX1_leastKeyAbove l dC dI cI cZ q a n g (hn) (ps_ik (ps_dk g x y z) n j) x y z) (cwV 4 hT (ps_gV tw_ml_X1_71 tw_im_X1_leastKeyAbove tw_se_X1_leastKeyAbove tw_in_X1 tw_co_X1_leastKeyAbove) rfl rfl rfl ⟨rfl, by decide, by decide, by decide +kernel⟩ ⟨Nat.le_of_ble_eq_true rfl, Nat.le_of_ble_eq_true rfl⟩) (ps_preV (ci := 1) (q0 := 0) hN hP hK rfl rfl) rfl rfl hl.1 rfl (lv_room (Nat.le_of_ble_eq_true rfl)) dX1_idByDistance_21 ⟨Nat.le_of_ble_eq_true rfl, Nat.le_of_ble_eq_true rfl⟩)) (fun r hr => ?_)
    obtain rfl : r = ps_lk (ps_dk g x y z) (ps_ik (ps_dk g x y z) n j) n := hr
    refine lv_lstore (lv' := [(5, .long (ps_lk (ps_dk g x y z) (ps_ik (ps_dk g x y z) n j) n)), (0, .ref q), (1, .int x), (2, .int y), (3, .int z), (4, .int (nI k)), (7, .int (nI j))]) hx hb dX1_idByDistance_24 hl (by decide) rfl (fun ls hl => ?_)
    refine lv_iinc (k := 6) (v := nI (j + 1)) (lv' := [(7, .int (nI (j + 1))), (5, .long (ps_lk (ps_dk g x y z) (ps_ik (ps_dk g x y z) n j) n)), (0, .ref q), (1, .int x), (2, .int y), (3, .int z), (4, .int (nI k))]) hx hb dX1_idByDistance_26 hl rfl (ps_inc _) (by decide) rfl (fun ls hl => ?_)
    refine lv_goto (tgt := 8) hx hb dX1_idByDistance_29 rfl ?_
    exact ih ((j + 1)) ls (by omega) ⟨by omega, lv_sub hl [2, 3, 4, 5, 6, 1, 0] rfl⟩
set_option maxHeartbeats 4000000 in
set_option maxRecDepth 100000 in
theorem mX1_keepsAlike (l : Launch) (dC : Nat → ClassId) (dI : Nat → Nat → Nat) (cI cZ : ClassId) (q : Nat) (a : Nat → Nat) (n : Nat) (g : ps_G) (q' : Nat) (a' : Nat → Nat) (n' : Nat) (g' : ps_G) (hn : n ≤ 48) (k : Nat) (hk : k < 48) : Met l yX1_keepsAlike (.code yX1_keepsAlike cX1_keepsAlike 4 (some .boolean) :: ps_T) ({ frames := 1, cells := 0, slots := 0, locals := 22 }) (ps_pc (dC, dI) (ps_ty cI cZ) (ps_trW cI cZ q a n g ++ ps_trW cI cZ q' a' n' g') [.ref q, .ref q', .int (nI k)]) (vp_Si (fun r => r = ps_bi (ps_al g n g' k))) 0 0 (fun _ => False) := by
  refine Met.ofW (cc := cX1_keepsAlike) (maxL := 4) (ret := (some .boolean)) (by decide) rfl ?_
  intro p e s m args below meth c s₁ B hml hv
  obtain ⟨rfl, hN, hP, hK⟩ := hv
  have hx := B.exec
  have hb := B.bytes
  have hr := B.returns
  have hlocks := B.notSynchronized
  have hT : ∀ w ∈ ps_T, w.before ([.ref q, .ref q', .int (nI k)] : List Value).toArray s = true := fun w h => atoms_spec (ws := (.code yX1_keepsAlike cX1_keepsAlike 4 (some .boolean) :: ps_T)) B.pre w (List.mem_cons_of_mem _ h)
  have hown : s.vm.findClass RX1 = some m.cls := findClass_of_methodNamed B.named
  have hl := lv_entry ([.ref q, .ref q', .int (nI k)]) (n := 4) (Nat.le_of_ble_eq_true rfl)
  rw [lg_entry_eq]
  generalize (lg_sl ([.ref q, .ref q', .int (nI k)]) ++ List.replicate (4 - (lg_sl ([.ref q, .ref q', .int (nI k)])).length) Slot.unset).toArray = ls at hl ⊢
  have hl : lv_has ls 4 [(0, .ref q), (1, .ref q'), (2, .int (nI k))] := hl
  refine lv_aload_n hx hb dX1_keepsAlike_0 rfl (lv_at hl 0 rfl) ?_
  refine lv_aload_n hx hb dX1_keepsAlike_1 rfl (lv_at hl 1 rfl) ?_
  refine va_get (D := (dC, dI)) (ci := 1) (v := .ref (a' 0)) (C := RX1) (T := TX1) (N := 9) hx hb hT inX1 hown hK hP 9 rfl rfl 0 (by decide) (hT _ tw_fl_X1_9) (fun _ h9 => h9) rfl dX1_keepsAlike_2 ?_
  refine lv_iload_n hx hb dX1_keepsAlike_5 rfl (lv_at hl 2 rfl) ?_
  refine ps_iald (k := k) (f := g' 0) hx hb hK hP 10 0 rfl rfl (by omega) (by decide) dX1_keepsAlike_6 ?_
  refine vp_callSi (va_Run.run (va_runV (C := RX1) (As := [.int (g' 0 k)]) (rest := []) ⟨hx, hb, hml, hown, hT⟩ (mX1_find l dC dI cI cZ q a n g (hn) (g' 0 k)) (cwV 1 hT (ps_gV tw_ml_X1_97 tw_im_X1_find tw_se_X1_find tw_in_X1 tw_co_X1_find) rfl rfl rfl ⟨rfl, by decide, by decide, by decide +kernel⟩ ⟨Nat.le_of_ble_eq_true rfl, Nat.le_of_ble_eq_true rfl⟩) (ps_preV (ci := 1) (q0 := 0) hN (hP.sub (ws' := ps_trW cI cZ q a n g) [0, 1, 2, 3, 4, 5, 6, 7, 8] rfl) hK rfl rfl) rfl rfl hl.1 rfl (lv_room (Nat.le_of_ble_eq_true rfl)) dX1_keepsAlike_7 ⟨Nat.le_of_ble_eq_true rfl, Nat.le_of_ble_eq_true rfl⟩)) (fun r hr => ?_)
  obtain rfl : r = ps_fr (ps_fi (g 0) (g' 0 k) n) := hr
  rcases hf : ps_fi (g 0) (g' 0 k) n with _ | w
  · skip
    show W _ _ _ _ _ _ _ _ _ _ _ _ _ _ _ (F0 _ _ _ (.int (-1) :: []))
    have hc := ps_al_0 (g := g) (g' := g') hf
    refine lv_istore_n (lv' := [(3, .int ((-1))), (0, .ref q), (1, .ref q'), (2, .int (nI k))]) hx hb dX1_keepsAlike_10 rfl hl (by decide) rfl (fun ls hl => ?_)
    refine lv_iload_n hx hb dX1_keepsAlike_11 rfl (lv_at hl 0 rfl) ?_
    refine lv_iconst (v := (-1)) hx hb dX1_keepsAlike_12 (by decide) ?_
    refine lv_icmp_eq (tgt := 95) hx hb dX1_keepsAlike_13 rfl (fun h13 => ?_) (fun h13 => ?_)
    · skip
      refine lv_iconst (v := 0) hx hb dX1_keepsAlike_95 (by decide) ?_
      exact W.zret (v := 0) hx hb hr rfl (fun t ht hW => ⟨0, rfl, by first | exact ps_bi_f hc | (rw [ps_al_S hf]; simp_all [ps_bi]), ht⟩) (fun q h => by cases h) dX1_keepsAlike_96
    · skip
      exact absurd rfl h13
  · skip
    show W _ _ _ _ _ _ _ _ _ _ _ _ _ _ _ (F0 _ _ _ (.int (nI w) :: []))
    have hw : w < 48 := Nat.lt_of_lt_of_le (ps_fi_spec hf).1 hn
    refine lv_istore_n (lv' := [(3, .int (nI w)), (0, .ref q), (1, .ref q'), (2, .int (nI k))]) hx hb dX1_keepsAlike_10 rfl hl (by decide) rfl (fun ls hl => ?_)
    refine lv_iload_n hx hb dX1_keepsAlike_11 rfl (lv_at hl 0 rfl) ?_
    refine lv_iconst (v := (-1)) hx hb dX1_keepsAlike_12 (by decide) ?_
    refine lv_icmp_eq (tgt := 95) hx hb dX1_keepsAlike_13 rfl (fun h13 => ?_) (fun h13 => ?_)
    · skip
      exact absurd h13 (ps_nI_m1 (by omega))
    · skip
      refine lv_aload_n hx hb dX1_keepsAlike_16 rfl (lv_at hl 1 rfl) ?_
      refine va_get (D := (dC, dI)) (ci := 1) (v := .ref (a 1)) (C := RX1) (T := TX1) (N := 9) hx hb hT inX1 hown hK hP 0 rfl rfl 1 (by decide) (hT _ tw_fl_X1_15) (fun _ h9 => h9) rfl dX1_keepsAlike_17 ?_
      refine lv_iload_n hx hb dX1_keepsAlike_20 rfl (lv_at hl 0 rfl) ?_
      refine ps_iald (k := w) (f := g 1) hx hb hK hP 2 0 rfl rfl (by omega) (by decide) dX1_keepsAlike_21 ?_
      refine lv_aload_n hx hb dX1_keepsAlike_22 rfl (lv_at hl 2 rfl) ?_
      refine va_get (D := (dC, dI)) (ci := 1) (v := .ref (a' 1)) (C := RX1) (T := TX1) (N := 9) hx hb hT inX1 hown hK hP 9 rfl rfl 1 (by decide) (hT _ tw_fl_X1_15) (fun _ h9 => h9) rfl dX1_keepsAlike_23 ?_
      refine lv_iload_n hx hb dX1_keepsAlike_26 rfl (lv_at hl 3 rfl) ?_
      refine ps_iald (k := k) (f := g' 1) hx hb hK hP 11 0 rfl rfl (by omega) (by decide) dX1_keepsAlike_27 ?_
      refine lv_icmp_ne (tgt := 95) hx hb dX1_keepsAlike_28 rfl (fun h28 => ?_) (fun h28 => ?_)
      · skip
        refine lv_iconst (v := 0) hx hb dX1_keepsAlike_95 (by decide) ?_
        exact W.zret (v := 0) hx hb hr rfl (fun t ht hW => ⟨0, rfl, by first | exact ps_bi_f hc | (rw [ps_al_S hf]; simp_all [ps_bi]), ht⟩) (fun q h => by cases h) dX1_keepsAlike_96
      · skip
        refine lv_aload_n hx hb dX1_keepsAlike_31 rfl (lv_at hl 1 rfl) ?_
        refine va_get (D := (dC, dI)) (ci := 1) (v := .ref (a 2)) (C := RX1) (T := TX1) (N := 9) hx hb hT inX1 hown hK hP 0 rfl rfl 2 (by decide) (hT _ tw_fl_X1_18) (fun _ h9 => h9) rfl dX1_keepsAlike_32 ?_
        refine lv_iload_n hx hb dX1_keepsAlike_35 rfl (lv_at hl 0 rfl) ?_
        refine ps_iald (k := w) (f := g 2) hx hb hK hP 3 0 rfl rfl (by omega) (by decide) dX1_keepsAlike_36 ?_
        refine lv_aload_n hx hb dX1_keepsAlike_37 rfl (lv_at hl 2 rfl) ?_
        refine va_get (D := (dC, dI)) (ci := 1) (v := .ref (a' 2)) (C := RX1) (T := TX1) (N := 9) hx hb hT inX1 hown hK hP 9 rfl rfl 2 (by decide) (hT _ tw_fl_X1_18) (fun _ h9 => h9) rfl dX1_keepsAlike_38 ?_
        refine lv_iload_n hx hb dX1_keepsAlike_41 rfl (lv_at hl 3 rfl) ?_
        refine ps_iald (k := k) (f := g' 2) hx hb hK hP 12 0 rfl rfl (by omega) (by decide) dX1_keepsAlike_42 ?_
        refine lv_icmp_ne (tgt := 95) hx hb dX1_keepsAlike_43 rfl (fun h43 => ?_) (fun h43 => ?_)
        · skip
          refine lv_iconst (v := 0) hx hb dX1_keepsAlike_95 (by decide) ?_
          exact W.zret (v := 0) hx hb hr rfl (fun t ht hW => ⟨0, rfl, by first | exact ps_bi_f hc | (rw [ps_al_S hf]; simp_all [ps_bi]), ht⟩) (fun q h => by cases h) dX1_keepsAlike_96
        · skip
          refine lv_aload_n hx hb dX1_keepsAlike_46 rfl (lv_at hl 1 rfl) ?_
          refine va_get (D := (dC, dI)) (ci := 1) (v := .ref (a 3)) (C := RX1) (T := TX1) (N := 9) hx hb hT inX1 hown hK hP 0 rfl rfl 3 (by decide) (hT _ tw_fl_X1_21) (fun _ h9 => h9) rfl dX1_keepsAlike_47 ?_
          refine lv_iload_n hx hb dX1_keepsAlike_50 rfl (lv_at hl 0 rfl) ?_
          refine ps_iald (k := w) (f := g 3) hx hb hK hP 4 0 rfl rfl (by omega) (by decide) dX1_keepsAlike_51 ?_
          refine lv_aload_n hx hb dX1_keepsAlike_52 rfl (lv_at hl 2 rfl) ?_
          refine va_get (D := (dC, dI)) (ci := 1) (v := .ref (a' 3)) (C := RX1) (T := TX1) (N := 9) hx hb hT inX1 hown hK hP 9 rfl rfl 3 (by decide) (hT _ tw_fl_X1_21) (fun _ h9 => h9) rfl dX1_keepsAlike_53 ?_
          refine lv_iload_n hx hb dX1_keepsAlike_56 rfl (lv_at hl 3 rfl) ?_
          refine ps_iald (k := k) (f := g' 3) hx hb hK hP 13 0 rfl rfl (by omega) (by decide) dX1_keepsAlike_57 ?_
          refine lv_icmp_ne (tgt := 95) hx hb dX1_keepsAlike_58 rfl (fun h58 => ?_) (fun h58 => ?_)
          · skip
            refine lv_iconst (v := 0) hx hb dX1_keepsAlike_95 (by decide) ?_
            exact W.zret (v := 0) hx hb hr rfl (fun t ht hW => ⟨0, rfl, by first | exact ps_bi_f hc | (rw [ps_al_S hf]; simp_all [ps_bi]), ht⟩) (fun q h => by cases h) dX1_keepsAlike_96
          · skip
            refine lv_aload_n hx hb dX1_keepsAlike_61 rfl (lv_at hl 1 rfl) ?_
            refine va_get (D := (dC, dI)) (ci := 1) (v := .ref (a 4)) (C := RX1) (T := TX1) (N := 9) hx hb hT inX1 hown hK hP 0 rfl rfl 4 (by decide) (hT _ tw_fl_X1_24) (fun _ h9 => h9) rfl dX1_keepsAlike_62 ?_
            refine lv_iload_n hx hb dX1_keepsAlike_65 rfl (lv_at hl 0 rfl) ?_
            refine ps_iald (k := w) (f := g 4) hx hb hK hP 5 0 rfl rfl (by omega) (by decide) dX1_keepsAlike_66 ?_
            refine lv_aload_n hx hb dX1_keepsAlike_67 rfl (lv_at hl 2 rfl) ?_
            refine va_get (D := (dC, dI)) (ci := 1) (v := .ref (a' 4)) (C := RX1) (T := TX1) (N := 9) hx hb hT inX1 hown hK hP 9 rfl rfl 4 (by decide) (hT _ tw_fl_X1_24) (fun _ h9 => h9) rfl dX1_keepsAlike_68 ?_
            refine lv_iload_n hx hb dX1_keepsAlike_71 rfl (lv_at hl 3 rfl) ?_
            refine ps_iald (k := k) (f := g' 4) hx hb hK hP 14 0 rfl rfl (by omega) (by decide) dX1_keepsAlike_72 ?_
            refine lv_icmp_ne (tgt := 95) hx hb dX1_keepsAlike_73 rfl (fun h73 => ?_) (fun h73 => ?_)
            · skip
              refine lv_iconst (v := 0) hx hb dX1_keepsAlike_95 (by decide) ?_
              exact W.zret (v := 0) hx hb hr rfl (fun t ht hW => ⟨0, rfl, by first | exact ps_bi_f hc | (rw [ps_al_S hf]; simp_all [ps_bi]), ht⟩) (fun q h => by cases h) dX1_keepsAlike_96
            · skip
              refine lv_aload_n hx hb dX1_keepsAlike_76 rfl (lv_at hl 1 rfl) ?_
              refine va_get (D := (dC, dI)) (ci := 1) (v := .ref (a 5)) (C := RX1) (T := TX1) (N := 9) hx hb hT inX1 hown hK hP 0 rfl rfl 5 (by decide) (hT _ tw_fl_X1_27) (fun _ h9 => h9) rfl dX1_keepsAlike_77 ?_
              refine lv_iload_n hx hb dX1_keepsAlike_80 rfl (lv_at hl 0 rfl) ?_
              refine ps_iald (k := w) (f := g 5) hx hb hK hP 6 0 rfl rfl (by omega) (by decide) dX1_keepsAlike_81 ?_
              refine lv_aload_n hx hb dX1_keepsAlike_82 rfl (lv_at hl 2 rfl) ?_
              refine va_get (D := (dC, dI)) (ci := 1) (v := .ref (a' 5)) (C := RX1) (T := TX1) (N := 9) hx hb hT inX1 hown hK hP 9 rfl rfl 5 (by decide) (hT _ tw_fl_X1_27) (fun _ h9 => h9) rfl dX1_keepsAlike_83 ?_
              refine lv_iload_n hx hb dX1_keepsAlike_86 rfl (lv_at hl 3 rfl) ?_
              refine ps_iald (k := k) (f := g' 5) hx hb hK hP 15 0 rfl rfl (by omega) (by decide) dX1_keepsAlike_87 ?_
              refine lv_icmp_ne (tgt := 95) hx hb dX1_keepsAlike_88 rfl (fun h88 => ?_) (fun h88 => ?_)
              · skip
                refine lv_iconst (v := 0) hx hb dX1_keepsAlike_95 (by decide) ?_
                exact W.zret (v := 0) hx hb hr rfl (fun t ht hW => ⟨0, rfl, by first | exact ps_bi_f hc | (rw [ps_al_S hf]; simp_all [ps_bi]), ht⟩) (fun q h => by cases h) dX1_keepsAlike_96
              · skip
                refine lv_iconst (v := 1) hx hb dX1_keepsAlike_91 (by decide) ?_
                refine lv_goto (tgt := 96) hx hb dX1_keepsAlike_92 rfl ?_
                exact W.zret (v := 1) hx hb hr rfl (fun t ht hW => ⟨1, rfl, by first | exact ps_bi_f hc | (rw [ps_al_S hf]; simp_all [ps_bi]), ht⟩) (fun q h => by cases h) dX1_keepsAlike_96
set_option maxHeartbeats 4000000 in
set_option maxRecDepth 100000 in
theorem mX1_isNodeClean (l : Launch) (dC : Nat → ClassId) (dI : Nat → Nat → Nat) (cI cZ : ClassId) (q : Nat) (a : Nat → Nat) (n : Nat) (g : ps_G) (q' : Nat) (a' : Nat → Nat) (n' : Nat) (g' : ps_G) (hn : n ≤ 48) (hn' : n' ≤ 48) (k : Nat) (hk : k < 48) : Met l yX1_isNodeClean (.code yX1_isNodeClean cX1_isNodeClean 7 (some .boolean) :: ps_T) ({ frames := 3, cells := 0, slots := 0, locals := 71 }) (ps_pc (dC, dI) (ps_ty cI cZ) (ps_trW cI cZ q a n g ++ ps_trW cI cZ q' a' n' g') [.ref q, .int (nI k), .ref q']) (vp_Si (fun r => r = ps_bi (ps_nc g n g' n' k))) 0 0 (fun _ => False) := by
  refine Met.ofW (cc := cX1_isNodeClean) (maxL := 7) (ret := (some .boolean)) (by decide) rfl ?_
  intro p e s m args below meth c s₁ B hml hv
  obtain ⟨rfl, hN, hP, hK⟩ := hv
  have hx := B.exec
  have hb := B.bytes
  have hr := B.returns
  have hlocks := B.notSynchronized
  have hT : ∀ w ∈ ps_T, w.before ([.ref q, .int (nI k), .ref q'] : List Value).toArray s = true := fun w h => atoms_spec (ws := (.code yX1_isNodeClean cX1_isNodeClean 7 (some .boolean) :: ps_T)) B.pre w (List.mem_cons_of_mem _ h)
  have hown : s.vm.findClass RX1 = some m.cls := findClass_of_methodNamed B.named
  have hl := lv_entry ([.ref q, .int (nI k), .ref q']) (n := 7) (Nat.le_of_ble_eq_true rfl)
  rw [lg_entry_eq]
  generalize (lg_sl ([.ref q, .int (nI k), .ref q']) ++ List.replicate (7 - (lg_sl ([.ref q, .int (nI k), .ref q'])).length) Slot.unset).toArray = ls at hl ⊢
  have hl : lv_has ls 7 [(0, .ref q), (1, .int (nI k)), (2, .ref q')] := hl
  refine lv_aload_n hx hb dX1_isNodeClean_0 rfl (lv_at hl 0 rfl) ?_
  refine va_get (D := (dC, dI)) (ci := 1) (v := .ref (a 5)) (C := RX1) (T := TX1) (N := 9) hx hb hT inX1 hown hK hP 0 rfl rfl 5 (by decide) (hT _ tw_fl_X1_27) (fun _ h9 => h9) rfl dX1_isNodeClean_1 ?_
  refine lv_iload_n hx hb dX1_isNodeClean_4 rfl (lv_at hl 1 rfl) ?_
  refine ps_iald (k := k) (f := g 5) hx hb hK hP 6 0 rfl rfl (by omega) (by decide) dX1_isNodeClean_5 ?_
  refine lv_istore_n (lv' := [(3, .int (g 5 k)), (0, .ref q), (1, .int (nI k)), (2, .ref q')]) hx hb dX1_isNodeClean_6 rfl hl (by decide) rfl (fun ls hl => ?_)
  refine lv_iload_n hx hb dX1_isNodeClean_7 rfl (lv_at hl 0 rfl) ?_
  refine lv_aload_n hx hb dX1_isNodeClean_8 rfl (lv_at hl 1 rfl) ?_
  refine va_get (D := (dC, dI)) (ci := 1) (v := .ref (a 1)) (C := RX1) (T := TX1) (N := 9) hx hb hT inX1 hown hK hP 0 rfl rfl 1 (by decide) (hT _ tw_fl_X1_15) (fun _ h9 => h9) rfl dX1_isNodeClean_9 ?_
  refine lv_iload_n hx hb dX1_isNodeClean_12 rfl (lv_at hl 2 rfl) ?_
  refine ps_iald (k := k) (f := g 1) hx hb hK hP 2 0 rfl rfl (by omega) (by decide) dX1_isNodeClean_13 ?_
  refine vp_callSi (va_Run.run (va_runSN (As := [.int (g 5 k), .int (g 1 k)]) (rest := []) ⟨hx, hb, hml, hown, hT⟩ (mX2_cubeIndex l (g 5 k) (g 1 k)) ⟨va_cnB 2 hT (ps_gC tw_co_X2_cubeIndex) rfl rfl rfl hN.2 (hT _ tw_in_X2) ⟨by decide, by decide, by decide +kernel⟩ ⟨Nat.le_of_ble_eq_true rfl, Nat.le_of_ble_eq_true rfl⟩, hT _ tw_st_X2_cubeIndex, trivial⟩ preEq rfl rfl hl.1 rfl (lv_room (Nat.le_of_ble_eq_true rfl)) dX1_isNodeClean_14 ⟨Nat.le_of_ble_eq_true rfl, Nat.le_of_ble_eq_true rfl⟩)) (fun r hr => ?_)
  obtain rfl : r = ps_cb (g 5 k) (g 1 k) := hr
  refine lv_istore (lv' := [(4, .int (ps_cb (g 5 k) (g 1 k))), (3, .int (g 5 k)), (0, .ref q), (1, .int (nI k)), (2, .ref q')]) hx hb dX1_isNodeClean_17 hl (by decide) rfl (fun ls hl => ?_)
  refine lv_iload_n hx hb dX1_isNodeClean_19 rfl (lv_at hl 1 rfl) ?_
  refine lv_aload_n hx hb dX1_isNodeClean_20 rfl (lv_at hl 2 rfl) ?_
  refine va_get (D := (dC, dI)) (ci := 1) (v := .ref (a 2)) (C := RX1) (T := TX1) (N := 9) hx hb hT inX1 hown hK hP 0 rfl rfl 2 (by decide) (hT _ tw_fl_X1_18) (fun _ h9 => h9) rfl dX1_isNodeClean_21 ?_
  refine lv_iload_n hx hb dX1_isNodeClean_24 rfl (lv_at hl 3 rfl) ?_
  refine ps_iald (k := k) (f := g 2) hx hb hK hP 3 0 rfl rfl (by omega) (by decide) dX1_isNodeClean_25 ?_
  refine vp_callSi (va_Run.run (va_runSN (As := [.int (g 5 k), .int (g 2 k)]) (rest := []) ⟨hx, hb, hml, hown, hT⟩ (mX2_cubeIndex l (g 5 k) (g 2 k)) ⟨va_cnB 2 hT (ps_gC tw_co_X2_cubeIndex) rfl rfl rfl hN.2 (hT _ tw_in_X2) ⟨by decide, by decide, by decide +kernel⟩ ⟨Nat.le_of_ble_eq_true rfl, Nat.le_of_ble_eq_true rfl⟩, hT _ tw_st_X2_cubeIndex, trivial⟩ preEq rfl rfl hl.1 rfl (lv_room (Nat.le_of_ble_eq_true rfl)) dX1_isNodeClean_26 ⟨Nat.le_of_ble_eq_true rfl, Nat.le_of_ble_eq_true rfl⟩)) (fun r hr => ?_)
  obtain rfl : r = ps_cb (g 5 k) (g 2 k) := hr
  refine lv_istore (lv' := [(5, .int (ps_cb (g 5 k) (g 2 k))), (4, .int (ps_cb (g 5 k) (g 1 k))), (3, .int (g 5 k)), (0, .ref q), (1, .int (nI k)), (2, .ref q')]) hx hb dX1_isNodeClean_29 hl (by decide) rfl (fun ls hl => ?_)
  refine lv_iload_n hx hb dX1_isNodeClean_31 rfl (lv_at hl 2 rfl) ?_
  refine lv_aload_n hx hb dX1_isNodeClean_32 rfl (lv_at hl 3 rfl) ?_
  refine va_get (D := (dC, dI)) (ci := 1) (v := .ref (a 3)) (C := RX1) (T := TX1) (N := 9) hx hb hT inX1 hown hK hP 0 rfl rfl 3 (by decide) (hT _ tw_fl_X1_21) (fun _ h9 => h9) rfl dX1_isNodeClean_33 ?_
  refine lv_iload_n hx hb dX1_isNodeClean_36 rfl (lv_at hl 4 rfl) ?_
  refine ps_iald (k := k) (f := g 3) hx hb hK hP 4 0 rfl rfl (by omega) (by decide) dX1_isNodeClean_37 ?_
  refine vp_callSi (va_Run.run (va_runSN (As := [.int (g 5 k), .int (g 3 k)]) (rest := []) ⟨hx, hb, hml, hown, hT⟩ (mX2_cubeIndex l (g 5 k) (g 3 k)) ⟨va_cnB 2 hT (ps_gC tw_co_X2_cubeIndex) rfl rfl rfl hN.2 (hT _ tw_in_X2) ⟨by decide, by decide, by decide +kernel⟩ ⟨Nat.le_of_ble_eq_true rfl, Nat.le_of_ble_eq_true rfl⟩, hT _ tw_st_X2_cubeIndex, trivial⟩ preEq rfl rfl hl.1 rfl (lv_room (Nat.le_of_ble_eq_true rfl)) dX1_isNodeClean_38 ⟨Nat.le_of_ble_eq_true rfl, Nat.le_of_ble_eq_true rfl⟩)) (fun r hr => ?_)
  obtain rfl : r = ps_cb (g 5 k) (g 3 k) := hr
  refine lv_istore (lv' := [(6, .int (ps_cb (g 5 k) (g 3 k))), (5, .int (ps_cb (g 5 k) (g 2 k))), (4, .int (ps_cb (g 5 k) (g 1 k))), (3, .int (g 5 k)), (0, .ref q), (1, .int (nI k)), (2, .ref q')]) hx hb dX1_isNodeClean_41 hl (by decide) rfl (fun ls hl => ?_)
  refine lv_aload_n hx hb dX1_isNodeClean_43 rfl (lv_at hl 4 rfl) ?_
  refine lv_iload_n hx hb dX1_isNodeClean_44 rfl (lv_at hl 3 rfl) ?_
  refine lv_iload hx hb dX1_isNodeClean_45 (lv_at hl 2 rfl) ?_
  refine lv_iload hx hb dX1_isNodeClean_47 (lv_at hl 1 rfl) ?_
  refine lv_iload hx hb dX1_isNodeClean_49 (lv_at hl 0 rfl) ?_
  refine vp_callSi (va_Run.run (va_runV (C := RX1) (As := [.int (g 5 k), .int (ps_cb (g 5 k) (g 1 k)), .int (ps_cb (g 5 k) (g 2 k)), .int (ps_cb (g 5 k) (g 3 k))]) (rest := []) ⟨hx, hb, hml, hown, hT⟩ (mX1_hasChange l dC dI cI cZ q a n g (hn) (g 5 k) (ps_cb (g 5 k) (g 1 k)) (ps_cb (g 5 k) (g 2 k)) (ps_cb (g 5 k) (g 3 k))) (cwV 4 hT (ps_gV tw_ml_X1_101 tw_im_X1_hasChange tw_se_X1_hasChange tw_in_X1 tw_co_X1_hasChange) rfl rfl rfl ⟨rfl, by decide, by decide, by decide +kernel⟩ ⟨Nat.le_of_ble_eq_true rfl, Nat.le_of_ble_eq_true rfl⟩) (ps_preV (ci := 1) (q0 := 0) hN (hP.sub (ws' := ps_trW cI cZ q a n g) [0, 1, 2, 3, 4, 5, 6, 7, 8] rfl) hK rfl rfl) rfl rfl hl.1 rfl (lv_room (Nat.le_of_ble_eq_true rfl)) dX1_isNodeClean_51 ⟨Nat.le_of_ble_eq_true rfl, Nat.le_of_ble_eq_true rfl⟩)) (fun r hr => ?_)
  obtain rfl : r = ps_bi (ps_hc g n (g 5 k) (ps_cb (g 5 k) (g 1 k)) (ps_cb (g 5 k) (g 2 k)) (ps_cb (g 5 k) (g 3 k))) := hr
  refine ps_ifb_ne (tgt := 75) hx hb dX1_isNodeClean_54 rfl (fun h54 => ?_) (fun h54 => ?_)
  · skip
    refine lv_iconst (v := 0) hx hb dX1_isNodeClean_75 (by decide) ?_
    exact W.zret (v := 0) hx hb hr rfl (fun t ht hW => ⟨0, rfl, by simp_all [ps_nc, ps_bi], ht⟩) (fun q h => by cases h) dX1_isNodeClean_76
  · skip
    refine lv_aload_n hx hb dX1_isNodeClean_57 rfl (lv_at hl 6 rfl) ?_
    refine lv_iload_n hx hb dX1_isNodeClean_58 rfl (lv_at hl 3 rfl) ?_
    refine lv_iload hx hb dX1_isNodeClean_59 (lv_at hl 2 rfl) ?_
    refine lv_iload hx hb dX1_isNodeClean_61 (lv_at hl 1 rfl) ?_
    refine lv_iload hx hb dX1_isNodeClean_63 (lv_at hl 0 rfl) ?_
    refine vp_callSi (va_Run.run (va_runV (C := RX1) (As := [.int (g 5 k), .int (ps_cb (g 5 k) (g 1 k)), .int (ps_cb (g 5 k) (g 2 k)), .int (ps_cb (g 5 k) (g 3 k))]) (rest := []) ⟨hx, hb, hml, hown, hT⟩ (mX1_hasChange l dC dI cI cZ q' a' n' g' (hn') (g 5 k) (ps_cb (g 5 k) (g 1 k)) (ps_cb (g 5 k) (g 2 k)) (ps_cb (g 5 k) (g 3 k))) (cwV 4 hT (ps_gV tw_ml_X1_101 tw_im_X1_hasChange tw_se_X1_hasChange tw_in_X1 tw_co_X1_hasChange) rfl rfl rfl ⟨rfl, by decide, by decide, by decide +kernel⟩ ⟨Nat.le_of_ble_eq_true rfl, Nat.le_of_ble_eq_true rfl⟩) (ps_preV (ci := 1) (q0 := 0) hN (hP.sub (ws' := ps_trW cI cZ q' a' n' g') [9, 10, 11, 12, 13, 14, 15, 16, 17] rfl) hK rfl rfl) rfl rfl hl.1 rfl (lv_room (Nat.le_of_ble_eq_true rfl)) dX1_isNodeClean_65 ⟨Nat.le_of_ble_eq_true rfl, Nat.le_of_ble_eq_true rfl⟩)) (fun r hr => ?_)
    obtain rfl : r = ps_bi (ps_hc g' n' (g 5 k) (ps_cb (g 5 k) (g 1 k)) (ps_cb (g 5 k) (g 2 k)) (ps_cb (g 5 k) (g 3 k))) := hr
    refine ps_ifb_ne (tgt := 75) hx hb dX1_isNodeClean_68 rfl (fun h68 => ?_) (fun h68 => ?_)
    · skip
      refine lv_iconst (v := 0) hx hb dX1_isNodeClean_75 (by decide) ?_
      exact W.zret (v := 0) hx hb hr rfl (fun t ht hW => ⟨0, rfl, by simp_all [ps_nc, ps_bi], ht⟩) (fun q h => by cases h) dX1_isNodeClean_76
    · skip
      refine lv_iconst (v := 1) hx hb dX1_isNodeClean_71 (by decide) ?_
      refine lv_goto (tgt := 76) hx hb dX1_isNodeClean_72 rfl ?_
      exact W.zret (v := 1) hx hb hr rfl (fun t ht hW => ⟨1, rfl, by simp_all [ps_nc, ps_bi], ht⟩) (fun q h => by cases h) dX1_isNodeClean_76
set_option maxHeartbeats 4000000 in
set_option maxRecDepth 100000 in
theorem mX1_pagesToWrite (l : Launch) (dC : Nat → ClassId) (dI : Nat → Nat → Nat) (cI cZ : ClassId) (q : Nat) (a : Nat → Nat) (n : Nat) (g : ps_G) (q' : Nat) (a' : Nat → Nat) (n' : Nat) (g' : ps_G) (hn : n ≤ 48) (hn' : n' ≤ 48) : Met l yX1_pagesToWrite (.code yX1_pagesToWrite cX1_pagesToWrite 4 (some .int) :: ps_T) ({ frames := 4, cells := 0, slots := 0, locals := 97 }) (ps_pc (dC, dI) (ps_ty cI cZ) (ps_trW cI cZ q a n g ++ ps_trW cI cZ q' a' n' g') [.ref q, .ref q']) (vp_Si (fun r => r = nI (ps_cn (ps_pw g n g' n') n))) 0 0 (fun _ => False) := by
  refine Met.ofW (cc := cX1_pagesToWrite) (maxL := 4) (ret := (some .int)) (by decide) rfl ?_
  intro p e s m args below meth c s₁ B hml hv
  obtain ⟨rfl, hN, hP, hK⟩ := hv
  have hx := B.exec
  have hb := B.bytes
  have hr := B.returns
  have hlocks := B.notSynchronized
  have hT : ∀ w ∈ ps_T, w.before ([.ref q, .ref q'] : List Value).toArray s = true := fun w h => atoms_spec (ws := (.code yX1_pagesToWrite cX1_pagesToWrite 4 (some .int) :: ps_T)) B.pre w (List.mem_cons_of_mem _ h)
  have hown : s.vm.findClass RX1 = some m.cls := findClass_of_methodNamed B.named
  have hl := lv_entry ([.ref q, .ref q']) (n := 4) (Nat.le_of_ble_eq_true rfl)
  rw [lg_entry_eq]
  generalize (lg_sl ([.ref q, .ref q']) ++ List.replicate (4 - (lg_sl ([.ref q, .ref q'])).length) Slot.unset).toArray = ls at hl ⊢
  have hl : lv_has ls 4 [(0, .ref q), (1, .ref q')] := hl
  refine lv_iconst (v := 0) hx hb dX1_pagesToWrite_0 (by decide) ?_
  refine lv_istore_n (lv' := [(2, .int 0), (0, .ref q), (1, .ref q')]) hx hb dX1_pagesToWrite_1 rfl hl (by decide) rfl (fun ls hl => ?_)
  refine lv_iconst (v := 0) hx hb dX1_pagesToWrite_2 (by decide) ?_
  refine lv_istore_n (lv' := [(3, .int 0), (2, .int 0), (0, .ref q), (1, .ref q')]) hx hb dX1_pagesToWrite_3 rfl hl (by decide) rfl (fun ls hl => ?_)
  have hl : lv_has ls 4 [(3, .int (nI 0)), (2, .int (nI (ps_cn (ps_pw g n g' n') 0))), (0, .ref q), (1, .ref q')] := hl
  refine ps_loopS (α := Nat) (fun k => n - k) (fun k ls => (k ≤ n) ∧ lv_has ls 4 [(0, .ref q), (1, .ref q'), (2, .int (nI (ps_cn (ps_pw g n g' n') k))), (3, .int (nI k))]) ?_ 0 ls ⟨by omega, lv_sub hl [2, 3, 1, 0] rfl⟩
  intro k ls ih hI
  obtain ⟨hk, hl⟩ := hI
  refine lv_iload_n hx hb dX1_pagesToWrite_4 rfl (lv_at hl 3 rfl) ?_
  refine lv_aload_n hx hb dX1_pagesToWrite_5 rfl (lv_at hl 0 rfl) ?_
  refine va_get (D := (dC, dI)) (ci := 1) (v := .int (nI n)) (C := RX1) (T := TX1) (N := 9) hx hb hT inX1 hown hK hP 0 rfl rfl 8 (by decide) (hT _ tw_fl_X1_37) (fun _ h9 => h9) rfl dX1_pagesToWrite_6 ?_
  refine ps_icmp_ge (tgt := 38) (a := k) (b := n) hx hb dX1_pagesToWrite_9 rfl (by omega) (by omega) (fun h9 => ?_) (fun h9 => ?_)
  · skip
    refine lv_iload_n hx hb dX1_pagesToWrite_38 rfl (lv_at hl 2 rfl) ?_
    exact W.iret (v := nI (ps_cn (ps_pw g n g' n') k)) hx hb hr (fun t ht hW => ⟨nI (ps_cn (ps_pw g n g' n') k), rfl, by rw [show k = n by omega], ht⟩) (fun q h => by cases h) dX1_pagesToWrite_39
  · skip
    refine lv_aload_n hx hb dX1_pagesToWrite_12 rfl (lv_at hl 0 rfl) ?_
    refine lv_iload_n hx hb dX1_pagesToWrite_13 rfl (lv_at hl 3 rfl) ?_
    refine vp_callSi (va_Run.run (va_runV (C := RX1) (As := [.int (nI k)]) (rest := []) ⟨hx, hb, hml, hown, hT⟩ (mX1_beginsPage l dC dI cI cZ q a n g k (by omega)) (cwV 1 hT (ps_gV tw_ml_X1_75 tw_im_X1_beginsPage tw_se_X1_beginsPage tw_in_X1 tw_co_X1_beginsPage) rfl rfl rfl ⟨rfl, by decide, by decide, by decide +kernel⟩ ⟨Nat.le_of_ble_eq_true rfl, Nat.le_of_ble_eq_true rfl⟩) (ps_preV (ci := 1) (q0 := 0) hN (hP.sub (ws' := ps_trW cI cZ q a n g) [0, 1, 2, 3, 4, 5, 6, 7, 8] rfl) hK rfl rfl) rfl rfl hl.1 rfl (lv_room (Nat.le_of_ble_eq_true rfl)) dX1_pagesToWrite_14 ⟨Nat.le_of_ble_eq_true rfl, Nat.le_of_ble_eq_true rfl⟩)) (fun r hr => ?_)
    obtain rfl : r = ps_bi (ps_bp (g 6 k)) := hr
    refine ps_ifb_eq (tgt := 32) hx hb dX1_pagesToWrite_17 rfl (fun h17 => ?_) (fun h17 => ?_)
    · skip
      have hc : ps_pw g n g' n' k = false := by simp [ps_pw, h17]
      refine lv_iinc (k := 3) (v := nI (k + 1)) (lv' := [(3, .int (nI (k + 1))), (0, .ref q), (1, .ref q'), (2, .int (nI (ps_cn (ps_pw g n g' n') k)))]) hx hb dX1_pagesToWrite_32 hl rfl (ps_inc _) (by decide) rfl (fun ls hl => ?_)
      refine lv_goto (tgt := 4) hx hb dX1_pagesToWrite_35 rfl ?_
      first | rw [← ps_cnT hc] at hl | rw [← ps_cnF hc] at hl
      exact ih ((k + 1)) ls (by omega) ⟨by omega, lv_sub hl [1, 2, 3, 0] rfl⟩
    · skip
      refine lv_aload_n hx hb dX1_pagesToWrite_20 rfl (lv_at hl 0 rfl) ?_
      refine lv_iload_n hx hb dX1_pagesToWrite_21 rfl (lv_at hl 3 rfl) ?_
      refine lv_aload_n hx hb dX1_pagesToWrite_22 rfl (lv_at hl 1 rfl) ?_
      refine vp_callSi (va_Run.run (va_runV (C := RX1) (As := [.int (nI k), .ref q']) (rest := []) ⟨hx, hb, hml, hown, hT⟩ (mX1_isNodeClean l dC dI cI cZ q a n g q' a' n' g' (hn) (hn') k (by omega)) (cwV 2 hT (ps_gV tw_ml_X1_83 tw_im_X1_isNodeClean tw_se_X1_isNodeClean tw_in_X1 tw_co_X1_isNodeClean) rfl rfl rfl ⟨rfl, by decide, by decide, by decide +kernel⟩ ⟨Nat.le_of_ble_eq_true rfl, Nat.le_of_ble_eq_true rfl⟩) (ps_preV (ci := 1) (q0 := 0) hN (hP.sub (ws' := ps_trW cI cZ q a n g ++ ps_trW cI cZ q' a' n' g') [0, 1, 2, 3, 4, 5, 6, 7, 8, 9, 10, 11, 12, 13, 14, 15, 16, 17] rfl) hK rfl rfl) rfl rfl hl.1 rfl (lv_room (Nat.le_of_ble_eq_true rfl)) dX1_pagesToWrite_23 ⟨Nat.le_of_ble_eq_true rfl, Nat.le_of_ble_eq_true rfl⟩)) (fun r hr => ?_)
      obtain rfl : r = ps_bi (ps_nc g n g' n' k) := hr
      refine ps_ifb_ne (tgt := 32) hx hb dX1_pagesToWrite_26 rfl (fun h26 => ?_) (fun h26 => ?_)
      · skip
        have hc : ps_pw g n g' n' k = false := by simp [ps_pw, h26]
        refine lv_iinc (k := 3) (v := nI (k + 1)) (lv' := [(3, .int (nI (k + 1))), (0, .ref q), (1, .ref q'), (2, .int (nI (ps_cn (ps_pw g n g' n') k)))]) hx hb dX1_pagesToWrite_32 hl rfl (ps_inc _) (by decide) rfl (fun ls hl => ?_)
        refine lv_goto (tgt := 4) hx hb dX1_pagesToWrite_35 rfl ?_
        first | rw [← ps_cnT hc] at hl | rw [← ps_cnF hc] at hl
        exact ih ((k + 1)) ls (by omega) ⟨by omega, lv_sub hl [1, 2, 3, 0] rfl⟩
      · skip
        have hc : ps_pw g n g' n' k = true := by simp [ps_pw, h17, h26]
        refine lv_iinc (k := 2) (v := nI ((ps_cn (ps_pw g n g' n') k) + 1)) (lv' := [(2, .int (nI ((ps_cn (ps_pw g n g' n') k) + 1))), (0, .ref q), (1, .ref q'), (3, .int (nI k))]) hx hb dX1_pagesToWrite_29 hl rfl (ps_inc _) (by decide) rfl (fun ls hl => ?_)
        refine lv_iinc (k := 3) (v := nI (k + 1)) (lv' := [(3, .int (nI (k + 1))), (2, .int (nI ((ps_cn (ps_pw g n g' n') k) + 1))), (0, .ref q), (1, .ref q')]) hx hb dX1_pagesToWrite_32 hl rfl (ps_inc _) (by decide) rfl (fun ls hl => ?_)
        refine lv_goto (tgt := 4) hx hb dX1_pagesToWrite_35 rfl ?_
        first | rw [← ps_cnT hc] at hl | rw [← ps_cnF hc] at hl
        exact ih ((k + 1)) ls (by omega) ⟨by omega, lv_sub hl [2, 3, 1, 0] rfl⟩
end
section
/-! contracts: the reference's readers. By wip/model.py. -/
abbrev ps_mdW (cI cZ : ClassId) (w0 : Nat) (b0 : Nat → Nat) (th : Int32) (mn kn : Nat) (co : Int32) (ln : Nat) (wr lt : Int32) (f : ps_G) : va_W :=
  [(w0, .inr (3, [.int th, .int (nI mn), .ref (b0 0), .ref (b0 1), .ref (b0 2), .ref (b0 3), .int (nI kn), .ref (b0 4), .ref (b0 5), .ref (b0 6), .ref (b0 7), .ref (b0 8), .int co, .int (nI ln), .ref (b0 9), .int wr, .int lt])),
   (b0 0, .inl (cI, 48, .inl (f 0))), (b0 1, .inl (cI, 48, .inl (f 1))), (b0 2, .inl (cI, 48, .inl (f 2))), (b0 3, .inl (cI, 48, .inl (f 3))), (b0 4, .inl (cI, 48, .inl (f 4))), (b0 5, .inl (cI, 48, .inl (f 5))),
   (b0 6, .inl (cI, 48, .inl (f 6))), (b0 7, .inl (cI, 48, .inl (f 7))), (b0 8, .inl (cZ, 48, .inl (f 8))), (b0 9, .inl (cI, 48, .inl (f 9)))]
def ps_inr (v lo hi : Int32) : Bool := decide (¬ v < lo) && decide (¬ hi < v)
def ps_ip (x y z : Int32) : Bool := ps_inr x 0 15 && ps_inr y 0 15 && ps_inr z 0 15
def ps_pk (x y z : Int32) : Int32 := 256 * x + 16 * y + z
def ps_ax (p f : Int32) : Int32 := if f = 0 then p / 256 else if f = 1 then p / 16 - p / 16 / 16 * 16 else p - p / 16 * 16
/-- the last place of a value -/
def ps_fl (f : Nat → Int32) (v : Int32) : Nat → Option Nat
  | 0 => none
  | n + 1 => if f n = v then some n else ps_fl f v n
theorem ps_fl_t {f : Nat → Int32} {v : Int32} {n : Nat} (h : f n = v) : ps_fl f v (n + 1) = some n := by simp [ps_fl, h]
theorem ps_fl_f {f : Nat → Int32} {v : Int32} {n : Nat} (h : ¬ f n = v) : ps_fl f v (n + 1) = ps_fl f v n := by simp [ps_fl, h]
theorem ps_fl_spec {f : Nat → Int32} {v : Int32} : ∀ {n k : Nat}, ps_fl f v n = some k → k < n ∧ f k = v
  | 0, k, h => by simp [ps_fl] at h
  | n + 1, k, h => by
    by_cases e : f n = v
    · rw [ps_fl_t e] at h
      cases h
      exact ⟨by omega, e⟩
    · rw [ps_fl_f e] at h
      obtain ⟨h1, h2⟩ := ps_fl_spec h
      exact ⟨by omega, h2⟩
theorem ps_fl_spec0 {f : Nat → Int32} {v : Int32} : ∀ {n : Nat}, ps_fl f v n = none → ∀ j, j < n → f j ≠ v
  | 0, _, j, hj => by omega
  | n + 1, h, j, hj => by
    by_cases e : f n = v
    · rw [ps_fl_t e] at h
      cases h
    · rw [ps_fl_f e] at h
      by_cases hjn : j = n
      · subst hjn; exact e
      · exact ps_fl_spec0 h j (by omega)
/-- one cube at a depth, by packed places -/
def ps_mo (p q d : Int32) : Bool := decide (ps_cb d (ps_ax p 0) = ps_cb d (ps_ax q 0)) && decide (ps_cb d (ps_ax p 1) = ps_cb d (ps_ax q 1)) && decide (ps_cb d (ps_ax p 2) = ps_cb d (ps_ax q 2))
def ps_kp (f : ps_G) (p d : Int32) (k : Nat) : Bool := decide (¬ f 8 k = 0) && decide (f 3 k = d) && ps_mo (f 1 k) p d
/-- the greatest rank that isn't done -/
def ps_gr (f : ps_G) : Nat → Option Nat
  | 0 => none
  | n + 1 => if f 8 n = 0 ∧ (∀ b, ps_gr f n = some b → ps_rk (f 0 b) < ps_rk (f 0 n)) then some n else ps_gr f n
theorem ps_gr_t {f : ps_G} {n : Nat} (h : f 8 n = 0) (h2 : ∀ b, ps_gr f n = some b → ps_rk (f 0 b) < ps_rk (f 0 n)) : ps_gr f (n + 1) = some n := by
  show (if f 8 n = 0 ∧ (∀ b, ps_gr f n = some b → ps_rk (f 0 b) < ps_rk (f 0 n)) then some n else ps_gr f n) = _
  rw [if_pos ⟨h, h2⟩]
theorem ps_gr_f {f : ps_G} {n : Nat} (h : ¬ (f 8 n = 0 ∧ (∀ b, ps_gr f n = some b → ps_rk (f 0 b) < ps_rk (f 0 n)))) : ps_gr f (n + 1) = ps_gr f n := by
  show (if f 8 n = 0 ∧ (∀ b, ps_gr f n = some b → ps_rk (f 0 b) < ps_rk (f 0 n)) then some n else ps_gr f n) = _
  rw [if_neg h]
theorem ps_gr_lt {f : ps_G} : ∀ {n k : Nat}, ps_gr f n = some k → k < n
  | 0, k, h => by simp [ps_gr] at h
  | n + 1, k, h => by
    by_cases e : f 8 n = 0 ∧ (∀ b, ps_gr f n = some b → ps_rk (f 0 b) < ps_rk (f 0 n))
    · rw [ps_gr_t e.1 e.2] at h
      cases h
      omega
    · rw [ps_gr_f e] at h
      have := ps_gr_lt h
      omega
theorem ps_rkM {k : Nat} {v : Int32} (hk : k ≤ 3) (h : 3 ≤ k) (hp : ¬ 0 ≤ ps_hn k v) : (ps_hn k v).toInt64 + 4294967296 = lN (ps_rk v) := by
  have e : k = 3 := by omega
  subst e
  exact ps_neg (Int32.not_le.mp hp)
theorem ps_rkP {k : Nat} {v : Int32} (hk : k ≤ 3) (h : 3 ≤ k) (hp : 0 ≤ ps_hn k v) : (ps_hn k v).toInt64 = lN (ps_rk v) := by
  have e : k = 3 := by omega
  subst e
  exact ps_pos (Int32.not_lt.mpr hp)
theorem ps_fr_some {k : Nat} {o : Option Nat} (h : o = some k) : nI k = ps_fr o := by rw [h]; rfl
theorem ps_fr_eq {o o' : Option Nat} (h : o' = o) : ps_fr o = ps_fr o' := by rw [h]
theorem ps_rk_le {a b : Int32} (h : ¬ lg_cmp (lN (ps_rk a)) (lN (ps_rk b)) ≤ 0) : ps_rk b < ps_rk a := by
  rw [lg_cmp_le, pk_lLE (Nat.lt_trans (ps_rk_lt _) (by decide)) (Nat.lt_trans (ps_rk_lt _) (by decide))] at h
  omega
theorem ps_rk_nl {a b : Int32} (h : lg_cmp (lN (ps_rk a)) (lN (ps_rk b)) ≤ 0) : ¬ ps_rk b < ps_rk a := by
  rw [lg_cmp_le, pk_lLE (Nat.lt_trans (ps_rk_lt _) (by decide)) (Nat.lt_trans (ps_rk_lt _) (by decide))] at h
  omega
/-- all numbers below n, one by one -/
def ps_all (Q : Nat → Bool) : Nat → Bool
  | 0 => true
  | n + 1 => ps_all Q n && Q n
def ps_ex (Q : Nat → Bool) : Nat → Bool
  | 0 => false
  | n + 1 => ps_ex Q n || Q n
def ps_nf (d p : Nat → Int32) (k q : Nat) : Bool := !(decide (d q = d k) && ps_mo (p q) (p k) (d k))
def ps_bw (v x y : Int32) : Bool := if x ≤ y then decide (¬ v < x) && decide (¬ y < v) else decide (¬ v < y) && decide (¬ x < v)
def ps_iq (f : ps_G) (co p : Int32) (k fd : Nat) : Bool := ps_bw (ps_ax (f 1 k) (nI fd)) (ps_ax co (nI fd)) (ps_ax p (nI fd))
def ps_dd (p q : Int32) : Nat → Int32
  | 0 => 0
  | n + 1 => ps_dd p q n + (ps_ax p (nI n) - ps_ax q (nI n)) * (ps_ax p (nI n) - ps_ax q (nI n))
def ps_tq (d p : Nat → Int32) (k q : Nat) : Bool := decide (d q = d k) && ps_mo (p q) (p k) (d k)
/-- the sum over the nodes' first rows -/
def ps_tp (F : Nat → Bool) (C : Nat → Nat) : Nat → Nat
  | 0 => 0
  | k + 1 => if F k = true then ps_tp F C k + (C k + 5) / 6 else ps_tp F C k
theorem ps_tp_t {F : Nat → Bool} {C : Nat → Nat} {k : Nat} (h : F k = true) : ps_tp F C (k + 1) = ps_tp F C k + (C k + 5) / 6 := by simp [ps_tp, h]
theorem ps_tp_f {F : Nat → Bool} {C : Nat → Nat} {k : Nat} (h : F k = false) : ps_tp F C (k + 1) = ps_tp F C k := by simp [ps_tp, h]
theorem ps_tp_le {F : Nat → Bool} {C : Nat → Nat} {m : Nat} : ∀ n, (∀ k, k < n → C k ≤ m) → ps_tp F C n ≤ n * ((m + 5) / 6)
  | 0, _ => by simp [ps_tp]
  | n + 1, h => by
    have ih := ps_tp_le (F := F) n (fun k hk => h k (by omega))
    have h1 := h n (by omega)
    have h2 : (C n + 5) / 6 ≤ (m + 5) / 6 := by omega
    have h3 : (n + 1) * ((m + 5) / 6) = n * ((m + 5) / 6) + (m + 5) / 6 := by rw [Nat.add_mul, Nat.one_mul]
    cases e : F n with
    | true => rw [ps_tp_t e]; omega
    | false => rw [ps_tp_f e]; omega
def ps_cq (f : ps_G) (k q : Nat) : Bool := decide (f 4 q = f 0 k) && decide (f 5 q = f 1 k) && decide (f 6 q = f 2 k) && decide (f 7 q = f 3 k)
def ps_c1 (f : ps_G) (p d : Int32) (k : Nat) : Bool := decide (¬ f 3 k < d) && ps_mo (f 1 k) p d
def ps_c2 (f : ps_G) (p d : Int32) (k : Nat) : Bool := decide (¬ f 7 k < d) && ps_mo (f 5 k) p d
def ps_sm (f : ps_G) (kn : Nat) (p d : Int32) (k : Nat) : Bool := !ps_c1 f p d k || ps_ex (ps_cq f k) kn
def ps_cl (f : ps_G) (mn kn : Nat) (p d : Int32) : Bool := ps_all (ps_sm f kn p d) mn && decide (ps_cn (ps_c1 f p d) mn = ps_cn (ps_c2 f p d) kn)
def ps_wq (f : ps_G) (mn kn k : Nat) : Bool := ps_all (ps_nf (f 3) (f 1) k) k && !ps_cl f mn kn (f 1 k) (f 3 k)
def ps_wc (f : ps_G) (mn k : Nat) : Nat := ps_cn (ps_kp f (f 1 k) (f 3 k)) mn
theorem ps_subs (x a : Nat) : nI x - nI a - 1 = nI x - nI (a + 1) := by
  rw [← nI_1, Int32.sub_sub]
theorem ps_sub0 {x a : Nat} (hx : x < 2 ^ 31) (ha : a < 2 ^ 31) : nI x - nI a = 0 ↔ x = a := by
  constructor
  · intro h
    have h1 : nI x = nI a := by
      have := congrArg (· + nI a) h
      simpa [Int32.sub_add_cancel] using this
    exact (nI_eq hx ha).mp h1
  · intro h
    rw [h, Int32.sub_self]
section PSM
variable {p : Program} {l : Launch} {e : Env} {R : Room} {s : State} {m : MethodId} {args : Array Value} {below : List Frame} {meth : Method} {c : Code} {H : Heap} {locs : List Loc} {cells slots : Nat} {Q : State → Prop}
variable {pc : Nat} {ls : Array Slot} {rest st0 : List Value} {D : va_G} {A0 : Nat → Prop} {tys : List (ClassId × FieldType)} {ws wc wr w1 ws2 : va_W} {H0 : Heap} {mc ms : Nat} {a : Array Value} {cc : ByteArray}
theorem ps_cql {v : Int64} (hr : va_Run p l e R s m args below meth c H locs cells slots mc ms (F0 m pc ls st0) rest (va_Ql (fun (r : Int64) (_ : Unit) => r = v) (ps_qB D tys (va_A wc H.size) w1) (va_A wc H.size) a) (va_A wc H.size)) (hS : va_S A0 H0 H locs) (hA : ∀ q, H0.size ≤ q → A0 q) (hP : va_P D vwCl ws H) (hD : va_D A0 ws)
    (isC isR is2 : List Nat) (hC : isC.map (fun i => ws[i]?) = wc.map some) (hR : isR.map (fun i => ws[i]?) = wr.map some) (hn : va_nd isR = true) (hdis : ∀ i ∈ isR, i ∉ isC) (h2 : is2.filterMap (fun i => (wr ++ w1)[i]?) = ws2) (h3 : is2.map (fun i => (wr ++ w1)[i]?) = ws2.map some) (h4 : va_nd is2 = true)
    (kk : ∀ (H1 : Heap) (locs1 : List Loc), va_P D vwCl ws2 H1 → va_D A0 ws2 → va_S A0 H0 H1 locs1 → W p l e R s m args below meth c H1 locs1 (cells + mc) (slots + ms) Q (F0 m (pc + 3) ls (.long v :: rest))) : W p l e R s m args below meth c H locs cells slots Q (F0 m pc ls st0) := by
  have hF := va_free (wc := wc) hD hS hA isC hC
  refine va_calll hr hS (fun q _ h => hF q h) hF (fun r u t H1 locs1 ht hvm hw hB hz1 hk1 hS1 => ?_)
  have hw : r = v := hw
  subst hw
  obtain ⟨hP1, hK1, hD1⟩ := hB
  rw [ht] at hP1
  obtain ⟨hP2, hD2⟩ := va_join (wr := wr) (w1 := w1) hP hD isC isR hC hR hn hdis hk1 hF hP1 hD1
  exact kk H1 locs1 (hP2.sub is2 h2) (hD2.sub is2 h4 h3) hS1
end PSM
theorem ps_mo_t {p q d : Int32} (h1 : ps_cb d (ps_ax p 0) = ps_cb d (ps_ax q 0)) (h2 : ps_cb d (ps_ax p 1) = ps_cb d (ps_ax q 1)) (h3 : ps_cb d (ps_ax p 2) = ps_cb d (ps_ax q 2)) : (1 : Int32) = ps_bi (ps_mo p q d) := ps_bi_t (by simp [ps_mo, h1, h2, h3])
theorem ps_mo_f1 {p q d : Int32} (h1 : ¬ ps_cb d (ps_ax p 0) = ps_cb d (ps_ax q 0)) : (0 : Int32) = ps_bi (ps_mo p q d) := ps_bi_f (by simp [ps_mo, h1])
theorem ps_mo_f2 {p q d : Int32} (h1 : ¬ ps_cb d (ps_ax p 1) = ps_cb d (ps_ax q 1)) : (0 : Int32) = ps_bi (ps_mo p q d) := ps_bi_f (by simp [ps_mo, h1])
theorem ps_mo_f3 {p q d : Int32} (h1 : ¬ ps_cb d (ps_ax p 2) = ps_cb d (ps_ax q 2)) : (0 : Int32) = ps_bi (ps_mo p q d) := ps_bi_f (by simp [ps_mo, h1])
theorem ps_pf {c : Nat} (h : c < 1000) : (nI c + 5) / 6 = nI ((c + 5) / 6) := by
  have e : nI c + 5 = nI (c + 5) := nI_add c 5
  rw [e]
  exact pk_div (a := c + 5) (d := 6) (by omega) (by omega) (by decide)
theorem ps_bi_nar (b : Bool) : narrow .boolean (.int (ps_bi b)) = .int (ps_bi b) := by cases b <;> rfl
set_option maxHeartbeats 4000000 in
set_option maxRecDepth 100000 in
theorem mX3_in (l : Launch) (v lo hi : Int32) : Met l yX3_in (.code yX3_in cX3_in 3 (some .boolean) :: ps_T) ({ frames := 0, cells := 0, slots := 0, locals := 0 }) (fun av _ => av = ([.int v, .int lo, .int hi] : List Value).toArray) (vp_Si (fun r => r = ps_bi (ps_inr v lo hi))) 0 0 (fun _ => False) := by
  refine Met.ofW (cc := cX3_in) (maxL := 3) (ret := (some .boolean)) (by decide) rfl ?_
  intro p e s m args below meth c s₁ B hml hv
  subst hv
  have hx := B.exec
  have hb := B.bytes
  have hr := B.returns
  have hlocks := B.notSynchronized
  have hT : ∀ w ∈ ps_T, w.before ([.int v, .int lo, .int hi] : List Value).toArray s = true := fun w h => atoms_spec (ws := (.code yX3_in cX3_in 3 (some .boolean) :: ps_T)) B.pre w (List.mem_cons_of_mem _ h)
  have hown : s.vm.findClass RX3 = some m.cls := findClass_of_methodNamed B.named
  have hl := lv_entry ([.int v, .int lo, .int hi]) (n := 3) (Nat.le_of_ble_eq_true rfl)
  rw [lg_entry_eq]
  generalize (lg_sl ([.int v, .int lo, .int hi]) ++ List.replicate (3 - (lg_sl ([.int v, .int lo, .int hi])).length) Slot.unset).toArray = ls at hl ⊢
  have hl : lv_has ls 3 [(0, .int v), (1, .int lo), (2, .int hi)] := hl
  refine lv_iload_n hx hb dX3_in_0 rfl (lv_at hl 0 rfl) ?_
  refine lv_iload_n hx hb dX3_in_1 rfl (lv_at hl 1 rfl) ?_
  refine lv_icmp_lt (tgt := 14) hx hb dX3_in_2 rfl (fun h2 => ?_) (fun h2 => ?_)
  · skip
    refine lv_iconst (v := 0) hx hb dX3_in_14 (by decide) ?_
    exact W.zret (v := 0) hx hb hr (rfl) (fun t ht hW => ⟨0, rfl, by simp_all [ps_inr, ps_bi], ht⟩) (fun q h => by cases h) dX3_in_15
  · skip
    refine lv_iload_n hx hb dX3_in_5 rfl (lv_at hl 0 rfl) ?_
    refine lv_iload_n hx hb dX3_in_6 rfl (lv_at hl 2 rfl) ?_
    refine lv_icmp_gt (tgt := 14) hx hb dX3_in_7 rfl (fun h7 => ?_) (fun h7 => ?_)
    · skip
      refine lv_iconst (v := 0) hx hb dX3_in_14 (by decide) ?_
      exact W.zret (v := 0) hx hb hr (rfl) (fun t ht hW => ⟨0, rfl, by simp_all [ps_inr, ps_bi], ht⟩) (fun q h => by cases h) dX3_in_15
    · skip
      refine lv_iconst (v := 1) hx hb dX3_in_10 (by decide) ?_
      refine lv_goto (tgt := 15) hx hb dX3_in_11 rfl ?_
      exact W.zret (v := 1) hx hb hr (rfl) (fun t ht hW => ⟨1, rfl, by simp_all [ps_inr, ps_bi], ht⟩) (fun q h => by cases h) dX3_in_15
set_option maxHeartbeats 4000000 in
set_option maxRecDepth 100000 in
theorem mX3_isPlace (l : Launch) (x y z : Int32) : Met l yX3_isPlace (.code yX3_isPlace cX3_isPlace 3 (some .boolean) :: ps_T) ({ frames := 1, cells := 0, slots := 0, locals := 22 }) (fun av _ => av = ([.int x, .int y, .int z] : List Value).toArray) (vp_Si (fun r => r = ps_bi (ps_ip x y z))) 0 0 (fun _ => False) := by
  refine Met.ofW (cc := cX3_isPlace) (maxL := 3) (ret := (some .boolean)) (by decide) rfl ?_
  intro p e s m args below meth c s₁ B hml hv
  subst hv
  have hx := B.exec
  have hb := B.bytes
  have hr := B.returns
  have hlocks := B.notSynchronized
  have hT : ∀ w ∈ ps_T, w.before ([.int x, .int y, .int z] : List Value).toArray s = true := fun w h => atoms_spec (ws := (.code yX3_isPlace cX3_isPlace 3 (some .boolean) :: ps_T)) B.pre w (List.mem_cons_of_mem _ h)
  have hown : s.vm.findClass RX3 = some m.cls := findClass_of_methodNamed B.named
  have hl := lv_entry ([.int x, .int y, .int z]) (n := 3) (Nat.le_of_ble_eq_true rfl)
  rw [lg_entry_eq]
  generalize (lg_sl ([.int x, .int y, .int z]) ++ List.replicate (3 - (lg_sl ([.int x, .int y, .int z])).length) Slot.unset).toArray = ls at hl ⊢
  have hl : lv_has ls 3 [(0, .int x), (1, .int y), (2, .int z)] := hl
  refine lv_iload_n hx hb dX3_isPlace_0 rfl (lv_at hl 0 rfl) ?_
  refine lv_iconst (v := 0) hx hb dX3_isPlace_1 (by decide) ?_
  refine lv_bipush (v := 15) hx hb dX3_isPlace_2 (by decide) ?_
  refine vp_callSi (va_Run.run (va_runS (As := [.int x, .int 0, .int 15]) (rest := []) ⟨hx, hb, hml, hown, hT⟩ (mX3_in l x 0 15) (va_cwS 3 hT (ps_gS tw_ml_X3_48 tw_st_X3_in tw_in_X3 tw_co_X3_in) rfl rfl rfl ⟨by decide, by decide, by decide +kernel⟩ ⟨Nat.le_of_ble_eq_true rfl, Nat.le_of_ble_eq_true rfl⟩) preEq rfl rfl hl.1 rfl (lv_room (Nat.le_of_ble_eq_true rfl)) dX3_isPlace_4 ⟨Nat.le_of_ble_eq_true rfl, Nat.le_of_ble_eq_true rfl⟩)) (fun r hr => ?_)
  obtain rfl : r = ps_bi (ps_inr x 0 15) := hr
  refine ps_ifb_eq (tgt := 34) hx hb dX3_isPlace_7 rfl (fun h7 => ?_) (fun h7 => ?_)
  · skip
    refine lv_iconst (v := 0) hx hb dX3_isPlace_34 (by decide) ?_
    exact W.zret (v := 0) hx hb hr (rfl) (fun t ht hW => ⟨0, rfl, by simp_all [ps_ip, ps_bi], ht⟩) (fun q h => by cases h) dX3_isPlace_35
  · skip
    refine lv_iload_n hx hb dX3_isPlace_10 rfl (lv_at hl 1 rfl) ?_
    refine lv_iconst (v := 0) hx hb dX3_isPlace_11 (by decide) ?_
    refine lv_bipush (v := 15) hx hb dX3_isPlace_12 (by decide) ?_
    refine vp_callSi (va_Run.run (va_runS (As := [.int y, .int 0, .int 15]) (rest := []) ⟨hx, hb, hml, hown, hT⟩ (mX3_in l y 0 15) (va_cwS 3 hT (ps_gS tw_ml_X3_48 tw_st_X3_in tw_in_X3 tw_co_X3_in) rfl rfl rfl ⟨by decide, by decide, by decide +kernel⟩ ⟨Nat.le_of_ble_eq_true rfl, Nat.le_of_ble_eq_true rfl⟩) preEq rfl rfl hl.1 rfl (lv_room (Nat.le_of_ble_eq_true rfl)) dX3_isPlace_14 ⟨Nat.le_of_ble_eq_true rfl, Nat.le_of_ble_eq_true rfl⟩)) (fun r hr => ?_)
    obtain rfl : r = ps_bi (ps_inr y 0 15) := hr
    refine ps_ifb_eq (tgt := 34) hx hb dX3_isPlace_17 rfl (fun h17 => ?_) (fun h17 => ?_)
    · skip
      refine lv_iconst (v := 0) hx hb dX3_isPlace_34 (by decide) ?_
      exact W.zret (v := 0) hx hb hr (rfl) (fun t ht hW => ⟨0, rfl, by simp_all [ps_ip, ps_bi], ht⟩) (fun q h => by cases h) dX3_isPlace_35
    · skip
      refine lv_iload_n hx hb dX3_isPlace_20 rfl (lv_at hl 2 rfl) ?_
      refine lv_iconst (v := 0) hx hb dX3_isPlace_21 (by decide) ?_
      refine lv_bipush (v := 15) hx hb dX3_isPlace_22 (by decide) ?_
      refine vp_callSi (va_Run.run (va_runS (As := [.int z, .int 0, .int 15]) (rest := []) ⟨hx, hb, hml, hown, hT⟩ (mX3_in l z 0 15) (va_cwS 3 hT (ps_gS tw_ml_X3_48 tw_st_X3_in tw_in_X3 tw_co_X3_in) rfl rfl rfl ⟨by decide, by decide, by decide +kernel⟩ ⟨Nat.le_of_ble_eq_true rfl, Nat.le_of_ble_eq_true rfl⟩) preEq rfl rfl hl.1 rfl (lv_room (Nat.le_of_ble_eq_true rfl)) dX3_isPlace_24 ⟨Nat.le_of_ble_eq_true rfl, Nat.le_of_ble_eq_true rfl⟩)) (fun r hr => ?_)
      obtain rfl : r = ps_bi (ps_inr z 0 15) := hr
      refine ps_ifb_eq (tgt := 34) hx hb dX3_isPlace_27 rfl (fun h27 => ?_) (fun h27 => ?_)
      · skip
        refine lv_iconst (v := 0) hx hb dX3_isPlace_34 (by decide) ?_
        exact W.zret (v := 0) hx hb hr (rfl) (fun t ht hW => ⟨0, rfl, by simp_all [ps_ip, ps_bi], ht⟩) (fun q h => by cases h) dX3_isPlace_35
      · skip
        refine lv_iconst (v := 1) hx hb dX3_isPlace_30 (by decide) ?_
        refine lv_goto (tgt := 35) hx hb dX3_isPlace_31 rfl ?_
        exact W.zret (v := 1) hx hb hr (rfl) (fun t ht hW => ⟨1, rfl, by simp_all [ps_ip, ps_bi], ht⟩) (fun q h => by cases h) dX3_isPlace_35
set_option maxHeartbeats 4000000 in
set_option maxRecDepth 100000 in
theorem mX3_packed (l : Launch) (x y z : Int32) : Met l yX3_packed (.code yX3_packed cX3_packed 3 (some .int) :: ps_T) ({ frames := 0, cells := 0, slots := 0, locals := 0 }) (fun av _ => av = ([.int x, .int y, .int z] : List Value).toArray) (vp_Si (fun r => r = ps_pk x y z)) 0 0 (fun _ => False) := by
  refine Met.ofW (cc := cX3_packed) (maxL := 3) (ret := (some .int)) (by decide) rfl ?_
  intro p e s m args below meth c s₁ B hml hv
  subst hv
  have hx := B.exec
  have hb := B.bytes
  have hr := B.returns
  have hlocks := B.notSynchronized
  have hT : ∀ w ∈ ps_T, w.before ([.int x, .int y, .int z] : List Value).toArray s = true := fun w h => atoms_spec (ws := (.code yX3_packed cX3_packed 3 (some .int) :: ps_T)) B.pre w (List.mem_cons_of_mem _ h)
  have hown : s.vm.findClass RX3 = some m.cls := findClass_of_methodNamed B.named
  have hl := lv_entry ([.int x, .int y, .int z]) (n := 3) (Nat.le_of_ble_eq_true rfl)
  rw [lg_entry_eq]
  generalize (lg_sl ([.int x, .int y, .int z]) ++ List.replicate (3 - (lg_sl ([.int x, .int y, .int z])).length) Slot.unset).toArray = ls at hl ⊢
  have hl : lv_has ls 3 [(0, .int x), (1, .int y), (2, .int z)] := hl
  refine lv_sipush (v := 256) hx hb dX3_packed_0 (by decide) ?_
  refine lv_iload_n hx hb dX3_packed_3 rfl (lv_at hl 0 rfl) ?_
  refine lv_imul hx hb dX3_packed_4 ?_
  refine lv_bipush (v := 16) hx hb dX3_packed_5 (by decide) ?_
  refine lv_iload_n hx hb dX3_packed_7 rfl (lv_at hl 1 rfl) ?_
  refine lv_imul hx hb dX3_packed_8 ?_
  refine lv_iadd hx hb dX3_packed_9 ?_
  refine lv_iload_n hx hb dX3_packed_10 rfl (lv_at hl 2 rfl) ?_
  refine lv_iadd hx hb dX3_packed_11 ?_
  exact W.iret (v := ((256 * x) + (16 * y)) + z) hx hb hr (fun t ht hW => ⟨((256 * x) + (16 * y)) + z, rfl, rfl, ht⟩) (fun q h => by cases h) dX3_packed_12
set_option maxHeartbeats 4000000 in
set_option maxRecDepth 100000 in
theorem mX3_axis (l : Launch) (p9 f9 : Int32) : Met l yX3_axis (.code yX3_axis cX3_axis 2 (some .int) :: ps_T) ({ frames := 0, cells := 0, slots := 0, locals := 0 }) (fun av _ => av = ([.int p9, .int f9] : List Value).toArray) (vp_Si (fun r => r = ps_ax p9 f9)) 0 0 (fun _ => False) := by
  refine Met.ofW (cc := cX3_axis) (maxL := 2) (ret := (some .int)) (by decide) rfl ?_
  intro p e s m args below meth c s₁ B hml hv
  subst hv
  have hx := B.exec
  have hb := B.bytes
  have hr := B.returns
  have hlocks := B.notSynchronized
  have hT : ∀ w ∈ ps_T, w.before ([.int p9, .int f9] : List Value).toArray s = true := fun w h => atoms_spec (ws := (.code yX3_axis cX3_axis 2 (some .int) :: ps_T)) B.pre w (List.mem_cons_of_mem _ h)
  have hown : s.vm.findClass RX3 = some m.cls := findClass_of_methodNamed B.named
  have hl := lv_entry ([.int p9, .int f9]) (n := 2) (Nat.le_of_ble_eq_true rfl)
  rw [lg_entry_eq]
  generalize (lg_sl ([.int p9, .int f9]) ++ List.replicate (2 - (lg_sl ([.int p9, .int f9])).length) Slot.unset).toArray = ls at hl ⊢
  have hl : lv_has ls 2 [(0, .int p9), (1, .int f9)] := hl
  refine lv_iload_n hx hb dX3_axis_0 rfl (lv_at hl 1 rfl) ?_
  refine lv_if_ne (tgt := 12) hx hb dX3_axis_1 rfl (fun h1 => ?_) (fun h1 => ?_)
  · skip
    refine lv_iload_n hx hb dX3_axis_12 rfl (lv_at hl 1 rfl) ?_
    refine lv_iconst (v := 1) hx hb dX3_axis_13 (by decide) ?_
    refine lv_icmp_ne (tgt := 27) hx hb dX3_axis_14 rfl (fun h14 => ?_) (fun h14 => ?_)
    · skip
      refine lv_iload_n hx hb dX3_axis_27 rfl (lv_at hl 0 rfl) ?_
      refine lv_bipush (v := 16) hx hb dX3_axis_28 (by decide) ?_
      refine lv_irem hx hb dX3_axis_30 (by decide) ?_
      exact W.iret (v := p9 - p9 / 16 * 16) hx hb hr (fun t ht hW => ⟨p9 - p9 / 16 * 16, rfl, by simp [ps_ax, *], ht⟩) (fun q h => by cases h) dX3_axis_31
    · skip
      refine lv_iload_n hx hb dX3_axis_17 rfl (lv_at hl 0 rfl) ?_
      refine lv_bipush (v := 16) hx hb dX3_axis_18 (by decide) ?_
      refine lv_idiv hx hb dX3_axis_20 (by decide) ?_
      refine lv_bipush (v := 16) hx hb dX3_axis_21 (by decide) ?_
      refine lv_irem hx hb dX3_axis_23 (by decide) ?_
      refine lv_goto (tgt := 31) hx hb dX3_axis_24 rfl ?_
      exact W.iret (v := (p9 / 16) - (p9 / 16) / 16 * 16) hx hb hr (fun t ht hW => ⟨(p9 / 16) - (p9 / 16) / 16 * 16, rfl, by simp [ps_ax, *], ht⟩) (fun q h => by cases h) dX3_axis_31
  · skip
    refine lv_iload_n hx hb dX3_axis_4 rfl (lv_at hl 0 rfl) ?_
    refine lv_sipush (v := 256) hx hb dX3_axis_5 (by decide) ?_
    refine lv_idiv hx hb dX3_axis_8 (by decide) ?_
    refine lv_goto (tgt := 31) hx hb dX3_axis_9 rfl ?_
    exact W.iret (v := p9 / 256) hx hb hr (fun t ht hW => ⟨p9 / 256, rfl, by simp [ps_ax, *], ht⟩) (fun q h => by cases h) dX3_axis_31
set_option maxHeartbeats 4000000 in
set_option maxRecDepth 100000 in
theorem mX3_rankOf (l : Launch) (v : Int32) : Met l yX3_rankOf (.code yX3_rankOf cX3_rankOf 3 (some .long) :: ps_T) ({ frames := 0, cells := 0, slots := 0, locals := 0 }) (fun av _ => av = ([.int v] : List Value).toArray) (vp_Sl (fun r => r = lN (ps_rk v))) 0 0 (fun _ => False) := by
  refine Met.ofW (cc := cX3_rankOf) (maxL := 3) (ret := (some .long)) (by decide) rfl ?_
  intro p e s m args below meth c s₁ B hml hv
  subst hv
  have hx := B.exec
  have hb := B.bytes
  have hr := B.returns
  have hlocks := B.notSynchronized
  have hT : ∀ w ∈ ps_T, w.before ([.int v] : List Value).toArray s = true := fun w h => atoms_spec (ws := (.code yX3_rankOf cX3_rankOf 3 (some .long) :: ps_T)) B.pre w (List.mem_cons_of_mem _ h)
  have hown : s.vm.findClass RX3 = some m.cls := findClass_of_methodNamed B.named
  have hl := lv_entry ([.int v]) (n := 3) (Nat.le_of_ble_eq_true rfl)
  rw [lg_entry_eq]
  generalize (lg_sl ([.int v]) ++ List.replicate (3 - (lg_sl ([.int v])).length) Slot.unset).toArray = ls at hl ⊢
  have hl : lv_has ls 3 [(0, .int v)] := hl
  refine lv_iload_n hx hb dX3_rankOf_0 rfl (lv_at hl 0 rfl) ?_
  refine lv_istore_n (lv' := [(1, .int v), (0, .int v)]) hx hb dX3_rankOf_1 rfl hl (by decide) rfl (fun ls hl => ?_)
  refine lv_iconst (v := 0) hx hb dX3_rankOf_2 (by decide) ?_
  refine lv_istore_n (lv' := [(2, .int 0), (1, .int v), (0, .int v)]) hx hb dX3_rankOf_3 rfl hl (by decide) rfl (fun ls hl => ?_)
  have hl : lv_has ls 3 [(2, .int (nI 0)), (1, .int (ps_hn 0 v)), (0, .int v)] := hl
  refine ps_loopS (α := Nat) (fun k => 3 - k) (fun k ls => (k ≤ 3) ∧ lv_has ls 3 [(0, .int v), (1, .int (ps_hn k v)), (2, .int (nI k))]) ?_ 0 ls ⟨by omega, lv_sub hl [2, 1, 0] rfl⟩
  intro k ls ih hI
  obtain ⟨hk, hl⟩ := hI
  refine lv_iload_n hx hb dX3_rankOf_4 rfl (lv_at hl 2 rfl) ?_
  refine lv_iconst (v := 3) hx hb dX3_rankOf_5 (by decide) ?_
  refine ps_icmp_ge (tgt := 27) (a := k) (b := 3) hx hb dX3_rankOf_6 rfl (by omega) (by omega) (fun h6 => ?_) (fun h6 => ?_)
  · skip
    refine lv_iload_n hx hb dX3_rankOf_27 rfl (lv_at hl 1 rfl) ?_
    refine lv_if_ge (tgt := 40) hx hb dX3_rankOf_28 rfl (fun h28 => ?_) (fun h28 => ?_)
    · skip
      have hres : (ps_hn k v).toInt64 = lN (ps_rk v) := ps_rkP hk h6 h28
      refine lv_iload_n hx hb dX3_rankOf_40 rfl (lv_at hl 1 rfl) ?_
      refine lv_i2l (v := (ps_hn k v).toInt64) hx hb dX3_rankOf_41 rfl ?_
      exact W.lret (v := (ps_hn k v).toInt64) hx hb hr (fun t ht hW => ⟨(ps_hn k v).toInt64, rfl, hres, ht⟩) (fun q h => by cases h) dX3_rankOf_42
    · skip
      have hres : (ps_hn k v).toInt64 + 4294967296 = lN (ps_rk v) := ps_rkM hk h6 h28
      refine lv_iload_n hx hb dX3_rankOf_31 rfl (lv_at hl 1 rfl) ?_
      refine lv_i2l (v := (ps_hn k v).toInt64) hx hb dX3_rankOf_32 rfl ?_
      refine lv_ldc2 (v := (4294967296)) hx hb hown (hT _ tw_kl_X3_53) dX3_rankOf_33 ?_
      refine lv_ladd hx hb dX3_rankOf_36 ?_
      refine lv_goto (tgt := 42) hx hb dX3_rankOf_37 rfl ?_
      exact W.lret (v := ((ps_hn k v).toInt64) + ((4294967296))) hx hb hr (fun t ht hW => ⟨((ps_hn k v).toInt64) + ((4294967296)), rfl, hres, ht⟩) (fun q h => by cases h) dX3_rankOf_42
  · skip
    refine lv_iload_n hx hb dX3_rankOf_9 rfl (lv_at hl 1 rfl) ?_
    refine lv_ldc (v := (-1640531535)) hx hb hown (hT _ tw_kc_X3_52) dX3_rankOf_10 ?_
    refine lv_imul hx hb dX3_rankOf_12 ?_
    refine lv_istore_n (lv' := [(1, .int ((ps_hn k v) * ((-1640531535)))), (0, .int v), (2, .int (nI k))]) hx hb dX3_rankOf_13 rfl hl (by decide) rfl (fun ls hl => ?_)
    refine lv_iload_n hx hb dX3_rankOf_14 rfl (lv_at hl 0 rfl) ?_
    refine lv_iload_n hx hb dX3_rankOf_15 rfl (lv_at hl 0 rfl) ?_
    refine lv_bipush (v := 16) hx hb dX3_rankOf_16 (by decide) ?_
    refine lv_iushr (v := (((ps_hn k v) * ((-1640531535))).toUInt32 >>> ((16 : Int32).toUInt32 &&& Int32.toUInt32 31)).toInt32) hx hb dX3_rankOf_18 rfl ?_
    refine lv_ixor hx hb dX3_rankOf_19 ?_
    refine lv_istore_n (lv' := [(1, .int (((ps_hn k v) * ((-1640531535))) ^^^ ((((ps_hn k v) * ((-1640531535))).toUInt32 >>> ((16 : Int32).toUInt32 &&& Int32.toUInt32 31)).toInt32))), (0, .int v), (2, .int (nI k))]) hx hb dX3_rankOf_20 rfl hl (by decide) rfl (fun ls hl => ?_)
    refine lv_iinc (k := 2) (v := nI (k + 1)) (lv' := [(2, .int (nI (k + 1))), (1, .int (((ps_hn k v) * ((-1640531535))) ^^^ ((((ps_hn k v) * ((-1640531535))).toUInt32 >>> ((16 : Int32).toUInt32 &&& Int32.toUInt32 31)).toInt32))), (0, .int v)]) hx hb dX3_rankOf_21 hl rfl (ps_inc _) (by decide) rfl (fun ls hl => ?_)
    refine lv_goto (tgt := 4) hx hb dX3_rankOf_24 rfl ?_
    exact ih ((k + 1)) ls (by omega) ⟨by omega, lv_sub hl [2, 1, 0] rfl⟩
set_option maxHeartbeats 4000000 in
set_option maxRecDepth 100000 in
theorem mX3_isOne (l : Launch) (p9 q9 d : Int32) : Met l yX3_isOne (.code yX3_isOne cX3_isOne 4 (some .boolean) :: ps_T) ({ frames := 1, cells := 0, slots := 0, locals := 21 }) (fun av _ => av = ([.int p9, .int q9, .int d] : List Value).toArray) (vp_Si (fun r => r = ps_bi (ps_mo p9 q9 d))) 0 0 (fun _ => False) := by
  refine Met.ofW (cc := cX3_isOne) (maxL := 4) (ret := (some .boolean)) (by decide) rfl ?_
  intro p e s m args below meth c s₁ B hml hv
  subst hv
  have hx := B.exec
  have hb := B.bytes
  have hr := B.returns
  have hlocks := B.notSynchronized
  have hT : ∀ w ∈ ps_T, w.before ([.int p9, .int q9, .int d] : List Value).toArray s = true := fun w h => atoms_spec (ws := (.code yX3_isOne cX3_isOne 4 (some .boolean) :: ps_T)) B.pre w (List.mem_cons_of_mem _ h)
  have hown : s.vm.findClass RX3 = some m.cls := findClass_of_methodNamed B.named
  have hl := lv_entry ([.int p9, .int q9, .int d]) (n := 4) (Nat.le_of_ble_eq_true rfl)
  rw [lg_entry_eq]
  generalize (lg_sl ([.int p9, .int q9, .int d]) ++ List.replicate (4 - (lg_sl ([.int p9, .int q9, .int d])).length) Slot.unset).toArray = ls at hl ⊢
  have hl : lv_has ls 4 [(0, .int p9), (1, .int q9), (2, .int d)] := hl
  refine lv_iconst (v := 4) hx hb dX3_isOne_0 (by decide) ?_
  refine lv_iload_n hx hb dX3_isOne_1 rfl (lv_at hl 2 rfl) ?_
  refine lv_isub hx hb dX3_isOne_2 ?_
  refine lv_istore_n (lv' := [(3, .int (4 - d)), (0, .int p9), (1, .int q9), (2, .int d)]) hx hb dX3_isOne_3 rfl hl (by decide) rfl (fun ls hl => ?_)
  refine lv_iload_n hx hb dX3_isOne_4 rfl (lv_at hl 1 rfl) ?_
  refine lv_iconst (v := 0) hx hb dX3_isOne_5 (by decide) ?_
  refine vp_callSi (va_Run.run (va_runS (As := [.int p9, .int 0]) (rest := []) ⟨hx, hb, hml, hown, hT⟩ (mX3_axis l p9 0) (va_cwS 2 hT (ps_gS tw_ml_X3_62 tw_st_X3_axis tw_in_X3 tw_co_X3_axis) rfl rfl rfl ⟨by decide, by decide, by decide +kernel⟩ ⟨Nat.le_of_ble_eq_true rfl, Nat.le_of_ble_eq_true rfl⟩) preEq rfl rfl hl.1 rfl (lv_room (Nat.le_of_ble_eq_true rfl)) dX3_isOne_6 ⟨Nat.le_of_ble_eq_true rfl, Nat.le_of_ble_eq_true rfl⟩)) (fun r hr => ?_)
  obtain rfl : r = ps_ax p9 0 := hr
  refine lv_iload_n hx hb dX3_isOne_9 rfl (lv_at hl 0 rfl) ?_
  refine lv_ishr hx hb dX3_isOne_10 ?_
  refine lv_iload_n hx hb dX3_isOne_11 rfl (lv_at hl 2 rfl) ?_
  refine lv_iconst (v := 0) hx hb dX3_isOne_12 (by decide) ?_
  refine vp_callSi (va_Run.run (va_runS (As := [.int q9, .int 0]) (rest := [.int ((ps_ax p9 0) >>> ((4 - d) &&& 31))]) ⟨hx, hb, hml, hown, hT⟩ (mX3_axis l q9 0) (va_cwS 2 hT (ps_gS tw_ml_X3_62 tw_st_X3_axis tw_in_X3 tw_co_X3_axis) rfl rfl rfl ⟨by decide, by decide, by decide +kernel⟩ ⟨Nat.le_of_ble_eq_true rfl, Nat.le_of_ble_eq_true rfl⟩) preEq rfl rfl hl.1 rfl (lv_room (Nat.le_of_ble_eq_true rfl)) dX3_isOne_13 ⟨Nat.le_of_ble_eq_true rfl, Nat.le_of_ble_eq_true rfl⟩)) (fun r hr => ?_)
  obtain rfl : r = ps_ax q9 0 := hr
  refine lv_iload_n hx hb dX3_isOne_16 rfl (lv_at hl 0 rfl) ?_
  refine lv_ishr hx hb dX3_isOne_17 ?_
  refine lv_icmp_ne (tgt := 59) hx hb dX3_isOne_18 rfl (fun h18 => ?_) (fun h18 => ?_)
  · skip
    refine lv_iconst (v := 0) hx hb dX3_isOne_59 (by decide) ?_
    exact W.zret (v := 0) hx hb hr (rfl) (fun t ht hW => ⟨0, rfl, by first | exact ps_mo_t h18 h35 h52 | exact ps_mo_f1 h18 | exact ps_mo_f2 h35 | exact ps_mo_f3 h52, ht⟩) (fun q h => by cases h) dX3_isOne_60
  · skip
    refine lv_iload_n hx hb dX3_isOne_21 rfl (lv_at hl 1 rfl) ?_
    refine lv_iconst (v := 1) hx hb dX3_isOne_22 (by decide) ?_
    refine vp_callSi (va_Run.run (va_runS (As := [.int p9, .int 1]) (rest := []) ⟨hx, hb, hml, hown, hT⟩ (mX3_axis l p9 1) (va_cwS 2 hT (ps_gS tw_ml_X3_62 tw_st_X3_axis tw_in_X3 tw_co_X3_axis) rfl rfl rfl ⟨by decide, by decide, by decide +kernel⟩ ⟨Nat.le_of_ble_eq_true rfl, Nat.le_of_ble_eq_true rfl⟩) preEq rfl rfl hl.1 rfl (lv_room (Nat.le_of_ble_eq_true rfl)) dX3_isOne_23 ⟨Nat.le_of_ble_eq_true rfl, Nat.le_of_ble_eq_true rfl⟩)) (fun r hr => ?_)
    obtain rfl : r = ps_ax p9 1 := hr
    refine lv_iload_n hx hb dX3_isOne_26 rfl (lv_at hl 0 rfl) ?_
    refine lv_ishr hx hb dX3_isOne_27 ?_
    refine lv_iload_n hx hb dX3_isOne_28 rfl (lv_at hl 2 rfl) ?_
    refine lv_iconst (v := 1) hx hb dX3_isOne_29 (by decide) ?_
    refine vp_callSi (va_Run.run (va_runS (As := [.int q9, .int 1]) (rest := [.int ((ps_ax p9 1) >>> ((4 - d) &&& 31))]) ⟨hx, hb, hml, hown, hT⟩ (mX3_axis l q9 1) (va_cwS 2 hT (ps_gS tw_ml_X3_62 tw_st_X3_axis tw_in_X3 tw_co_X3_axis) rfl rfl rfl ⟨by decide, by decide, by decide +kernel⟩ ⟨Nat.le_of_ble_eq_true rfl, Nat.le_of_ble_eq_true rfl⟩) preEq rfl rfl hl.1 rfl (lv_room (Nat.le_of_ble_eq_true rfl)) dX3_isOne_30 ⟨Nat.le_of_ble_eq_true rfl, Nat.le_of_ble_eq_true rfl⟩)) (fun r hr => ?_)
    obtain rfl : r = ps_ax q9 1 := hr
    refine lv_iload_n hx hb dX3_isOne_33 rfl (lv_at hl 0 rfl) ?_
    refine lv_ishr hx hb dX3_isOne_34 ?_
    refine lv_icmp_ne (tgt := 59) hx hb dX3_isOne_35 rfl (fun h35 => ?_) (fun h35 => ?_)
    · skip
      refine lv_iconst (v := 0) hx hb dX3_isOne_59 (by decide) ?_
      exact W.zret (v := 0) hx hb hr (rfl) (fun t ht hW => ⟨0, rfl, by first | exact ps_mo_t h18 h35 h52 | exact ps_mo_f1 h18 | exact ps_mo_f2 h35 | exact ps_mo_f3 h52, ht⟩) (fun q h => by cases h) dX3_isOne_60
    · skip
      refine lv_iload_n hx hb dX3_isOne_38 rfl (lv_at hl 1 rfl) ?_
      refine lv_iconst (v := 2) hx hb dX3_isOne_39 (by decide) ?_
      refine vp_callSi (va_Run.run (va_runS (As := [.int p9, .int 2]) (rest := []) ⟨hx, hb, hml, hown, hT⟩ (mX3_axis l p9 2) (va_cwS 2 hT (ps_gS tw_ml_X3_62 tw_st_X3_axis tw_in_X3 tw_co_X3_axis) rfl rfl rfl ⟨by decide, by decide, by decide +kernel⟩ ⟨Nat.le_of_ble_eq_true rfl, Nat.le_of_ble_eq_true rfl⟩) preEq rfl rfl hl.1 rfl (lv_room (Nat.le_of_ble_eq_true rfl)) dX3_isOne_40 ⟨Nat.le_of_ble_eq_true rfl, Nat.le_of_ble_eq_true rfl⟩)) (fun r hr => ?_)
      obtain rfl : r = ps_ax p9 2 := hr
      refine lv_iload_n hx hb dX3_isOne_43 rfl (lv_at hl 0 rfl) ?_
      refine lv_ishr hx hb dX3_isOne_44 ?_
      refine lv_iload_n hx hb dX3_isOne_45 rfl (lv_at hl 2 rfl) ?_
      refine lv_iconst (v := 2) hx hb dX3_isOne_46 (by decide) ?_
      refine vp_callSi (va_Run.run (va_runS (As := [.int q9, .int 2]) (rest := [.int ((ps_ax p9 2) >>> ((4 - d) &&& 31))]) ⟨hx, hb, hml, hown, hT⟩ (mX3_axis l q9 2) (va_cwS 2 hT (ps_gS tw_ml_X3_62 tw_st_X3_axis tw_in_X3 tw_co_X3_axis) rfl rfl rfl ⟨by decide, by decide, by decide +kernel⟩ ⟨Nat.le_of_ble_eq_true rfl, Nat.le_of_ble_eq_true rfl⟩) preEq rfl rfl hl.1 rfl (lv_room (Nat.le_of_ble_eq_true rfl)) dX3_isOne_47 ⟨Nat.le_of_ble_eq_true rfl, Nat.le_of_ble_eq_true rfl⟩)) (fun r hr => ?_)
      obtain rfl : r = ps_ax q9 2 := hr
      refine lv_iload_n hx hb dX3_isOne_50 rfl (lv_at hl 0 rfl) ?_
      refine lv_ishr hx hb dX3_isOne_51 ?_
      refine lv_icmp_ne (tgt := 59) hx hb dX3_isOne_52 rfl (fun h52 => ?_) (fun h52 => ?_)
      · skip
        refine lv_iconst (v := 0) hx hb dX3_isOne_59 (by decide) ?_
        exact W.zret (v := 0) hx hb hr (rfl) (fun t ht hW => ⟨0, rfl, by first | exact ps_mo_t h18 h35 h52 | exact ps_mo_f1 h18 | exact ps_mo_f2 h35 | exact ps_mo_f3 h52, ht⟩) (fun q h => by cases h) dX3_isOne_60
      · skip
        refine lv_iconst (v := 1) hx hb dX3_isOne_55 (by decide) ?_
        refine lv_goto (tgt := 60) hx hb dX3_isOne_56 rfl ?_
        exact W.zret (v := 1) hx hb hr (rfl) (fun t ht hW => ⟨1, rfl, by first | exact ps_mo_t h18 h35 h52 | exact ps_mo_f1 h18 | exact ps_mo_f2 h35 | exact ps_mo_f3 h52, ht⟩) (fun q h => by cases h) dX3_isOne_60
set_option maxHeartbeats 4000000 in
set_option maxRecDepth 100000 in
theorem mX3_between (l : Launch) (v x y : Int32) : Met l yX3_between (.code yX3_between cX3_between 3 (some .boolean) :: ps_T) ({ frames := 0, cells := 0, slots := 0, locals := 0 }) (fun av _ => av = ([.int v, .int x, .int y] : List Value).toArray) (vp_Si (fun r => r = ps_bi (ps_bw v x y))) 0 0 (fun _ => False) := by
  refine Met.ofW (cc := cX3_between) (maxL := 3) (ret := (some .boolean)) (by decide) rfl ?_
  intro p e s m args below meth c s₁ B hml hv
  subst hv
  have hx := B.exec
  have hb := B.bytes
  have hr := B.returns
  have hlocks := B.notSynchronized
  have hT : ∀ w ∈ ps_T, w.before ([.int v, .int x, .int y] : List Value).toArray s = true := fun w h => atoms_spec (ws := (.code yX3_between cX3_between 3 (some .boolean) :: ps_T)) B.pre w (List.mem_cons_of_mem _ h)
  have hown : s.vm.findClass RX3 = some m.cls := findClass_of_methodNamed B.named
  have hl := lv_entry ([.int v, .int x, .int y]) (n := 3) (Nat.le_of_ble_eq_true rfl)
  rw [lg_entry_eq]
  generalize (lg_sl ([.int v, .int x, .int y]) ++ List.replicate (3 - (lg_sl ([.int v, .int x, .int y])).length) Slot.unset).toArray = ls at hl ⊢
  have hl : lv_has ls 3 [(0, .int v), (1, .int x), (2, .int y)] := hl
  refine lv_iload_n hx hb dX3_between_0 rfl (lv_at hl 1 rfl) ?_
  refine lv_iload_n hx hb dX3_between_1 rfl (lv_at hl 2 rfl) ?_
  refine lv_icmp_gt (tgt := 23) hx hb dX3_between_2 rfl (fun h2 => ?_) (fun h2 => ?_)
  · skip
    have h2n : ¬ x ≤ y := Int32.not_le.mpr h2
    refine lv_iload_n hx hb dX3_between_23 rfl (lv_at hl 0 rfl) ?_
    refine lv_iload_n hx hb dX3_between_24 rfl (lv_at hl 2 rfl) ?_
    refine lv_icmp_lt (tgt := 37) hx hb dX3_between_25 rfl (fun h25 => ?_) (fun h25 => ?_)
    · skip
      refine lv_iconst (v := 0) hx hb dX3_between_37 (by decide) ?_
      exact W.zret (v := 0) hx hb hr (rfl) (fun t ht hW => ⟨0, rfl, by simp only [ps_bw, h2n, if_true, if_false]; clear h2 h2n; simp_all [ps_bi], ht⟩) (fun q h => by cases h) dX3_between_38
    · skip
      refine lv_iload_n hx hb dX3_between_28 rfl (lv_at hl 0 rfl) ?_
      refine lv_iload_n hx hb dX3_between_29 rfl (lv_at hl 1 rfl) ?_
      refine lv_icmp_gt (tgt := 37) hx hb dX3_between_30 rfl (fun h30 => ?_) (fun h30 => ?_)
      · skip
        refine lv_iconst (v := 0) hx hb dX3_between_37 (by decide) ?_
        exact W.zret (v := 0) hx hb hr (rfl) (fun t ht hW => ⟨0, rfl, by simp only [ps_bw, h2n, if_true, if_false]; clear h2 h2n; simp_all [ps_bi], ht⟩) (fun q h => by cases h) dX3_between_38
      · skip
        refine lv_iconst (v := 1) hx hb dX3_between_33 (by decide) ?_
        refine lv_goto (tgt := 38) hx hb dX3_between_34 rfl ?_
        exact W.zret (v := 1) hx hb hr (rfl) (fun t ht hW => ⟨1, rfl, by simp only [ps_bw, h2n, if_true, if_false]; clear h2 h2n; simp_all [ps_bi], ht⟩) (fun q h => by cases h) dX3_between_38
  · skip
    have h2n : x ≤ y := Int32.not_lt.mp h2
    refine lv_iload_n hx hb dX3_between_5 rfl (lv_at hl 0 rfl) ?_
    refine lv_iload_n hx hb dX3_between_6 rfl (lv_at hl 1 rfl) ?_
    refine lv_icmp_lt (tgt := 19) hx hb dX3_between_7 rfl (fun h7 => ?_) (fun h7 => ?_)
    · skip
      refine lv_iconst (v := 0) hx hb dX3_between_19 (by decide) ?_
      refine lv_goto (tgt := 38) hx hb dX3_between_20 rfl ?_
      exact W.zret (v := 0) hx hb hr (rfl) (fun t ht hW => ⟨0, rfl, by simp only [ps_bw, h2n, if_true, if_false]; clear h2 h2n; simp_all [ps_bi], ht⟩) (fun q h => by cases h) dX3_between_38
    · skip
      refine lv_iload_n hx hb dX3_between_10 rfl (lv_at hl 0 rfl) ?_
      refine lv_iload_n hx hb dX3_between_11 rfl (lv_at hl 2 rfl) ?_
      refine lv_icmp_gt (tgt := 19) hx hb dX3_between_12 rfl (fun h12 => ?_) (fun h12 => ?_)
      · skip
        refine lv_iconst (v := 0) hx hb dX3_between_19 (by decide) ?_
        refine lv_goto (tgt := 38) hx hb dX3_between_20 rfl ?_
        exact W.zret (v := 0) hx hb hr (rfl) (fun t ht hW => ⟨0, rfl, by simp only [ps_bw, h2n, if_true, if_false]; clear h2 h2n; simp_all [ps_bi], ht⟩) (fun q h => by cases h) dX3_between_38
      · skip
        refine lv_iconst (v := 1) hx hb dX3_between_15 (by decide) ?_
        refine lv_goto (tgt := 38) hx hb dX3_between_16 rfl ?_
        exact W.zret (v := 1) hx hb hr (rfl) (fun t ht hW => ⟨1, rfl, by simp only [ps_bw, h2n, if_true, if_false]; clear h2 h2n; simp_all [ps_bi], ht⟩) (fun q h => by cases h) dX3_between_38
set_option maxHeartbeats 4000000 in
set_option maxRecDepth 100000 in
theorem mX3_distance (l : Launch) (p9 q9 : Int32) : Met l yX3_distance (.code yX3_distance cX3_distance 5 (some .int) :: ps_T) ({ frames := 1, cells := 0, slots := 0, locals := 21 }) (fun av _ => av = ([.int p9, .int q9] : List Value).toArray) (vp_Si (fun r => r = ps_dd p9 q9 3)) 0 0 (fun _ => False) := by
  refine Met.ofW (cc := cX3_distance) (maxL := 5) (ret := (some .int)) (by decide) rfl ?_
  intro p e s m args below meth c s₁ B hml hv
  subst hv
  have hx := B.exec
  have hb := B.bytes
  have hr := B.returns
  have hlocks := B.notSynchronized
  have hT : ∀ w ∈ ps_T, w.before ([.int p9, .int q9] : List Value).toArray s = true := fun w h => atoms_spec (ws := (.code yX3_distance cX3_distance 5 (some .int) :: ps_T)) B.pre w (List.mem_cons_of_mem _ h)
  have hown : s.vm.findClass RX3 = some m.cls := findClass_of_methodNamed B.named
  have hl := lv_entry ([.int p9, .int q9]) (n := 5) (Nat.le_of_ble_eq_true rfl)
  rw [lg_entry_eq]
  generalize (lg_sl ([.int p9, .int q9]) ++ List.replicate (5 - (lg_sl ([.int p9, .int q9])).length) Slot.unset).toArray = ls at hl ⊢
  have hl : lv_has ls 5 [(0, .int p9), (1, .int q9)] := hl
  refine lv_iconst (v := 0) hx hb dX3_distance_0 (by decide) ?_
  refine lv_istore_n (lv' := [(2, .int 0), (0, .int p9), (1, .int q9)]) hx hb dX3_distance_1 rfl hl (by decide) rfl (fun ls hl => ?_)
  refine lv_iconst (v := 0) hx hb dX3_distance_2 (by decide) ?_
  refine lv_istore_n (lv' := [(3, .int 0), (2, .int 0), (0, .int p9), (1, .int q9)]) hx hb dX3_distance_3 rfl hl (by decide) rfl (fun ls hl => ?_)
  have hl : lv_has ls 5 [(3, .int (nI 0)), (2, .int (ps_dd p9 q9 0)), (0, .int p9), (1, .int q9)] := hl
  refine ps_loopS (α := Nat) (fun k => 3 - k) (fun k ls => (k ≤ 3) ∧ lv_has ls 5 [(0, .int p9), (1, .int q9), (2, .int (ps_dd p9 q9 k)), (3, .int (nI k))]) ?_ 0 ls ⟨by omega, lv_sub hl [2, 3, 1, 0] rfl⟩
  intro k ls ih hI
  obtain ⟨hk, hl⟩ := hI
  refine lv_iload_n hx hb dX3_distance_4 rfl (lv_at hl 3 rfl) ?_
  refine lv_iconst (v := 3) hx hb dX3_distance_5 (by decide) ?_
  refine ps_icmp_ge (tgt := 36) (a := k) (b := 3) hx hb dX3_distance_6 rfl (by omega) (by omega) (fun h6 => ?_) (fun h6 => ?_)
  · skip
    refine lv_iload_n hx hb dX3_distance_36 rfl (lv_at hl 2 rfl) ?_
    exact W.iret (v := ps_dd p9 q9 k) hx hb hr (fun t ht hW => ⟨ps_dd p9 q9 k, rfl, by rw [show k = 3 by omega], ht⟩) (fun q h => by cases h) dX3_distance_37
  · skip
    refine lv_iload_n hx hb dX3_distance_9 rfl (lv_at hl 0 rfl) ?_
    refine lv_iload_n hx hb dX3_distance_10 rfl (lv_at hl 3 rfl) ?_
    refine vp_callSi (va_Run.run (va_runS (As := [.int p9, .int (nI k)]) (rest := []) ⟨hx, hb, hml, hown, hT⟩ (mX3_axis l p9 (nI k)) (va_cwS 2 hT (ps_gS tw_ml_X3_62 tw_st_X3_axis tw_in_X3 tw_co_X3_axis) rfl rfl rfl ⟨by decide, by decide, by decide +kernel⟩ ⟨Nat.le_of_ble_eq_true rfl, Nat.le_of_ble_eq_true rfl⟩) preEq rfl rfl hl.1 rfl (lv_room (Nat.le_of_ble_eq_true rfl)) dX3_distance_11 ⟨Nat.le_of_ble_eq_true rfl, Nat.le_of_ble_eq_true rfl⟩)) (fun r hr => ?_)
    obtain rfl : r = ps_ax p9 (nI k) := hr
    refine lv_iload_n hx hb dX3_distance_14 rfl (lv_at hl 1 rfl) ?_
    refine lv_iload_n hx hb dX3_distance_15 rfl (lv_at hl 3 rfl) ?_
    refine vp_callSi (va_Run.run (va_runS (As := [.int q9, .int (nI k)]) (rest := [.int (ps_ax p9 (nI k))]) ⟨hx, hb, hml, hown, hT⟩ (mX3_axis l q9 (nI k)) (va_cwS 2 hT (ps_gS tw_ml_X3_62 tw_st_X3_axis tw_in_X3 tw_co_X3_axis) rfl rfl rfl ⟨by decide, by decide, by decide +kernel⟩ ⟨Nat.le_of_ble_eq_true rfl, Nat.le_of_ble_eq_true rfl⟩) preEq rfl rfl hl.1 rfl (lv_room (Nat.le_of_ble_eq_true rfl)) dX3_distance_16 ⟨Nat.le_of_ble_eq_true rfl, Nat.le_of_ble_eq_true rfl⟩)) (fun r hr => ?_)
    obtain rfl : r = ps_ax q9 (nI k) := hr
    refine lv_isub hx hb dX3_distance_19 ?_
    refine lv_istore (lv' := [(4, .int ((ps_ax p9 (nI k)) - (ps_ax q9 (nI k)))), (0, .int p9), (1, .int q9), (2, .int (ps_dd p9 q9 k)), (3, .int (nI k))]) hx hb dX3_distance_20 hl (by decide) rfl (fun ls hl => ?_)
    refine lv_iload_n hx hb dX3_distance_22 rfl (lv_at hl 3 rfl) ?_
    refine lv_iload hx hb dX3_distance_23 (lv_at hl 0 rfl) ?_
    refine lv_iload hx hb dX3_distance_25 (lv_at hl 0 rfl) ?_
    refine lv_imul hx hb dX3_distance_27 ?_
    refine lv_iadd hx hb dX3_distance_28 ?_
    refine lv_istore_n (lv' := [(2, .int ((ps_dd p9 q9 k) + (((ps_ax p9 (nI k)) - (ps_ax q9 (nI k))) * ((ps_ax p9 (nI k)) - (ps_ax q9 (nI k)))))), (4, .int ((ps_ax p9 (nI k)) - (ps_ax q9 (nI k)))), (0, .int p9), (1, .int q9), (3, .int (nI k))]) hx hb dX3_distance_29 rfl hl (by decide) rfl (fun ls hl => ?_)
    refine lv_iinc (k := 4) (v := nI (k + 1)) (lv' := [(3, .int (nI (k + 1))), (2, .int ((ps_dd p9 q9 k) + (((ps_ax p9 (nI k)) - (ps_ax q9 (nI k))) * ((ps_ax p9 (nI k)) - (ps_ax q9 (nI k)))))), (4, .int ((ps_ax p9 (nI k)) - (ps_ax q9 (nI k)))), (0, .int p9), (1, .int q9)]) hx hb dX3_distance_30 hl rfl (ps_inc _) (by decide) rfl (fun ls hl => ?_)
    refine lv_goto (tgt := 4) hx hb dX3_distance_33 rfl ?_
    exact ih ((k + 1)) ls (by omega) ⟨by omega, lv_sub hl [3, 4, 1, 0] rfl⟩
set_option maxHeartbeats 4000000 in
set_option maxRecDepth 100000 in
theorem mX3_pagesFor (l : Launch) (c9 : Nat) (hc9 : c9 < 1000) : Met l yX3_pagesFor (.code yX3_pagesFor cX3_pagesFor 1 (some .int) :: ps_T) ({ frames := 0, cells := 0, slots := 0, locals := 0 }) (fun av _ => av = ([.int (nI c9)] : List Value).toArray) (vp_Si (fun r => r = nI ((c9 + 5) / 6))) 0 0 (fun _ => False) := by
  refine Met.ofW (cc := cX3_pagesFor) (maxL := 1) (ret := (some .int)) (by decide) rfl ?_
  intro p e s m args below meth c s₁ B hml hv
  subst hv
  have hx := B.exec
  have hb := B.bytes
  have hr := B.returns
  have hlocks := B.notSynchronized
  have hT : ∀ w ∈ ps_T, w.before ([.int (nI c9)] : List Value).toArray s = true := fun w h => atoms_spec (ws := (.code yX3_pagesFor cX3_pagesFor 1 (some .int) :: ps_T)) B.pre w (List.mem_cons_of_mem _ h)
  have hown : s.vm.findClass RX3 = some m.cls := findClass_of_methodNamed B.named
  have hl := lv_entry ([.int (nI c9)]) (n := 1) (Nat.le_of_ble_eq_true rfl)
  rw [lg_entry_eq]
  generalize (lg_sl ([.int (nI c9)]) ++ List.replicate (1 - (lg_sl ([.int (nI c9)])).length) Slot.unset).toArray = ls at hl ⊢
  have hl : lv_has ls 1 [(0, .int (nI c9))] := hl
  refine lv_iload_n hx hb dX3_pagesFor_0 rfl (lv_at hl 0 rfl) ?_
  refine lv_iconst (v := 5) hx hb dX3_pagesFor_1 (by decide) ?_
  refine lv_iadd hx hb dX3_pagesFor_2 ?_
  refine lv_bipush (v := 6) hx hb dX3_pagesFor_3 (by decide) ?_
  refine lv_idiv hx hb dX3_pagesFor_5 (by decide) ?_
  exact W.iret (v := ((nI c9) + 5) / 6) hx hb hr (fun t ht hW => ⟨((nI c9) + 5) / 6, rfl, ps_pf hc9, ht⟩) (fun q h => by cases h) dX3_pagesFor_6
set_option maxHeartbeats 4000000 in
set_option maxRecDepth 100000 in
theorem mX3_thrown (l : Launch) (dC : Nat → ClassId) (dI : Nat → Nat → Nat) (cI cZ : ClassId) (w0 : Nat) (b0 : Nat → Nat) (th : Int32) (mn kn : Nat) (co : Int32) (ln : Nat) (wr lt : Int32) (f : ps_G) : Met l yX3_thrown (.code yX3_thrown cX3_thrown 1 (some .int) :: ps_T) ({ frames := 0, cells := 0, slots := 0, locals := 0 }) (ps_pc (dC, dI) (ps_ty cI cZ) (ps_mdW cI cZ w0 b0 th mn kn co ln wr lt f) [.ref w0]) (vp_Si (fun r => r = th)) 0 0 (fun _ => False) := by
  refine Met.ofW (cc := cX3_thrown) (maxL := 1) (ret := (some .int)) (by decide) rfl ?_
  intro p e s m args below meth c s₁ B hml hv
  obtain ⟨rfl, hN, hP, hK⟩ := hv
  have hx := B.exec
  have hb := B.bytes
  have hr := B.returns
  have hlocks := B.notSynchronized
  have hT : ∀ w ∈ ps_T, w.before ([.ref w0] : List Value).toArray s = true := fun w h => atoms_spec (ws := (.code yX3_thrown cX3_thrown 1 (some .int) :: ps_T)) B.pre w (List.mem_cons_of_mem _ h)
  have hown : s.vm.findClass RX3 = some m.cls := findClass_of_methodNamed B.named
  have hl := lv_entry ([.ref w0]) (n := 1) (Nat.le_of_ble_eq_true rfl)
  rw [lg_entry_eq]
  generalize (lg_sl ([.ref w0]) ++ List.replicate (1 - (lg_sl ([.ref w0])).length) Slot.unset).toArray = ls at hl ⊢
  have hl : lv_has ls 1 [(0, .ref w0)] := hl
  refine lv_aload_n hx hb dX3_thrown_0 rfl (lv_at hl 0 rfl) ?_
  refine va_get (D := (dC, dI)) (ci := 3) (v := .int th) (C := RX3) (T := TX3) (N := 17) hx hb hT inX3 hown hK hP 0 rfl rfl 0 (by decide) (hT _ tw_fl_X3_45) (fun _ h9 => h9) rfl dX3_thrown_1 ?_
  exact W.iret (v := th) hx hb hr (fun t ht hW => ⟨th, rfl, rfl, ht⟩) (fun q h => by cases h) dX3_thrown_4
set_option maxHeartbeats 4000000 in
set_option maxRecDepth 100000 in
theorem mX3_find (l : Launch) (dC : Nat → ClassId) (dI : Nat → Nat → Nat) (cI cZ : ClassId) (w0 : Nat) (b0 : Nat → Nat) (th : Int32) (mn kn : Nat) (co : Int32) (ln : Nat) (wr lt : Int32) (f : ps_G) (hmn : mn ≤ 48) (v : Int32) : Met l yX3_find (.code yX3_find cX3_find 4 (some .int) :: ps_T) ({ frames := 0, cells := 0, slots := 0, locals := 0 }) (ps_pc (dC, dI) (ps_ty cI cZ) (ps_mdW cI cZ w0 b0 th mn kn co ln wr lt f) [.ref w0, .int v]) (vp_Si (fun r => r = ps_fr (ps_fl (f 0) v mn))) 0 0 (fun _ => False) := by
  refine Met.ofW (cc := cX3_find) (maxL := 4) (ret := (some .int)) (by decide) rfl ?_
  intro p e s m args below meth c s₁ B hml hv
  obtain ⟨rfl, hN, hP, hK⟩ := hv
  have hx := B.exec
  have hb := B.bytes
  have hr := B.returns
  have hlocks := B.notSynchronized
  have hT : ∀ w ∈ ps_T, w.before ([.ref w0, .int v] : List Value).toArray s = true := fun w h => atoms_spec (ws := (.code yX3_find cX3_find 4 (some .int) :: ps_T)) B.pre w (List.mem_cons_of_mem _ h)
  have hown : s.vm.findClass RX3 = some m.cls := findClass_of_methodNamed B.named
  have hl := lv_entry ([.ref w0, .int v]) (n := 4) (Nat.le_of_ble_eq_true rfl)
  rw [lg_entry_eq]
  generalize (lg_sl ([.ref w0, .int v]) ++ List.replicate (4 - (lg_sl ([.ref w0, .int v])).length) Slot.unset).toArray = ls at hl ⊢
  have hl : lv_has ls 4 [(0, .ref w0), (1, .int v)] := hl
  refine lv_iconst (v := (-1)) hx hb dX3_find_0 (by decide) ?_
  refine lv_istore_n (lv' := [(2, .int ((-1))), (0, .ref w0), (1, .int v)]) hx hb dX3_find_1 rfl hl (by decide) rfl (fun ls hl => ?_)
  refine lv_iconst (v := 0) hx hb dX3_find_2 (by decide) ?_
  refine lv_istore_n (lv' := [(3, .int 0), (2, .int ((-1))), (0, .ref w0), (1, .int v)]) hx hb dX3_find_3 rfl hl (by decide) rfl (fun ls hl => ?_)
  have hl : lv_has ls 4 [(3, .int (nI 0)), (2, .int (ps_fr (ps_fl (f 0) v 0))), (0, .ref w0), (1, .int v)] := hl
  refine ps_loopS (α := Nat) (fun k => mn - k) (fun k ls => (k ≤ mn) ∧ lv_has ls 4 [(0, .ref w0), (1, .int v), (2, .int (ps_fr (ps_fl (f 0) v k))), (3, .int (nI k))]) ?_ 0 ls ⟨by omega, lv_sub hl [2, 3, 1, 0] rfl⟩
  intro k ls ih hI
  obtain ⟨hk, hl⟩ := hI
  refine lv_iload_n hx hb dX3_find_4 rfl (lv_at hl 3 rfl) ?_
  refine lv_aload_n hx hb dX3_find_5 rfl (lv_at hl 0 rfl) ?_
  refine va_get (D := (dC, dI)) (ci := 3) (v := .int (nI mn)) (C := RX3) (T := TX3) (N := 17) hx hb hT inX3 hown hK hP 0 rfl rfl 1 (by decide) (hT _ tw_fl_X3_59) (fun _ h9 => h9) rfl dX3_find_6 ?_
  refine ps_icmp_ge (tgt := 34) (a := k) (b := mn) hx hb dX3_find_9 rfl (by omega) (by omega) (fun h9 => ?_) (fun h9 => ?_)
  · skip
    refine lv_iload_n hx hb dX3_find_34 rfl (lv_at hl 2 rfl) ?_
    exact W.iret (v := ps_fr (ps_fl (f 0) v k)) hx hb hr (fun t ht hW => ⟨ps_fr (ps_fl (f 0) v k), rfl, by rw [show k = mn by omega], ht⟩) (fun q h => by cases h) dX3_find_35
  · skip
    refine lv_aload_n hx hb dX3_find_12 rfl (lv_at hl 0 rfl) ?_
    refine va_get (D := (dC, dI)) (ci := 3) (v := .ref (b0 0)) (C := RX3) (T := TX3) (N := 17) hx hb hT inX3 hown hK hP 0 rfl rfl 2 (by decide) (hT _ tw_fl_X3_7) (fun _ h9 => h9) rfl dX3_find_13 ?_
    refine lv_iload_n hx hb dX3_find_16 rfl (lv_at hl 3 rfl) ?_
    refine ps_iald (k := k) (f := f 0) hx hb hK hP 1 0 rfl rfl (by omega) (by decide) dX3_find_17 ?_
    refine lv_iload_n hx hb dX3_find_18 rfl (lv_at hl 1 rfl) ?_
    refine lv_icmp_ne (tgt := 26) hx hb dX3_find_19 rfl (fun h19 => ?_) (fun h19 => ?_)
    · skip
      refine lv_iload_n hx hb dX3_find_26 rfl (lv_at hl 2 rfl) ?_
      refine lv_topi (fun y9 hy9 => ?_)
      obtain rfl : y9 = ps_fr (ps_fl (f 0) v (k + 1)) := hy9.trans (ps_fr_eq (ps_fl_f h19))
      refine lv_istore_n (lv' := [(2, .int (ps_fr (ps_fl (f 0) v (k + 1)))), (0, .ref w0), (1, .int v), (3, .int (nI k))]) hx hb dX3_find_27 rfl hl (by decide) rfl (fun ls hl => ?_)
      refine lv_iinc (k := 3) (v := nI (k + 1)) (lv' := [(3, .int (nI (k + 1))), (2, .int (ps_fr (ps_fl (f 0) v (k + 1)))), (0, .ref w0), (1, .int v)]) hx hb dX3_find_28 hl rfl (ps_inc _) (by decide) rfl (fun ls hl => ?_)
      refine lv_goto (tgt := 4) hx hb dX3_find_31 rfl ?_
      exact ih ((k + 1)) ls (by omega) ⟨by omega, lv_sub hl [2, 3, 1, 0] rfl⟩
    · skip
      refine lv_iload_n hx hb dX3_find_22 rfl (lv_at hl 3 rfl) ?_
      refine lv_topi (fun y9 hy9 => ?_)
      obtain rfl : y9 = ps_fr (ps_fl (f 0) v (k + 1)) := hy9.trans (ps_fr_some (ps_fl_t h19))
      refine lv_goto (tgt := 27) hx hb dX3_find_23 rfl ?_
      refine lv_istore_n (lv' := [(2, .int (ps_fr (ps_fl (f 0) v (k + 1)))), (0, .ref w0), (1, .int v), (3, .int (nI k))]) hx hb dX3_find_27 rfl hl (by decide) rfl (fun ls hl => ?_)
      refine lv_iinc (k := 3) (v := nI (k + 1)) (lv' := [(3, .int (nI (k + 1))), (2, .int (ps_fr (ps_fl (f 0) v (k + 1)))), (0, .ref w0), (1, .int v)]) hx hb dX3_find_28 hl rfl (ps_inc _) (by decide) rfl (fun ls hl => ?_)
      refine lv_goto (tgt := 4) hx hb dX3_find_31 rfl ?_
      exact ih ((k + 1)) ls (by omega) ⟨by omega, lv_sub hl [2, 3, 1, 0] rfl⟩
set_option maxHeartbeats 4000000 in
set_option maxRecDepth 100000 in
theorem mX3_keeps (l : Launch) (dC : Nat → ClassId) (dI : Nat → Nat → Nat) (cI cZ : ClassId) (w0 : Nat) (b0 : Nat → Nat) (th : Int32) (mn kn : Nat) (co : Int32) (ln : Nat) (wr lt : Int32) (f : ps_G) (hmn : mn ≤ 48) (p9 d : Int32) : Met l yX3_keeps (.code yX3_keeps cX3_keeps 5 (some .int) :: ps_T) ({ frames := 2, cells := 0, slots := 0, locals := 44 }) (ps_pc (dC, dI) (ps_ty cI cZ) (ps_mdW cI cZ w0 b0 th mn kn co ln wr lt f) [.ref w0, .int p9, .int d]) (vp_Si (fun r => r = nI (ps_cn (ps_kp f p9 d) mn))) 0 0 (fun _ => False) := by
  refine Met.ofW (cc := cX3_keeps) (maxL := 5) (ret := (some .int)) (by decide) rfl ?_
  intro p e s m args below meth c s₁ B hml hv
  obtain ⟨rfl, hN, hP, hK⟩ := hv
  have hx := B.exec
  have hb := B.bytes
  have hr := B.returns
  have hlocks := B.notSynchronized
  have hT : ∀ w ∈ ps_T, w.before ([.ref w0, .int p9, .int d] : List Value).toArray s = true := fun w h => atoms_spec (ws := (.code yX3_keeps cX3_keeps 5 (some .int) :: ps_T)) B.pre w (List.mem_cons_of_mem _ h)
  have hown : s.vm.findClass RX3 = some m.cls := findClass_of_methodNamed B.named
  have hl := lv_entry ([.ref w0, .int p9, .int d]) (n := 5) (Nat.le_of_ble_eq_true rfl)
  rw [lg_entry_eq]
  generalize (lg_sl ([.ref w0, .int p9, .int d]) ++ List.replicate (5 - (lg_sl ([.ref w0, .int p9, .int d])).length) Slot.unset).toArray = ls at hl ⊢
  have hl : lv_has ls 5 [(0, .ref w0), (1, .int p9), (2, .int d)] := hl
  refine lv_iconst (v := 0) hx hb dX3_keeps_0 (by decide) ?_
  refine lv_istore_n (lv' := [(3, .int 0), (0, .ref w0), (1, .int p9), (2, .int d)]) hx hb dX3_keeps_1 rfl hl (by decide) rfl (fun ls hl => ?_)
  refine lv_iconst (v := 0) hx hb dX3_keeps_2 (by decide) ?_
  refine lv_istore (lv' := [(4, .int 0), (3, .int 0), (0, .ref w0), (1, .int p9), (2, .int d)]) hx hb dX3_keeps_3 hl (by decide) rfl (fun ls hl => ?_)
  have hl : lv_has ls 5 [(4, .int (nI 0)), (3, .int (nI (ps_cn (ps_kp f p9 d) 0))), (0, .ref w0), (1, .int p9), (2, .int d)] := hl
  refine ps_loopS (α := Nat) (fun k => mn - k) (fun k ls => (k ≤ mn) ∧ lv_has ls 5 [(0, .ref w0), (1, .int p9), (2, .int d), (3, .int (nI (ps_cn (ps_kp f p9 d) k))), (4, .int (nI k))]) ?_ 0 ls ⟨by omega, lv_sub hl [2, 3, 4, 1, 0] rfl⟩
  intro k ls ih hI
  obtain ⟨hk, hl⟩ := hI
  refine lv_iload hx hb dX3_keeps_5 (lv_at hl 4 rfl) ?_
  refine lv_aload_n hx hb dX3_keeps_7 rfl (lv_at hl 0 rfl) ?_
  refine va_get (D := (dC, dI)) (ci := 3) (v := .int (nI mn)) (C := RX3) (T := TX3) (N := 17) hx hb hT inX3 hown hK hP 0 rfl rfl 1 (by decide) (hT _ tw_fl_X3_59) (fun _ h9 => h9) rfl dX3_keeps_8 ?_
  refine ps_icmp_ge (tgt := 64) (a := k) (b := mn) hx hb dX3_keeps_11 rfl (by omega) (by omega) (fun h11 => ?_) (fun h11 => ?_)
  · skip
    refine lv_iload_n hx hb dX3_keeps_64 rfl (lv_at hl 3 rfl) ?_
    exact W.iret (v := nI (ps_cn (ps_kp f p9 d) k)) hx hb hr (fun t ht hW => ⟨nI (ps_cn (ps_kp f p9 d) k), rfl, by rw [show k = mn by omega], ht⟩) (fun q h => by cases h) dX3_keeps_65
  · skip
    refine lv_aload_n hx hb dX3_keeps_14 rfl (lv_at hl 0 rfl) ?_
    refine va_get (D := (dC, dI)) (ci := 3) (v := .ref (b0 8)) (C := RX3) (T := TX3) (N := 17) hx hb hT inX3 hown hK hP 0 rfl rfl 11 (by decide) (hT _ tw_fl_X3_34) (fun _ h9 => h9) rfl dX3_keeps_15 ?_
    refine lv_iload hx hb dX3_keeps_18 (lv_at hl 4 rfl) ?_
    refine ps_zald (k := k) (f := f 8) hx hb hK hP 9 1 rfl rfl (by omega) (by decide) dX3_keeps_20 ?_
    refine lv_if_eq (tgt := 56) hx hb dX3_keeps_21 rfl (fun h21 => ?_) (fun h21 => ?_)
    · skip
      have hc : ps_kp f p9 d k = false := by simp [ps_kp, h21]
      refine lv_iload_n hx hb dX3_keeps_56 rfl (lv_at hl 3 rfl) ?_
      refine lv_istore_n (lv' := [(3, .int (nI (ps_cn (ps_kp f p9 d) k))), (0, .ref w0), (1, .int p9), (2, .int d), (4, .int (nI k))]) hx hb dX3_keeps_57 rfl hl (by decide) rfl (fun ls hl => ?_)
      refine lv_iinc (k := 4) (v := nI (k + 1)) (lv' := [(4, .int (nI (k + 1))), (3, .int (nI (ps_cn (ps_kp f p9 d) k))), (0, .ref w0), (1, .int p9), (2, .int d)]) hx hb dX3_keeps_58 hl rfl (ps_inc _) (by decide) rfl (fun ls hl => ?_)
      refine lv_goto (tgt := 5) hx hb dX3_keeps_61 rfl ?_
      first | rw [← ps_cnT hc] at hl | rw [← ps_cnF hc] at hl
      exact ih ((k + 1)) ls (by omega) ⟨by omega, lv_sub hl [2, 3, 4, 1, 0] rfl⟩
    · skip
      refine lv_aload_n hx hb dX3_keeps_24 rfl (lv_at hl 0 rfl) ?_
      refine va_get (D := (dC, dI)) (ci := 3) (v := .ref (b0 3)) (C := RX3) (T := TX3) (N := 17) hx hb hT inX3 hown hK hP 0 rfl rfl 5 (by decide) (hT _ tw_fl_X3_19) (fun _ h9 => h9) rfl dX3_keeps_25 ?_
      refine lv_iload hx hb dX3_keeps_28 (lv_at hl 4 rfl) ?_
      refine ps_iald (k := k) (f := f 3) hx hb hK hP 4 0 rfl rfl (by omega) (by decide) dX3_keeps_30 ?_
      refine lv_iload_n hx hb dX3_keeps_31 rfl (lv_at hl 2 rfl) ?_
      refine lv_icmp_ne (tgt := 56) hx hb dX3_keeps_32 rfl (fun h32 => ?_) (fun h32 => ?_)
      · skip
        have hc : ps_kp f p9 d k = false := by simp [ps_kp, h32]
        refine lv_iload_n hx hb dX3_keeps_56 rfl (lv_at hl 3 rfl) ?_
        refine lv_istore_n (lv' := [(3, .int (nI (ps_cn (ps_kp f p9 d) k))), (0, .ref w0), (1, .int p9), (2, .int d), (4, .int (nI k))]) hx hb dX3_keeps_57 rfl hl (by decide) rfl (fun ls hl => ?_)
        refine lv_iinc (k := 4) (v := nI (k + 1)) (lv' := [(4, .int (nI (k + 1))), (3, .int (nI (ps_cn (ps_kp f p9 d) k))), (0, .ref w0), (1, .int p9), (2, .int d)]) hx hb dX3_keeps_58 hl rfl (ps_inc _) (by decide) rfl (fun ls hl => ?_)
        refine lv_goto (tgt := 5) hx hb dX3_keeps_61 rfl ?_
        first | rw [← ps_cnT hc] at hl | rw [← ps_cnF hc] at hl
        exact ih ((k + 1)) ls (by omega) ⟨by omega, lv_sub hl [2, 3, 4, 1, 0] rfl⟩
      · skip
        refine lv_aload_n hx hb dX3_keeps_35 rfl (lv_at hl 0 rfl) ?_
        refine va_get (D := (dC, dI)) (ci := 3) (v := .ref (b0 1)) (C := RX3) (T := TX3) (N := 17) hx hb hT inX3 hown hK hP 0 rfl rfl 3 (by decide) (hT _ tw_fl_X3_13) (fun _ h9 => h9) rfl dX3_keeps_36 ?_
        refine lv_iload hx hb dX3_keeps_39 (lv_at hl 4 rfl) ?_
        refine ps_iald (k := k) (f := f 1) hx hb hK hP 2 0 rfl rfl (by omega) (by decide) dX3_keeps_41 ?_
        refine lv_iload_n hx hb dX3_keeps_42 rfl (lv_at hl 1 rfl) ?_
        refine lv_iload_n hx hb dX3_keeps_43 rfl (lv_at hl 2 rfl) ?_
        refine vp_callSi (va_Run.run (va_runS (As := [.int (f 1 k), .int p9, .int d]) (rest := []) ⟨hx, hb, hml, hown, hT⟩ (mX3_isOne l (f 1 k) p9 d) (va_cwS 3 hT (ps_gS tw_ml_X3_66 tw_st_X3_isOne tw_in_X3 tw_co_X3_isOne) rfl rfl rfl ⟨by decide, by decide, by decide +kernel⟩ ⟨Nat.le_of_ble_eq_true rfl, Nat.le_of_ble_eq_true rfl⟩) preEq rfl rfl hl.1 rfl (lv_room (Nat.le_of_ble_eq_true rfl)) dX3_keeps_44 ⟨Nat.le_of_ble_eq_true rfl, Nat.le_of_ble_eq_true rfl⟩)) (fun r hr => ?_)
        obtain rfl : r = ps_bi (ps_mo (f 1 k) p9 d) := hr
        refine ps_ifb_eq (tgt := 56) hx hb dX3_keeps_47 rfl (fun h47 => ?_) (fun h47 => ?_)
        · skip
          have hc : ps_kp f p9 d k = false := by simp [ps_kp, h47]
          refine lv_iload_n hx hb dX3_keeps_56 rfl (lv_at hl 3 rfl) ?_
          refine lv_istore_n (lv' := [(3, .int (nI (ps_cn (ps_kp f p9 d) k))), (0, .ref w0), (1, .int p9), (2, .int d), (4, .int (nI k))]) hx hb dX3_keeps_57 rfl hl (by decide) rfl (fun ls hl => ?_)
          refine lv_iinc (k := 4) (v := nI (k + 1)) (lv' := [(4, .int (nI (k + 1))), (3, .int (nI (ps_cn (ps_kp f p9 d) k))), (0, .ref w0), (1, .int p9), (2, .int d)]) hx hb dX3_keeps_58 hl rfl (ps_inc _) (by decide) rfl (fun ls hl => ?_)
          refine lv_goto (tgt := 5) hx hb dX3_keeps_61 rfl ?_
          first | rw [← ps_cnT hc] at hl | rw [← ps_cnF hc] at hl
          exact ih ((k + 1)) ls (by omega) ⟨by omega, lv_sub hl [2, 3, 4, 1, 0] rfl⟩
        · skip
          have hc : ps_kp f p9 d k = true := by simp [ps_kp, h21, h32, h47]
          refine lv_iload_n hx hb dX3_keeps_50 rfl (lv_at hl 3 rfl) ?_
          refine lv_iconst (v := 1) hx hb dX3_keeps_51 (by decide) ?_
          refine lv_iadd hx hb dX3_keeps_52 ?_
          rw [nI_1]
          refine lv_goto (tgt := 57) hx hb dX3_keeps_53 rfl ?_
          refine lv_istore_n (lv' := [(3, .int (nI ((ps_cn (ps_kp f p9 d) k) + 1))), (0, .ref w0), (1, .int p9), (2, .int d), (4, .int (nI k))]) hx hb dX3_keeps_57 rfl hl (by decide) rfl (fun ls hl => ?_)
          refine lv_iinc (k := 4) (v := nI (k + 1)) (lv' := [(4, .int (nI (k + 1))), (3, .int (nI ((ps_cn (ps_kp f p9 d) k) + 1))), (0, .ref w0), (1, .int p9), (2, .int d)]) hx hb dX3_keeps_58 hl rfl (ps_inc _) (by decide) rfl (fun ls hl => ?_)
          refine lv_goto (tgt := 5) hx hb dX3_keeps_61 rfl ?_
          first | rw [← ps_cnT hc] at hl | rw [← ps_cnF hc] at hl
          exact ih ((k + 1)) ls (by omega) ⟨by omega, lv_sub hl [2, 3, 4, 1, 0] rfl⟩
set_option maxHeartbeats 4000000 in
set_option maxRecDepth 100000 in
theorem mX3_greatest (l : Launch) (dC : Nat → ClassId) (dI : Nat → Nat → Nat) (cI cZ : ClassId) (w0 : Nat) (b0 : Nat → Nat) (th : Int32) (mn kn : Nat) (co : Int32) (ln : Nat) (wr lt : Int32) (f : ps_G) (hmn : mn ≤ 48) : Met l yX3_greatest (.code yX3_greatest cX3_greatest 3 (some .int) :: ps_T) ({ frames := 1, cells := 0, slots := 0, locals := 22 }) (ps_pc (dC, dI) (ps_ty cI cZ) (ps_mdW cI cZ w0 b0 th mn kn co ln wr lt f) [.ref w0]) (vp_Si (fun r => r = ps_fr (ps_gr f mn))) 0 0 (fun _ => False) := by
  refine Met.ofW (cc := cX3_greatest) (maxL := 3) (ret := (some .int)) (by decide) rfl ?_
  intro p e s m args below meth c s₁ B hml hv
  obtain ⟨rfl, hN, hP, hK⟩ := hv
  have hx := B.exec
  have hb := B.bytes
  have hr := B.returns
  have hlocks := B.notSynchronized
  have hT : ∀ w ∈ ps_T, w.before ([.ref w0] : List Value).toArray s = true := fun w h => atoms_spec (ws := (.code yX3_greatest cX3_greatest 3 (some .int) :: ps_T)) B.pre w (List.mem_cons_of_mem _ h)
  have hown : s.vm.findClass RX3 = some m.cls := findClass_of_methodNamed B.named
  have hl := lv_entry ([.ref w0]) (n := 3) (Nat.le_of_ble_eq_true rfl)
  rw [lg_entry_eq]
  generalize (lg_sl ([.ref w0]) ++ List.replicate (3 - (lg_sl ([.ref w0])).length) Slot.unset).toArray = ls at hl ⊢
  have hl : lv_has ls 3 [(0, .ref w0)] := hl
  refine lv_iconst (v := (-1)) hx hb dX3_greatest_0 (by decide) ?_
  refine lv_istore_n (lv' := [(1, .int ((-1))), (0, .ref w0)]) hx hb dX3_greatest_1 rfl hl (by decide) rfl (fun ls hl => ?_)
  refine lv_iconst (v := 0) hx hb dX3_greatest_2 (by decide) ?_
  refine lv_istore_n (lv' := [(2, .int 0), (1, .int ((-1))), (0, .ref w0)]) hx hb dX3_greatest_3 rfl hl (by decide) rfl (fun ls hl => ?_)
  have hl : lv_has ls 3 [(2, .int (nI 0)), (1, .int (ps_fr (ps_gr f 0))), (0, .ref w0)] := hl
  refine ps_loopS (α := Nat) (fun k => mn - k) (fun k ls => (k ≤ mn) ∧ lv_has ls 3 [(0, .ref w0), (1, .int (ps_fr (ps_gr f k))), (2, .int (nI k))]) ?_ 0 ls ⟨by omega, lv_sub hl [2, 1, 0] rfl⟩
  intro k ls ih hI
  obtain ⟨hk, hl⟩ := hI
  refine lv_iload_n hx hb dX3_greatest_4 rfl (lv_at hl 2 rfl) ?_
  refine lv_aload_n hx hb dX3_greatest_5 rfl (lv_at hl 0 rfl) ?_
  refine va_get (D := (dC, dI)) (ci := 3) (v := .int (nI mn)) (C := RX3) (T := TX3) (N := 17) hx hb hT inX3 hown hK hP 0 rfl rfl 1 (by decide) (hT _ tw_fl_X3_59) (fun _ h9 => h9) rfl dX3_greatest_6 ?_
  refine ps_icmp_ge (tgt := 59) (a := k) (b := mn) hx hb dX3_greatest_9 rfl (by omega) (by omega) (fun h9 => ?_) (fun h9 => ?_)
  · skip
    refine lv_iload_n hx hb dX3_greatest_59 rfl (lv_at hl 1 rfl) ?_
    exact W.iret (v := ps_fr (ps_gr f k)) hx hb hr (fun t ht hW => ⟨ps_fr (ps_gr f k), rfl, by rw [show k = mn by omega], ht⟩) (fun q h => by cases h) dX3_greatest_60
  · skip
    refine lv_aload_n hx hb dX3_greatest_12 rfl (lv_at hl 0 rfl) ?_
    refine va_get (D := (dC, dI)) (ci := 3) (v := .ref (b0 8)) (C := RX3) (T := TX3) (N := 17) hx hb hT inX3 hown hK hP 0 rfl rfl 11 (by decide) (hT _ tw_fl_X3_34) (fun _ h9 => h9) rfl dX3_greatest_13 ?_
    refine lv_iload_n hx hb dX3_greatest_16 rfl (lv_at hl 2 rfl) ?_
    refine ps_zald (k := k) (f := f 8) hx hb hK hP 9 1 rfl rfl (by omega) (by decide) dX3_greatest_17 ?_
    refine lv_if_ne (tgt := 51) hx hb dX3_greatest_18 rfl (fun h18 => ?_) (fun h18 => ?_)
    · skip
      refine lv_iload_n hx hb dX3_greatest_51 rfl (lv_at hl 1 rfl) ?_
      refine lv_topi (fun y9 hy9 => ?_)
      obtain rfl : y9 = ps_fr (ps_gr f (k + 1)) := hy9.trans (ps_fr_eq (ps_gr_f (fun h => h18 h.1)))
      refine lv_istore_n (lv' := [(1, .int (ps_fr (ps_gr f (k + 1)))), (0, .ref w0), (2, .int (nI k))]) hx hb dX3_greatest_52 rfl hl (by decide) rfl (fun ls hl => ?_)
      refine lv_iinc (k := 2) (v := nI (k + 1)) (lv' := [(2, .int (nI (k + 1))), (1, .int (ps_fr (ps_gr f (k + 1)))), (0, .ref w0)]) hx hb dX3_greatest_53 hl rfl (ps_inc _) (by decide) rfl (fun ls hl => ?_)
      refine lv_goto (tgt := 4) hx hb dX3_greatest_56 rfl ?_
      exact ih ((k + 1)) ls (by omega) ⟨by omega, lv_sub hl [2, 1, 0] rfl⟩
    · skip
      rcases hg : ps_gr f k with _ | b9
      · skip
        rw [hg] at hl
        have hl : lv_has ls 3 [(0, .ref w0), (1, .int (-1)), (2, .int (nI k))] := hl
        have hb9 : ∀ b, ps_gr f k = some b → ps_rk (f 0 b) < ps_rk (f 0 k) := by rw [hg]; intro b h; cases h
        refine lv_iload_n hx hb dX3_greatest_21 rfl (lv_at hl 1 rfl) ?_
        refine lv_if_lt (tgt := 47) hx hb dX3_greatest_22 rfl (fun h22 => ?_) (fun h22 => ?_)
        · skip
          refine lv_iload_n hx hb dX3_greatest_47 rfl (lv_at hl 2 rfl) ?_
          refine lv_topi (fun y9 hy9 => ?_)
          obtain rfl : y9 = ps_fr (ps_gr f (k + 1)) := hy9.trans (ps_fr_some (ps_gr_t h18 hb9))
          refine lv_goto (tgt := 52) hx hb dX3_greatest_48 rfl ?_
          refine lv_istore_n (lv' := [(1, .int (ps_fr (ps_gr f (k + 1)))), (0, .ref w0), (2, .int (nI k))]) hx hb dX3_greatest_52 rfl hl (by decide) rfl (fun ls hl => ?_)
          refine lv_iinc (k := 2) (v := nI (k + 1)) (lv' := [(2, .int (nI (k + 1))), (1, .int (ps_fr (ps_gr f (k + 1)))), (0, .ref w0)]) hx hb dX3_greatest_53 hl rfl (ps_inc _) (by decide) rfl (fun ls hl => ?_)
          refine lv_goto (tgt := 4) hx hb dX3_greatest_56 rfl ?_
          exact ih ((k + 1)) ls (by omega) ⟨by omega, lv_sub hl [2, 1, 0] rfl⟩
        · skip
          exact absurd (by decide) h22
      · skip
        rw [hg] at hl
        have hl : lv_has ls 3 [(0, .ref w0), (1, .int (nI b9)), (2, .int (nI k))] := hl
        have hb0 := ps_gr_lt hg
        refine lv_iload_n hx hb dX3_greatest_21 rfl (lv_at hl 1 rfl) ?_
        refine lv_if_lt (tgt := 47) hx hb dX3_greatest_22 rfl (fun h22 => ?_) (fun h22 => ?_)
        · skip
          exact absurd h22 (nI_pos (by omega))
        · skip
          refine lv_aload_n hx hb dX3_greatest_25 rfl (lv_at hl 0 rfl) ?_
          refine va_get (D := (dC, dI)) (ci := 3) (v := .ref (b0 0)) (C := RX3) (T := TX3) (N := 17) hx hb hT inX3 hown hK hP 0 rfl rfl 2 (by decide) (hT _ tw_fl_X3_7) (fun _ h9 => h9) rfl dX3_greatest_26 ?_
          refine lv_iload_n hx hb dX3_greatest_29 rfl (lv_at hl 2 rfl) ?_
          refine ps_iald (k := k) (f := f 0) hx hb hK hP 1 0 rfl rfl (by omega) (by decide) dX3_greatest_30 ?_
          refine vp_callSl (va_Run.run (va_runS (As := [.int (f 0 k)]) (rest := []) ⟨hx, hb, hml, hown, hT⟩ (mX3_rankOf l (f 0 k)) (va_cwS 1 hT (ps_gS tw_ml_X3_55 tw_st_X3_rankOf tw_in_X3 tw_co_X3_rankOf) rfl rfl rfl ⟨by decide, by decide, by decide +kernel⟩ ⟨Nat.le_of_ble_eq_true rfl, Nat.le_of_ble_eq_true rfl⟩) preEq rfl rfl hl.1 rfl (lv_room (Nat.le_of_ble_eq_true rfl)) dX3_greatest_31 ⟨Nat.le_of_ble_eq_true rfl, Nat.le_of_ble_eq_true rfl⟩)) (fun r hr => ?_)
          obtain rfl : r = lN (ps_rk (f 0 k)) := hr
          refine lv_aload_n hx hb dX3_greatest_34 rfl (lv_at hl 0 rfl) ?_
          refine va_get (D := (dC, dI)) (ci := 3) (v := .ref (b0 0)) (C := RX3) (T := TX3) (N := 17) hx hb hT inX3 hown hK hP 0 rfl rfl 2 (by decide) (hT _ tw_fl_X3_7) (fun _ h9 => h9) rfl dX3_greatest_35 ?_
          refine lv_iload_n hx hb dX3_greatest_38 rfl (lv_at hl 1 rfl) ?_
          refine ps_iald (k := b9) (f := f 0) hx hb hK hP 1 0 rfl rfl (by omega) (by decide) dX3_greatest_39 ?_
          refine vp_callSl (va_Run.run (va_runS (As := [.int (f 0 b9)]) (rest := [.long (lN (ps_rk (f 0 k)))]) ⟨hx, hb, hml, hown, hT⟩ (mX3_rankOf l (f 0 b9)) (va_cwS 1 hT (ps_gS tw_ml_X3_55 tw_st_X3_rankOf tw_in_X3 tw_co_X3_rankOf) rfl rfl rfl ⟨by decide, by decide, by decide +kernel⟩ ⟨Nat.le_of_ble_eq_true rfl, Nat.le_of_ble_eq_true rfl⟩) preEq rfl rfl hl.1 rfl (lv_room (Nat.le_of_ble_eq_true rfl)) dX3_greatest_40 ⟨Nat.le_of_ble_eq_true rfl, Nat.le_of_ble_eq_true rfl⟩)) (fun r hr => ?_)
          obtain rfl : r = lN (ps_rk (f 0 b9)) := hr
          refine W.lcmp hx hb dX3_greatest_43 ?_
          refine lv_if_le (tgt := 51) hx hb dX3_greatest_44 rfl (fun h44 => ?_) (fun h44 => ?_)
          · skip
            refine lv_iload_n hx hb dX3_greatest_51 rfl (lv_at hl 1 rfl) ?_
            refine lv_topi (fun y9 hy9 => ?_)
            obtain rfl : y9 = ps_fr (ps_gr f (k + 1)) := hy9.trans ((ps_fr_some hg).trans (ps_fr_eq (ps_gr_f (fun h => ps_rk_nl h44 (h.2 _ hg)))))
            refine lv_istore_n (lv' := [(1, .int (ps_fr (ps_gr f (k + 1)))), (0, .ref w0), (2, .int (nI k))]) hx hb dX3_greatest_52 rfl hl (by decide) rfl (fun ls hl => ?_)
            refine lv_iinc (k := 2) (v := nI (k + 1)) (lv' := [(2, .int (nI (k + 1))), (1, .int (ps_fr (ps_gr f (k + 1)))), (0, .ref w0)]) hx hb dX3_greatest_53 hl rfl (ps_inc _) (by decide) rfl (fun ls hl => ?_)
            refine lv_goto (tgt := 4) hx hb dX3_greatest_56 rfl ?_
            exact ih ((k + 1)) ls (by omega) ⟨by omega, lv_sub hl [2, 1, 0] rfl⟩
          · skip
            have hb9 : ∀ b, ps_gr f k = some b → ps_rk (f 0 b) < ps_rk (f 0 k) := by rw [hg]; intro b h; cases h; exact ps_rk_le h44
            refine lv_iload_n hx hb dX3_greatest_47 rfl (lv_at hl 2 rfl) ?_
            refine lv_topi (fun y9 hy9 => ?_)
            obtain rfl : y9 = ps_fr (ps_gr f (k + 1)) := hy9.trans (ps_fr_some (ps_gr_t h18 hb9))
            refine lv_goto (tgt := 52) hx hb dX3_greatest_48 rfl ?_
            refine lv_istore_n (lv' := [(1, .int (ps_fr (ps_gr f (k + 1)))), (0, .ref w0), (2, .int (nI k))]) hx hb dX3_greatest_52 rfl hl (by decide) rfl (fun ls hl => ?_)
            refine lv_iinc (k := 2) (v := nI (k + 1)) (lv' := [(2, .int (nI (k + 1))), (1, .int (ps_fr (ps_gr f (k + 1)))), (0, .ref w0)]) hx hb dX3_greatest_53 hl rfl (ps_inc _) (by decide) rfl (fun ls hl => ?_)
            refine lv_goto (tgt := 4) hx hb dX3_greatest_56 rfl ?_
            exact ih ((k + 1)) ls (by omega) ⟨by omega, lv_sub hl [2, 1, 0] rfl⟩
set_option maxHeartbeats 4000000 in
set_option maxRecDepth 100000 in
theorem mX3_isFirst (l : Launch) (dC : Nat → ClassId) (dI : Nat → Nat → Nat) (cI cZ : ClassId) (w0 : Nat) (b0 : Nat → Nat) (th : Int32) (mn kn : Nat) (co : Int32) (ln : Nat) (wr lt : Int32) (f : ps_G) (k : Nat) (hk : k < 48) : Met l yX3_isFirst (.code yX3_isFirst cX3_isFirst 4 (some .boolean) :: ps_T) ({ frames := 2, cells := 0, slots := 0, locals := 44 }) (ps_pc (dC, dI) (ps_ty cI cZ) (ps_mdW cI cZ w0 b0 th mn kn co ln wr lt f) [.ref w0, .int (nI k)]) (vp_Si (fun r => r = ps_bi (ps_all (ps_nf (f 3) (f 1) k) k))) 0 0 (fun _ => False) := by
  refine Met.ofW (cc := cX3_isFirst) (maxL := 4) (ret := (some .boolean)) (by decide) rfl ?_
  intro p e s m args below meth c s₁ B hml hv
  obtain ⟨rfl, hN, hP, hK⟩ := hv
  have hx := B.exec
  have hb := B.bytes
  have hr := B.returns
  have hlocks := B.notSynchronized
  have hT : ∀ w ∈ ps_T, w.before ([.ref w0, .int (nI k)] : List Value).toArray s = true := fun w h => atoms_spec (ws := (.code yX3_isFirst cX3_isFirst 4 (some .boolean) :: ps_T)) B.pre w (List.mem_cons_of_mem _ h)
  have hown : s.vm.findClass RX3 = some m.cls := findClass_of_methodNamed B.named
  have hl := lv_entry ([.ref w0, .int (nI k)]) (n := 4) (Nat.le_of_ble_eq_true rfl)
  rw [lg_entry_eq]
  generalize (lg_sl ([.ref w0, .int (nI k)]) ++ List.replicate (4 - (lg_sl ([.ref w0, .int (nI k)])).length) Slot.unset).toArray = ls at hl ⊢
  have hl : lv_has ls 4 [(0, .ref w0), (1, .int (nI k))] := hl
  refine lv_iconst (v := 1) hx hb dX3_isFirst_0 (by decide) ?_
  refine lv_istore_n (lv' := [(2, .int 1), (0, .ref w0), (1, .int (nI k))]) hx hb dX3_isFirst_1 rfl hl (by decide) rfl (fun ls hl => ?_)
  refine lv_iconst (v := 0) hx hb dX3_isFirst_2 (by decide) ?_
  refine lv_istore_n (lv' := [(3, .int 0), (2, .int 1), (0, .ref w0), (1, .int (nI k))]) hx hb dX3_isFirst_3 rfl hl (by decide) rfl (fun ls hl => ?_)
  have hl : lv_has ls 4 [(3, .int (nI 0)), (2, .int (ps_bi (ps_all (ps_nf (f 3) (f 1) k) 0))), (0, .ref w0), (1, .int (nI k))] := hl
  refine ps_loopS (α := Nat) (fun j => k - j) (fun j ls => (j ≤ k) ∧ lv_has ls 4 [(0, .ref w0), (1, .int (nI k)), (2, .int (ps_bi (ps_all (ps_nf (f 3) (f 1) k) j))), (3, .int (nI j))]) ?_ 0 ls ⟨by omega, lv_sub hl [2, 3, 1, 0] rfl⟩
  intro j ls ih hI
  obtain ⟨hj, hl⟩ := hI
  refine lv_iload_n hx hb dX3_isFirst_4 rfl (lv_at hl 3 rfl) ?_
  refine lv_iload_n hx hb dX3_isFirst_5 rfl (lv_at hl 1 rfl) ?_
  refine ps_icmp_ge (tgt := 64) (a := j) (b := k) hx hb dX3_isFirst_6 rfl (by omega) (by omega) (fun h6 => ?_) (fun h6 => ?_)
  · skip
    refine lv_iload_n hx hb dX3_isFirst_64 rfl (lv_at hl 2 rfl) ?_
    exact W.zret (v := ps_bi (ps_all (ps_nf (f 3) (f 1) k) j)) hx hb hr (ps_bi_nar _) (fun t ht hW => ⟨ps_bi (ps_all (ps_nf (f 3) (f 1) k) j), rfl, by rw [show j = k by omega], ht⟩) (fun q h => by cases h) dX3_isFirst_65
  · skip
    refine lv_iload_n hx hb dX3_isFirst_9 rfl (lv_at hl 2 rfl) ?_
    refine ps_ifb_eq (tgt := 56) hx hb dX3_isFirst_10 rfl (fun h10 => ?_) (fun h10 => ?_)
    · skip
      refine lv_iconst (v := 0) hx hb dX3_isFirst_56 (by decide) ?_
      refine lv_topi (fun y9 hy9 => ?_)
      obtain rfl : y9 = ps_bi (ps_all (ps_nf (f 3) (f 1) k) (j + 1)) := hy9.trans (ps_bi_f (by first | simp [ps_all, h10]; done | simp [ps_all, ps_nf, h25, h49]))
      refine lv_istore_n (lv' := [(2, .int (ps_bi (ps_all (ps_nf (f 3) (f 1) k) (j + 1)))), (0, .ref w0), (1, .int (nI k)), (3, .int (nI j))]) hx hb dX3_isFirst_57 rfl hl (by decide) rfl (fun ls hl => ?_)
      refine lv_iinc (k := 3) (v := nI (j + 1)) (lv' := [(3, .int (nI (j + 1))), (2, .int (ps_bi (ps_all (ps_nf (f 3) (f 1) k) (j + 1)))), (0, .ref w0), (1, .int (nI k))]) hx hb dX3_isFirst_58 hl rfl (ps_inc _) (by decide) rfl (fun ls hl => ?_)
      refine lv_goto (tgt := 4) hx hb dX3_isFirst_61 rfl ?_
      exact ih ((j + 1)) ls (by omega) ⟨by omega, lv_sub hl [2, 3, 1, 0] rfl⟩
    · skip
      refine lv_aload_n hx hb dX3_isFirst_13 rfl (lv_at hl 0 rfl) ?_
      refine va_get (D := (dC, dI)) (ci := 3) (v := .ref (b0 3)) (C := RX3) (T := TX3) (N := 17) hx hb hT inX3 hown hK hP 0 rfl rfl 5 (by decide) (hT _ tw_fl_X3_19) (fun _ h9 => h9) rfl dX3_isFirst_14 ?_
      refine lv_iload_n hx hb dX3_isFirst_17 rfl (lv_at hl 3 rfl) ?_
      refine ps_iald (k := j) (f := f 3) hx hb hK hP 4 0 rfl rfl (by omega) (by decide) dX3_isFirst_18 ?_
      refine lv_aload_n hx hb dX3_isFirst_19 rfl (lv_at hl 0 rfl) ?_
      refine va_get (D := (dC, dI)) (ci := 3) (v := .ref (b0 3)) (C := RX3) (T := TX3) (N := 17) hx hb hT inX3 hown hK hP 0 rfl rfl 5 (by decide) (hT _ tw_fl_X3_19) (fun _ h9 => h9) rfl dX3_isFirst_20 ?_
      refine lv_iload_n hx hb dX3_isFirst_23 rfl (lv_at hl 1 rfl) ?_
      refine ps_iald (k := k) (f := f 3) hx hb hK hP 4 0 rfl rfl (by omega) (by decide) dX3_isFirst_24 ?_
      refine lv_icmp_ne (tgt := 52) hx hb dX3_isFirst_25 rfl (fun h25 => ?_) (fun h25 => ?_)
      · skip
        refine lv_iconst (v := 1) hx hb dX3_isFirst_52 (by decide) ?_
        refine lv_topi (fun y9 hy9 => ?_)
        obtain rfl : y9 = ps_bi (ps_all (ps_nf (f 3) (f 1) k) (j + 1)) := hy9.trans (ps_bi_t (by first | (simp [ps_all, ps_nf, h10, h25]; done) | simp [ps_all, ps_nf, h10, h49]))
        refine lv_goto (tgt := 57) hx hb dX3_isFirst_53 rfl ?_
        refine lv_istore_n (lv' := [(2, .int (ps_bi (ps_all (ps_nf (f 3) (f 1) k) (j + 1)))), (0, .ref w0), (1, .int (nI k)), (3, .int (nI j))]) hx hb dX3_isFirst_57 rfl hl (by decide) rfl (fun ls hl => ?_)
        refine lv_iinc (k := 3) (v := nI (j + 1)) (lv' := [(3, .int (nI (j + 1))), (2, .int (ps_bi (ps_all (ps_nf (f 3) (f 1) k) (j + 1)))), (0, .ref w0), (1, .int (nI k))]) hx hb dX3_isFirst_58 hl rfl (ps_inc _) (by decide) rfl (fun ls hl => ?_)
        refine lv_goto (tgt := 4) hx hb dX3_isFirst_61 rfl ?_
        exact ih ((j + 1)) ls (by omega) ⟨by omega, lv_sub hl [2, 3, 1, 0] rfl⟩
      · skip
        refine lv_aload_n hx hb dX3_isFirst_28 rfl (lv_at hl 0 rfl) ?_
        refine va_get (D := (dC, dI)) (ci := 3) (v := .ref (b0 1)) (C := RX3) (T := TX3) (N := 17) hx hb hT inX3 hown hK hP 0 rfl rfl 3 (by decide) (hT _ tw_fl_X3_13) (fun _ h9 => h9) rfl dX3_isFirst_29 ?_
        refine lv_iload_n hx hb dX3_isFirst_32 rfl (lv_at hl 3 rfl) ?_
        refine ps_iald (k := j) (f := f 1) hx hb hK hP 2 0 rfl rfl (by omega) (by decide) dX3_isFirst_33 ?_
        refine lv_aload_n hx hb dX3_isFirst_34 rfl (lv_at hl 0 rfl) ?_
        refine va_get (D := (dC, dI)) (ci := 3) (v := .ref (b0 1)) (C := RX3) (T := TX3) (N := 17) hx hb hT inX3 hown hK hP 0 rfl rfl 3 (by decide) (hT _ tw_fl_X3_13) (fun _ h9 => h9) rfl dX3_isFirst_35 ?_
        refine lv_iload_n hx hb dX3_isFirst_38 rfl (lv_at hl 1 rfl) ?_
        refine ps_iald (k := k) (f := f 1) hx hb hK hP 2 0 rfl rfl (by omega) (by decide) dX3_isFirst_39 ?_
        refine lv_aload_n hx hb dX3_isFirst_40 rfl (lv_at hl 0 rfl) ?_
        refine va_get (D := (dC, dI)) (ci := 3) (v := .ref (b0 3)) (C := RX3) (T := TX3) (N := 17) hx hb hT inX3 hown hK hP 0 rfl rfl 5 (by decide) (hT _ tw_fl_X3_19) (fun _ h9 => h9) rfl dX3_isFirst_41 ?_
        refine lv_iload_n hx hb dX3_isFirst_44 rfl (lv_at hl 1 rfl) ?_
        refine ps_iald (k := k) (f := f 3) hx hb hK hP 4 0 rfl rfl (by omega) (by decide) dX3_isFirst_45 ?_
        refine vp_callSi (va_Run.run (va_runS (As := [.int (f 1 j), .int (f 1 k), .int (f 3 k)]) (rest := []) ⟨hx, hb, hml, hown, hT⟩ (mX3_isOne l (f 1 j) (f 1 k) (f 3 k)) (va_cwS 3 hT (ps_gS tw_ml_X3_66 tw_st_X3_isOne tw_in_X3 tw_co_X3_isOne) rfl rfl rfl ⟨by decide, by decide, by decide +kernel⟩ ⟨Nat.le_of_ble_eq_true rfl, Nat.le_of_ble_eq_true rfl⟩) preEq rfl rfl hl.1 rfl (lv_room (Nat.le_of_ble_eq_true rfl)) dX3_isFirst_46 ⟨Nat.le_of_ble_eq_true rfl, Nat.le_of_ble_eq_true rfl⟩)) (fun r hr => ?_)
        obtain rfl : r = ps_bi (ps_mo (f 1 j) (f 1 k) (f 3 k)) := hr
        refine ps_ifb_ne (tgt := 56) hx hb dX3_isFirst_49 rfl (fun h49 => ?_) (fun h49 => ?_)
        · skip
          refine lv_iconst (v := 0) hx hb dX3_isFirst_56 (by decide) ?_
          refine lv_topi (fun y9 hy9 => ?_)
          obtain rfl : y9 = ps_bi (ps_all (ps_nf (f 3) (f 1) k) (j + 1)) := hy9.trans (ps_bi_f (by first | simp [ps_all, h10]; done | simp [ps_all, ps_nf, h25, h49]))
          refine lv_istore_n (lv' := [(2, .int (ps_bi (ps_all (ps_nf (f 3) (f 1) k) (j + 1)))), (0, .ref w0), (1, .int (nI k)), (3, .int (nI j))]) hx hb dX3_isFirst_57 rfl hl (by decide) rfl (fun ls hl => ?_)
          refine lv_iinc (k := 3) (v := nI (j + 1)) (lv' := [(3, .int (nI (j + 1))), (2, .int (ps_bi (ps_all (ps_nf (f 3) (f 1) k) (j + 1)))), (0, .ref w0), (1, .int (nI k))]) hx hb dX3_isFirst_58 hl rfl (ps_inc _) (by decide) rfl (fun ls hl => ?_)
          refine lv_goto (tgt := 4) hx hb dX3_isFirst_61 rfl ?_
          exact ih ((j + 1)) ls (by omega) ⟨by omega, lv_sub hl [2, 3, 1, 0] rfl⟩
        · skip
          refine lv_iconst (v := 1) hx hb dX3_isFirst_52 (by decide) ?_
          refine lv_topi (fun y9 hy9 => ?_)
          obtain rfl : y9 = ps_bi (ps_all (ps_nf (f 3) (f 1) k) (j + 1)) := hy9.trans (ps_bi_t (by first | (simp [ps_all, ps_nf, h10, h25]; done) | simp [ps_all, ps_nf, h10, h49]))
          refine lv_goto (tgt := 57) hx hb dX3_isFirst_53 rfl ?_
          refine lv_istore_n (lv' := [(2, .int (ps_bi (ps_all (ps_nf (f 3) (f 1) k) (j + 1)))), (0, .ref w0), (1, .int (nI k)), (3, .int (nI j))]) hx hb dX3_isFirst_57 rfl hl (by decide) rfl (fun ls hl => ?_)
          refine lv_iinc (k := 3) (v := nI (j + 1)) (lv' := [(3, .int (nI (j + 1))), (2, .int (ps_bi (ps_all (ps_nf (f 3) (f 1) k) (j + 1)))), (0, .ref w0), (1, .int (nI k))]) hx hb dX3_isFirst_58 hl rfl (ps_inc _) (by decide) rfl (fun ls hl => ?_)
          refine lv_goto (tgt := 4) hx hb dX3_isFirst_61 rfl ?_
          exact ih ((j + 1)) ls (by omega) ⟨by omega, lv_sub hl [2, 3, 1, 0] rfl⟩
set_option maxHeartbeats 4000000 in
set_option maxRecDepth 100000 in
theorem mX3_isFirstKept (l : Launch) (dC : Nat → ClassId) (dI : Nat → Nat → Nat) (cI cZ : ClassId) (w0 : Nat) (b0 : Nat → Nat) (th : Int32) (mn kn : Nat) (co : Int32) (ln : Nat) (wr lt : Int32) (f : ps_G) (k : Nat) (hk : k < 48) : Met l yX3_isFirstKept (.code yX3_isFirstKept cX3_isFirstKept 4 (some .boolean) :: ps_T) ({ frames := 2, cells := 0, slots := 0, locals := 44 }) (ps_pc (dC, dI) (ps_ty cI cZ) (ps_mdW cI cZ w0 b0 th mn kn co ln wr lt f) [.ref w0, .int (nI k)]) (vp_Si (fun r => r = ps_bi (ps_all (ps_nf (f 7) (f 5) k) k))) 0 0 (fun _ => False) := by
  refine Met.ofW (cc := cX3_isFirstKept) (maxL := 4) (ret := (some .boolean)) (by decide) rfl ?_
  intro p e s m args below meth c s₁ B hml hv
  obtain ⟨rfl, hN, hP, hK⟩ := hv
  have hx := B.exec
  have hb := B.bytes
  have hr := B.returns
  have hlocks := B.notSynchronized
  have hT : ∀ w ∈ ps_T, w.before ([.ref w0, .int (nI k)] : List Value).toArray s = true := fun w h => atoms_spec (ws := (.code yX3_isFirstKept cX3_isFirstKept 4 (some .boolean) :: ps_T)) B.pre w (List.mem_cons_of_mem _ h)
  have hown : s.vm.findClass RX3 = some m.cls := findClass_of_methodNamed B.named
  have hl := lv_entry ([.ref w0, .int (nI k)]) (n := 4) (Nat.le_of_ble_eq_true rfl)
  rw [lg_entry_eq]
  generalize (lg_sl ([.ref w0, .int (nI k)]) ++ List.replicate (4 - (lg_sl ([.ref w0, .int (nI k)])).length) Slot.unset).toArray = ls at hl ⊢
  have hl : lv_has ls 4 [(0, .ref w0), (1, .int (nI k))] := hl
  refine lv_iconst (v := 1) hx hb dX3_isFirstKept_0 (by decide) ?_
  refine lv_istore_n (lv' := [(2, .int 1), (0, .ref w0), (1, .int (nI k))]) hx hb dX3_isFirstKept_1 rfl hl (by decide) rfl (fun ls hl => ?_)
  refine lv_iconst (v := 0) hx hb dX3_isFirstKept_2 (by decide) ?_
  refine lv_istore_n (lv' := [(3, .int 0), (2, .int 1), (0, .ref w0), (1, .int (nI k))]) hx hb dX3_isFirstKept_3 rfl hl (by decide) rfl (fun ls hl => ?_)
  have hl : lv_has ls 4 [(3, .int (nI 0)), (2, .int (ps_bi (ps_all (ps_nf (f 7) (f 5) k) 0))), (0, .ref w0), (1, .int (nI k))] := hl
  refine ps_loopS (α := Nat) (fun j => k - j) (fun j ls => (j ≤ k) ∧ lv_has ls 4 [(0, .ref w0), (1, .int (nI k)), (2, .int (ps_bi (ps_all (ps_nf (f 7) (f 5) k) j))), (3, .int (nI j))]) ?_ 0 ls ⟨by omega, lv_sub hl [2, 3, 1, 0] rfl⟩
  intro j ls ih hI
  obtain ⟨hj, hl⟩ := hI
  refine lv_iload_n hx hb dX3_isFirstKept_4 rfl (lv_at hl 3 rfl) ?_
  refine lv_iload_n hx hb dX3_isFirstKept_5 rfl (lv_at hl 1 rfl) ?_
  refine ps_icmp_ge (tgt := 64) (a := j) (b := k) hx hb dX3_isFirstKept_6 rfl (by omega) (by omega) (fun h6 => ?_) (fun h6 => ?_)
  · skip
    refine lv_iload_n hx hb dX3_isFirstKept_64 rfl (lv_at hl 2 rfl) ?_
    exact W.zret (v := ps_bi (ps_all (ps_nf (f 7) (f 5) k) j)) hx hb hr (ps_bi_nar _) (fun t ht hW => ⟨ps_bi (ps_all (ps_nf (f 7) (f 5) k) j), rfl, by rw [show j = k by omega], ht⟩) (fun q h => by cases h) dX3_isFirstKept_65
  · skip
    refine lv_iload_n hx hb dX3_isFirstKept_9 rfl (lv_at hl 2 rfl) ?_
    refine ps_ifb_eq (tgt := 56) hx hb dX3_isFirstKept_10 rfl (fun h10 => ?_) (fun h10 => ?_)
    · skip
      refine lv_iconst (v := 0) hx hb dX3_isFirstKept_56 (by decide) ?_
      refine lv_topi (fun y9 hy9 => ?_)
      obtain rfl : y9 = ps_bi (ps_all (ps_nf (f 7) (f 5) k) (j + 1)) := hy9.trans (ps_bi_f (by first | simp [ps_all, h10]; done | simp [ps_all, ps_nf, h25, h49]))
      refine lv_istore_n (lv' := [(2, .int (ps_bi (ps_all (ps_nf (f 7) (f 5) k) (j + 1)))), (0, .ref w0), (1, .int (nI k)), (3, .int (nI j))]) hx hb dX3_isFirstKept_57 rfl hl (by decide) rfl (fun ls hl => ?_)
      refine lv_iinc (k := 3) (v := nI (j + 1)) (lv' := [(3, .int (nI (j + 1))), (2, .int (ps_bi (ps_all (ps_nf (f 7) (f 5) k) (j + 1)))), (0, .ref w0), (1, .int (nI k))]) hx hb dX3_isFirstKept_58 hl rfl (ps_inc _) (by decide) rfl (fun ls hl => ?_)
      refine lv_goto (tgt := 4) hx hb dX3_isFirstKept_61 rfl ?_
      exact ih ((j + 1)) ls (by omega) ⟨by omega, lv_sub hl [2, 3, 1, 0] rfl⟩
    · skip
      refine lv_aload_n hx hb dX3_isFirstKept_13 rfl (lv_at hl 0 rfl) ?_
      refine va_get (D := (dC, dI)) (ci := 3) (v := .ref (b0 7)) (C := RX3) (T := TX3) (N := 17) hx hb hT inX3 hown hK hP 0 rfl rfl 10 (by decide) (hT _ tw_fl_X3_31) (fun _ h9 => h9) rfl dX3_isFirstKept_14 ?_
      refine lv_iload_n hx hb dX3_isFirstKept_17 rfl (lv_at hl 3 rfl) ?_
      refine ps_iald (k := j) (f := f 7) hx hb hK hP 8 0 rfl rfl (by omega) (by decide) dX3_isFirstKept_18 ?_
      refine lv_aload_n hx hb dX3_isFirstKept_19 rfl (lv_at hl 0 rfl) ?_
      refine va_get (D := (dC, dI)) (ci := 3) (v := .ref (b0 7)) (C := RX3) (T := TX3) (N := 17) hx hb hT inX3 hown hK hP 0 rfl rfl 10 (by decide) (hT _ tw_fl_X3_31) (fun _ h9 => h9) rfl dX3_isFirstKept_20 ?_
      refine lv_iload_n hx hb dX3_isFirstKept_23 rfl (lv_at hl 1 rfl) ?_
      refine ps_iald (k := k) (f := f 7) hx hb hK hP 8 0 rfl rfl (by omega) (by decide) dX3_isFirstKept_24 ?_
      refine lv_icmp_ne (tgt := 52) hx hb dX3_isFirstKept_25 rfl (fun h25 => ?_) (fun h25 => ?_)
      · skip
        refine lv_iconst (v := 1) hx hb dX3_isFirstKept_52 (by decide) ?_
        refine lv_topi (fun y9 hy9 => ?_)
        obtain rfl : y9 = ps_bi (ps_all (ps_nf (f 7) (f 5) k) (j + 1)) := hy9.trans (ps_bi_t (by first | (simp [ps_all, ps_nf, h10, h25]; done) | simp [ps_all, ps_nf, h10, h49]))
        refine lv_goto (tgt := 57) hx hb dX3_isFirstKept_53 rfl ?_
        refine lv_istore_n (lv' := [(2, .int (ps_bi (ps_all (ps_nf (f 7) (f 5) k) (j + 1)))), (0, .ref w0), (1, .int (nI k)), (3, .int (nI j))]) hx hb dX3_isFirstKept_57 rfl hl (by decide) rfl (fun ls hl => ?_)
        refine lv_iinc (k := 3) (v := nI (j + 1)) (lv' := [(3, .int (nI (j + 1))), (2, .int (ps_bi (ps_all (ps_nf (f 7) (f 5) k) (j + 1)))), (0, .ref w0), (1, .int (nI k))]) hx hb dX3_isFirstKept_58 hl rfl (ps_inc _) (by decide) rfl (fun ls hl => ?_)
        refine lv_goto (tgt := 4) hx hb dX3_isFirstKept_61 rfl ?_
        exact ih ((j + 1)) ls (by omega) ⟨by omega, lv_sub hl [2, 3, 1, 0] rfl⟩
      · skip
        refine lv_aload_n hx hb dX3_isFirstKept_28 rfl (lv_at hl 0 rfl) ?_
        refine va_get (D := (dC, dI)) (ci := 3) (v := .ref (b0 5)) (C := RX3) (T := TX3) (N := 17) hx hb hT inX3 hown hK hP 0 rfl rfl 8 (by decide) (hT _ tw_fl_X3_25) (fun _ h9 => h9) rfl dX3_isFirstKept_29 ?_
        refine lv_iload_n hx hb dX3_isFirstKept_32 rfl (lv_at hl 3 rfl) ?_
        refine ps_iald (k := j) (f := f 5) hx hb hK hP 6 0 rfl rfl (by omega) (by decide) dX3_isFirstKept_33 ?_
        refine lv_aload_n hx hb dX3_isFirstKept_34 rfl (lv_at hl 0 rfl) ?_
        refine va_get (D := (dC, dI)) (ci := 3) (v := .ref (b0 5)) (C := RX3) (T := TX3) (N := 17) hx hb hT inX3 hown hK hP 0 rfl rfl 8 (by decide) (hT _ tw_fl_X3_25) (fun _ h9 => h9) rfl dX3_isFirstKept_35 ?_
        refine lv_iload_n hx hb dX3_isFirstKept_38 rfl (lv_at hl 1 rfl) ?_
        refine ps_iald (k := k) (f := f 5) hx hb hK hP 6 0 rfl rfl (by omega) (by decide) dX3_isFirstKept_39 ?_
        refine lv_aload_n hx hb dX3_isFirstKept_40 rfl (lv_at hl 0 rfl) ?_
        refine va_get (D := (dC, dI)) (ci := 3) (v := .ref (b0 7)) (C := RX3) (T := TX3) (N := 17) hx hb hT inX3 hown hK hP 0 rfl rfl 10 (by decide) (hT _ tw_fl_X3_31) (fun _ h9 => h9) rfl dX3_isFirstKept_41 ?_
        refine lv_iload_n hx hb dX3_isFirstKept_44 rfl (lv_at hl 1 rfl) ?_
        refine ps_iald (k := k) (f := f 7) hx hb hK hP 8 0 rfl rfl (by omega) (by decide) dX3_isFirstKept_45 ?_
        refine vp_callSi (va_Run.run (va_runS (As := [.int (f 5 j), .int (f 5 k), .int (f 7 k)]) (rest := []) ⟨hx, hb, hml, hown, hT⟩ (mX3_isOne l (f 5 j) (f 5 k) (f 7 k)) (va_cwS 3 hT (ps_gS tw_ml_X3_66 tw_st_X3_isOne tw_in_X3 tw_co_X3_isOne) rfl rfl rfl ⟨by decide, by decide, by decide +kernel⟩ ⟨Nat.le_of_ble_eq_true rfl, Nat.le_of_ble_eq_true rfl⟩) preEq rfl rfl hl.1 rfl (lv_room (Nat.le_of_ble_eq_true rfl)) dX3_isFirstKept_46 ⟨Nat.le_of_ble_eq_true rfl, Nat.le_of_ble_eq_true rfl⟩)) (fun r hr => ?_)
        obtain rfl : r = ps_bi (ps_mo (f 5 j) (f 5 k) (f 7 k)) := hr
        refine ps_ifb_ne (tgt := 56) hx hb dX3_isFirstKept_49 rfl (fun h49 => ?_) (fun h49 => ?_)
        · skip
          refine lv_iconst (v := 0) hx hb dX3_isFirstKept_56 (by decide) ?_
          refine lv_topi (fun y9 hy9 => ?_)
          obtain rfl : y9 = ps_bi (ps_all (ps_nf (f 7) (f 5) k) (j + 1)) := hy9.trans (ps_bi_f (by first | simp [ps_all, h10]; done | simp [ps_all, ps_nf, h25, h49]))
          refine lv_istore_n (lv' := [(2, .int (ps_bi (ps_all (ps_nf (f 7) (f 5) k) (j + 1)))), (0, .ref w0), (1, .int (nI k)), (3, .int (nI j))]) hx hb dX3_isFirstKept_57 rfl hl (by decide) rfl (fun ls hl => ?_)
          refine lv_iinc (k := 3) (v := nI (j + 1)) (lv' := [(3, .int (nI (j + 1))), (2, .int (ps_bi (ps_all (ps_nf (f 7) (f 5) k) (j + 1)))), (0, .ref w0), (1, .int (nI k))]) hx hb dX3_isFirstKept_58 hl rfl (ps_inc _) (by decide) rfl (fun ls hl => ?_)
          refine lv_goto (tgt := 4) hx hb dX3_isFirstKept_61 rfl ?_
          exact ih ((j + 1)) ls (by omega) ⟨by omega, lv_sub hl [2, 3, 1, 0] rfl⟩
        · skip
          refine lv_iconst (v := 1) hx hb dX3_isFirstKept_52 (by decide) ?_
          refine lv_topi (fun y9 hy9 => ?_)
          obtain rfl : y9 = ps_bi (ps_all (ps_nf (f 7) (f 5) k) (j + 1)) := hy9.trans (ps_bi_t (by first | (simp [ps_all, ps_nf, h10, h25]; done) | simp [ps_all, ps_nf, h10, h49]))
          refine lv_goto (tgt := 57) hx hb dX3_isFirstKept_53 rfl ?_
          refine lv_istore_n (lv' := [(2, .int (ps_bi (ps_all (ps_nf (f 7) (f 5) k) (j + 1)))), (0, .ref w0), (1, .int (nI k)), (3, .int (nI j))]) hx hb dX3_isFirstKept_57 rfl hl (by decide) rfl (fun ls hl => ?_)
          refine lv_iinc (k := 3) (v := nI (j + 1)) (lv' := [(3, .int (nI (j + 1))), (2, .int (ps_bi (ps_all (ps_nf (f 7) (f 5) k) (j + 1)))), (0, .ref w0), (1, .int (nI k))]) hx hb dX3_isFirstKept_58 hl rfl (ps_inc _) (by decide) rfl (fun ls hl => ?_)
          refine lv_goto (tgt := 4) hx hb dX3_isFirstKept_61 rfl ?_
          exact ih ((j + 1)) ls (by omega) ⟨by omega, lv_sub hl [2, 3, 1, 0] rfl⟩
set_option maxHeartbeats 4000000 in
set_option maxRecDepth 100000 in
theorem mX3_isIn (l : Launch) (dC : Nat → ClassId) (dI : Nat → Nat → Nat) (cI cZ : ClassId) (w0 : Nat) (b0 : Nat → Nat) (th : Int32) (mn kn : Nat) (co : Int32) (ln : Nat) (wr lt : Int32) (f : ps_G) (k : Nat) (hk : k < 48) (p9 : Int32) : Met l yX3_isIn (.code yX3_isIn cX3_isIn 5 (some .boolean) :: ps_T) ({ frames := 1, cells := 0, slots := 0, locals := 22 }) (ps_pc (dC, dI) (ps_ty cI cZ) (ps_mdW cI cZ w0 b0 th mn kn co ln wr lt f) [.ref w0, .int (nI k), .int p9]) (vp_Si (fun r => r = ps_bi (ps_all (ps_iq f co p9 k) 3))) 0 0 (fun _ => False) := by
  refine Met.ofW (cc := cX3_isIn) (maxL := 5) (ret := (some .boolean)) (by decide) rfl ?_
  intro p e s m args below meth c s₁ B hml hv
  obtain ⟨rfl, hN, hP, hK⟩ := hv
  have hx := B.exec
  have hb := B.bytes
  have hr := B.returns
  have hlocks := B.notSynchronized
  have hT : ∀ w ∈ ps_T, w.before ([.ref w0, .int (nI k), .int p9] : List Value).toArray s = true := fun w h => atoms_spec (ws := (.code yX3_isIn cX3_isIn 5 (some .boolean) :: ps_T)) B.pre w (List.mem_cons_of_mem _ h)
  have hown : s.vm.findClass RX3 = some m.cls := findClass_of_methodNamed B.named
  have hl := lv_entry ([.ref w0, .int (nI k), .int p9]) (n := 5) (Nat.le_of_ble_eq_true rfl)
  rw [lg_entry_eq]
  generalize (lg_sl ([.ref w0, .int (nI k), .int p9]) ++ List.replicate (5 - (lg_sl ([.ref w0, .int (nI k), .int p9])).length) Slot.unset).toArray = ls at hl ⊢
  have hl : lv_has ls 5 [(0, .ref w0), (1, .int (nI k)), (2, .int p9)] := hl
  refine lv_iconst (v := 1) hx hb dX3_isIn_0 (by decide) ?_
  refine lv_istore_n (lv' := [(3, .int 1), (0, .ref w0), (1, .int (nI k)), (2, .int p9)]) hx hb dX3_isIn_1 rfl hl (by decide) rfl (fun ls hl => ?_)
  refine lv_iconst (v := 0) hx hb dX3_isIn_2 (by decide) ?_
  refine lv_istore (lv' := [(4, .int 0), (3, .int 1), (0, .ref w0), (1, .int (nI k)), (2, .int p9)]) hx hb dX3_isIn_3 hl (by decide) rfl (fun ls hl => ?_)
  have hl : lv_has ls 5 [(4, .int (nI 0)), (3, .int (ps_bi (ps_all (ps_iq f co p9 k) 0))), (0, .ref w0), (1, .int (nI k)), (2, .int p9)] := hl
  refine ps_loopS (α := Nat) (fun j => 3 - j) (fun j ls => (j ≤ 3) ∧ lv_has ls 5 [(0, .ref w0), (1, .int (nI k)), (2, .int p9), (3, .int (ps_bi (ps_all (ps_iq f co p9 k) j))), (4, .int (nI j))]) ?_ 0 ls ⟨by omega, lv_sub hl [2, 3, 4, 1, 0] rfl⟩
  intro j ls ih hI
  obtain ⟨hj, hl⟩ := hI
  refine lv_iload hx hb dX3_isIn_5 (lv_at hl 4 rfl) ?_
  refine lv_iconst (v := 3) hx hb dX3_isIn_7 (by decide) ?_
  refine ps_icmp_ge (tgt := 59) (a := j) (b := 3) hx hb dX3_isIn_8 rfl (by omega) (by omega) (fun h8 => ?_) (fun h8 => ?_)
  · skip
    refine lv_iload_n hx hb dX3_isIn_59 rfl (lv_at hl 3 rfl) ?_
    exact W.zret (v := ps_bi (ps_all (ps_iq f co p9 k) j)) hx hb hr (ps_bi_nar _) (fun t ht hW => ⟨ps_bi (ps_all (ps_iq f co p9 k) j), rfl, by rw [show j = 3 by omega], ht⟩) (fun q h => by cases h) dX3_isIn_60
  · skip
    refine lv_iload_n hx hb dX3_isIn_11 rfl (lv_at hl 3 rfl) ?_
    refine ps_ifb_eq (tgt := 51) hx hb dX3_isIn_12 rfl (fun h12 => ?_) (fun h12 => ?_)
    · skip
      refine lv_iconst (v := 0) hx hb dX3_isIn_51 (by decide) ?_
      refine lv_topi (fun y9 hy9 => ?_)
      obtain rfl : y9 = ps_bi (ps_all (ps_iq f co p9 k) (j + 1)) := hy9.trans (ps_bi_f (by first | simp [ps_all, h12]; done | simp [ps_all, ps_iq, h44]))
      refine lv_istore_n (lv' := [(3, .int (ps_bi (ps_all (ps_iq f co p9 k) (j + 1)))), (0, .ref w0), (1, .int (nI k)), (2, .int p9), (4, .int (nI j))]) hx hb dX3_isIn_52 rfl hl (by decide) rfl (fun ls hl => ?_)
      refine lv_iinc (k := 4) (v := nI (j + 1)) (lv' := [(4, .int (nI (j + 1))), (3, .int (ps_bi (ps_all (ps_iq f co p9 k) (j + 1)))), (0, .ref w0), (1, .int (nI k)), (2, .int p9)]) hx hb dX3_isIn_53 hl rfl (ps_inc _) (by decide) rfl (fun ls hl => ?_)
      refine lv_goto (tgt := 5) hx hb dX3_isIn_56 rfl ?_
      exact ih ((j + 1)) ls (by omega) ⟨by omega, lv_sub hl [2, 3, 4, 1, 0] rfl⟩
    · skip
      refine lv_aload_n hx hb dX3_isIn_15 rfl (lv_at hl 0 rfl) ?_
      refine va_get (D := (dC, dI)) (ci := 3) (v := .ref (b0 1)) (C := RX3) (T := TX3) (N := 17) hx hb hT inX3 hown hK hP 0 rfl rfl 3 (by decide) (hT _ tw_fl_X3_13) (fun _ h9 => h9) rfl dX3_isIn_16 ?_
      refine lv_iload_n hx hb dX3_isIn_19 rfl (lv_at hl 1 rfl) ?_
      refine ps_iald (k := k) (f := f 1) hx hb hK hP 2 0 rfl rfl (by omega) (by decide) dX3_isIn_20 ?_
      refine lv_iload hx hb dX3_isIn_21 (lv_at hl 4 rfl) ?_
      refine vp_callSi (va_Run.run (va_runS (As := [.int (f 1 k), .int (nI j)]) (rest := []) ⟨hx, hb, hml, hown, hT⟩ (mX3_axis l (f 1 k) (nI j)) (va_cwS 2 hT (ps_gS tw_ml_X3_62 tw_st_X3_axis tw_in_X3 tw_co_X3_axis) rfl rfl rfl ⟨by decide, by decide, by decide +kernel⟩ ⟨Nat.le_of_ble_eq_true rfl, Nat.le_of_ble_eq_true rfl⟩) preEq rfl rfl hl.1 rfl (lv_room (Nat.le_of_ble_eq_true rfl)) dX3_isIn_23 ⟨Nat.le_of_ble_eq_true rfl, Nat.le_of_ble_eq_true rfl⟩)) (fun r hr => ?_)
      obtain rfl : r = ps_ax (f 1 k) (nI j) := hr
      refine lv_aload_n hx hb dX3_isIn_26 rfl (lv_at hl 0 rfl) ?_
      refine va_get (D := (dC, dI)) (ci := 3) (v := .int co) (C := RX3) (T := TX3) (N := 17) hx hb hT inX3 hown hK hP 0 rfl rfl 12 (by decide) (hT _ tw_fl_X3_93) (fun _ h9 => h9) rfl dX3_isIn_27 ?_
      refine lv_iload hx hb dX3_isIn_30 (lv_at hl 4 rfl) ?_
      refine vp_callSi (va_Run.run (va_runS (As := [.int co, .int (nI j)]) (rest := [.int (ps_ax (f 1 k) (nI j))]) ⟨hx, hb, hml, hown, hT⟩ (mX3_axis l co (nI j)) (va_cwS 2 hT (ps_gS tw_ml_X3_62 tw_st_X3_axis tw_in_X3 tw_co_X3_axis) rfl rfl rfl ⟨by decide, by decide, by decide +kernel⟩ ⟨Nat.le_of_ble_eq_true rfl, Nat.le_of_ble_eq_true rfl⟩) preEq rfl rfl hl.1 rfl (lv_room (Nat.le_of_ble_eq_true rfl)) dX3_isIn_32 ⟨Nat.le_of_ble_eq_true rfl, Nat.le_of_ble_eq_true rfl⟩)) (fun r hr => ?_)
      obtain rfl : r = ps_ax co (nI j) := hr
      refine lv_iload_n hx hb dX3_isIn_35 rfl (lv_at hl 2 rfl) ?_
      refine lv_iload hx hb dX3_isIn_36 (lv_at hl 4 rfl) ?_
      refine vp_callSi (va_Run.run (va_runS (As := [.int p9, .int (nI j)]) (rest := [.int (ps_ax co (nI j)), .int (ps_ax (f 1 k) (nI j))]) ⟨hx, hb, hml, hown, hT⟩ (mX3_axis l p9 (nI j)) (va_cwS 2 hT (ps_gS tw_ml_X3_62 tw_st_X3_axis tw_in_X3 tw_co_X3_axis) rfl rfl rfl ⟨by decide, by decide, by decide +kernel⟩ ⟨Nat.le_of_ble_eq_true rfl, Nat.le_of_ble_eq_true rfl⟩) preEq rfl rfl hl.1 rfl (lv_room (Nat.le_of_ble_eq_true rfl)) dX3_isIn_38 ⟨Nat.le_of_ble_eq_true rfl, Nat.le_of_ble_eq_true rfl⟩)) (fun r hr => ?_)
      obtain rfl : r = ps_ax p9 (nI j) := hr
      refine vp_callSi (va_Run.run (va_runS (As := [.int (ps_ax (f 1 k) (nI j)), .int (ps_ax co (nI j)), .int (ps_ax p9 (nI j))]) (rest := []) ⟨hx, hb, hml, hown, hT⟩ (mX3_between l (ps_ax (f 1 k) (nI j)) (ps_ax co (nI j)) (ps_ax p9 (nI j))) (va_cwS 3 hT (ps_gS tw_ml_X3_96 tw_st_X3_between tw_in_X3 tw_co_X3_between) rfl rfl rfl ⟨by decide, by decide, by decide +kernel⟩ ⟨Nat.le_of_ble_eq_true rfl, Nat.le_of_ble_eq_true rfl⟩) preEq rfl rfl hl.1 rfl (lv_room (Nat.le_of_ble_eq_true rfl)) dX3_isIn_41 ⟨Nat.le_of_ble_eq_true rfl, Nat.le_of_ble_eq_true rfl⟩)) (fun r hr => ?_)
      obtain rfl : r = ps_bi (ps_bw (ps_ax (f 1 k) (nI j)) (ps_ax co (nI j)) (ps_ax p9 (nI j))) := hr
      refine ps_ifb_eq (tgt := 51) hx hb dX3_isIn_44 rfl (fun h44 => ?_) (fun h44 => ?_)
      · skip
        refine lv_iconst (v := 0) hx hb dX3_isIn_51 (by decide) ?_
        refine lv_topi (fun y9 hy9 => ?_)
        obtain rfl : y9 = ps_bi (ps_all (ps_iq f co p9 k) (j + 1)) := hy9.trans (ps_bi_f (by first | simp [ps_all, h12]; done | simp [ps_all, ps_iq, h44]))
        refine lv_istore_n (lv' := [(3, .int (ps_bi (ps_all (ps_iq f co p9 k) (j + 1)))), (0, .ref w0), (1, .int (nI k)), (2, .int p9), (4, .int (nI j))]) hx hb dX3_isIn_52 rfl hl (by decide) rfl (fun ls hl => ?_)
        refine lv_iinc (k := 4) (v := nI (j + 1)) (lv' := [(4, .int (nI (j + 1))), (3, .int (ps_bi (ps_all (ps_iq f co p9 k) (j + 1)))), (0, .ref w0), (1, .int (nI k)), (2, .int p9)]) hx hb dX3_isIn_53 hl rfl (ps_inc _) (by decide) rfl (fun ls hl => ?_)
        refine lv_goto (tgt := 5) hx hb dX3_isIn_56 rfl ?_
        exact ih ((j + 1)) ls (by omega) ⟨by omega, lv_sub hl [2, 3, 4, 1, 0] rfl⟩
      · skip
        refine lv_iconst (v := 1) hx hb dX3_isIn_47 (by decide) ?_
        refine lv_topi (fun y9 hy9 => ?_)
        obtain rfl : y9 = ps_bi (ps_all (ps_iq f co p9 k) (j + 1)) := hy9.trans (ps_bi_t (by simp [ps_all, ps_iq, h12, h44]))
        refine lv_goto (tgt := 52) hx hb dX3_isIn_48 rfl ?_
        refine lv_istore_n (lv' := [(3, .int (ps_bi (ps_all (ps_iq f co p9 k) (j + 1)))), (0, .ref w0), (1, .int (nI k)), (2, .int p9), (4, .int (nI j))]) hx hb dX3_isIn_52 rfl hl (by decide) rfl (fun ls hl => ?_)
        refine lv_iinc (k := 4) (v := nI (j + 1)) (lv' := [(4, .int (nI (j + 1))), (3, .int (ps_bi (ps_all (ps_iq f co p9 k) (j + 1)))), (0, .ref w0), (1, .int (nI k)), (2, .int p9)]) hx hb dX3_isIn_53 hl rfl (ps_inc _) (by decide) rfl (fun ls hl => ?_)
        refine lv_goto (tgt := 5) hx hb dX3_isIn_56 rfl ?_
        exact ih ((j + 1)) ls (by omega) ⟨by omega, lv_sub hl [2, 3, 4, 1, 0] rfl⟩
set_option maxHeartbeats 4000000 in
set_option maxRecDepth 100000 in
theorem mX3_isCommitted (l : Launch) (dC : Nat → ClassId) (dI : Nat → Nat → Nat) (cI cZ : ClassId) (w0 : Nat) (b0 : Nat → Nat) (th : Int32) (mn kn : Nat) (co : Int32) (ln : Nat) (wr lt : Int32) (f : ps_G) (hkn : kn ≤ 48) (k : Nat) (hk : k < 48) : Met l yX3_isCommitted (.code yX3_isCommitted cX3_isCommitted 4 (some .boolean) :: ps_T) ({ frames := 0, cells := 0, slots := 0, locals := 0 }) (ps_pc (dC, dI) (ps_ty cI cZ) (ps_mdW cI cZ w0 b0 th mn kn co ln wr lt f) [.ref w0, .int (nI k)]) (vp_Si (fun r => r = ps_bi (ps_ex (ps_cq f k) kn))) 0 0 (fun _ => False) := by
  refine Met.ofW (cc := cX3_isCommitted) (maxL := 4) (ret := (some .boolean)) (by decide) rfl ?_
  intro p e s m args below meth c s₁ B hml hv
  obtain ⟨rfl, hN, hP, hK⟩ := hv
  have hx := B.exec
  have hb := B.bytes
  have hr := B.returns
  have hlocks := B.notSynchronized
  have hT : ∀ w ∈ ps_T, w.before ([.ref w0, .int (nI k)] : List Value).toArray s = true := fun w h => atoms_spec (ws := (.code yX3_isCommitted cX3_isCommitted 4 (some .boolean) :: ps_T)) B.pre w (List.mem_cons_of_mem _ h)
  have hown : s.vm.findClass RX3 = some m.cls := findClass_of_methodNamed B.named
  have hl := lv_entry ([.ref w0, .int (nI k)]) (n := 4) (Nat.le_of_ble_eq_true rfl)
  rw [lg_entry_eq]
  generalize (lg_sl ([.ref w0, .int (nI k)]) ++ List.replicate (4 - (lg_sl ([.ref w0, .int (nI k)])).length) Slot.unset).toArray = ls at hl ⊢
  have hl : lv_has ls 4 [(0, .ref w0), (1, .int (nI k))] := hl
  refine lv_iconst (v := 0) hx hb dX3_isCommitted_0 (by decide) ?_
  refine lv_istore_n (lv' := [(2, .int 0), (0, .ref w0), (1, .int (nI k))]) hx hb dX3_isCommitted_1 rfl hl (by decide) rfl (fun ls hl => ?_)
  refine lv_iconst (v := 0) hx hb dX3_isCommitted_2 (by decide) ?_
  refine lv_istore_n (lv' := [(3, .int 0), (2, .int 0), (0, .ref w0), (1, .int (nI k))]) hx hb dX3_isCommitted_3 rfl hl (by decide) rfl (fun ls hl => ?_)
  have hl : lv_has ls 4 [(3, .int (nI 0)), (2, .int (ps_bi (ps_ex (ps_cq f k) 0))), (0, .ref w0), (1, .int (nI k))] := hl
  refine ps_loopS (α := Nat) (fun j => kn - j) (fun j ls => (j ≤ kn) ∧ lv_has ls 4 [(0, .ref w0), (1, .int (nI k)), (2, .int (ps_bi (ps_ex (ps_cq f k) j))), (3, .int (nI j))]) ?_ 0 ls ⟨by omega, lv_sub hl [2, 3, 1, 0] rfl⟩
  intro j ls ih hI
  obtain ⟨hj, hl⟩ := hI
  refine lv_iload_n hx hb dX3_isCommitted_4 rfl (lv_at hl 3 rfl) ?_
  refine lv_aload_n hx hb dX3_isCommitted_5 rfl (lv_at hl 0 rfl) ?_
  refine va_get (D := (dC, dI)) (ci := 3) (v := .int (nI kn)) (C := RX3) (T := TX3) (N := 17) hx hb hT inX3 hown hK hP 0 rfl rfl 6 (by decide) (hT _ tw_fl_X3_109) (fun _ h9 => h9) rfl dX3_isCommitted_6 ?_
  refine ps_icmp_ge (tgt := 88) (a := j) (b := kn) hx hb dX3_isCommitted_9 rfl (by omega) (by omega) (fun h9 => ?_) (fun h9 => ?_)
  · skip
    refine lv_iload_n hx hb dX3_isCommitted_88 rfl (lv_at hl 2 rfl) ?_
    exact W.zret (v := ps_bi (ps_ex (ps_cq f k) j)) hx hb hr (ps_bi_nar _) (fun t ht hW => ⟨ps_bi (ps_ex (ps_cq f k) j), rfl, by rw [show j = kn by omega], ht⟩) (fun q h => by cases h) dX3_isCommitted_89
  · skip
    refine lv_iload_n hx hb dX3_isCommitted_12 rfl (lv_at hl 2 rfl) ?_
    refine ps_ifb_ne (tgt := 76) hx hb dX3_isCommitted_13 rfl (fun h13 => ?_) (fun h13 => ?_)
    · skip
      refine lv_iconst (v := 1) hx hb dX3_isCommitted_76 (by decide) ?_
      refine lv_topi (fun y9 hy9 => ?_)
      obtain rfl : y9 = ps_bi (ps_ex (ps_cq f k) (j + 1)) := hy9.trans (ps_bi_t (by first | simp [ps_ex, h13]; done | simp [ps_ex, ps_cq, h28, h43, h58, h73]))
      refine lv_goto (tgt := 81) hx hb dX3_isCommitted_77 rfl ?_
      refine lv_istore_n (lv' := [(2, .int (ps_bi (ps_ex (ps_cq f k) (j + 1)))), (0, .ref w0), (1, .int (nI k)), (3, .int (nI j))]) hx hb dX3_isCommitted_81 rfl hl (by decide) rfl (fun ls hl => ?_)
      refine lv_iinc (k := 3) (v := nI (j + 1)) (lv' := [(3, .int (nI (j + 1))), (2, .int (ps_bi (ps_ex (ps_cq f k) (j + 1)))), (0, .ref w0), (1, .int (nI k))]) hx hb dX3_isCommitted_82 hl rfl (ps_inc _) (by decide) rfl (fun ls hl => ?_)
      refine lv_goto (tgt := 4) hx hb dX3_isCommitted_85 rfl ?_
      exact ih ((j + 1)) ls (by omega) ⟨by omega, lv_sub hl [2, 3, 1, 0] rfl⟩
    · skip
      refine lv_aload_n hx hb dX3_isCommitted_16 rfl (lv_at hl 0 rfl) ?_
      refine va_get (D := (dC, dI)) (ci := 3) (v := .ref (b0 4)) (C := RX3) (T := TX3) (N := 17) hx hb hT inX3 hown hK hP 0 rfl rfl 7 (by decide) (hT _ tw_fl_X3_22) (fun _ h9 => h9) rfl dX3_isCommitted_17 ?_
      refine lv_iload_n hx hb dX3_isCommitted_20 rfl (lv_at hl 3 rfl) ?_
      refine ps_iald (k := j) (f := f 4) hx hb hK hP 5 0 rfl rfl (by omega) (by decide) dX3_isCommitted_21 ?_
      refine lv_aload_n hx hb dX3_isCommitted_22 rfl (lv_at hl 0 rfl) ?_
      refine va_get (D := (dC, dI)) (ci := 3) (v := .ref (b0 0)) (C := RX3) (T := TX3) (N := 17) hx hb hT inX3 hown hK hP 0 rfl rfl 2 (by decide) (hT _ tw_fl_X3_7) (fun _ h9 => h9) rfl dX3_isCommitted_23 ?_
      refine lv_iload_n hx hb dX3_isCommitted_26 rfl (lv_at hl 1 rfl) ?_
      refine ps_iald (k := k) (f := f 0) hx hb hK hP 1 0 rfl rfl (by omega) (by decide) dX3_isCommitted_27 ?_
      refine lv_icmp_ne (tgt := 80) hx hb dX3_isCommitted_28 rfl (fun h28 => ?_) (fun h28 => ?_)
      · skip
        refine lv_iconst (v := 0) hx hb dX3_isCommitted_80 (by decide) ?_
        refine lv_topi (fun y9 hy9 => ?_)
        obtain rfl : y9 = ps_bi (ps_ex (ps_cq f k) (j + 1)) := hy9.trans (ps_bi_f (by first | simp [ps_ex, ps_cq, h13, h28]; done | simp [ps_ex, ps_cq, h13, h43]; done | simp [ps_ex, ps_cq, h13, h58]; done | simp [ps_ex, ps_cq, h13, h73]))
        refine lv_istore_n (lv' := [(2, .int (ps_bi (ps_ex (ps_cq f k) (j + 1)))), (0, .ref w0), (1, .int (nI k)), (3, .int (nI j))]) hx hb dX3_isCommitted_81 rfl hl (by decide) rfl (fun ls hl => ?_)
        refine lv_iinc (k := 3) (v := nI (j + 1)) (lv' := [(3, .int (nI (j + 1))), (2, .int (ps_bi (ps_ex (ps_cq f k) (j + 1)))), (0, .ref w0), (1, .int (nI k))]) hx hb dX3_isCommitted_82 hl rfl (ps_inc _) (by decide) rfl (fun ls hl => ?_)
        refine lv_goto (tgt := 4) hx hb dX3_isCommitted_85 rfl ?_
        exact ih ((j + 1)) ls (by omega) ⟨by omega, lv_sub hl [2, 3, 1, 0] rfl⟩
      · skip
        refine lv_aload_n hx hb dX3_isCommitted_31 rfl (lv_at hl 0 rfl) ?_
        refine va_get (D := (dC, dI)) (ci := 3) (v := .ref (b0 5)) (C := RX3) (T := TX3) (N := 17) hx hb hT inX3 hown hK hP 0 rfl rfl 8 (by decide) (hT _ tw_fl_X3_25) (fun _ h9 => h9) rfl dX3_isCommitted_32 ?_
        refine lv_iload_n hx hb dX3_isCommitted_35 rfl (lv_at hl 3 rfl) ?_
        refine ps_iald (k := j) (f := f 5) hx hb hK hP 6 0 rfl rfl (by omega) (by decide) dX3_isCommitted_36 ?_
        refine lv_aload_n hx hb dX3_isCommitted_37 rfl (lv_at hl 0 rfl) ?_
        refine va_get (D := (dC, dI)) (ci := 3) (v := .ref (b0 1)) (C := RX3) (T := TX3) (N := 17) hx hb hT inX3 hown hK hP 0 rfl rfl 3 (by decide) (hT _ tw_fl_X3_13) (fun _ h9 => h9) rfl dX3_isCommitted_38 ?_
        refine lv_iload_n hx hb dX3_isCommitted_41 rfl (lv_at hl 1 rfl) ?_
        refine ps_iald (k := k) (f := f 1) hx hb hK hP 2 0 rfl rfl (by omega) (by decide) dX3_isCommitted_42 ?_
        refine lv_icmp_ne (tgt := 80) hx hb dX3_isCommitted_43 rfl (fun h43 => ?_) (fun h43 => ?_)
        · skip
          refine lv_iconst (v := 0) hx hb dX3_isCommitted_80 (by decide) ?_
          refine lv_topi (fun y9 hy9 => ?_)
          obtain rfl : y9 = ps_bi (ps_ex (ps_cq f k) (j + 1)) := hy9.trans (ps_bi_f (by first | simp [ps_ex, ps_cq, h13, h28]; done | simp [ps_ex, ps_cq, h13, h43]; done | simp [ps_ex, ps_cq, h13, h58]; done | simp [ps_ex, ps_cq, h13, h73]))
          refine lv_istore_n (lv' := [(2, .int (ps_bi (ps_ex (ps_cq f k) (j + 1)))), (0, .ref w0), (1, .int (nI k)), (3, .int (nI j))]) hx hb dX3_isCommitted_81 rfl hl (by decide) rfl (fun ls hl => ?_)
          refine lv_iinc (k := 3) (v := nI (j + 1)) (lv' := [(3, .int (nI (j + 1))), (2, .int (ps_bi (ps_ex (ps_cq f k) (j + 1)))), (0, .ref w0), (1, .int (nI k))]) hx hb dX3_isCommitted_82 hl rfl (ps_inc _) (by decide) rfl (fun ls hl => ?_)
          refine lv_goto (tgt := 4) hx hb dX3_isCommitted_85 rfl ?_
          exact ih ((j + 1)) ls (by omega) ⟨by omega, lv_sub hl [2, 3, 1, 0] rfl⟩
        · skip
          refine lv_aload_n hx hb dX3_isCommitted_46 rfl (lv_at hl 0 rfl) ?_
          refine va_get (D := (dC, dI)) (ci := 3) (v := .ref (b0 6)) (C := RX3) (T := TX3) (N := 17) hx hb hT inX3 hown hK hP 0 rfl rfl 9 (by decide) (hT _ tw_fl_X3_28) (fun _ h9 => h9) rfl dX3_isCommitted_47 ?_
          refine lv_iload_n hx hb dX3_isCommitted_50 rfl (lv_at hl 3 rfl) ?_
          refine ps_iald (k := j) (f := f 6) hx hb hK hP 7 0 rfl rfl (by omega) (by decide) dX3_isCommitted_51 ?_
          refine lv_aload_n hx hb dX3_isCommitted_52 rfl (lv_at hl 0 rfl) ?_
          refine va_get (D := (dC, dI)) (ci := 3) (v := .ref (b0 2)) (C := RX3) (T := TX3) (N := 17) hx hb hT inX3 hown hK hP 0 rfl rfl 4 (by decide) (hT _ tw_fl_X3_16) (fun _ h9 => h9) rfl dX3_isCommitted_53 ?_
          refine lv_iload_n hx hb dX3_isCommitted_56 rfl (lv_at hl 1 rfl) ?_
          refine ps_iald (k := k) (f := f 2) hx hb hK hP 3 0 rfl rfl (by omega) (by decide) dX3_isCommitted_57 ?_
          refine lv_icmp_ne (tgt := 80) hx hb dX3_isCommitted_58 rfl (fun h58 => ?_) (fun h58 => ?_)
          · skip
            refine lv_iconst (v := 0) hx hb dX3_isCommitted_80 (by decide) ?_
            refine lv_topi (fun y9 hy9 => ?_)
            obtain rfl : y9 = ps_bi (ps_ex (ps_cq f k) (j + 1)) := hy9.trans (ps_bi_f (by first | simp [ps_ex, ps_cq, h13, h28]; done | simp [ps_ex, ps_cq, h13, h43]; done | simp [ps_ex, ps_cq, h13, h58]; done | simp [ps_ex, ps_cq, h13, h73]))
            refine lv_istore_n (lv' := [(2, .int (ps_bi (ps_ex (ps_cq f k) (j + 1)))), (0, .ref w0), (1, .int (nI k)), (3, .int (nI j))]) hx hb dX3_isCommitted_81 rfl hl (by decide) rfl (fun ls hl => ?_)
            refine lv_iinc (k := 3) (v := nI (j + 1)) (lv' := [(3, .int (nI (j + 1))), (2, .int (ps_bi (ps_ex (ps_cq f k) (j + 1)))), (0, .ref w0), (1, .int (nI k))]) hx hb dX3_isCommitted_82 hl rfl (ps_inc _) (by decide) rfl (fun ls hl => ?_)
            refine lv_goto (tgt := 4) hx hb dX3_isCommitted_85 rfl ?_
            exact ih ((j + 1)) ls (by omega) ⟨by omega, lv_sub hl [2, 3, 1, 0] rfl⟩
          · skip
            refine lv_aload_n hx hb dX3_isCommitted_61 rfl (lv_at hl 0 rfl) ?_
            refine va_get (D := (dC, dI)) (ci := 3) (v := .ref (b0 7)) (C := RX3) (T := TX3) (N := 17) hx hb hT inX3 hown hK hP 0 rfl rfl 10 (by decide) (hT _ tw_fl_X3_31) (fun _ h9 => h9) rfl dX3_isCommitted_62 ?_
            refine lv_iload_n hx hb dX3_isCommitted_65 rfl (lv_at hl 3 rfl) ?_
            refine ps_iald (k := j) (f := f 7) hx hb hK hP 8 0 rfl rfl (by omega) (by decide) dX3_isCommitted_66 ?_
            refine lv_aload_n hx hb dX3_isCommitted_67 rfl (lv_at hl 0 rfl) ?_
            refine va_get (D := (dC, dI)) (ci := 3) (v := .ref (b0 3)) (C := RX3) (T := TX3) (N := 17) hx hb hT inX3 hown hK hP 0 rfl rfl 5 (by decide) (hT _ tw_fl_X3_19) (fun _ h9 => h9) rfl dX3_isCommitted_68 ?_
            refine lv_iload_n hx hb dX3_isCommitted_71 rfl (lv_at hl 1 rfl) ?_
            refine ps_iald (k := k) (f := f 3) hx hb hK hP 4 0 rfl rfl (by omega) (by decide) dX3_isCommitted_72 ?_
            refine lv_icmp_ne (tgt := 80) hx hb dX3_isCommitted_73 rfl (fun h73 => ?_) (fun h73 => ?_)
            · skip
              refine lv_iconst (v := 0) hx hb dX3_isCommitted_80 (by decide) ?_
              refine lv_topi (fun y9 hy9 => ?_)
              obtain rfl : y9 = ps_bi (ps_ex (ps_cq f k) (j + 1)) := hy9.trans (ps_bi_f (by first | simp [ps_ex, ps_cq, h13, h28]; done | simp [ps_ex, ps_cq, h13, h43]; done | simp [ps_ex, ps_cq, h13, h58]; done | simp [ps_ex, ps_cq, h13, h73]))
              refine lv_istore_n (lv' := [(2, .int (ps_bi (ps_ex (ps_cq f k) (j + 1)))), (0, .ref w0), (1, .int (nI k)), (3, .int (nI j))]) hx hb dX3_isCommitted_81 rfl hl (by decide) rfl (fun ls hl => ?_)
              refine lv_iinc (k := 3) (v := nI (j + 1)) (lv' := [(3, .int (nI (j + 1))), (2, .int (ps_bi (ps_ex (ps_cq f k) (j + 1)))), (0, .ref w0), (1, .int (nI k))]) hx hb dX3_isCommitted_82 hl rfl (ps_inc _) (by decide) rfl (fun ls hl => ?_)
              refine lv_goto (tgt := 4) hx hb dX3_isCommitted_85 rfl ?_
              exact ih ((j + 1)) ls (by omega) ⟨by omega, lv_sub hl [2, 3, 1, 0] rfl⟩
            · skip
              refine lv_iconst (v := 1) hx hb dX3_isCommitted_76 (by decide) ?_
              refine lv_topi (fun y9 hy9 => ?_)
              obtain rfl : y9 = ps_bi (ps_ex (ps_cq f k) (j + 1)) := hy9.trans (ps_bi_t (by first | simp [ps_ex, h13]; done | simp [ps_ex, ps_cq, h28, h43, h58, h73]))
              refine lv_goto (tgt := 81) hx hb dX3_isCommitted_77 rfl ?_
              refine lv_istore_n (lv' := [(2, .int (ps_bi (ps_ex (ps_cq f k) (j + 1)))), (0, .ref w0), (1, .int (nI k)), (3, .int (nI j))]) hx hb dX3_isCommitted_81 rfl hl (by decide) rfl (fun ls hl => ?_)
              refine lv_iinc (k := 3) (v := nI (j + 1)) (lv' := [(3, .int (nI (j + 1))), (2, .int (ps_bi (ps_ex (ps_cq f k) (j + 1)))), (0, .ref w0), (1, .int (nI k))]) hx hb dX3_isCommitted_82 hl rfl (ps_inc _) (by decide) rfl (fun ls hl => ?_)
              refine lv_goto (tgt := 4) hx hb dX3_isCommitted_85 rfl ?_
              exact ih ((j + 1)) ls (by omega) ⟨by omega, lv_sub hl [2, 3, 1, 0] rfl⟩
end
