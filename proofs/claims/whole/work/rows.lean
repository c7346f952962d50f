section
-- ===== PART A: goes FIRST, ahead of the names: the tables' words, and 'selects' of the private methods out of them =====
/-- a private method of a class that the tables say can be made, by its rows of tables_1 -/
def lw_okq (q : MethodName × Nat) : Prop := (q.1.cls ≠ "java/lang/invoke/MethodHandle" ∧ q.1.cls ≠ "java/lang/invoke/VarHandle") ∧ Cond.instantiable q.1.cls q.2 ∈ tables_1 ∧ Cond.privateMethod q.1 ∈ tables_1 ∧ Cond.instanceMethod q.1 ∈ tables_1
theorem lw_p0 : lw_okq (⟨"RasterCover$Path", "clear", "()V"⟩, 4) := ⟨⟨by decide +kernel, by decide +kernel⟩, List.mem_of_getElem? (i := 36) (by decide +kernel), List.mem_of_getElem? (i := 154) (by decide +kernel), List.mem_of_getElem? (i := 155) (by decide +kernel)⟩
theorem lw_p1 : lw_okq (⟨"RasterCover", "needRoom", "(I)V"⟩, 12) := ⟨⟨by decide +kernel, by decide +kernel⟩, List.mem_of_getElem? (i := 19) (by decide +kernel), List.mem_of_getElem? (i := 177) (by decide +kernel), List.mem_of_getElem? (i := 178) (by decide +kernel)⟩
theorem lw_p2 : lw_okq (⟨"java/lang/Throwable", "fillInStackTrace", "(I)Ljava/lang/Throwable;"⟩, 6) := ⟨⟨by decide +kernel, by decide +kernel⟩, List.mem_of_getElem? (i := 220) (by decide +kernel), List.mem_of_getElem? (i := 218) (by decide +kernel), List.mem_of_getElem? (i := 219) (by decide +kernel)⟩
theorem lw_p3 : lw_okq (⟨"RasterCover$Path", "begin", "(II)V"⟩, 4) := ⟨⟨by decide +kernel, by decide +kernel⟩, List.mem_of_getElem? (i := 36) (by decide +kernel), List.mem_of_getElem? (i := 260) (by decide +kernel), List.mem_of_getElem? (i := 261) (by decide +kernel)⟩
theorem lw_p4 : lw_okq (⟨"RasterCover$Path", "add", "(IIZ)V"⟩, 4) := ⟨⟨by decide +kernel, by decide +kernel⟩, List.mem_of_getElem? (i := 36) (by decide +kernel), List.mem_of_getElem? (i := 264) (by decide +kernel), List.mem_of_getElem? (i := 265) (by decide +kernel)⟩
theorem lw_p5 : lw_okq (⟨"RasterCover$Path", "join", "(II)V"⟩, 4) := ⟨⟨by decide +kernel, by decide +kernel⟩, List.mem_of_getElem? (i := 36) (by decide +kernel), List.mem_of_getElem? (i := 292) (by decide +kernel), List.mem_of_getElem? (i := 293) (by decide +kernel)⟩
theorem lw_p6 : lw_okq (⟨"RasterCover", "addHair", "(IIII)V"⟩, 12) := ⟨⟨by decide +kernel, by decide +kernel⟩, List.mem_of_getElem? (i := 19) (by decide +kernel), List.mem_of_getElem? (i := 303) (by decide +kernel), List.mem_of_getElem? (i := 304) (by decide +kernel)⟩
theorem lw_p7 : lw_okq (⟨"RasterCover", "needPlane", "(I)V"⟩, 12) := ⟨⟨by decide +kernel, by decide +kernel⟩, List.mem_of_getElem? (i := 19) (by decide +kernel), List.mem_of_getElem? (i := 361) (by decide +kernel), List.mem_of_getElem? (i := 362) (by decide +kernel)⟩
theorem lw_p8 : lw_okq (⟨"RasterCover$RowCover", "measure", "(LRasterCover$Path;II)V"⟩, 2) := ⟨⟨by decide +kernel, by decide +kernel⟩, List.mem_of_getElem? (i := 62) (by decide +kernel), List.mem_of_getElem? (i := 368) (by decide +kernel), List.mem_of_getElem? (i := 369) (by decide +kernel)⟩
theorem lw_p9 : lw_okq (⟨"RasterCover$Crossings", "collect", "(LRasterCover$Path;I)V"⟩, 3) := ⟨⟨by decide +kernel, by decide +kernel⟩, List.mem_of_getElem? (i := 68) (by decide +kernel), List.mem_of_getElem? (i := 373) (by decide +kernel), List.mem_of_getElem? (i := 374) (by decide +kernel)⟩
theorem lw_p10 : lw_okq (⟨"RasterCover$Crossings", "cross", "(LRasterCover$Path;IIII)V"⟩, 3) := ⟨⟨by decide +kernel, by decide +kernel⟩, List.mem_of_getElem? (i := 68) (by decide +kernel), List.mem_of_getElem? (i := 377) (by decide +kernel), List.mem_of_getElem? (i := 378) (by decide +kernel)⟩
theorem lw_p11 : lw_okq (⟨"RasterCover$Crossings", "insert", "(II)V"⟩, 3) := ⟨⟨by decide +kernel, by decide +kernel⟩, List.mem_of_getElem? (i := 68) (by decide +kernel), List.mem_of_getElem? (i := 384) (by decide +kernel), List.mem_of_getElem? (i := 385) (by decide +kernel)⟩
theorem lw_p12 : lw_okq (⟨"RasterCover$RowCover", "addSubRow", "(I)V"⟩, 2) := ⟨⟨by decide +kernel, by decide +kernel⟩, List.mem_of_getElem? (i := 62) (by decide +kernel), List.mem_of_getElem? (i := 388) (by decide +kernel), List.mem_of_getElem? (i := 389) (by decide +kernel)⟩
theorem lw_p13 : lw_okq (⟨"RasterCover$RowCover", "addSpan", "(II)V"⟩, 2) := ⟨⟨by decide +kernel, by decide +kernel⟩, List.mem_of_getElem? (i := 62) (by decide +kernel), List.mem_of_getElem? (i := 392) (by decide +kernel), List.mem_of_getElem? (i := 393) (by decide +kernel)⟩
theorem lw_p14 : lw_okq (⟨"RasterCover", "paintRow", "(III)I"⟩, 12) := ⟨⟨by decide +kernel, by decide +kernel⟩, List.mem_of_getElem? (i := 19) (by decide +kernel), List.mem_of_getElem? (i := 398) (by decide +kernel), List.mem_of_getElem? (i := 399) (by decide +kernel)⟩
theorem lw_p15 : lw_okq (⟨"RasterCover$RowCover", "at", "(I)I"⟩, 2) := ⟨⟨by decide +kernel, by decide +kernel⟩, List.mem_of_getElem? (i := 62) (by decide +kernel), List.mem_of_getElem? (i := 402) (by decide +kernel), List.mem_of_getElem? (i := 403) (by decide +kernel)⟩
def lw_privs_1 : List (MethodName × Nat) := [(⟨"RasterCover$Path", "clear", "()V"⟩, 4), (⟨"RasterCover", "needRoom", "(I)V"⟩, 12), (⟨"java/lang/Throwable", "fillInStackTrace", "(I)Ljava/lang/Throwable;"⟩, 6), (⟨"RasterCover$Path", "begin", "(II)V"⟩, 4), (⟨"RasterCover$Path", "add", "(IIZ)V"⟩, 4), (⟨"RasterCover$Path", "join", "(II)V"⟩, 4), (⟨"RasterCover", "addHair", "(IIII)V"⟩, 12), (⟨"RasterCover", "needPlane", "(I)V"⟩, 12), (⟨"RasterCover$RowCover", "measure", "(LRasterCover$Path;II)V"⟩, 2), (⟨"RasterCover$Crossings", "collect", "(LRasterCover$Path;I)V"⟩, 3), (⟨"RasterCover$Crossings", "cross", "(LRasterCover$Path;IIII)V"⟩, 3), (⟨"RasterCover$Crossings", "insert", "(II)V"⟩, 3), (⟨"RasterCover$RowCover", "addSubRow", "(I)V"⟩, 2), (⟨"RasterCover$RowCover", "addSpan", "(II)V"⟩, 2), (⟨"RasterCover", "paintRow", "(III)I"⟩, 12), (⟨"RasterCover$RowCover", "at", "(I)I"⟩, 2)]
theorem lw_r1 : ∀ q ∈ lw_privs_1, lw_okq q := List.forall_mem_cons.mpr ⟨lw_p0, List.forall_mem_cons.mpr ⟨lw_p1, List.forall_mem_cons.mpr ⟨lw_p2, List.forall_mem_cons.mpr ⟨lw_p3, List.forall_mem_cons.mpr ⟨lw_p4, List.forall_mem_cons.mpr ⟨lw_p5, List.forall_mem_cons.mpr ⟨lw_p6, List.forall_mem_cons.mpr ⟨lw_p7, List.forall_mem_cons.mpr ⟨lw_p8, List.forall_mem_cons.mpr ⟨lw_p9, List.forall_mem_cons.mpr ⟨lw_p10, List.forall_mem_cons.mpr ⟨lw_p11, List.forall_mem_cons.mpr ⟨lw_p12, List.forall_mem_cons.mpr ⟨lw_p13, List.forall_mem_cons.mpr ⟨lw_p14, List.forall_mem_cons.mpr ⟨lw_p15, fun _ h => absurd h List.not_mem_nil⟩⟩⟩⟩⟩⟩⟩⟩⟩⟩⟩⟩⟩⟩⟩⟩
theorem lw_p16 : lw_okq (⟨"RasterCover", "paintPoint", "(IIII)V"⟩, 12) := ⟨⟨by decide +kernel, by decide +kernel⟩, List.mem_of_getElem? (i := 19) (by decide +kernel), List.mem_of_getElem? (i := 409) (by decide +kernel), List.mem_of_getElem? (i := 410) (by decide +kernel)⟩
theorem lw_p17 : lw_okq (⟨"RasterCover", "clipRow", "(I)I"⟩, 12) := ⟨⟨by decide +kernel, by decide +kernel⟩, List.mem_of_getElem? (i := 19) (by decide +kernel), List.mem_of_getElem? (i := 423) (by decide +kernel), List.mem_of_getElem? (i := 424) (by decide +kernel)⟩
theorem lw_p18 : lw_okq (⟨"RasterCover", "needPoint", "(II)V"⟩, 12) := ⟨⟨by decide +kernel, by decide +kernel⟩, List.mem_of_getElem? (i := 19) (by decide +kernel), List.mem_of_getElem? (i := 434) (by decide +kernel), List.mem_of_getElem? (i := 435) (by decide +kernel)⟩
theorem lw_p19 : lw_okq (⟨"RasterCover$PackedRow", "pack", "([III)V"⟩, 2) := ⟨⟨by decide +kernel, by decide +kernel⟩, List.mem_of_getElem? (i := 94) (by decide +kernel), List.mem_of_getElem? (i := 453) (by decide +kernel), List.mem_of_getElem? (i := 454) (by decide +kernel)⟩
theorem lw_p20 : lw_okq (⟨"RasterCover$PackedRow", "put", "(I)V"⟩, 2) := ⟨⟨by decide +kernel, by decide +kernel⟩, List.mem_of_getElem? (i := 94) (by decide +kernel), List.mem_of_getElem? (i := 457) (by decide +kernel), List.mem_of_getElem? (i := 458) (by decide +kernel)⟩
theorem lw_p21 : lw_okq (⟨"RasterCoverModel", "add", "(JJZ)V"⟩, 21) := ⟨⟨by decide +kernel, by decide +kernel⟩, List.mem_of_getElem? (i := 469) (by decide +kernel), List.mem_of_getElem? (i := 553) (by decide +kernel), List.mem_of_getElem? (i := 554) (by decide +kernel)⟩
theorem lw_p22 : lw_okq (⟨"RasterCoverModel", "coverRow", "(II)V"⟩, 21) := ⟨⟨by decide +kernel, by decide +kernel⟩, List.mem_of_getElem? (i := 469) (by decide +kernel), List.mem_of_getElem? (i := 573) (by decide +kernel), List.mem_of_getElem? (i := 574) (by decide +kernel)⟩
theorem lw_p23 : lw_okq (⟨"RasterCoverModel", "crossAll", "(J)V"⟩, 21) := ⟨⟨by decide +kernel, by decide +kernel⟩, List.mem_of_getElem? (i := 469) (by decide +kernel), List.mem_of_getElem? (i := 579) (by decide +kernel), List.mem_of_getElem? (i := 580) (by decide +kernel)⟩
theorem lw_p24 : lw_okq (⟨"RasterCoverModel", "cross", "(IIJ)V"⟩, 21) := ⟨⟨by decide +kernel, by decide +kernel⟩, List.mem_of_getElem? (i := 469) (by decide +kernel), List.mem_of_getElem? (i := 583) (by decide +kernel), List.mem_of_getElem? (i := 584) (by decide +kernel)⟩
theorem lw_p25 : lw_okq (⟨"RasterCoverModel", "isInside", "(IJ)Z"⟩, 21) := ⟨⟨by decide +kernel, by decide +kernel⟩, List.mem_of_getElem? (i := 469) (by decide +kernel), List.mem_of_getElem? (i := 591) (by decide +kernel), List.mem_of_getElem? (i := 592) (by decide +kernel)⟩
theorem lw_p26 : lw_okq (⟨"RasterCoverModel", "addUnits", "(JJ)V"⟩, 21) := ⟨⟨by decide +kernel, by decide +kernel⟩, List.mem_of_getElem? (i := 469) (by decide +kernel), List.mem_of_getElem? (i := 595) (by decide +kernel), List.mem_of_getElem? (i := 596) (by decide +kernel)⟩
theorem lw_p27 : lw_okq (⟨"RasterCoverModel", "coverAt", "(I)I"⟩, 21) := ⟨⟨by decide +kernel, by decide +kernel⟩, List.mem_of_getElem? (i := 469) (by decide +kernel), List.mem_of_getElem? (i := 600) (by decide +kernel), List.mem_of_getElem? (i := 601) (by decide +kernel)⟩
theorem lw_p28 : lw_okq (⟨"RasterCoverModel", "isPoint", "(II)Z"⟩, 21) := ⟨⟨by decide +kernel, by decide +kernel⟩, List.mem_of_getElem? (i := 469) (by decide +kernel), List.mem_of_getElem? (i := 619) (by decide +kernel), List.mem_of_getElem? (i := 620) (by decide +kernel)⟩
theorem lw_p29 : lw_okq (⟨"RasterCoverModel", "packAll", "()V"⟩, 21) := ⟨⟨by decide +kernel, by decide +kernel⟩, List.mem_of_getElem? (i := 469) (by decide +kernel), List.mem_of_getElem? (i := 639) (by decide +kernel), List.mem_of_getElem? (i := 640) (by decide +kernel)⟩
theorem lw_p30 : lw_okq (⟨"RasterCoverModel", "runAt", "(II)I"⟩, 21) := ⟨⟨by decide +kernel, by decide +kernel⟩, List.mem_of_getElem? (i := 469) (by decide +kernel), List.mem_of_getElem? (i := 643) (by decide +kernel), List.mem_of_getElem? (i := 644) (by decide +kernel)⟩
theorem lw_p31 : lw_okq (⟨"RasterCoverModel", "put", "(I)V"⟩, 21) := ⟨⟨by decide +kernel, by decide +kernel⟩, List.mem_of_getElem? (i := 469) (by decide +kernel), List.mem_of_getElem? (i := 647) (by decide +kernel), List.mem_of_getElem? (i := 648) (by decide +kernel)⟩
def lw_privs_2 : List (MethodName × Nat) := [(⟨"RasterCover", "paintPoint", "(IIII)V"⟩, 12), (⟨"RasterCover", "clipRow", "(I)I"⟩, 12), (⟨"RasterCover", "needPoint", "(II)V"⟩, 12), (⟨"RasterCover$PackedRow", "pack", "([III)V"⟩, 2), (⟨"RasterCover$PackedRow", "put", "(I)V"⟩, 2), (⟨"RasterCoverModel", "add", "(JJZ)V"⟩, 21), (⟨"RasterCoverModel", "coverRow", "(II)V"⟩, 21), (⟨"RasterCoverModel", "crossAll", "(J)V"⟩, 21), (⟨"RasterCoverModel", "cross", "(IIJ)V"⟩, 21), (⟨"RasterCoverModel", "isInside", "(IJ)Z"⟩, 21), (⟨"RasterCoverModel", "addUnits", "(JJ)V"⟩, 21), (⟨"RasterCoverModel", "coverAt", "(I)I"⟩, 21), (⟨"RasterCoverModel", "isPoint", "(II)Z"⟩, 21), (⟨"RasterCoverModel", "packAll", "()V"⟩, 21), (⟨"RasterCoverModel", "runAt", "(II)I"⟩, 21), (⟨"RasterCoverModel", "put", "(I)V"⟩, 21)]
theorem lw_r2 : ∀ q ∈ lw_privs_2, lw_okq q := List.forall_mem_cons.mpr ⟨lw_p16, List.forall_mem_cons.mpr ⟨lw_p17, List.forall_mem_cons.mpr ⟨lw_p18, List.forall_mem_cons.mpr ⟨lw_p19, List.forall_mem_cons.mpr ⟨lw_p20, List.forall_mem_cons.mpr ⟨lw_p21, List.forall_mem_cons.mpr ⟨lw_p22, List.forall_mem_cons.mpr ⟨lw_p23, List.forall_mem_cons.mpr ⟨lw_p24, List.forall_mem_cons.mpr ⟨lw_p25, List.forall_mem_cons.mpr ⟨lw_p26, List.forall_mem_cons.mpr ⟨lw_p27, List.forall_mem_cons.mpr ⟨lw_p28, List.forall_mem_cons.mpr ⟨lw_p29, List.forall_mem_cons.mpr ⟨lw_p30, List.forall_mem_cons.mpr ⟨lw_p31, fun _ h => absurd h List.not_mem_nil⟩⟩⟩⟩⟩⟩⟩⟩⟩⟩⟩⟩⟩⟩⟩⟩
def lw_privs : List (MethodName × Nat) := lw_privs_1 ++ (lw_privs_2)
def lw_tbl : List Cond := k2_sels lw_privs ++ tables_1
theorem lw_privs_ok : ∀ q ∈ lw_privs, lw_okq q := by
  show ∀ q ∈ lw_privs_1 ++ (lw_privs_2), lw_okq q
  exact List.forall_mem_append.mpr ⟨lw_r1, lw_r2⟩
/-! ===== BEGIN words of one list among another's, by their places ===== -/
theorem goodIn_r {big : List Cond} (ws : List Cond) (ps : List Nat) (hp : ws = ps.filterMap (fun i => big[i]?)) (h : ws.all goodWord = true) : GoodIn big ws := by
  intro w hw
  have h1 := List.all_eq_true.mp h w hw
  rw [hp] at hw
  obtain ⟨i, -, hi⟩ := List.mem_filterMap.mp hw
  have hm : w ∈ big := by first | exact List.mem_of_getElem? hi | exact List.getElem?_mem hi
  exact ⟨hm, good_of_word h1⟩
theorem goodIn_app {big a b : List Cond} (ha : GoodIn big a) (hb : GoodIn big b) : GoodIn big (a ++ b) := fun w h => (List.mem_append.mp h).elim (ha w) (hb w)
theorem goodIn_ca {big a b : List Cond} {c : Cond} (ha : GoodIn big (c :: a)) (hb : GoodIn big b) : GoodIn big (c :: (a ++ b)) := fun w h => (List.mem_cons.mp h).elim (fun e => ha w (List.mem_cons.mpr (Or.inl e))) (fun h => (List.mem_append.mp h).elim (fun h => ha w (List.mem_cons.mpr (Or.inr h))) (hb w))
theorem goodIn_sub {big ws : List Cond} (hm : ∀ w ∈ ws, w ∈ big) (h : ws.all goodWord = true) : GoodIn big ws := fun w hw => ⟨hm w hw, good_of_word (List.all_eq_true.mp h w hw)⟩
/-! ===== END ===== -/

/-! ===== BEGIN exceptions that leave a method, and their catching by the caller (launches without stack traces) ===== -/
section VXA
/-! The laws vx_back, vx_callV, vx_callS, vx_callSW, vx_throw0, vx_throwS follow proofs of the library, with one case more: JvmDerived/Free/Laws.lean (Back.of_free), Shelf42/LK1.lean (callV, callS), Shelf/KitTraced.lean (throwNew0V, throwNewS). -/
/-- where a method has thrown q: the class by its name, the cell, what was written, the world -/
def vx_T (XC : String → State → State → Prop) (st : State) (q : Addr) (t : State) (mc ms : Nat) (free : Addr → Prop) : Prop :=
  ∃ (E : String) (ce : Cell) (L : List Loc), XC E st t ∧ t.heap[q]? = some ce ∧ ce.vm = .none ∧ st.vm.findClass E = some ce.cls ∧ st.WarmedH t.vm ∧ st.sameButNew ({ t with vm := st.vm } : State) L mc ms ∧ ∀ z ∈ L, free z.base
def vx_Q (Qc : Array Value → State → Outcome → State → Prop) (XC : String → State → State → Prop) (mc ms : Nat) (free : Addr → Prop) : Array Value → State → Outcome → State → Prop := fun a st o t =>
  (Qc a st o t ∧ ∃ L, FrameEnd st o t L mc ms ∧ ∀ q ∈ L, free q.base) ∨ ∃ q, o = .threw q ∧ vx_T XC st q t mc ms free
/-- a callee that returns or throws -/
def vx_Met (l : Launch) (y : MethodName) (ws : List Cond) (rm : Room) (Pc : Array Value → State → Prop) (Qc : Array Value → State → Outcome → State → Prop) (XC : String → State → State → Prop) (mc ms : Nat) (free : Addr → Prop) : Prop :=
  MetFree l y (headSpec ws rm) Pc (fun _ _ _ _ _ => True) (vx_Q Qc XC mc ms free)
def vx_Post (XC : String → State → State → Prop) (mc ms : Nat) (free : Addr → Prop) : Pt → Array Value → Addr → Pt → Prop := fun A a q B =>
  ∃ (g : JFrame) (mk : MethodId) (t : State) (L : List Loc) (E : String) (ce : Cell), B.U.heap = t.heap ∧ B.U.vm = t.vm ∧ XC E (A.U.calling g mk a) t ∧ t.heap[q]? = some ce ∧ ce.vm = .none ∧ A.U.vm.findClass E = some ce.cls ∧ B.locs = A.locs ++ L ∧ (∀ z ∈ L, free z.base) ∧ B.cells = A.cells + mc ∧ B.slots = A.slots + ms
def vx_Back (l : Launch) (R : Room) (p : Program) (e : Env) (below : List Frame) (s : State) (sargs : Array Value) (y : MethodName) (len W9 : Nat)
    (Pre : Pt → Array Value → Prop) (Post : Pt → Array Value → Option Value → Pt → Prop) (PostX : Pt → Array Value → Addr → Pt → Prop) : Prop :=
  ∀ (m : MethodId) (meth : Method) (c : Code) (A : Pt) (g : JFrame) (ig : Instr) (mk : MethodId) (a : Array Value),
    Stand p l e R s m sargs below meth c A.U A.locs A.cells A.slots → g.method = m → g.locals.size = c.maxLocals → decode c.code g.pc = .ok (ig, len) →
    2 * g.monitorRoom + (g.stack.map fun v => v.category).sum ≤ W9 → A.U.methodNamed? y = some mk → Pre A a →
    (∃ (v : Option Value) (B : Pt), Stand p l e R s m sargs below meth c B.U B.locs B.cells B.slots ∧ Post A a v B ∧
      Steps p.tables e below (doInvoke e (A.U.setTop g) [] mk a).1 (B.U.setTop { g with pc := g.pc + len, stack := v.toList ++ g.stack })) ∨
    (∃ (q : Addr) (B : Pt), Stand p l e R s m sargs below meth c B.U B.locs B.cells B.slots ∧ PostX A a q B ∧
      Steps p.tables e below (doInvoke e (A.U.setTop g) [] mk a).1 ((B.U.setTop g).pushFrame (.throwing q)))
section Payer
variable {l : Launch} {R : Room} {p : Program} {e : Env} {below : List Frame} {s : State} {sargs : Array Value} {y : MethodName} {len W9 : Nat}
theorem vx_back {ws : List Cond} {rm : Room} {Pc : Array Value → State → Prop} {Qc : Array Value → State → Outcome → State → Prop} {XC : String → State → State → Prop} {mc ms : Nat} {free : Addr → Prop} {bytes : ByteArray} {maxL : Nat} {ret : Option FieldType}
    (hM : vx_Met l y ws rm Pc Qc XC mc ms free) (hblind : FrameBlind Pc) (hrc : rm.cells = mc) (hrs : rm.slots = ms)
    (hframes : rm.frames + 1 ≤ R.frames) (hlocals : W9 + (maxL + 11) + rm.locals ≤ R.locals)
    (hws : ∀ w ∈ ws, ∀ a' U, s.WarmedH U.vm → w.before a' U = true) (hcode : Cond.code y bytes maxL ret ∈ ws) (hinit : ∀ a' U, s.WarmedH U.vm → (Cond.initialized y.cls).before a' U = true) :
    vx_Back l R p e below s sargs y len W9 (PreOf R mc ms Pc) (PostOf Qc mc ms free) (vx_Post XC mc ms free) := by
  intro m meth c A g ig mk a X hg hsize hdg hW hn hp
  have h1 : (headSpec ws rm).pre.before a A.U = true := atoms_intro fun w hw => hws w hw _ _ X.warmed
  have h2 : (Cond.code y bytes maxL ret).before a A.U = true := hws _ hcode _ _ X.warmed
  have h3 : (Cond.initialized y.cls).before a A.U = true := hinit _ _ X.warmed
  have h4 : A.cells + (headSpec ws rm).room.cells ≤ R.cells := by rw [show (headSpec ws rm).room.cells = mc from hrc]; exact hp.1
  have h5 : A.slots + (headSpec ws rm).room.slots ≤ R.slots := by rw [show (headSpec ws rm).room.slots = ms from hrs]; exact hp.2.1
  have hPc : Pc a (A.U.calling g mk a) := hblind _ _ _ _ hp.2.2
  obtain ⟨U, Ls, c0, s0⟩ := A
  dsimp only [Pt.U, Pt.locs, Pt.cells, Pt.slots] at h1 h2 h3 h4 h5 X hn hPc ⊢
  obtain ⟨methY, cY, hmY, hcY, -, hlY, -, -, -, -⟩ := Cond.code_spec hn h2
  obtain ⟨kY, hkY, -⟩ := className_of_methodNamed hn
  have hinitY : kY.init = .initialized := Cond.initialized_spec (findClass_of_methodNamed hn) hkY h3
  have h : At U g.method c below := by rw [hg]; exact X.here
  have hlocals9 : W9 + (maxL + 11) + (headSpec ws rm).room.locals ≤ R.locals := hlocals
  have happ : (headSpec ws rm).appliesLoose y e.platform (U.calling g mk a) = true :=
    Spec.appliesLoose_calling (g := g) h hdg hn hkY hinitY
      (X.room_calling (g := g) (R' := (headSpec ws rm).room) hsize hmY hcY hframes (by rw [hlY]; omega) h4 h5) h1
  obtain ⟨mid, hmid⟩ := h.above
  have hfr : (U.setTop g).frames = (.java g :: mid) ++ below := by rw [State.frames_setTop' g h.top, hmid]; rfl
  obtain ⟨o, s₂, hsteps, -, hend, hq⟩ := Steps.callFree hM p X.admits X.cas X.clock (acts := []) hfr happ hPc trivial
  have hq' : vx_Q Qc XC mc ms free a (U.calling g mk a) o s₂ := hq
  rw [State.frames_setTop' g h.top] at hend
  obtain ⟨g₀, hg0⟩ := Option.isSome_iff_exists.mp h.top
  obtain ⟨r, hr⟩ := State.topJava?_eq_some.mp hg0
  have hr' : (({ U with heap := s₂.heap, slotsUsed := s₂.slotsUsed } : State).setVm s₂.vm).frames = .java g₀ :: r := hr
  rcases hq' with ⟨hqc, L, hfe, hL⟩ | ⟨q, rfl, E, ce, L, hx, hce, hcv, hcl, hW₂, hsm, hL⟩
  · obtain ⟨⟨v, rfl⟩, hW₂, e2, q2, q3, q4, q5, q6⟩ := id hfe
    have e3 : s₂ = ({ (U.calling g mk a).setFrames s₂.frames with heap := s₂.heap, slotsUsed := s₂.slotsUsed } : State).setVm s₂.vm := by
      have : s₂ = ({ s₂ with vm := (U.calling g mk a).vm } : State).setVm s₂.vm := rfl
      rw [e2] at this
      exact this
    obtain ⟨c₂, i₂, len₂, hc₂, hd₂, hf₂⟩ := hend
    have hW' : U.WarmedH s₂.vm := hW₂
    have hcc : c₂ = c := by
      have h1 : s₂.code? g.method = U.code? g.method := by
        rw [State.code?_eq, State.code?_eq, hW'.alike.method?]
      exact Option.some.inj (hc₂.symm.trans (h1.trans h.code))
    subst hcc
    have hlen : len₂ = len := by rw [hdg] at hd₂; cases hd₂; rfl
    subst hlen
    have hs₂ : s₂ = (({ U with heap := s₂.heap, slotsUsed := s₂.slotsUsed } : State).setVm s₂.vm).setTop { g with pc := g.pc + len₂, stack := v.toList ++ g.stack } := by
      refine e3.trans ?_
      rw [hf₂, State.calling_eq h.top, State.setFrames_setFrames, State.setTop_of_frames _ hr', hr]
      rfl
    have hsame : U.sameButNew ({ U with heap := s₂.heap, slotsUsed := s₂.slotsUsed } : State) L mc ms := by
      refine ⟨?_, q2, q3, q4, q5, q6⟩
      obtain ⟨t, ht, -⟩ := State.frames_cons hr
      show ({ U with heap := s₂.heap, slotsUsed := s₂.slotsUsed } : State) = { U.setFrames U.frames with heap := s₂.heap, slotsUsed := s₂.slotsUsed }
      rw [State.setFrames_self ht]
    subst hg
    refine Or.inl ⟨v, ⟨(({ U with heap := s₂.heap, slotsUsed := s₂.slotsUsed } : State).setVm s₂.vm), Ls ++ L, c0 + mc, s0 + ms⟩,
      ⟨X.admits, X.cas, X.clock, X.frames, X.room, X.hears, X.method, X.code, (X.here.setHeapUsed s₂.heap s₂.slotsUsed).setVm hW'.alike, X.tail, State.WarmedH.trans X.warmed hW', X.limits, X.bytes, X.same.trans (hsame.setVm s.vm)⟩,
      ⟨g, mk, s₂, L, rfl, rfl, hqc, rfl, hL, rfl, rfl⟩, ?_⟩
    show Steps p.tables e below _ ((({ U with heap := s₂.heap, slotsUsed := s₂.slotsUsed } : State).setVm s₂.vm).setTop { g with pc := g.pc + len₂, stack := v.toList ++ g.stack })
    rw [← hs₂]
    exact hsteps
  · obtain ⟨e2, q2, q3, q4, q5, q6⟩ := id hsm
    have e3 : s₂ = ({ (U.calling g mk a).setFrames s₂.frames with heap := s₂.heap, slotsUsed := s₂.slotsUsed } : State).setVm s₂.vm := by
      have : s₂ = ({ s₂ with vm := (U.calling g mk a).vm } : State).setVm s₂.vm := rfl
      rw [e2] at this
      exact this
    have hf₂ : s₂.frames = .throwing q :: .java g :: U.frames.tail := hend
    have hW' : U.WarmedH s₂.vm := hW₂
    have hs₂ : s₂ = ((({ U with heap := s₂.heap, slotsUsed := s₂.slotsUsed } : State).setVm s₂.vm).setTop g).pushFrame (.throwing q) := by
      refine e3.trans ?_
      rw [hf₂, State.calling_eq h.top, State.setFrames_setFrames, State.pushFrame, State.frames_setTop _ hr', State.setTop_of_frames _ hr', State.setFrames_setFrames, hr]
      rfl
    have hsame : U.sameButNew ({ U with heap := s₂.heap, slotsUsed := s₂.slotsUsed } : State) L mc ms := by
      refine ⟨?_, q2, q3, q4, q5, q6⟩
      obtain ⟨t, ht, -⟩ := State.frames_cons hr
      show ({ U with heap := s₂.heap, slotsUsed := s₂.slotsUsed } : State) = { U.setFrames U.frames with heap := s₂.heap, slotsUsed := s₂.slotsUsed }
      rw [State.setFrames_self ht]
    subst hg
    refine Or.inr ⟨q, ⟨(({ U with heap := s₂.heap, slotsUsed := s₂.slotsUsed } : State).setVm s₂.vm), Ls ++ L, c0 + mc, s0 + ms⟩,
      ⟨X.admits, X.cas, X.clock, X.frames, X.room, X.hears, X.method, X.code, (X.here.setHeapUsed s₂.heap s₂.slotsUsed).setVm hW'.alike, X.tail, State.WarmedH.trans X.warmed hW', X.limits, X.bytes, X.same.trans (hsame.setVm s.vm)⟩,
      ⟨g, mk, s₂, L, E, ce, rfl, rfl, hx, hce, hcv, hcl, rfl, hL, rfl, rfl⟩, ?_⟩
    show Steps p.tables e below _ (((({ U with heap := s₂.heap, slotsUsed := s₂.slotsUsed } : State).setVm s₂.vm).setTop g).pushFrame (.throwing q))
    rw [← hs₂]
    exact hsteps
end Payer
section Calls
variable {p : Program} {l : Launch} {e : Env} {R : Room} {s : State} {m : MethodId} {args : Array Value} {below : List Frame} {meth : Method} {c : Code} {T : State} {locs : List Loc} {cells slots : Nat}
theorem vx_callV (X : Stand p l e R s m args below meth c T locs cells slots) (hexec : p.tables.exec = Jvm.exec) {own C : String} {index : Nat} {y : MethodName} {bytes : ByteArray} {maxL : Nat} {ret : Option FieldType}
    (hown : s.vm.findClass own = some m.cls) (hlink : (Cond.methodLink own index y).before args s = true) (hinst : (Cond.instanceMethod y).before args s = true) (hsel : (Cond.selects C y y).before args s = true)
    (hcode : (Cond.code y bytes maxL ret).before args s = true) (hy : y.cls ≠ "java/lang/invoke/MethodHandle" ∧ y.cls ≠ "java/lang/invoke/VarHandle")
    {W9 : Nat} {Pre : Pt → Array Value → Prop} {Post : Pt → Array Value → Option Value → Pt → Prop} {PostX : Pt → Array Value → Addr → Pt → Prop} (hK : vx_Back l R p e below s args y 3 W9 Pre Post PostX)
    {b : Addr} {cellB : Cell} (hcell : T.heap[b]? = some cellB) (hobj : cellB.vm.isStatics = false) (hcls : s.vm.findClass C = some cellB.cls)
    {g : JFrame} (hg : g.method = m) (hsize : g.locals.size = c.maxLocals) {argsL rest : List Value} (hlen : ∀ sig, parseMethodDescriptor y.desc = some sig → argsL.length = sig.parameters.length)
    (hstack : g.stack = argsL.reverse ++ .ref b :: rest) (hW : 2 * g.monitorRoom + (rest.map fun v => v.category).sum ≤ W9) (hdg : decode c.code g.pc = .ok (.invokevirtual index, 3))
    (hpre : ∀ vm₁, s.WarmedH vm₁ → Pre ⟨T.setVm vm₁, locs, cells, slots⟩ (Value.ref b :: argsL).toArray) :
    (∃ (v : Option Value) (vm₁ : Vm) (B : Pt), s.WarmedH vm₁ ∧ Stand p l e R s m args below meth c B.U B.locs B.cells B.slots ∧ Post ⟨T.setVm vm₁, locs, cells, slots⟩ (Value.ref b :: argsL).toArray v B ∧
      ∀ target, Steps p.tables e below (B.U.setTop { g with pc := g.pc + 3, stack := v.toList ++ rest }) target → Steps p.tables e below (T.setTop g) target) ∨
    (∃ (q : Addr) (vm₁ : Vm) (B : Pt), s.WarmedH vm₁ ∧ Stand p l e R s m args below meth c B.U B.locs B.cells B.slots ∧ PostX ⟨T.setVm vm₁, locs, cells, slots⟩ (Value.ref b :: argsL).toArray q B ∧
      Steps p.tables e below (T.setTop g) ((B.U.setTop { g with stack := rest }).pushFrame (.throwing q))) := by
  obtain ⟨mk, methM, hnamed, hmethM, hstM, habM⟩ := Cond.instanceMethod_spec hinst
  obtain ⟨methM', cM, hmethM', -, -, -, -, -, -, hsigM⟩ := Cond.code_spec hnamed hcode
  cases hmethM.symm.trans hmethM'
  obtain ⟨c2, r2, m2, q1, q2, q3, q4, kP, hkP, hkPi⟩ := Cond.selects_spec hsel
  cases hcls.symm.trans q1
  cases (State.methodFound?_of_named hnamed hy).symm.trans q2
  cases hnamed.symm.trans q3
  have hselP : selectMethod e.platform s.vm cellB.cls mk = .method mk := by rw [Launch.admits_selectMethod X.admits]; exact q4
  obtain ⟨vm₁, X₁, hstep₁⟩ := X.invokevirtual hexec hown hlink hnamed hmethM hstM hkP hkPi hy (a := b) (cell := cellB) hcell
    (fun z h => by rw [h] at hobj; cases hobj) hselP hmethM habM hkP hkPi (g := g) hg (argsL := argsL) (rest := rest) (hlen _ hsigM) hstack hdg
  rcases hK m meth c ⟨T.setVm vm₁, locs, cells, slots⟩ { g with stack := rest } (.invokevirtual index) mk (Value.ref b :: argsL).toArray X₁ hg hsize hdg hW (X₁.named hnamed) (hpre vm₁ X₁.warmed) with ⟨v, B, X', hpost, hsteps⟩ | ⟨q, B, X', hpost, hsteps⟩
  · exact Or.inl ⟨v, vm₁, B, X₁.warmed, X', hpost, fun target h => hstep₁ _ fun acts => by rw [doInvoke_state]; exact hsteps.trans h⟩
  · exact Or.inr ⟨q, vm₁, B, X₁.warmed, X', hpost, hstep₁ _ fun acts => by rw [doInvoke_state]; exact hsteps⟩
theorem vx_callS (X : Stand p l e R s m args below meth c T locs cells slots) (hexec : p.tables.exec = Jvm.exec) {own : String} {index : Nat} {y : MethodName} {bytes : ByteArray} {maxL : Nat} {ret : Option FieldType}
    (hown : s.vm.findClass own = some m.cls) (hlink : (Cond.methodLink own index y).before args s = true) (hstat : (Cond.static y).before args s = true) (hinit : (Cond.initialized y.cls).before args s = true)
    (hcode : (Cond.code y bytes maxL ret).before args s = true) (hy : y.cls ≠ "java/lang/invoke/MethodHandle" ∧ y.cls ≠ "java/lang/invoke/VarHandle")
    {W9 : Nat} {Pre : Pt → Array Value → Prop} {Post : Pt → Array Value → Option Value → Pt → Prop} {PostX : Pt → Array Value → Addr → Pt → Prop} (hK : vx_Back l R p e below s args y 3 W9 Pre Post PostX)
    {g : JFrame} (hg : g.method = m) (hsize : g.locals.size = c.maxLocals) {argsL rest : List Value} (hlen : ∀ sig, parseMethodDescriptor y.desc = some sig → argsL.length = sig.parameters.length)
    (hstack : g.stack = argsL.reverse ++ rest) (hW : 2 * g.monitorRoom + (rest.map fun v => v.category).sum ≤ W9) (hdg : decode c.code g.pc = .ok (.invokestatic index, 3))
    (hpre : ∀ vm₁, s.WarmedH vm₁ → Pre ⟨T.setVm vm₁, locs, cells, slots⟩ argsL.toArray) :
    (∃ (v : Option Value) (vm₁ : Vm) (B : Pt), s.WarmedH vm₁ ∧ Stand p l e R s m args below meth c B.U B.locs B.cells B.slots ∧ Post ⟨T.setVm vm₁, locs, cells, slots⟩ argsL.toArray v B ∧
      ∀ target, Steps p.tables e below (B.U.setTop { g with pc := g.pc + 3, stack := v.toList ++ rest }) target → Steps p.tables e below (T.setTop g) target) ∨
    (∃ (q : Addr) (vm₁ : Vm) (B : Pt), s.WarmedH vm₁ ∧ Stand p l e R s m args below meth c B.U B.locs B.cells B.slots ∧ PostX ⟨T.setVm vm₁, locs, cells, slots⟩ argsL.toArray q B ∧
      Steps p.tables e below (T.setTop g) ((B.U.setTop { g with stack := rest }).pushFrame (.throwing q))) := by
  obtain ⟨mk, hnamed⟩ := Cond.code_named hcode
  obtain ⟨methM, cM, hmethM, -, -, -, -, -, -, hsigM⟩ := Cond.code_spec hnamed hcode
  have hstatic : methM.isStatic = true := Cond.static_spec hnamed hmethM hstat
  obtain ⟨kP, hkP, -⟩ := className_of_methodNamed hnamed
  have hinitP : kP.init = .initialized := Cond.initialized_spec (findClass_of_methodNamed hnamed) hkP hinit
  obtain ⟨vm₁, X₁, hstep₁⟩ := X.invokestatic hexec hown hlink hnamed hmethM hstatic hkP hinitP hy (g := g) hg (argsL := argsL) (rest := rest) (hlen _ hsigM) hstack hdg
  rcases hK m meth c ⟨T.setVm vm₁, locs, cells, slots⟩ { g with stack := rest } (.invokestatic index) mk argsL.toArray X₁ hg hsize hdg hW (X₁.named hnamed) (hpre vm₁ X₁.warmed) with ⟨v, B, X', hpost, hsteps⟩ | ⟨q, B, X', hpost, hsteps⟩
  · exact Or.inl ⟨v, vm₁, B, X₁.warmed, X', hpost, fun target h => hstep₁ _ fun acts => by rw [doInvoke_state]; exact hsteps.trans h⟩
  · exact Or.inr ⟨q, vm₁, B, X₁.warmed, X', hpost, hstep₁ _ fun acts => by rw [doInvoke_state]; exact hsteps⟩
end Calls
theorem vx_cls {s : State} {T : State} {vm₁ : Vm} {E : String} {k : ClassId} (hW : s.WarmedH vm₁) (h : (T.setVm vm₁).vm.findClass E = some k) : s.vm.findClass E = some k := by
  have h1 : vm₁.findClass E = some k := h
  rw [hW.alike.findClass] at h1
  exact h1
/-- the method's frame g, with q thrown over it -/
def vx_W (p : Program) (l : Launch) (e : Env) (R : Room) (s : State) (m : MethodId) (args : Array Value) (below : List Frame) (meth : Method) (c : Code) (H : Heap) (locs : List Loc) (cells slots : Nat) (Q : State → Prop) (g : JFrame) (q : Addr) : Prop :=
  ∀ T : State, T.heap = H → Stand p l e R s m args below meth c T locs cells slots → ∃ t, Steps p.tables e below ((T.setTop g).pushFrame (.throwing q)) t ∧ Q t
def vx_Run (p : Program) (l : Launch) (e : Env) (R : Room) (s : State) (m : MethodId) (args : Array Value) (below : List Frame) (meth : Method) (c : Code) (H : Heap) (locs : List Loc) (cells slots mc ms : Nat) (g : JFrame) (rest : List Value) (Qa : State → Outcome → State → Prop) (XC : String → State → State → Prop) (free : Addr → Prop) : Prop :=
  ∀ T : State, T.heap = H → Stand p l e R s m args below meth c T locs cells slots →
    (∃ (v : Option Value) (st₀ t T' : State) (L : List Loc), st₀.heap = H ∧ Stand p l e R s m args below meth c T' (locs ++ L) (cells + mc) (slots + ms) ∧ (∀ q ∈ L, free q.base) ∧ T'.heap = t.heap ∧ T'.vm = t.vm ∧ Qa st₀ (.returned v) t ∧
      Goes p e below T g T' { g with pc := g.pc + 3, stack := v.toList ++ rest }) ∨
    (∃ (q : Addr) (st₀ t T' : State) (L : List Loc) (E : String) (ce : Cell), st₀.heap = H ∧ Stand p l e R s m args below meth c T' (locs ++ L) (cells + mc) (slots + ms) ∧ (∀ z ∈ L, free z.base) ∧ T'.heap = t.heap ∧ T'.vm = t.vm ∧ XC E st₀ t ∧ t.heap[q]? = some ce ∧ ce.vm = .none ∧ s.vm.findClass E = some ce.cls ∧
      Steps p.tables e below (T.setTop g) ((T'.setTop { g with stack := rest }).pushFrame (.throwing q)))
def vx_X {S : Type} (px : S → Prop) (B : String → S → State → Prop) (A : Nat → Prop) : String → State → State → Prop := fun E st t => ∃ u : S, px u ∧ B E u t ∧ va_F A st t
section Runs
variable {p : Program} {l : Launch} {e : Env} {R : Room} {s : State} {m : MethodId} {args : Array Value} {below : List Frame} {meth : Method} {c : Code} {H : Heap} {locs : List Loc} {cells slots : Nat}
variable {y : MethodName} {bytes cc : ByteArray} {maxL nL mc ms n index : Nat} {ret : Option FieldType} {ws : List Cond} {rm : Room} {Pc : Array Value → State → Prop} {Qc : Array Value → State → Outcome → State → Prop} {XC : String → State → State → Prop} {free : Addr → Prop} {Ts : List Cond} {own C : String} {b : Addr} {As rest : List Value} {g : JFrame}
theorem vx_callBack (cb : CallB R s args own index y bytes maxL ret ws rm mc ms n) (hM : vx_Met l y ws rm Pc Qc XC mc ms free) (hbl : FrameBlind Pc) : vx_Back l R p e below s args y 3 8 (PreOf R mc ms Pc) (PostOf Qc mc ms free) (vx_Post XC mc ms free) := by
  obtain ⟨hrc, hrs, hfr, hlo, hws, hcw, -, hini, -⟩ := cb
  exact vx_back (bytes := bytes) (maxL := maxL) (ret := ret) hM hbl hrc hrs hfr hlo hws hcw (fun a' U hW => word_at hW (Or.inl (by first | rfl | simp [Cond.onTables, Cond.keeps, Cond.steady])) hini)
theorem vx_runV (S : CallFix p m c cc nL s args Ts own) (hM : vx_Met l y ws rm Pc Qc XC mc ms free) (cw : CallW R s args own C index y bytes maxL ret ws rm mc ms n) (hp : PreV s H C b Pc As)
    (hg : g.method = m) (hn : As.length = n) (hsize : g.locals.size = nL) (hstack : g.stack = As.reverse ++ .ref b :: rest) (hW : 2 * g.monitorRoom + (rest.map fun v => v.category).sum ≤ 8) (hdg : decode cc g.pc = .ok (.invokevirtual index, 3)) (hf : cells + mc ≤ R.cells ∧ slots + ms ≤ R.slots) :
    vx_Run p l e R s m args below meth c H locs cells slots mc ms g rest (Qc (Value.ref b :: As).toArray) XC free := by
  have hK : vx_Back l R p e below s args y 3 8 (PreOf R mc ms Pc) (PostOf Qc mc ms free) (vx_Post XC mc ms free) := vx_callBack cw.1 hM hp.1
  obtain ⟨⟨-, -, -, -, -, -, hcode, -, hy, hlen, hl⟩, hin, hse⟩ := cw
  obtain ⟨hx, hb, hml, ho, -⟩ := S
  obtain ⟨-, ⟨cellB, hcB, hoB, hclB⟩, hPc⟩ := hp
  intro T hT X
  rcases vx_callV X hx (C := C) (bytes := bytes) (maxL := maxL) (ret := ret) ho hl hin hse hcode hy hK (by rw [hT]; exact hcB) hoB hclB hg (hsize.trans hml.symm) (argsL := As) (rest := rest) (fun sig h => hn.trans (hlen sig h)) hstack hW (by rw [hb]; exact hdg)
    (fun vm₁ hW₁ => ⟨hf.1, hf.2, hPc (T.setVm vm₁) hT hW₁⟩) with ⟨v, vm₁, ⟨U', l2, c2, s2⟩, hW₁, X', ⟨g', mk, t, L, e1, e2, hq, h1, hL, h2, h3⟩, st⟩ | ⟨q, vm₁, ⟨U', l2, c2, s2⟩, hW₁, X', ⟨g', mk, t, L, E, ce, e1, e2, hq, hce, hcv, hcl, h1, hL, h2, h3⟩, st⟩
  · dsimp only [Pt.U, Pt.locs, Pt.cells, Pt.slots] at X' e1 e2 h1 h2 h3 st
    subst h1; subst h2; subst h3
    exact Or.inl ⟨v, (T.setVm vm₁).calling g' mk (Value.ref b :: As).toArray, t, U', L, hT, X', hL, e1, e2, hq, st⟩
  · dsimp only [Pt.U, Pt.locs, Pt.cells, Pt.slots] at X' e1 e2 h1 h2 h3 st hcl
    subst h1; subst h2; subst h3
    exact Or.inr ⟨q, (T.setVm vm₁).calling g' mk (Value.ref b :: As).toArray, t, U', L, E, ce, hT, X', hL, e1, e2, hq, hce, hcv, vx_cls hW₁ hcl, st⟩
theorem vx_runS (S : CallFix p m c cc nL s args Ts own) (hM : vx_Met l y ws rm Pc Qc XC mc ms free) (cw : CallB R s args own index y bytes maxL ret ws rm mc ms n ∧ (Cond.static y).before args s = true) (hp : PreS s H Pc As)
    (hg : g.method = m) (hn : As.length = n) (hsize : g.locals.size = nL) (hstack : g.stack = As.reverse ++ rest) (hW : 2 * g.monitorRoom + (rest.map fun v => v.category).sum ≤ 8) (hdg : decode cc g.pc = .ok (.invokestatic index, 3)) (hf : cells + mc ≤ R.cells ∧ slots + ms ≤ R.slots) :
    vx_Run p l e R s m args below meth c H locs cells slots mc ms g rest (Qc As.toArray) XC free := by
  have hK : vx_Back l R p e below s args y 3 8 (PreOf R mc ms Pc) (PostOf Qc mc ms free) (vx_Post XC mc ms free) := vx_callBack cw.1 hM hp.1
  obtain ⟨⟨-, -, -, -, -, -, hcode, hini, hy, hlen, hl⟩, hstt⟩ := cw
  obtain ⟨hx, hb, hml, ho, -⟩ := S
  intro T hT X
  rcases vx_callS X hx (bytes := bytes) (maxL := maxL) (ret := ret) ho hl hstt hini hcode hy hK hg (hsize.trans hml.symm) (argsL := As) (rest := rest) (fun sig h => hn.trans (hlen sig h)) hstack hW (by rw [hb]; exact hdg)
    (fun vm₁ hW₁ => ⟨hf.1, hf.2, hp.2 (T.setVm vm₁) hT hW₁⟩) with ⟨v, vm₁, ⟨U', l2, c2, s2⟩, hW₁, X', ⟨g', mk, t, L, e1, e2, hq, h1, hL, h2, h3⟩, st⟩ | ⟨q, vm₁, ⟨U', l2, c2, s2⟩, hW₁, X', ⟨g', mk, t, L, E, ce, e1, e2, hq, hce, hcv, hcl, h1, hL, h2, h3⟩, st⟩
  · dsimp only [Pt.U, Pt.locs, Pt.cells, Pt.slots] at X' e1 e2 h1 h2 h3 st
    subst h1; subst h2; subst h3
    exact Or.inl ⟨v, (T.setVm vm₁).calling g' mk As.toArray, t, U', L, hT, X', hL, e1, e2, hq, st⟩
  · dsimp only [Pt.U, Pt.locs, Pt.cells, Pt.slots] at X' e1 e2 h1 h2 h3 st hcl
    subst h1; subst h2; subst h3
    exact Or.inr ⟨q, (T.setVm vm₁).calling g' mk As.toArray, t, U', L, E, ce, hT, X', hL, e1, e2, hq, hce, hcv, vx_cls hW₁ hcl, st⟩
end Runs
section Rows
variable {p : Program} {l : Launch} {e : Env} {R : Room} {s : State} {m : MethodId} {args : Array Value} {below : List Frame} {meth : Method} {c : Code} {H : Heap} {locs : List Loc} {cells slots : Nat} {Q : State → Prop}
variable {mc ms : Nat} {free : Addr → Prop} {A0 A1 : Nat → Prop} {H0 : Heap} {a : Array Value} {pc : Nat} {ls : Array Slot} {st0 rest : List Value}
theorem vx_keep {st₀ t T' : State} {L : List Loc} (h0 : st₀.heap = H) (e1 : T'.heap = t.heap) (hS : va_S A0 H0 H locs) (hA : ∀ q, q < H.size → A1 q → A0 q) (hf : ∀ q, free q → A0 q) (hL : ∀ q ∈ L, free q.base) (hF : va_F A1 st₀ t) :
    H.size ≤ T'.heap.size ∧ (∀ q : Nat, q < H.size → ¬ A1 q → T'.heap[q]? = H[q]?) ∧ va_S A0 H0 T'.heap (locs ++ L) := by
  obtain ⟨hz, hk⟩ := hF
  rw [h0] at hz hk
  exact ⟨by rw [e1]; exact hz, fun q h1 h2 => by rw [e1]; exact hk q h1 h2,
    ⟨Nat.le_trans hS.1 (by rw [e1]; exact hz), fun q h1 h2 => by rw [e1, hk q (Nat.lt_of_lt_of_le h1 hS.1) (fun z => h2 (hA q (Nat.lt_of_lt_of_le h1 hS.1) z))]; exact hS.2.1 q h1 h2, fun q hq => by
      rcases List.mem_append.mp hq with h | h
      · exact hS.2.2 q h
      · exact hf _ (hL q h)⟩⟩
theorem vx_calli {S SX : Type} {post : Int32 → S → Prop} {px : SX → Prop} {B : S → State → Prop} {BX : String → SX → State → Prop} {AX : Nat → Prop} (hr : vx_Run p l e R s m args below meth c H locs cells slots mc ms (F0 m pc ls st0) rest (va_Qi post B A1 a) (vx_X px BX AX) free) (hS : va_S A0 H0 H locs) (hA : ∀ q, q < H.size → A1 q → A0 q) (hf : ∀ q, free q → A0 q) (hAX : ∀ q, q < H.size → AX q → A0 q)
    (kx : ∀ (E : String) (ce : Cell) (q9 : Addr) (u : SX) (t : State) (H1 : Heap) (locs1 : List Loc), t.heap = H1 → s.vm.Alike t.vm → px u → BX E u t → H.size ≤ H1.size → (∀ q : Nat, q < H.size → ¬ AX q → H1[q]? = H[q]?) → va_S A0 H0 H1 locs1 → H1[q9]? = some ce → ce.vm = .none → s.vm.findClass E = some ce.cls → vx_W p l e R s m args below meth c H1 locs1 (cells + mc) (slots + ms) Q (F0 m pc ls rest) q9)
    (kk : ∀ (r : Int32) (u : S) (t : State) (H1 : Heap) (locs1 : List Loc), t.heap = H1 → s.vm.Alike t.vm → post r u → B u t → H.size ≤ H1.size → (∀ q : Nat, q < H.size → ¬ A1 q → H1[q]? = H[q]?) → va_S A0 H0 H1 locs1 → W p l e R s m args below meth c H1 locs1 (cells + mc) (slots + ms) Q (F0 m (pc + 3) ls (.int r :: rest))) : W p l e R s m args below meth c H locs cells slots Q (F0 m pc ls st0) := by
  intro T hT X
  rcases hr T hT X with ⟨v, st₀, t, T', L, h0, X', hL, e1, e2, ⟨⟨r, u, hv, hp, hb⟩, hF⟩, st⟩ | ⟨q, st₀, t, T', L, E, ce, h0, X', hL, e1, e2, ⟨u, hp, hb, hF⟩, hce, hcv, hcl, st⟩
  · cases hv
    obtain ⟨k1, k2, k3⟩ := vx_keep h0 e1 hS hA hf hL hF
    obtain ⟨t2, a1, b1⟩ := kk r u t T'.heap (locs ++ L) e1.symm (by rw [← e2]; exact X'.warmed.alike) hp hb k1 k2 k3 T' rfl X'
    exact ⟨t2, st t2 a1, b1⟩
  · obtain ⟨k1, k2, k3⟩ := vx_keep h0 e1 hS hAX hf hL hF
    obtain ⟨t2, a1, b1⟩ := kx E ce q u t T'.heap (locs ++ L) e1.symm (by rw [← e2]; exact X'.warmed.alike) hp hb k1 k2 k3 (by rw [e1]; exact hce) hcv hcl T' rfl X'
    exact ⟨t2, st.trans a1, b1⟩
theorem vx_calll {S SX : Type} {post : Int64 → S → Prop} {px : SX → Prop} {B : S → State → Prop} {BX : String → SX → State → Prop} {AX : Nat → Prop} (hr : vx_Run p l e R s m args below meth c H locs cells slots mc ms (F0 m pc ls st0) rest (va_Ql post B A1 a) (vx_X px BX AX) free) (hS : va_S A0 H0 H locs) (hA : ∀ q, q < H.size → A1 q → A0 q) (hf : ∀ q, free q → A0 q) (hAX : ∀ q, q < H.size → AX q → A0 q)
    (kx : ∀ (E : String) (ce : Cell) (q9 : Addr) (u : SX) (t : State) (H1 : Heap) (locs1 : List Loc), t.heap = H1 → s.vm.Alike t.vm → px u → BX E u t → H.size ≤ H1.size → (∀ q : Nat, q < H.size → ¬ AX q → H1[q]? = H[q]?) → va_S A0 H0 H1 locs1 → H1[q9]? = some ce → ce.vm = .none → s.vm.findClass E = some ce.cls → vx_W p l e R s m args below meth c H1 locs1 (cells + mc) (slots + ms) Q (F0 m pc ls rest) q9)
    (kk : ∀ (r : Int64) (u : S) (t : State) (H1 : Heap) (locs1 : List Loc), t.heap = H1 → s.vm.Alike t.vm → post r u → B u t → H.size ≤ H1.size → (∀ q : Nat, q < H.size → ¬ A1 q → H1[q]? = H[q]?) → va_S A0 H0 H1 locs1 → W p l e R s m args below meth c H1 locs1 (cells + mc) (slots + ms) Q (F0 m (pc + 3) ls (.long r :: rest))) : W p l e R s m args below meth c H locs cells slots Q (F0 m pc ls st0) := by
  intro T hT X
  rcases hr T hT X with ⟨v, st₀, t, T', L, h0, X', hL, e1, e2, ⟨⟨r, u, hv, hp, hb⟩, hF⟩, st⟩ | ⟨q, st₀, t, T', L, E, ce, h0, X', hL, e1, e2, ⟨u, hp, hb, hF⟩, hce, hcv, hcl, st⟩
  · cases hv
    obtain ⟨k1, k2, k3⟩ := vx_keep h0 e1 hS hA hf hL hF
    obtain ⟨t2, a1, b1⟩ := kk r u t T'.heap (locs ++ L) e1.symm (by rw [← e2]; exact X'.warmed.alike) hp hb k1 k2 k3 T' rfl X'
    exact ⟨t2, st t2 a1, b1⟩
  · obtain ⟨k1, k2, k3⟩ := vx_keep h0 e1 hS hAX hf hL hF
    obtain ⟨t2, a1, b1⟩ := kx E ce q u t T'.heap (locs ++ L) e1.symm (by rw [← e2]; exact X'.warmed.alike) hp hb k1 k2 k3 (by rw [e1]; exact hce) hcv hcl T' rfl X'
    exact ⟨t2, st.trans a1, b1⟩
theorem vx_callf {S SX : Type} {post : UInt32 → S → Prop} {px : SX → Prop} {B : S → State → Prop} {BX : String → SX → State → Prop} {AX : Nat → Prop} (hr : vx_Run p l e R s m args below meth c H locs cells slots mc ms (F0 m pc ls st0) rest (va_Qf post B A1 a) (vx_X px BX AX) free) (hS : va_S A0 H0 H locs) (hA : ∀ q, q < H.size → A1 q → A0 q) (hf : ∀ q, free q → A0 q) (hAX : ∀ q, q < H.size → AX q → A0 q)
    (kx : ∀ (E : String) (ce : Cell) (q9 : Addr) (u : SX) (t : State) (H1 : Heap) (locs1 : List Loc), t.heap = H1 → s.vm.Alike t.vm → px u → BX E u t → H.size ≤ H1.size → (∀ q : Nat, q < H.size → ¬ AX q → H1[q]? = H[q]?) → va_S A0 H0 H1 locs1 → H1[q9]? = some ce → ce.vm = .none → s.vm.findClass E = some ce.cls → vx_W p l e R s m args below meth c H1 locs1 (cells + mc) (slots + ms) Q (F0 m pc ls rest) q9)
    (kk : ∀ (r : UInt32) (u : S) (t : State) (H1 : Heap) (locs1 : List Loc), t.heap = H1 → s.vm.Alike t.vm → post r u → B u t → H.size ≤ H1.size → (∀ q : Nat, q < H.size → ¬ A1 q → H1[q]? = H[q]?) → va_S A0 H0 H1 locs1 → W p l e R s m args below meth c H1 locs1 (cells + mc) (slots + ms) Q (F0 m (pc + 3) ls (.float r :: rest))) : W p l e R s m args below meth c H locs cells slots Q (F0 m pc ls st0) := by
  intro T hT X
  rcases hr T hT X with ⟨v, st₀, t, T', L, h0, X', hL, e1, e2, ⟨⟨r, u, hv, hp, hb⟩, hF⟩, st⟩ | ⟨q, st₀, t, T', L, E, ce, h0, X', hL, e1, e2, ⟨u, hp, hb, hF⟩, hce, hcv, hcl, st⟩
  · cases hv
    obtain ⟨k1, k2, k3⟩ := vx_keep h0 e1 hS hA hf hL hF
    obtain ⟨t2, a1, b1⟩ := kk r u t T'.heap (locs ++ L) e1.symm (by rw [← e2]; exact X'.warmed.alike) hp hb k1 k2 k3 T' rfl X'
    exact ⟨t2, st t2 a1, b1⟩
  · obtain ⟨k1, k2, k3⟩ := vx_keep h0 e1 hS hAX hf hL hF
    obtain ⟨t2, a1, b1⟩ := kx E ce q u t T'.heap (locs ++ L) e1.symm (by rw [← e2]; exact X'.warmed.alike) hp hb k1 k2 k3 (by rw [e1]; exact hce) hcv hcl T' rfl X'
    exact ⟨t2, st.trans a1, b1⟩
theorem vx_calld {S SX : Type} {post : UInt64 → S → Prop} {px : SX → Prop} {B : S → State → Prop} {BX : String → SX → State → Prop} {AX : Nat → Prop} (hr : vx_Run p l e R s m args below meth c H locs cells slots mc ms (F0 m pc ls st0) rest (va_Qd post B A1 a) (vx_X px BX AX) free) (hS : va_S A0 H0 H locs) (hA : ∀ q, q < H.size → A1 q → A0 q) (hf : ∀ q, free q → A0 q) (hAX : ∀ q, q < H.size → AX q → A0 q)
    (kx : ∀ (E : String) (ce : Cell) (q9 : Addr) (u : SX) (t : State) (H1 : Heap) (locs1 : List Loc), t.heap = H1 → s.vm.Alike t.vm → px u → BX E u t → H.size ≤ H1.size → (∀ q : Nat, q < H.size → ¬ AX q → H1[q]? = H[q]?) → va_S A0 H0 H1 locs1 → H1[q9]? = some ce → ce.vm = .none → s.vm.findClass E = some ce.cls → vx_W p l e R s m args below meth c H1 locs1 (cells + mc) (slots + ms) Q (F0 m pc ls rest) q9)
    (kk : ∀ (r : UInt64) (u : S) (t : State) (H1 : Heap) (locs1 : List Loc), t.heap = H1 → s.vm.Alike t.vm → post r u → B u t → H.size ≤ H1.size → (∀ q : Nat, q < H.size → ¬ A1 q → H1[q]? = H[q]?) → va_S A0 H0 H1 locs1 → W p l e R s m args below meth c H1 locs1 (cells + mc) (slots + ms) Q (F0 m (pc + 3) ls (.double r :: rest))) : W p l e R s m args below meth c H locs cells slots Q (F0 m pc ls st0) := by
  intro T hT X
  rcases hr T hT X with ⟨v, st₀, t, T', L, h0, X', hL, e1, e2, ⟨⟨r, u, hv, hp, hb⟩, hF⟩, st⟩ | ⟨q, st₀, t, T', L, E, ce, h0, X', hL, e1, e2, ⟨u, hp, hb, hF⟩, hce, hcv, hcl, st⟩
  · cases hv
    obtain ⟨k1, k2, k3⟩ := vx_keep h0 e1 hS hA hf hL hF
    obtain ⟨t2, a1, b1⟩ := kk r u t T'.heap (locs ++ L) e1.symm (by rw [← e2]; exact X'.warmed.alike) hp hb k1 k2 k3 T' rfl X'
    exact ⟨t2, st t2 a1, b1⟩
  · obtain ⟨k1, k2, k3⟩ := vx_keep h0 e1 hS hAX hf hL hF
    obtain ⟨t2, a1, b1⟩ := kx E ce q u t T'.heap (locs ++ L) e1.symm (by rw [← e2]; exact X'.warmed.alike) hp hb k1 k2 k3 (by rw [e1]; exact hce) hcv hcl T' rfl X'
    exact ⟨t2, st.trans a1, b1⟩
theorem vx_callv {S SX : Type} {post : S → Prop} {px : SX → Prop} {B : S → State → Prop} {BX : String → SX → State → Prop} {AX : Nat → Prop} (hr : vx_Run p l e R s m args below meth c H locs cells slots mc ms (F0 m pc ls st0) rest (va_Qv post B A1 a) (vx_X px BX AX) free) (hS : va_S A0 H0 H locs) (hA : ∀ q, q < H.size → A1 q → A0 q) (hf : ∀ q, free q → A0 q) (hAX : ∀ q, q < H.size → AX q → A0 q)
    (kx : ∀ (E : String) (ce : Cell) (q9 : Addr) (u : SX) (t : State) (H1 : Heap) (locs1 : List Loc), t.heap = H1 → s.vm.Alike t.vm → px u → BX E u t → H.size ≤ H1.size → (∀ q : Nat, q < H.size → ¬ AX q → H1[q]? = H[q]?) → va_S A0 H0 H1 locs1 → H1[q9]? = some ce → ce.vm = .none → s.vm.findClass E = some ce.cls → vx_W p l e R s m args below meth c H1 locs1 (cells + mc) (slots + ms) Q (F0 m pc ls rest) q9)
    (kk : ∀ (u : S) (t : State) (H1 : Heap) (locs1 : List Loc), t.heap = H1 → s.vm.Alike t.vm → post u → B u t → H.size ≤ H1.size → (∀ q : Nat, q < H.size → ¬ A1 q → H1[q]? = H[q]?) → va_S A0 H0 H1 locs1 → W p l e R s m args below meth c H1 locs1 (cells + mc) (slots + ms) Q (F0 m (pc + 3) ls (rest))) : W p l e R s m args below meth c H locs cells slots Q (F0 m pc ls st0) := by
  intro T hT X
  rcases hr T hT X with ⟨v, st₀, t, T', L, h0, X', hL, e1, e2, ⟨⟨u, hv, hp, hb⟩, hF⟩, st⟩ | ⟨q, st₀, t, T', L, E, ce, h0, X', hL, e1, e2, ⟨u, hp, hb, hF⟩, hce, hcv, hcl, st⟩
  · cases hv
    obtain ⟨k1, k2, k3⟩ := vx_keep h0 e1 hS hA hf hL hF
    obtain ⟨t2, a1, b1⟩ := kk u t T'.heap (locs ++ L) e1.symm (by rw [← e2]; exact X'.warmed.alike) hp hb k1 k2 k3 T' rfl X'
    exact ⟨t2, st t2 a1, b1⟩
  · obtain ⟨k1, k2, k3⟩ := vx_keep h0 e1 hS hAX hf hL hF
    obtain ⟨t2, a1, b1⟩ := kx E ce q u t T'.heap (locs ++ L) e1.symm (by rw [← e2]; exact X'.warmed.alike) hp hb k1 k2 k3 (by rw [e1]; exact hce) hcv hcl T' rfl X'
    exact ⟨t2, st.trans a1, b1⟩
/-- caught by the row x of this method's table; the rows ahead don't take it -/
theorem vx_catch {own name : String} {E : String} {ce : Cell} {q : Addr} (hown : s.vm.findClass own = some m.cls) (pre : List ExceptionTableEntry) (x : ExceptionTableEntry) (suf : List ExceptionTableEntry) (hsplit : c.exceptionTable.toList = pre ++ x :: suf)
    (hpass : ∀ z ∈ pre, covers z pc = false ∨ (z.catchType ≠ 0 ∧ ∃ nm : String, (Cond.classLink own z.catchType nm).before args s = true ∧ va_Nc E nm s)) (hx : covers x pc = true) (h0 : x.catchType ≠ 0)
    (hlink : (Cond.classLink own x.catchType name).before args s = true) (hcast : (Cond.castable E name).before args s = true) (hcell : H[q]? = some ce) (hv : ce.vm = .none) (hcl : s.vm.findClass E = some ce.cls)
    (kk : W p l e R s m args below meth c H locs cells slots Q (F0 m x.handlerPc ls [.ref q])) : vx_W p l e R s m args below meth c H locs cells slots Q (F0 m pc ls rest) q := by
  intro T hT X
  have hpl : e.platform.magicAccessors = ({} : Platform).magicAccessors := by rw [X.admits.platform]
  obtain ⟨c3, c4, hc3, hc4, hasg⟩ := Cond.castable_spec hcast
  cases Option.some.inj (hc3.symm.trans hcl)
  obtain ⟨c5, hc5, hcl5⟩ := Cond.classLink_spec hown hlink e.platform hpl
  cases Option.some.inj (hc4.symm.trans hc5)
  obtain ⟨vm', X', st⟩ := X.thenCaughtThrough q (g := F0 m pc ls rest) rfl (Steps.refl _) (by rw [hT]; exact hcell) (by rw [hv]; rfl) (by obtain ⟨k9, h9, -⟩ := Vm.findClass_spec hcl; exact ⟨k9, h9⟩) pre x suf hsplit
    (fun z hz => by
      rcases hpass z hz with h | ⟨hz0, nm, hl1, hn1⟩
      · exact Or.inl h
      · obtain ⟨c6, hc6, hcl6⟩ := Cond.classLink_spec hown hl1 e.platform hpl
        obtain ⟨a8, b8, h1, h2, h3⟩ := hn1
        cases Option.some.inj (h1.symm.trans hcl)
        cases Option.some.inj (h2.symm.trans hc6)
        exact Or.inr ⟨hz0, _, hcl6, h3⟩) hx (Or.inr ⟨h0, c4, hcl5, hasg⟩)
  obtain ⟨t, a1, b1⟩ := kk (T.setVm vm') hT X'
  exact ⟨t, st.trans a1, b1⟩
end Rows
section Ends
variable {p : Program} {l : Launch} {e : Env} {R : Room} {s : State} {m : MethodId} {args : Array Value} {below : List Frame} {meth : Method} {c : Code} {H : Heap} {locs : List Loc} {cells slots : Nat} {Q : State → Prop}
variable {mc ms : Nat} {free : Addr → Prop} {A0 A1 : Nat → Prop} {H0 : Heap} {a : Array Value} {ls : Array Slot} {st0 rest : List Value}
variable {Qc : Array Value → State → Outcome → State → Prop} {XC : String → State → State → Prop}
/-- what a body that may throw owes at its end -/
def vx_MQ (below : List Frame) (Qc : Array Value → State → Outcome → State → Prop) (XC : String → State → State → Prop) (a : Array Value) (s : State) (mc ms : Nat) (free : Addr → Prop) : State → Prop := fun t =>
  ∃ o, t.status = .running ∧ Ended t below o ∧ vx_Q Qc XC mc ms free a s o t
theorem vx_ret {g : JFrame} {mc ms : Nat} (k : W p l e R s m args below meth c H locs cells slots (MQ below Qc args s mc ms free) g) : W p l e R s m args below meth c H locs cells slots (vx_MQ below Qc XC args s mc ms free) g := by
  intro T hT X
  obtain ⟨t, a1, o, b1, b2, b3, b4⟩ := k T hT X
  exact ⟨t, a1, o, b1, b2, Or.inl ⟨b3, b4⟩⟩
/-- not caught here: it goes on to the caller -/
theorem vx_widen {g : JFrame} {q : Addr} {k n : Nat} (h1 : cells ≤ k) (h2 : slots ≤ n) (kk : vx_W p l e R s m args below meth c H locs k n Q g q) : vx_W p l e R s m args below meth c H locs cells slots Q g q := fun T hT X => kk T hT (stand_widen X h1 h2)
theorem vx_out {pc : Nat} {E : String} {ce : Cell} {q : Addr} {mc ms : Nat} (hout : ∀ x ∈ c.exceptionTable.toList, covers x pc = false) (hlocks : meth.locks = false) (hcell : H[q]? = some ce) (hv : ce.vm = .none) (hcl : s.vm.findClass E = some ce.cls)
    (hx : ∀ t : State, t.heap = H → s.vm.Alike t.vm → XC E s t) (hf : ∀ z ∈ locs, free z.base) (hc : cells ≤ mc) (hs : slots ≤ ms) :
    vx_W p l e R s m args below meth c H locs cells slots (vx_MQ below Qc XC args s mc ms free) (F0 m pc ls rest) q := by
  intro T hT X
  obtain ⟨st1, hrun, hend, hW, hsm⟩ := X.leaveThrown q (g := F0 m pc ls rest) rfl rfl rfl hout hlocks
  have hcell9 : (T.setFrames (.throwing q :: below)).heap[q]? = some ce := by
    show T.heap[q]? = some ce
    rw [hT]; exact hcell
  exact ⟨_, st1, .threw q, hrun, hend, Or.inr ⟨q, rfl, E, ce, locs, hx _ hT hW.alike, hcell9, hv, hcl, hW, hsm.mono hc hs, hf⟩⟩
theorem vx_frame {U : State} {k n : Nat} (h : s.sameButNew ({ U with vm := s.vm } : State) locs k n) : s.heap.size ≤ U.heap.size ∧ ∀ q : Nat, q < s.heap.size → (∀ z ∈ locs, z.base ≠ q) → U.heap[q]? = s.heap[q]? := by
  obtain ⟨-, h2, -, -, -, h6⟩ := h
  refine ⟨h2, fun q hq hz => ?_⟩
  obtain ⟨c9, e1, e2, e3, e4⟩ := h6 q _ (Array.getElem?_eq_getElem hq)
  have hs : c9.slots = (s.heap[q]).slots := Array.ext_getElem? fun i => e4 i fun hm => hz _ hm rfl
  have h9 : c9 = s.heap[q] := by
    rw [hs] at e2
    exact e2
  have e5 : U.heap[q]? = some c9 := e1
  rw [e5, h9, Array.getElem?_eq_getElem hq]
/-- the words of a throw but the four that speak of the heap -/
def vx_no (w : Cond) : Bool := decide (w ≠ .isRef (.static Bundle.tN "UNASSIGNED_STACK" Bundle.steD)) && decide (w ≠ .isRef (.static Bundle.tN "SUPPRESSED_SENTINEL" Bundle.listD)) && decide (w ≠ .laysStatic Bundle.tN "UNASSIGNED_STACK" Bundle.steD) && decide (w ≠ .laysStatic Bundle.tN "SUPPRESSED_SENTINEL" Bundle.listD)
def vx_at0 (own : String) (ic : Nat) (X : String) (names : List String) : List Cond := (Bundle.ownAtoms0 own ic X names).filter vx_no
def vx_atS (own : String) (ic : Nat) (X : String) (names : List String) : List Cond := (Bundle.ownAtoms own ic X names).filter vx_no
/-- a word that the tables alone decide, or a good one -/
def vx_ot (w : Cond) : Bool := w.onTables || goodWord w
theorem vx_ot_at {args a' : Array Value} {s U : State} {w : Cond} (hW : s.WarmedH U.vm) (hvm : s.vm = U.vm) (hg : vx_ot w = true) (h : w.before args s = true) : w.before a' U = true := by
  simp only [vx_ot, Bool.or_eq_true] at hg
  rcases hg with hg | hg
  · exact va_tabs hg hvm h
  · exact word_at hW (good_of_word hg) h
/-- a list's words: the good ones out of the method's own list, the others by premises of their own -/
theorem vx_hat {args : Array Value} {s : State} {L B : List Cond} (h1 : ∀ w ∈ L.filter goodWord, w.before args s = true) (h2 : ∀ w ∈ L.filter (fun w => !goodWord w), w ∈ B) (h3 : ∀ w ∈ B, w.before args s = true) : ∀ w ∈ L, w.before args s = true := by
  intro w hw
  by_cases g : goodWord w = true
  · exact h1 w (List.mem_filter.mpr ⟨hw, g⟩)
  · refine h3 w (h2 w (List.mem_filter.mpr ⟨hw, ?_⟩))
    show (!goodWord w) = true
    cases hgw : goodWord w
    · rfl
    · exact absurd hgw g
theorem vx_c {args : Array Value} {s : State} {w : Cond} {B : List Cond} (h : w.before args s = true) (t : ∀ w ∈ B, w.before args s = true) : ∀ w' ∈ w :: B, w'.before args s = true := fun w' h' => (List.mem_cons.mp h').elim (fun e => by rw [e]; exact h) (t w')
theorem vx_n {args : Array Value} {s : State} : ∀ w ∈ ([] : List Cond), w.before args s = true := fun _ h => nomatch h
theorem vx_own {args : Array Value} {s : State} {L : List Cond} (h1 : ∀ w ∈ L.filter vx_no, w.before args s = true)
    (hU : (Cond.isRef (.static Bundle.tN "UNASSIGNED_STACK" Bundle.steD)).before args s = true) (hN : (Cond.isRef (.static Bundle.tN "SUPPRESSED_SENTINEL" Bundle.listD)).before args s = true)
    (lU : (Cond.laysStatic Bundle.tN "UNASSIGNED_STACK" Bundle.steD).before args s = true) (lN : (Cond.laysStatic Bundle.tN "SUPPRESSED_SENTINEL" Bundle.listD).before args s = true) : ∀ w ∈ L, w.before args s = true := by
  intro w hw
  by_cases e1 : w = .isRef (.static Bundle.tN "UNASSIGNED_STACK" Bundle.steD)
  · rw [e1]; exact hU
  · by_cases e2 : w = .isRef (.static Bundle.tN "SUPPRESSED_SENTINEL" Bundle.listD)
    · rw [e2]; exact hN
    · by_cases e3 : w = .laysStatic Bundle.tN "UNASSIGNED_STACK" Bundle.steD
      · rw [e3]; exact lU
      · by_cases e4 : w = .laysStatic Bundle.tN "SUPPRESSED_SENTINEL" Bundle.listD
        · rw [e4]; exact lN
        · exact h1 w (List.mem_filter.mpr ⟨hw, by unfold vx_no; rw [decide_eq_true e1, decide_eq_true e2, decide_eq_true e3, decide_eq_true e4]; rfl⟩)
/-- where a static field lies, its class's statics cell in H -/
def vx_L (C n d : String) (A : Nat → Prop) (U : State) (H : Heap) : Prop := ∃ (c : ClassId) (k : Class) (i : Nat) (f : Field) (a : Nat) (cell : Cell), U.vm.findClass C = some c ∧ U.fieldFound? C n d = some (c, k, i, f) ∧ f.isStatic = true ∧ k.statics = some a ∧ H[a]? = some cell ∧ cell.vm.isStatics = true ∧ cell.cls = c ∧ f.slot < cell.slots.size ∧ k.staticTypes[f.slot]? = some f.type ∧ ¬ A a
theorem vx_L.moved {C n d : String} {A : Nat → Prop} {u U : State} {H : Heap} (hvm : u.vm.Alike U.vm) (h : vx_L C n d A u H) : vx_L C n d A U H := by
  obtain ⟨c, k, i, f, a, cell, h1, h2, h3, h4, h5, h6, h7, h8, h9, h10⟩ := h
  obtain ⟨k', hi', he⟩ := State.fieldFound?_setVm hvm h2
  exact ⟨c, k', i, f, a, cell, by rw [hvm.findClass]; exact h1, hi', h3, by rw [he]; exact h4, h5, h6, h7, h8, by rw [he]; exact h9, h10⟩
theorem vx_L.kept {C n d : String} {A : Nat → Prop} {U : State} {H H1 : Heap} (h : vx_L C n d A U H) (hq : ∀ a : Nat, a < H.size → ¬ A a → H1[a]? = H[a]?) : vx_L C n d A U H1 := by
  obtain ⟨c, k, i, f, a, cell, h1, h2, h3, h4, h5, h6, h7, h8, h9, h10⟩ := h
  exact ⟨c, k, i, f, a, cell, h1, h2, h3, h4, by rw [hq a (Array.getElem?_eq_some_iff.mp h5).1 h10]; exact h5, h6, h7, h8, h9, h10⟩
theorem vx_L.narrow {C n d : String} {A B : Nat → Prop} {U : State} {H : Heap} (h : vx_L C n d A U H) (hAB : ∀ q, B q → A q) : vx_L C n d B U H := by
  obtain ⟨c, k, i, f, a, cell, h1, h2, h3, h4, h5, h6, h7, h8, h9, h10⟩ := h
  exact ⟨c, k, i, f, a, cell, h1, h2, h3, h4, h5, h6, h7, h8, h9, fun z => h10 (hAB _ z)⟩
theorem vx_L.word {C n d : String} {A : Nat → Prop} {s : State} {args : Array Value} (h : vx_L C n d A s s.heap) : (Cond.laysStatic C n d).before args s = true := by
  obtain ⟨c, k, i, f, a, cell, h1, h2, h3, h4, h5, h6, h7, h8, h9, -⟩ := h
  show (Cond.laysStatic C n d).holds args s none s [] = true
  exact Cond.laysStatic_of h1 h2 h3 h4 h5 h6 h7 h8 h9
/-- .. and what it holds: null or some reference -/
def vx_Zq (C n d : String) (A : Nat → Prop) (U : State) (H : Heap) : Prop := va_Zq C n d A U H ∧ vx_L C n d A U H
theorem vx_Zq.moved {C n d : String} {A : Nat → Prop} {u U : State} {H : Heap} (hvm : u.vm.Alike U.vm) (h : vx_Zq C n d A u H) : vx_Zq C n d A U H := ⟨va_Zq.moved hvm h.1, vx_L.moved hvm h.2⟩
theorem vx_Zq.kept {C n d : String} {A : Nat → Prop} {U : State} {H H1 : Heap} (h : vx_Zq C n d A U H) (hq : ∀ a : Nat, a < H.size → ¬ A a → H1[a]? = H[a]?) : vx_Zq C n d A U H1 := ⟨va_Zq.kept h.1 hq, vx_L.kept h.2 hq⟩
theorem vx_Zq.narrow {C n d : String} {A B : Nat → Prop} {U : State} {H : Heap} (h : vx_Zq C n d A U H) (hAB : ∀ q, B q → A q) : vx_Zq C n d B U H := ⟨va_Zq.narrow h.1 hAB, vx_L.narrow h.2 hAB⟩
theorem vx_Zqof {args : Array Value} {s : State} {C n d : String} {A : Nat → Prop} (hl : (Cond.laysStatic C n d).before args s = true) (hini : (Cond.initialized C).before args s = true) (h : (Cond.isRef (.static C n d)).before args s = true) (hA : ∀ a : Nat, a < s.heap.size → ¬ A a) : vx_Zq C n d A s s.heap := by
  refine ⟨va_Zqof hl hini h hA, ?_⟩
  obtain ⟨c, k, i, f, a, cell, h1, h2, h3, h4, h5, h6, h7, h8, h9⟩ := Cond.laysStatic_spec hl
  exact ⟨c, k, i, f, a, cell, h1, h2, h3, h4, h5, h6, h7, h8, h9, hA a (Array.getElem?_eq_some_iff.mp h5).1⟩
theorem vx_isRef {C n d : String} {v : Value} {A : Nat → Prop} {s : State} {args : Array Value} (h : va_Z C n d v A s s.heap) (hv : v.isRef = true) : (Cond.isRef (.static C n d)).before args s = true := by
  obtain ⟨cf, kf, fi, f, a, cell, h1, h2, h3, h4, h5, h6, h7, -⟩ := h
  have he : (Term.static C n d).eval args s none [] s = some v := by
    simp [Term.eval, State.fieldNamed?, h1, h2, h4, h5, h6, h7]
  simp only [Cond.before, Cond.holds, Cond.value, he]
  cases v <;> simp_all [Value.isRef]
theorem vx_isRefq {C n d : String} {A : Nat → Prop} {s : State} {args : Array Value} (h : va_Zq C n d A s s.heap) : (Cond.isRef (.static C n d)).before args s = true := by
  rcases h with h | ⟨t, h⟩
  · exact vx_isRef h rfl
  · exact vx_isRef h rfl
/-- the same frame, seen from here: as if the method were called anew in this heap -/
theorem vx_rebase {T : State} (X : Stand p l e R s m args below meth c T locs cells slots) {R' : Room} (hf : R'.frames ≤ R.frames) (hl : R'.locals ≤ R.locals) (hc : cells + R'.cells ≤ R.cells) (hs : slots + R'.slots ≤ R.slots) :
    Stand p l e R' ((T.setVm s.vm).setFrames (.invoking m args :: below)) m args below meth c T [] 0 0 := by
  have htop : (T.setVm s.vm).topJava?.isSome := X.here.top
  have hF : ((T.setVm s.vm).setFrames (.invoking m args :: below)).frames = .invoking m args :: below := State.frames_setFrames _ (State.cur_lt_of_top htop)
  obtain ⟨g₀, hg0⟩ := Option.isSome_iff_exists.mp htop
  obtain ⟨r, hr⟩ := State.topJava?_eq_some.mp hg0
  have hl9 : e.platform.stackLimits (T.setVm s.vm).me = e.platform.stackLimits s.me := X.limits
  have hb9 : (T.setVm s.vm).me.stackBytes = s.me.stackBytes := X.bytes
  refine ⟨X.admits, X.cas, X.clock, hF, ?_, X.hears, X.method, X.code, X.here, X.tail, X.warmed, ?_, ?_, ?_⟩
  · have h := X.room
    have hU : ((T.setVm s.vm).setFrames (.invoking m args :: below)).localsInUse = s.localsInUse := by
      rw [State.localsInUse_invoking hF (meth := meth) (c := c) X.method X.code, State.localsInUse_invoking X.frames X.method X.code]
    simp only [State.hasRoom, Bool.and_eq_true, decide_eq_true_eq] at h ⊢
    obtain ⟨⟨⟨⟨h1, h2, h3, h4, h5, h6⟩, h7⟩, h8⟩, h9⟩ := h
    rw [X.frames, List.length_cons] at h2 h3
    have q1 := X.heapSize
    have q2 := X.used
    simp only [hF, hU, List.length_cons, State.stackLimits_setFrames, State.stackBytes_setFrames, hl9, hb9]
    refine ⟨⟨⟨⟨by omega, by omega, by omega, by omega, by omega, h6⟩, ?_⟩, ?_⟩, X.book⟩
    · show T.heap.size + R'.cells ≤ e.platform.maxCells
      omega
    · show T.slotsUsed + R'.slots ≤ e.platform.maxSlots
      omega
  · rw [State.stackLimits_setFrames]; rfl
  · rw [State.stackBytes_setFrames]; rfl
  · refine ⟨?_, Nat.le_refl _, Nat.le_refl _, ?_, ?_, fun a c9 h9 => ⟨c9, h9, rfl, rfl, fun _ _ => rfl⟩⟩
    · obtain ⟨t, ht, -⟩ := State.frames_cons hr
      show T.setVm s.vm = { ((T.setVm s.vm).setFrames (.invoking m args :: below)).setFrames (T.setVm s.vm).frames with heap := T.heap, slotsUsed := T.slotsUsed }
      rw [State.setFrames_setFrames, State.setFrames_self ht]
      rfl
    · show T.slotsUsed = T.slotsUsed + ((T.heap.toList.drop T.heap.size).map (·.slots.size)).sum
      rw [List.drop_eq_nil_of_le (Nat.le_of_eq Array.length_toList)]
      rfl
    · show ((T.heap.toList.drop T.heap.size).map (·.slots.size)).sum ≤ 0
      rw [List.drop_eq_nil_of_le (Nat.le_of_eq Array.length_toList)]
      exact Nat.le_refl _
/-- 'throw new E()': new; dup; invokespecial; athrow -/
theorem vx_throw0 {cc : ByteArray} {pc : Nat} (hexec : p.tables.exec = Jvm.exec) (hb : c.code = cc) (hl : l.stackTraces = false) {own cls : String} {names : List String} {ik ic mc ms : Nat} {A : Nat → Prop}
    (hown : s.vm.findClass own = some m.cls) (hcls : Bundle.fit cls = true) (hnames : ∀ n ∈ names, Bundle.fit n = true)
    (hk : (Cond.classLink own ik cls).before args s = true) (hini : (Cond.initialized cls).before args s = true) (hat : ∀ w ∈ vx_at0 own ic cls names, w.before args s = true)
    (hgood : ∀ w ∈ Cond.classLink own ik cls :: Cond.initialized cls :: vx_at0 own ic cls names, vx_ot w = true)
    (hU : vx_Zq Bundle.tN "UNASSIGNED_STACK" Bundle.steD A s s.heap) (hN : vx_Zq Bundle.tN "SUPPRESSED_SENTINEL" Bundle.listD A s s.heap) (hS : va_S A s.heap H locs) (hsize : ls.size = c.maxLocals)
    (d0 : decode cc pc = .ok (.new ik, 3)) (d3 : decode cc (pc + 3) = .ok (.dup, 1)) (d4 : decode cc (pc + 4) = .ok (.invokespecial ic, 3)) (d7 : decode cc (pc + 7) = .ok (.athrow, 1))
    (hout : ∀ x ∈ c.exceptionTable.toList, covers x (pc + 7) = false)
    (hRframes : names.length + 3 < R.frames) (hRlocals : (rest.map fun v => v.category).sum + (13 * (names.length + 1) + 42) ≤ R.locals) (hRcells : cells + 1 ≤ R.cells) (hRslots : slots + 6 ≤ R.slots) (hlocks : meth.locks = false)
    (hx : ∀ t : State, s.vm.Alike t.vm → H.size ≤ t.heap.size → (∀ q : Nat, q < H.size → t.heap[q]? = H[q]?) → XC cls s t)
    (hf : ∀ z ∈ locs, free z.base) (hc : cells + 1 ≤ mc) (hs : slots + 6 ≤ ms) :
    W p l e R s m args below meth c H locs cells slots (vx_MQ below Qc XC args s mc ms free) (F0 m pc ls rest) := by
  intro T hT X
  have htr : e.platform.stackTraces = false := (show e.platform.stackTraces = l.stackTraces by rw [X.admits.platform]).trans hl
  have Y := vx_rebase X (R' := { frames := R.frames, locals := R.locals, cells := 1, slots := 6 }) (Nat.le_refl _) (Nat.le_refl _) hRcells hRslots
  obtain ⟨s', hA⟩ : ∃ z, z = (T.setVm s.vm).setFrames (.invoking m args :: below) := ⟨_, rfl⟩
  rw [← hA] at Y
  have hvm : s'.vm = s.vm := by rw [hA]; rfl
  have hhp : s'.heap = H := by rw [hA]; exact hT
  have hW0 : s.WarmedH s'.vm := by rw [hvm]; exact State.WarmedH.refl s
  have hat' : ∀ w ∈ vx_at0 own ic cls names, w.before args s' = true := fun w hw => vx_ot_at hW0 hvm.symm (hgood w (List.mem_cons_of_mem _ (List.mem_cons_of_mem _ hw))) (hat w hw)
  have hk' : (Cond.classLink own ik cls).before args s' = true := vx_ot_at hW0 hvm.symm (hgood _ List.mem_cons_self) hk
  have hini' : (Cond.initialized cls).before args s' = true := vx_ot_at hW0 hvm.symm (hgood _ (List.mem_cons_of_mem _ List.mem_cons_self)) hini
  have hU' : vx_Zq Bundle.tN "UNASSIGNED_STACK" Bundle.steD A s' s'.heap := by rw [hhp]; exact vx_Zq.moved hW0.alike (hU.kept hS.2.1)
  have hN' : vx_Zq Bundle.tN "SUPPRESSED_SENTINEL" Bundle.listD A s' s'.heap := by rw [hhp]; exact vx_Zq.moved hW0.alike (hN.kept hS.2.1)
  have h : ∀ w ∈ Bundle.ownAtoms0 own ic cls names, w.before args s' = true := vx_own hat' (vx_isRefq hU'.1) (vx_isRefq hN'.1) hU'.2.word hN'.2.word
  have hown' : s'.vm.findClass own = some m.cls := by rw [hvm]; exact hown
  have hins : (Cond.instantiable cls 6).before args s' = true := h _ (by simp [Bundle.ownAtoms0])
  obtain ⟨vm₁, cX, kX, hfX, hkX, -, -, X₁, st1⟩ := Y.newCold hexec (own := own) (C := cls) (index := ik) (n := 6) hown' hk' hins hini'
    (g := F0 m pc ls rest) rfl (by rw [hb]; exact d0) (Nat.le_refl _) (Nat.le_refl _)
  generalize hT1 : (T.setVm vm₁).pushCell { cls := cX, slots := kX.instanceTypes.map defaultValue, vm := .none } = T1 at X₁ st1
  have hcat : (Value.ref T.heap.size).category = 1 := rfl
  have hcellA : T1.heap[T.heap.size]? = some (freshCell cX kX) := by rw [← hT1]; exact State.heap_pushCell_size _ _
  have d3' : decode c.code (pc + 3) = .ok (.dup, 1) := by rw [hb]; exact d3
  obtain ⟨U, hsteps, hrun, hend, hW, hsame, ce, hce, hO⟩ := X₁.ctorThrow0 hexec htr (own := own) (cls := cls) (names := names) (ic := ic) hown' hcls hnames h (fun x hx => nomatch hx) hfX hkX hcellA (by rw [hhp, hT]; exact Nat.le_refl _)
    (g := { method := m, pc := pc + 4, locals := ls, stack := .ref T.heap.size :: .ref T.heap.size :: rest, locked := none }) rfl hsize rfl rfl (rest := rest) rfl
    (by rw [hb]; exact d4) (by rw [hb]; exact d7) hout hRframes (by simp only [List.map_cons, List.sum_cons, hcat]; omega) hlocks
  obtain ⟨f1, f2⟩ := vx_frame hsame
  rw [hhp] at f1 f2
  have hWs : s.WarmedH U.vm := State.WarmedH.trans hW0 hW
  have hcl : s.vm.findClass cls = some ce.cls := by
    have h9 := hO.cls
    rw [hvm] at h9
    exact h9
  have hall : s.sameButNew ({ U with vm := s.vm } : State) locs mc ms := by
    subst hA
    obtain ⟨e1, e2⟩ := hsame
    rw [State.setFrames_setFrames] at e1
    have h2 : (T.setVm s.vm).sameButNew ({ U with vm := s.vm } : State) [] (0 + 1) (0 + 6) := ⟨e1, e2⟩
    have h3 := X.same.trans h2
    rw [List.append_nil] at h3
    exact h3.mono hc hs
  refine ⟨U, ?_, .threw T.heap.size, hrun, hend, Or.inr ⟨T.heap.size, rfl, cls, ce, locs, hx U hWs.alike f1 (fun q hq => f2 q hq (fun z hz => nomatch hz)), hce, hO.vm, hcl, hWs, hall, hf⟩⟩
  refine st1 _ ?_
  show Steps p.tables e below (T1.setTop { method := m, pc := pc + 3, locals := ls, stack := .ref T.heap.size :: rest, locked := none }) _
  jvm_step X₁.here [X₁.here.top, hexec, d3', Value.category]
  exact hsteps
/-- 'throw new E("text")': new; dup; ldc; invokespecial; athrow -/
theorem vx_throwS {cc : ByteArray} {pc : Nat} (hexec : p.tables.exec = Jvm.exec) (hb : c.code = cc) (hl : l.stackTraces = false) {own cls text : String} {names : List String} {ik is ic mc ms sa : Nat} {A : Nat → Prop}
    (hown : s.vm.findClass own = some m.cls) (hcls : Bundle.fit cls = true) (hnames : ∀ n ∈ names, Bundle.fit n = true)
    (hk : (Cond.classLink own ik cls).before args s = true) (hini : (Cond.initialized cls).before args s = true) (hstr : vk_R own is text sa s) (hat : ∀ w ∈ vx_atS own ic cls names, w.before args s = true)
    (hgood : ∀ w ∈ Cond.classLink own ik cls :: Cond.initialized cls :: vx_atS own ic cls names, vx_ot w = true)
    (hU : vx_Zq Bundle.tN "UNASSIGNED_STACK" Bundle.steD A s s.heap) (hN : vx_Zq Bundle.tN "SUPPRESSED_SENTINEL" Bundle.listD A s s.heap) (hS : va_S A s.heap H locs) (hsize : ls.size = c.maxLocals)
    (d0 : decode cc pc = .ok (.new ik, 3)) (d3 : decode cc (pc + 3) = .ok (.dup, 1)) (d4 : decode cc (pc + 4) = .ok (.ldc is, 2)) (d6 : decode cc (pc + 6) = .ok (.invokespecial ic, 3)) (d9 : decode cc (pc + 9) = .ok (.athrow, 1))
    (hout : ∀ x ∈ c.exceptionTable.toList, covers x (pc + 9) = false)
    (hRframes : names.length + 3 < R.frames) (hRlocals : (rest.map fun v => v.category).sum + (13 * (names.length + 1) + 43) ≤ R.locals) (hRcells : cells + 1 ≤ R.cells) (hRslots : slots + 6 ≤ R.slots) (hlocks : meth.locks = false)
    (hx : ∀ t : State, s.vm.Alike t.vm → H.size ≤ t.heap.size → (∀ q : Nat, q < H.size → t.heap[q]? = H[q]?) → XC cls s t)
    (hf : ∀ z ∈ locs, free z.base) (hc : cells + 1 ≤ mc) (hs : slots + 6 ≤ ms) :
    W p l e R s m args below meth c H locs cells slots (vx_MQ below Qc XC args s mc ms free) (F0 m pc ls rest) := by
  intro T hT X
  have htr : e.platform.stackTraces = false := (show e.platform.stackTraces = l.stackTraces by rw [X.admits.platform]).trans hl
  have Y := vx_rebase X (R' := { frames := R.frames, locals := R.locals, cells := 1, slots := 6 }) (Nat.le_refl _) (Nat.le_refl _) hRcells hRslots
  obtain ⟨s', hA⟩ : ∃ z, z = (T.setVm s.vm).setFrames (.invoking m args :: below) := ⟨_, rfl⟩
  rw [← hA] at Y
  have hvm : s'.vm = s.vm := by rw [hA]; rfl
  have hhp : s'.heap = H := by rw [hA]; exact hT
  have hW0 : s.WarmedH s'.vm := by rw [hvm]; exact State.WarmedH.refl s
  have hat' : ∀ w ∈ vx_atS own ic cls names, w.before args s' = true := fun w hw => vx_ot_at hW0 hvm.symm (hgood w (List.mem_cons_of_mem _ (List.mem_cons_of_mem _ hw))) (hat w hw)
  have hk' : (Cond.classLink own ik cls).before args s' = true := vx_ot_at hW0 hvm.symm (hgood _ List.mem_cons_self) hk
  have hini' : (Cond.initialized cls).before args s' = true := vx_ot_at hW0 hvm.symm (hgood _ (List.mem_cons_of_mem _ List.mem_cons_self)) hini
  have hU' : vx_Zq Bundle.tN "UNASSIGNED_STACK" Bundle.steD A s' s'.heap := by rw [hhp]; exact vx_Zq.moved hW0.alike (hU.kept hS.2.1)
  have hN' : vx_Zq Bundle.tN "SUPPRESSED_SENTINEL" Bundle.listD A s' s'.heap := by rw [hhp]; exact vx_Zq.moved hW0.alike (hN.kept hS.2.1)
  have h : ∀ w ∈ Bundle.ownAtoms own ic cls names, w.before args s' = true := vx_own hat' (vx_isRefq hU'.1) (vx_isRefq hN'.1) hU'.2.word hN'.2.word
  have hown' : s'.vm.findClass own = some m.cls := by rw [hvm]; exact hown
  have hins : (Cond.instantiable cls 6).before args s' = true := h _ (by simp [Bundle.ownAtoms])
  obtain ⟨vm₁, cX, kX, hfX, hkX, -, -, X₁, st1⟩ := Y.newCold hexec (own := own) (C := cls) (index := ik) (n := 6) hown' hk' hins hini'
    (g := F0 m pc ls rest) rfl (by rw [hb]; exact d0) (Nat.le_refl _) (Nat.le_refl _)
  generalize hT1 : (T.setVm vm₁).pushCell { cls := cX, slots := kX.instanceTypes.map defaultValue, vm := .none } = T1 at X₁ st1
  have hcat : (Value.ref T.heap.size).category = 1 := rfl
  have hcellA : T1.heap[T.heap.size]? = some (freshCell cX kX) := by rw [← hT1]; exact State.heap_pushCell_size _ _
  have d3' : decode c.code (pc + 3) = .ok (.dup, 1) := by rw [hb]; exact d3
  have d4' : decode c.code (pc + 4) = .ok (.ldc is, 2) := by rw [hb]; exact d4
  have hstr' : vk_R own is text sa s' := vk_R.warm hW0 hstr
  obtain ⟨U, hsteps, hrun, hend, hW, hsame, ce, hce, hO⟩ := X₁.ctorThrowS hexec htr (own := own) (cls := cls) (names := names) (ic := ic) hown' hcls hnames h (fun x hx => nomatch hx) hfX hkX hcellA (by rw [hhp, hT]; exact Nat.le_refl _) (msg := .ref sa) rfl
    (g := { method := m, pc := pc + 6, locals := ls, stack := .ref sa :: .ref T.heap.size :: .ref T.heap.size :: rest, locked := none }) rfl hsize rfl rfl (rest := rest) rfl
    (by rw [hb]; exact d6) (by rw [hb]; exact d9) hout hRframes (by simp only [List.map_cons, List.sum_cons, hcat]; omega) hlocks
  obtain ⟨f1, f2⟩ := vx_frame hsame
  rw [hhp] at f1 f2
  have hWs : s.WarmedH U.vm := State.WarmedH.trans hW0 hW
  have hcl : s.vm.findClass cls = some ce.cls := by
    have h9 := hO.cls
    rw [hvm] at h9
    exact h9
  have hall : s.sameButNew ({ U with vm := s.vm } : State) locs mc ms := by
    subst hA
    obtain ⟨e1, e2⟩ := hsame
    rw [State.setFrames_setFrames] at e1
    have h2 : (T.setVm s.vm).sameButNew ({ U with vm := s.vm } : State) [] (0 + 1) (0 + 6) := ⟨e1, e2⟩
    have h3 := X.same.trans h2
    rw [List.append_nil] at h3
    exact h3.mono hc hs
  refine ⟨U, ?_, .threw T.heap.size, hrun, hend, Or.inr ⟨T.heap.size, rfl, cls, ce, locs, hx U hWs.alike f1 (fun q hq => f2 q hq (fun z hz => nomatch hz)), hce, hO.vm, hcl, hWs, hall, hf⟩⟩
  refine st1 _ ?_
  show Steps p.tables e below (T1.setTop { method := m, pc := pc + 3, locals := ls, stack := .ref T.heap.size :: rest, locked := none }) _
  jvm_step X₁.here [X₁.here.top, hexec, d3', Value.category]
  exact X₁.ldcString hexec (own := own) (text := text) (index := is) (a := sa) hown' hstr'.1 hstr'.2
    (g := { method := m, pc := pc + 4, locals := ls, stack := .ref T.heap.size :: .ref T.heap.size :: rest, locked := none }) rfl d4' _ hsteps
/-- 'throw new E("text")', the text by a wide index -/
theorem vx_throwSW {cc : ByteArray} {pc : Nat} (hexec : p.tables.exec = Jvm.exec) (hb : c.code = cc) (hl : l.stackTraces = false) {own cls text : String} {names : List String} {ik is ic mc ms sa : Nat} {A : Nat → Prop}
    (hown : s.vm.findClass own = some m.cls) (hcls : Bundle.fit cls = true) (hnames : ∀ n ∈ names, Bundle.fit n = true)
    (hk : (Cond.classLink own ik cls).before args s = true) (hini : (Cond.initialized cls).before args s = true) (hstr : vk_R own is text sa s) (hat : ∀ w ∈ vx_atS own ic cls names, w.before args s = true)
    (hgood : ∀ w ∈ Cond.classLink own ik cls :: Cond.initialized cls :: vx_atS own ic cls names, vx_ot w = true)
    (hU : vx_Zq Bundle.tN "UNASSIGNED_STACK" Bundle.steD A s s.heap) (hN : vx_Zq Bundle.tN "SUPPRESSED_SENTINEL" Bundle.listD A s s.heap) (hS : va_S A s.heap H locs) (hsize : ls.size = c.maxLocals)
    (d0 : decode cc pc = .ok (.new ik, 3)) (d3 : decode cc (pc + 3) = .ok (.dup, 1)) (d4 : decode cc (pc + 4) = .ok (.ldc_w is, 3)) (d7 : decode cc (pc + 7) = .ok (.invokespecial ic, 3)) (d10 : decode cc (pc + 10) = .ok (.athrow, 1))
    (hout : ∀ x ∈ c.exceptionTable.toList, covers x (pc + 10) = false)
    (hRframes : names.length + 3 < R.frames) (hRlocals : (rest.map fun v => v.category).sum + (13 * (names.length + 1) + 43) ≤ R.locals) (hRcells : cells + 1 ≤ R.cells) (hRslots : slots + 6 ≤ R.slots) (hlocks : meth.locks = false)
    (hx : ∀ t : State, s.vm.Alike t.vm → H.size ≤ t.heap.size → (∀ q : Nat, q < H.size → t.heap[q]? = H[q]?) → XC cls s t)
    (hf : ∀ z ∈ locs, free z.base) (hc : cells + 1 ≤ mc) (hs : slots + 6 ≤ ms) :
    W p l e R s m args below meth c H locs cells slots (vx_MQ below Qc XC args s mc ms free) (F0 m pc ls rest) := by
  intro T hT X
  have htr : e.platform.stackTraces = false := (show e.platform.stackTraces = l.stackTraces by rw [X.admits.platform]).trans hl
  have Y := vx_rebase X (R' := { frames := R.frames, locals := R.locals, cells := 1, slots := 6 }) (Nat.le_refl _) (Nat.le_refl _) hRcells hRslots
  obtain ⟨s', hA⟩ : ∃ z, z = (T.setVm s.vm).setFrames (.invoking m args :: below) := ⟨_, rfl⟩
  rw [← hA] at Y
  have hvm : s'.vm = s.vm := by rw [hA]; rfl
  have hhp : s'.heap = H := by rw [hA]; exact hT
  have hW0 : s.WarmedH s'.vm := by rw [hvm]; exact State.WarmedH.refl s
  have hat' : ∀ w ∈ vx_atS own ic cls names, w.before args s' = true := fun w hw => vx_ot_at hW0 hvm.symm (hgood w (List.mem_cons_of_mem _ (List.mem_cons_of_mem _ hw))) (hat w hw)
  have hk' : (Cond.classLink own ik cls).before args s' = true := vx_ot_at hW0 hvm.symm (hgood _ List.mem_cons_self) hk
  have hini' : (Cond.initialized cls).before args s' = true := vx_ot_at hW0 hvm.symm (hgood _ (List.mem_cons_of_mem _ List.mem_cons_self)) hini
  have hU' : vx_Zq Bundle.tN "UNASSIGNED_STACK" Bundle.steD A s' s'.heap := by rw [hhp]; exact vx_Zq.moved hW0.alike (hU.kept hS.2.1)
  have hN' : vx_Zq Bundle.tN "SUPPRESSED_SENTINEL" Bundle.listD A s' s'.heap := by rw [hhp]; exact vx_Zq.moved hW0.alike (hN.kept hS.2.1)
  have h : ∀ w ∈ Bundle.ownAtoms own ic cls names, w.before args s' = true := vx_own hat' (vx_isRefq hU'.1) (vx_isRefq hN'.1) hU'.2.word hN'.2.word
  have hown' : s'.vm.findClass own = some m.cls := by rw [hvm]; exact hown
  have hins : (Cond.instantiable cls 6).before args s' = true := h _ (by simp [Bundle.ownAtoms])
  obtain ⟨vm₁, cX, kX, hfX, hkX, -, -, X₁, st1⟩ := Y.newCold hexec (own := own) (C := cls) (index := ik) (n := 6) hown' hk' hins hini'
    (g := F0 m pc ls rest) rfl (by rw [hb]; exact d0) (Nat.le_refl _) (Nat.le_refl _)
  generalize hT1 : (T.setVm vm₁).pushCell { cls := cX, slots := kX.instanceTypes.map defaultValue, vm := .none } = T1 at X₁ st1
  have hcat : (Value.ref T.heap.size).category = 1 := rfl
  have hcellA : T1.heap[T.heap.size]? = some (freshCell cX kX) := by rw [← hT1]; exact State.heap_pushCell_size _ _
  have d3' : decode c.code (pc + 3) = .ok (.dup, 1) := by rw [hb]; exact d3
  have d4' : decode c.code (pc + 4) = .ok (.ldc_w is, 3) := by rw [hb]; exact d4
  have hstr' : vk_R own is text sa s' := vk_R.warm hW0 hstr
  obtain ⟨U, hsteps, hrun, hend, hW, hsame, ce, hce, hO⟩ := X₁.ctorThrowS hexec htr (own := own) (cls := cls) (names := names) (ic := ic) hown' hcls hnames h (fun x hx => nomatch hx) hfX hkX hcellA (by rw [hhp, hT]; exact Nat.le_refl _) (msg := .ref sa) rfl
    (g := { method := m, pc := pc + 7, locals := ls, stack := .ref sa :: .ref T.heap.size :: .ref T.heap.size :: rest, locked := none }) rfl hsize rfl rfl (rest := rest) rfl
    (by rw [hb]; exact d7) (by rw [hb]; exact d10) hout hRframes (by simp only [List.map_cons, List.sum_cons, hcat]; omega) hlocks
  obtain ⟨f1, f2⟩ := vx_frame hsame
  rw [hhp] at f1 f2
  have hWs : s.WarmedH U.vm := State.WarmedH.trans hW0 hW
  have hcl : s.vm.findClass cls = some ce.cls := by
    have h9 := hO.cls
    rw [hvm] at h9
    exact h9
  have hall : s.sameButNew ({ U with vm := s.vm } : State) locs mc ms := by
    subst hA
    obtain ⟨e1, e2⟩ := hsame
    rw [State.setFrames_setFrames] at e1
    have h2 : (T.setVm s.vm).sameButNew ({ U with vm := s.vm } : State) [] (0 + 1) (0 + 6) := ⟨e1, e2⟩
    have h3 := X.same.trans h2
    rw [List.append_nil] at h3
    exact h3.mono hc hs
  refine ⟨U, ?_, .threw T.heap.size, hrun, hend, Or.inr ⟨T.heap.size, rfl, cls, ce, locs, hx U hWs.alike f1 (fun q hq => f2 q hq (fun z hz => nomatch hz)), hce, hO.vm, hcl, hWs, hall, hf⟩⟩
  refine st1 _ ?_
  show Steps p.tables e below (T1.setTop { method := m, pc := pc + 3, locals := ls, stack := .ref T.heap.size :: rest, locked := none }) _
  jvm_step X₁.here [X₁.here.top, hexec, d3', Value.category]
  exact X₁.ldcStringW hexec (own := own) (text := text) (index := is) (a := sa) hown' hstr'.1 hstr'.2
    (g := { method := m, pc := pc + 4, locals := ls, stack := .ref T.heap.size :: .ref T.heap.size :: rest, locked := none }) rfl d4' _ hsteps
end Ends
section Bodies
variable {l : Launch}
theorem vx_ofW {y : MethodName} {ws ws' : List Cond} {rm : Room} {Pc : Array Value → State → Prop} {Qc : Array Value → State → Outcome → State → Prop} {XC : String → State → State → Prop} {mc ms : Nat} {free : Addr → Prop} {cc : ByteArray} {maxL : Nat} {ret : Option FieldType}
    (hy : plainName y.cls = true) (hw : ws = Cond.code y cc maxL ret :: ws')
    (body : ∀ p e s m args below meth c s₁, BodyLoose p l y (headSpec ws rm) cc maxL ret e s m args below meth c s₁ → c.maxLocals = maxL → (∀ x ∈ c.exceptionTable.toList, False) → Pc args s →
      W p l e (headSpec ws rm).room s m args below meth c s.heap [] 0 0 (vx_MQ below Qc XC args s mc ms free) (entryFrame m args maxL)) : vx_Met l y ws rm Pc Qc XC mc ms free := by
  refine MetFree.of_bodyS (code := cc) (maxLocals := maxL) (ret := ret) hy ?_ ?_
  · intro args s m h hn
    obtain ⟨meth, c, h1, h2, h3, h4, h5, h6, -, -⟩ := Cond.code_spec hn (atoms_spec (ws := ws) h _ (by rw [hw]; exact List.mem_cons_self))
    exact ⟨meth, c, h1, h2, h3, h4, h5, h6⟩
  · intro p e s m args below meth c s₁ B hml hP _
    have hh0 : s₁.heap = s.heap := by rw [B.state]; rfl
    have ht : ∀ x ∈ c.exceptionTable.toList, False := by
      obtain ⟨meth9, c9, h1, h2, -, -, -, -, h7, -⟩ := Cond.code_spec B.named (atoms_spec (ws := ws) B.pre _ (by rw [hw]; exact List.mem_cons_self))
      cases Option.some.inj (h1.symm.trans B.method)
      cases Option.some.inj (h2.symm.trans (Stand.of_body B).code)
      intro x hx
      rw [Array.isEmpty_iff.mp h7] at hx
      cases hx
    obtain ⟨t, a1, o, b1, b2, b3⟩ := body p e s m args below meth c s₁ B hml ht hP s₁ hh0 (Stand.of_body B)
    exact ⟨t, o, a1, b1, b2, b3⟩
/-- the table of a body with handlers -/
theorem vx_table {p : Program} {x y : MethodName} {S : Spec} {cc bytes : ByteArray} {maxL maxL' : Nat} {ret ret' : Option FieldType} {e : Env} {s s₁ : State} {m : MethodId} {args : Array Value} {below : List Frame} {meth : Method} {c : Code} {hh : List (Nat × Nat × Nat × Nat)}
    (B : BodyLoose p l y S cc maxL ret e s m args below meth c s₁) (h : (Cond.codeWith y bytes maxL' ret' hh).before args s = true) : c.exceptionTable.toList = tableOf hh := by
  obtain ⟨m9, meth9, c9, hn9, h1, h2, -, -, h6, -⟩ := Cond.codeWith_spec h
  cases Option.some.inj (hn9.symm.trans B.named)
  cases Option.some.inj (h1.symm.trans B.method)
  cases Option.some.inj (h2.symm.trans (Stand.of_body B).code)
  rw [← h6, table_eq]
end Bodies
end VXA
/-! ===== END ===== -/
/-! ===== BEGIN a static call of a method with an exception table ===== -/
section VXS
variable {p : Program} {l : Launch} {e : Env} {R : Room} {s : State} {m : MethodId} {args : Array Value} {below : List Frame} {meth : Method} {c : Code} {T : State} {H : Heap} {locs : List Loc} {cells slots : Nat}
abbrev vx_CSW (R : Room) (s : State) (args : Array Value) (own : String) (index : Nat) (y : MethodName) (bytes : ByteArray) (maxL : Nat) (ret : Option FieldType) (hh : List (Nat × Nat × Nat × Nat)) (ws : List Cond) (rm : Room) (mc ms n : Nat) : Prop :=
  (rm.cells = mc ∧ rm.slots = ms ∧ rm.frames + 1 ≤ R.frames ∧ 8 + (maxL + 11) + rm.locals ≤ R.locals ∧ (∀ w ∈ ws, ∀ (a' : Array Value) (U : State), s.WarmedH U.vm → w.before a' U = true) ∧ Cond.codeWith y bytes maxL ret hh ∈ ws) ∧
  (Cond.codeWith y bytes maxL ret hh).before args s = true ∧ (Cond.initialized y.cls).before args s = true ∧ (y.cls ≠ "java/lang/invoke/MethodHandle" ∧ y.cls ≠ "java/lang/invoke/VarHandle") ∧
  (∀ sig, parseMethodDescriptor y.desc = some sig → n = sig.parameters.length) ∧ (Cond.methodLink own index y).before args s = true ∧ (Cond.static y).before args s = true
theorem vx_cwSW {own : String} {index maxL mc ms : Nat} {y : MethodName} {bytes : ByteArray} {ret : Option FieldType} {hh : List (Nat × Nat × Nat × Nat)} {Ts ws ws' : List Cond} {rm : Room} (n : Nat) (ht : ∀ w ∈ Ts, w.before args s = true) (hT : GoodIn Ts (va_wsS own index y ws)) (hw : ws = Cond.codeWith y bytes maxL ret hh :: ws') (hrc : rm.cells = mc) (hrs : rm.slots = ms)
    (hd : y.cls ≠ "java/lang/invoke/MethodHandle" ∧ y.cls ≠ "java/lang/invoke/VarHandle" ∧ (parseMethodDescriptor y.desc).map (fun d => d.parameters.length) = some n) (hR : rm.frames + 1 ≤ R.frames ∧ 8 + (maxL + 11) + rm.locals ≤ R.locals) :
    vx_CSW R s args own index y bytes maxL ret hh ws rm mc ms n := by
  have ok : ∀ w ∈ va_wsS own index y ws, w.before args s = true := fun w h => ht w (hT w h).1
  have hG : GoodIn Ts ws := fun w h => hT w (by unfold va_wsS; exact List.mem_append_right _ h)
  have hc : Cond.codeWith y bytes maxL ret hh ∈ ws := by rw [hw]; exact List.mem_cons_self
  refine ⟨⟨hrc, hrs, hR.1, hR.2, pay_in ht hG, hc⟩, ht _ (hG _ hc).1, ok _ (by simp [va_wsS]), ⟨hd.1, hd.2.1⟩, fun sig h => ?_, ok _ (by simp [va_wsS]), ok _ (by simp [va_wsS])⟩
  have h2 := hd.2.2
  rw [h] at h2
  exact (Option.some.inj h2).symm
theorem vx_callSW (X : Stand p l e R s m args below meth c T locs cells slots) (hexec : p.tables.exec = Jvm.exec) {own : String} {index : Nat} {y : MethodName} {bytes : ByteArray} {maxL : Nat} {ret : Option FieldType} {hh : List (Nat × Nat × Nat × Nat)}
    (hown : s.vm.findClass own = some m.cls) (hlink : (Cond.methodLink own index y).before args s = true) (hstat : (Cond.static y).before args s = true) (hinit : (Cond.initialized y.cls).before args s = true)
    (hcode : (Cond.codeWith y bytes maxL ret hh).before args s = true) (hy : y.cls ≠ "java/lang/invoke/MethodHandle" ∧ y.cls ≠ "java/lang/invoke/VarHandle")
    {W9 : Nat} {Pre : Pt → Array Value → Prop} {Post : Pt → Array Value → Option Value → Pt → Prop} (hK : Back l R p e below s args y 3 W9 Pre Post)
    {g : JFrame} (hg : g.method = m) (hsize : g.locals.size = c.maxLocals) {argsL rest : List Value} (hlen : ∀ sig, parseMethodDescriptor y.desc = some sig → argsL.length = sig.parameters.length)
    (hstack : g.stack = argsL.reverse ++ rest) (hW : 2 * g.monitorRoom + (rest.map fun v => v.category).sum ≤ W9) (hdg : decode c.code g.pc = .ok (.invokestatic index, 3))
    (hpre : ∀ vm₁, s.WarmedH vm₁ → Pre ⟨T.setVm vm₁, locs, cells, slots⟩ argsL.toArray) :
    ∃ (v : Option Value) (vm₁ : Vm) (B : Pt), s.WarmedH vm₁ ∧ Stand p l e R s m args below meth c B.U B.locs B.cells B.slots ∧ Post ⟨T.setVm vm₁, locs, cells, slots⟩ argsL.toArray v B ∧
      ∀ target, Steps p.tables e below (B.U.setTop { g with pc := g.pc + 3, stack := v.toList ++ rest }) target → Steps p.tables e below (T.setTop g) target := by
  obtain ⟨mk, methM, cM, hnamed, hmethM, -, -, -, -, -, -, hsigM⟩ := Cond.codeWith_spec hcode
  have hstatic : methM.isStatic = true := Cond.static_spec hnamed hmethM hstat
  obtain ⟨kP, hkP, -⟩ := className_of_methodNamed hnamed
  have hinitP : kP.init = .initialized := Cond.initialized_spec (findClass_of_methodNamed hnamed) hkP hinit
  obtain ⟨vm₁, X₁, hstep₁⟩ := X.invokestatic hexec hown hlink hnamed hmethM hstatic hkP hinitP hy (g := g) hg (argsL := argsL) (rest := rest) (hlen _ hsigM) hstack hdg
  obtain ⟨v, B, X', hpost, hsteps⟩ := hK m meth c ⟨T.setVm vm₁, locs, cells, slots⟩ { g with stack := rest } (.invokestatic index) mk argsL.toArray X₁ hg hsize hdg hW (X₁.named hnamed) (hpre vm₁ X₁.warmed)
  exact ⟨v, vm₁, B, X₁.warmed, X', hpost, fun target h => hstep₁ _ fun acts => by rw [doInvoke_state]; exact hsteps.trans h⟩
theorem vx_runSW {y : MethodName} {bytes cc : ByteArray} {maxL nL mc ms n index : Nat} {ret : Option FieldType} {hh : List (Nat × Nat × Nat × Nat)} {ws : List Cond} {rm : Room} {Pc : Array Value → State → Prop} {Qc : Array Value → State → Outcome → State → Prop} {free : Addr → Prop} {Ts : List Cond} {own : String} {As rest : List Value} {g : JFrame}
    (S : CallFix p m c cc nL s args Ts own) (hM : Met l y ws rm Pc Qc mc ms free) (cw : vx_CSW R s args own index y bytes maxL ret hh ws rm mc ms n) (hp : PreS s H Pc As)
    (hg : g.method = m) (hn : As.length = n) (hsize : g.locals.size = nL) (hstack : g.stack = As.reverse ++ rest) (hW : 2 * g.monitorRoom + (rest.map fun v => v.category).sum ≤ 8) (hdg : decode cc g.pc = .ok (.invokestatic index, 3)) (hf : cells + mc ≤ R.cells ∧ slots + ms ≤ R.slots) :
    va_Run p l e R s m args below meth c H locs cells slots mc ms g rest (Qc As.toArray) (free) := by
  obtain ⟨⟨hrc, hrs, hfr, hlo, hws, hcw⟩, hcode, hini, hy, hlen, hl, hstt⟩ := cw
  have hK : Back l R p e below s args y 3 8 (PreOf R mc ms Pc) (PostOf Qc mc ms free) := va_backW (hh := hh) (bytes := bytes) (maxL := maxL) (ret := ret) hM hp.1 hrc hrs hfr hlo hws hcw (fun a' U hW => word_at hW (Or.inl (by first | rfl | simp [Cond.onTables, Cond.keeps, Cond.steady])) hini)
  obtain ⟨hx, hb, hml, ho, -⟩ := S
  intro T hT X
  obtain ⟨v, vm₁, ⟨U', l2, c2, s2⟩, hW₁, X', ⟨g', mk, t, L, e1, e2, hq, h1, hL, h2, h3⟩, st⟩ := vx_callSW X hx (hh := hh) (bytes := bytes) (maxL := maxL) (ret := ret) ho hl hstt hini hcode hy hK hg (hsize.trans hml.symm) (argsL := As) (rest := rest) (fun sig h => hn.trans (hlen sig h)) hstack hW (by rw [hb]; exact hdg)
    (fun vm₁ hW₁ => ⟨hf.1, hf.2, hp.2 (T.setVm vm₁) hT hW₁⟩)
  dsimp only [Pt.U, Pt.locs, Pt.cells, Pt.slots] at X' e1 e2 h1 h2 h3 st
  subst h1; subst h2; subst h3
  exact ⟨v, (T.setVm vm₁).calling g' mk As.toArray, t, U', L, hT, X', hL, e1, e2, hq, st⟩
/-- not caught here, past rows that name other classes: it goes on to the caller -/
theorem vx_outP {p : Program} {l : Launch} {e : Env} {R : Room} {s : State} {m : MethodId} {args : Array Value} {below : List Frame} {meth : Method} {c : Code} {H : Heap} {locs : List Loc} {cells slots : Nat} {free : Addr → Prop} {ls : Array Slot} {rest : List Value} {Qc : Array Value → State → Outcome → State → Prop} {XC : String → State → State → Prop}
    {pc : Nat} {own E : String} {ce : Cell} {q : Addr} {mc ms : Nat} (hown : s.vm.findClass own = some m.cls) (hlocks : meth.locks = false)
    (hpass : ∀ z ∈ c.exceptionTable.toList, covers z pc = false ∨ (z.catchType ≠ 0 ∧ ∃ nm : String, (Cond.classLink own z.catchType nm).before args s = true ∧ va_Nc E nm s)) (hcell : H[q]? = some ce) (hv : ce.vm = .none) (hcl : s.vm.findClass E = some ce.cls)
    (hx : ∀ t : State, t.heap = H → s.vm.Alike t.vm → XC E s t) (hf : ∀ z ∈ locs, free z.base) (hc : cells ≤ mc) (hs : slots ≤ ms) :
    vx_W p l e R s m args below meth c H locs cells slots (vx_MQ below Qc XC args s mc ms free) (F0 m pc ls rest) q := by
  intro T hT X
  have hpl : e.platform.magicAccessors = ({} : Platform).magicAccessors := by rw [X.admits.platform]
  obtain ⟨vm', hW', X', st⟩ := X.outThrough hlocks q (g := F0 m pc ls rest) rfl rfl rfl (cell := ce) (by rw [hT]; exact hcell) (by rw [hv]; rfl)
    (by obtain ⟨k9, h9, -⟩ := Vm.findClass_spec hcl; exact ⟨k9, h9⟩) (fun z hz => by
      rcases hpass z hz with h | ⟨hz0, nm, hl1, hn1⟩
      · exact Or.inl h
      · obtain ⟨c6, hc6, hcl6⟩ := Cond.classLink_spec hown hl1 e.platform hpl
        obtain ⟨a8, b8, h1, h2, h3⟩ := hn1
        cases Option.some.inj (h1.symm.trans hcl)
        cases Option.some.inj (h2.symm.trans hc6)
        exact Or.inr ⟨hz0, _, hcl6, h3⟩)
  obtain ⟨g₀, hfr⟩ := X'.frames_eq
  have hcell9 : ((T.setVm vm').setFrames (.throwing q :: below)).heap[q]? = some ce := by
    show T.heap[q]? = some ce
    rw [hT]; exact hcell
  have hend : Ended ((T.setVm vm').setFrames (.throwing q :: below)) below (.threw q) := State.frames_setFrames _ (State.cur_lt_of_frames hfr)
  refine ⟨(T.setVm vm').setFrames (.throwing q :: below), ?_, .threw q, X'.here.running, hend, Or.inr ⟨q, rfl, E, ce, locs, hx _ hT (X'.ends _).1.alike, hcell9, hv, hcl, (X'.ends _).1, (X'.ends _).2.mono hc hs, hf⟩⟩
  rw [X.pushThrowing_eq]
  exact st
/-- a thing of a world lies in the heap -/
theorem vx_lt {D : va_G} {cl : List vw_C} {ws : va_W} {H1 : Heap} (h : va_P D cl ws H1) {k : Nat} {q : Nat × va_E} (hk : ws[k]? = some q) : q.1 < H1.size := (h k q hk).lt
end VXS
/-! ===== END ===== -/
/-! ===== BEGIN methods with a table of their own: called by a name, returning or throwing ===== -/
section VXH
/-! vx_backW, vx_callVX, vx_callSX, vx_callVW, vx_runVW, vx_runVX, vx_runSX, vx_ofWH follow the same proofs as their sisters above (Free/Laws.lean, Shelf42/LK1.lean); vx_outP calls Shelf42/NT130.lean (outThrough). -/
section
variable {l : Launch} {R : Room} {p : Program} {e : Env} {below : List Frame} {s : State} {sargs : Array Value} {y : MethodName} {len W9 : Nat}
theorem vx_backW {ws : List Cond} {rm : Room} {Pc : Array Value → State → Prop} {Qc : Array Value → State → Outcome → State → Prop} {XC : String → State → State → Prop} {mc ms : Nat} {free : Addr → Prop} {bytes : ByteArray} {maxL : Nat} {ret : Option FieldType} {hh : List (Nat × Nat × Nat × Nat)}
    (hM : vx_Met l y ws rm Pc Qc XC mc ms free) (hblind : FrameBlind Pc) (hrc : rm.cells = mc) (hrs : rm.slots = ms)
    (hframes : rm.frames + 1 ≤ R.frames) (hlocals : W9 + (maxL + 11) + rm.locals ≤ R.locals)
    (hws : ∀ w ∈ ws, ∀ a' U, s.WarmedH U.vm → w.before a' U = true) (hcode : Cond.codeWith y bytes maxL ret hh ∈ ws) (hinit : ∀ a' U, s.WarmedH U.vm → (Cond.initialized y.cls).before a' U = true) :
    vx_Back l R p e below s sargs y len W9 (PreOf R mc ms Pc) (PostOf Qc mc ms free) (vx_Post XC mc ms free) := by
  intro m meth c A g ig mk a X hg hsize hdg hW hn hp
  have h1 : (headSpec ws rm).pre.before a A.U = true := atoms_intro fun w hw => hws w hw _ _ X.warmed
  have h2 : (Cond.codeWith y bytes maxL ret hh).before a A.U = true := hws _ hcode _ _ X.warmed
  have h3 : (Cond.initialized y.cls).before a A.U = true := hinit _ _ X.warmed
  have h4 : A.cells + (headSpec ws rm).room.cells ≤ R.cells := by rw [show (headSpec ws rm).room.cells = mc from hrc]; exact hp.1
  have h5 : A.slots + (headSpec ws rm).room.slots ≤ R.slots := by rw [show (headSpec ws rm).room.slots = ms from hrs]; exact hp.2.1
  have hPc : Pc a (A.U.calling g mk a) := hblind _ _ _ _ hp.2.2
  obtain ⟨U, Ls, c0, s0⟩ := A
  dsimp only [Pt.U, Pt.locs, Pt.cells, Pt.slots] at h1 h2 h3 h4 h5 X hn hPc ⊢
  obtain ⟨m9, methY, cY, hn9, hmY, hcY, -, hlY, -⟩ := Cond.codeWith_spec h2
  cases Option.some.inj (hn9.symm.trans hn)
  obtain ⟨kY, hkY, -⟩ := className_of_methodNamed hn
  have hinitY : kY.init = .initialized := Cond.initialized_spec (findClass_of_methodNamed hn) hkY h3
  have h : At U g.method c below := by rw [hg]; exact X.here
  have hlocals9 : W9 + (maxL + 11) + (headSpec ws rm).room.locals ≤ R.locals := hlocals
  have happ : (headSpec ws rm).appliesLoose y e.platform (U.calling g mk a) = true :=
    Spec.appliesLoose_calling (g := g) h hdg hn hkY hinitY
      (X.room_calling (g := g) (R' := (headSpec ws rm).room) hsize hmY hcY hframes (by rw [hlY]; omega) h4 h5) h1
  obtain ⟨mid, hmid⟩ := h.above
  have hfr : (U.setTop g).frames = (.java g :: mid) ++ below := by rw [State.frames_setTop' g h.top, hmid]; rfl
  obtain ⟨o, s₂, hsteps, -, hend, hq⟩ := Steps.callFree hM p X.admits X.cas X.clock (acts := []) hfr happ hPc trivial
  have hq' : vx_Q Qc XC mc ms free a (U.calling g mk a) o s₂ := hq
  rw [State.frames_setTop' g h.top] at hend
  obtain ⟨g₀, hg0⟩ := Option.isSome_iff_exists.mp h.top
  obtain ⟨r, hr⟩ := State.topJava?_eq_some.mp hg0
  have hr' : (({ U with heap := s₂.heap, slotsUsed := s₂.slotsUsed } : State).setVm s₂.vm).frames = .java g₀ :: r := hr
  rcases hq' with ⟨hqc, L, hfe, hL⟩ | ⟨q, rfl, E, ce, L, hx, hce, hcv, hcl, hW₂, hsm, hL⟩
  · obtain ⟨⟨v, rfl⟩, hW₂, e2, q2, q3, q4, q5, q6⟩ := id hfe
    have e3 : s₂ = ({ (U.calling g mk a).setFrames s₂.frames with heap := s₂.heap, slotsUsed := s₂.slotsUsed } : State).setVm s₂.vm := by
      have : s₂ = ({ s₂ with vm := (U.calling g mk a).vm } : State).setVm s₂.vm := rfl
      rw [e2] at this
      exact this
    obtain ⟨c₂, i₂, len₂, hc₂, hd₂, hf₂⟩ := hend
    have hW' : U.WarmedH s₂.vm := hW₂
    have hcc : c₂ = c := by
      have h1 : s₂.code? g.method = U.code? g.method := by
        rw [State.code?_eq, State.code?_eq, hW'.alike.method?]
      exact Option.some.inj (hc₂.symm.trans (h1.trans h.code))
    subst hcc
    have hlen : len₂ = len := by rw [hdg] at hd₂; cases hd₂; rfl
    subst hlen
    have hs₂ : s₂ = (({ U with heap := s₂.heap, slotsUsed := s₂.slotsUsed } : State).setVm s₂.vm).setTop { g with pc := g.pc + len₂, stack := v.toList ++ g.stack } := by
      refine e3.trans ?_
      rw [hf₂, State.calling_eq h.top, State.setFrames_setFrames, State.setTop_of_frames _ hr', hr]
      rfl
    have hsame : U.sameButNew ({ U with heap := s₂.heap, slotsUsed := s₂.slotsUsed } : State) L mc ms := by
      refine ⟨?_, q2, q3, q4, q5, q6⟩
      obtain ⟨t, ht, -⟩ := State.frames_cons hr
      show ({ U with heap := s₂.heap, slotsUsed := s₂.slotsUsed } : State) = { U.setFrames U.frames with heap := s₂.heap, slotsUsed := s₂.slotsUsed }
      rw [State.setFrames_self ht]
    subst hg
    refine Or.inl ⟨v, ⟨(({ U with heap := s₂.heap, slotsUsed := s₂.slotsUsed } : State).setVm s₂.vm), Ls ++ L, c0 + mc, s0 + ms⟩,
      ⟨X.admits, X.cas, X.clock, X.frames, X.room, X.hears, X.method, X.code, (X.here.setHeapUsed s₂.heap s₂.slotsUsed).setVm hW'.alike, X.tail, State.WarmedH.trans X.warmed hW', X.limits, X.bytes, X.same.trans (hsame.setVm s.vm)⟩,
      ⟨g, mk, s₂, L, rfl, rfl, hqc, rfl, hL, rfl, rfl⟩, ?_⟩
    show Steps p.tables e below _ ((({ U with heap := s₂.heap, slotsUsed := s₂.slotsUsed } : State).setVm s₂.vm).setTop { g with pc := g.pc + len₂, stack := v.toList ++ g.stack })
    rw [← hs₂]
    exact hsteps
  · obtain ⟨e2, q2, q3, q4, q5, q6⟩ := id hsm
    have e3 : s₂ = ({ (U.calling g mk a).setFrames s₂.frames with heap := s₂.heap, slotsUsed := s₂.slotsUsed } : State).setVm s₂.vm := by
      have : s₂ = ({ s₂ with vm := (U.calling g mk a).vm } : State).setVm s₂.vm := rfl
      rw [e2] at this
      exact this
    have hf₂ : s₂.frames = .throwing q :: .java g :: U.frames.tail := hend
    have hW' : U.WarmedH s₂.vm := hW₂
    have hs₂ : s₂ = ((({ U with heap := s₂.heap, slotsUsed := s₂.slotsUsed } : State).setVm s₂.vm).setTop g).pushFrame (.throwing q) := by
      refine e3.trans ?_
      rw [hf₂, State.calling_eq h.top, State.setFrames_setFrames, State.pushFrame, State.frames_setTop _ hr', State.setTop_of_frames _ hr', State.setFrames_setFrames, hr]
      rfl
    have hsame : U.sameButNew ({ U with heap := s₂.heap, slotsUsed := s₂.slotsUsed } : State) L mc ms := by
      refine ⟨?_, q2, q3, q4, q5, q6⟩
      obtain ⟨t, ht, -⟩ := State.frames_cons hr
      show ({ U with heap := s₂.heap, slotsUsed := s₂.slotsUsed } : State) = { U.setFrames U.frames with heap := s₂.heap, slotsUsed := s₂.slotsUsed }
      rw [State.setFrames_self ht]
    subst hg
    refine Or.inr ⟨q, ⟨(({ U with heap := s₂.heap, slotsUsed := s₂.slotsUsed } : State).setVm s₂.vm), Ls ++ L, c0 + mc, s0 + ms⟩,
      ⟨X.admits, X.cas, X.clock, X.frames, X.room, X.hears, X.method, X.code, (X.here.setHeapUsed s₂.heap s₂.slotsUsed).setVm hW'.alike, X.tail, State.WarmedH.trans X.warmed hW', X.limits, X.bytes, X.same.trans (hsame.setVm s.vm)⟩,
      ⟨g, mk, s₂, L, E, ce, rfl, rfl, hx, hce, hcv, hcl, rfl, hL, rfl, rfl⟩, ?_⟩
    show Steps p.tables e below _ (((({ U with heap := s₂.heap, slotsUsed := s₂.slotsUsed } : State).setVm s₂.vm).setTop g).pushFrame (.throwing q))
    rw [← hs₂]
    exact hsteps
end
variable {p : Program} {l : Launch} {e : Env} {R : Room} {s : State} {m : MethodId} {args : Array Value} {below : List Frame} {meth : Method} {c : Code} {T : State} {H : Heap} {locs : List Loc} {cells slots : Nat}
theorem vx_callVX (X : Stand p l e R s m args below meth c T locs cells slots) (hexec : p.tables.exec = Jvm.exec) {own C : String} {index : Nat} {y : MethodName} {bytes : ByteArray} {maxL : Nat} {ret : Option FieldType} {hh : List (Nat × Nat × Nat × Nat)}
    (hown : s.vm.findClass own = some m.cls) (hlink : (Cond.methodLink own index y).before args s = true) (hinst : (Cond.instanceMethod y).before args s = true) (hsel : (Cond.selects C y y).before args s = true)
    (hcode : (Cond.codeWith y bytes maxL ret hh).before args s = true) (hy : y.cls ≠ "java/lang/invoke/MethodHandle" ∧ y.cls ≠ "java/lang/invoke/VarHandle")
    {W9 : Nat} {Pre : Pt → Array Value → Prop} {Post : Pt → Array Value → Option Value → Pt → Prop} {PostX : Pt → Array Value → Addr → Pt → Prop} (hK : vx_Back l R p e below s args y 3 W9 Pre Post PostX)
    {b : Addr} {cellB : Cell} (hcell : T.heap[b]? = some cellB) (hobj : cellB.vm.isStatics = false) (hcls : s.vm.findClass C = some cellB.cls)
    {g : JFrame} (hg : g.method = m) (hsize : g.locals.size = c.maxLocals) {argsL rest : List Value} (hlen : ∀ sig, parseMethodDescriptor y.desc = some sig → argsL.length = sig.parameters.length)
    (hstack : g.stack = argsL.reverse ++ .ref b :: rest) (hW : 2 * g.monitorRoom + (rest.map fun v => v.category).sum ≤ W9) (hdg : decode c.code g.pc = .ok (.invokevirtual index, 3))
    (hpre : ∀ vm₁, s.WarmedH vm₁ → Pre ⟨T.setVm vm₁, locs, cells, slots⟩ (Value.ref b :: argsL).toArray) :
    (∃ (v : Option Value) (vm₁ : Vm) (B : Pt), s.WarmedH vm₁ ∧ Stand p l e R s m args below meth c B.U B.locs B.cells B.slots ∧ Post ⟨T.setVm vm₁, locs, cells, slots⟩ (Value.ref b :: argsL).toArray v B ∧
      ∀ target, Steps p.tables e below (B.U.setTop { g with pc := g.pc + 3, stack := v.toList ++ rest }) target → Steps p.tables e below (T.setTop g) target) ∨
    (∃ (q : Addr) (vm₁ : Vm) (B : Pt), s.WarmedH vm₁ ∧ Stand p l e R s m args below meth c B.U B.locs B.cells B.slots ∧ PostX ⟨T.setVm vm₁, locs, cells, slots⟩ (Value.ref b :: argsL).toArray q B ∧
      Steps p.tables e below (T.setTop g) ((B.U.setTop { g with stack := rest }).pushFrame (.throwing q))) := by
  obtain ⟨mk, methM, hnamed, hmethM, hstM, habM⟩ := Cond.instanceMethod_spec hinst
  obtain ⟨m8, methM', cM, hn8, hmethM', -, -, -, -, -, -, hsigM⟩ := Cond.codeWith_spec hcode
  cases Option.some.inj (hn8.symm.trans hnamed)
  cases hmethM.symm.trans hmethM'
  obtain ⟨c2, r2, m2, q1, q2, q3, q4, kP, hkP, hkPi⟩ := Cond.selects_spec hsel
  cases hcls.symm.trans q1
  cases (State.methodFound?_of_named hnamed hy).symm.trans q2
  cases hnamed.symm.trans q3
  have hselP : selectMethod e.platform s.vm cellB.cls mk = .method mk := by rw [Launch.admits_selectMethod X.admits]; exact q4
  obtain ⟨vm₁, X₁, hstep₁⟩ := X.invokevirtual hexec hown hlink hnamed hmethM hstM hkP hkPi hy (a := b) (cell := cellB) hcell
    (fun z h => by rw [h] at hobj; cases hobj) hselP hmethM habM hkP hkPi (g := g) hg (argsL := argsL) (rest := rest) (hlen _ hsigM) hstack hdg
  rcases hK m meth c ⟨T.setVm vm₁, locs, cells, slots⟩ { g with stack := rest } (.invokevirtual index) mk (Value.ref b :: argsL).toArray X₁ hg hsize hdg hW (X₁.named hnamed) (hpre vm₁ X₁.warmed) with ⟨v, B, X', hpost, hsteps⟩ | ⟨q, B, X', hpost, hsteps⟩
  · exact Or.inl ⟨v, vm₁, B, X₁.warmed, X', hpost, fun target h => hstep₁ _ fun acts => by rw [doInvoke_state]; exact hsteps.trans h⟩
  · exact Or.inr ⟨q, vm₁, B, X₁.warmed, X', hpost, hstep₁ _ fun acts => by rw [doInvoke_state]; exact hsteps⟩
theorem vx_callSX (X : Stand p l e R s m args below meth c T locs cells slots) (hexec : p.tables.exec = Jvm.exec) {own : String} {index : Nat} {y : MethodName} {bytes : ByteArray} {maxL : Nat} {ret : Option FieldType} {hh : List (Nat × Nat × Nat × Nat)}
    (hown : s.vm.findClass own = some m.cls) (hlink : (Cond.methodLink own index y).before args s = true) (hstat : (Cond.static y).before args s = true) (hinit : (Cond.initialized y.cls).before args s = true)
    (hcode : (Cond.codeWith y bytes maxL ret hh).before args s = true) (hy : y.cls ≠ "java/lang/invoke/MethodHandle" ∧ y.cls ≠ "java/lang/invoke/VarHandle")
    {W9 : Nat} {Pre : Pt → Array Value → Prop} {Post : Pt → Array Value → Option Value → Pt → Prop} {PostX : Pt → Array Value → Addr → Pt → Prop} (hK : vx_Back l R p e below s args y 3 W9 Pre Post PostX)
    {g : JFrame} (hg : g.method = m) (hsize : g.locals.size = c.maxLocals) {argsL rest : List Value} (hlen : ∀ sig, parseMethodDescriptor y.desc = some sig → argsL.length = sig.parameters.length)
    (hstack : g.stack = argsL.reverse ++ rest) (hW : 2 * g.monitorRoom + (rest.map fun v => v.category).sum ≤ W9) (hdg : decode c.code g.pc = .ok (.invokestatic index, 3))
    (hpre : ∀ vm₁, s.WarmedH vm₁ → Pre ⟨T.setVm vm₁, locs, cells, slots⟩ argsL.toArray) :
    (∃ (v : Option Value) (vm₁ : Vm) (B : Pt), s.WarmedH vm₁ ∧ Stand p l e R s m args below meth c B.U B.locs B.cells B.slots ∧ Post ⟨T.setVm vm₁, locs, cells, slots⟩ argsL.toArray v B ∧
      ∀ target, Steps p.tables e below (B.U.setTop { g with pc := g.pc + 3, stack := v.toList ++ rest }) target → Steps p.tables e below (T.setTop g) target) ∨
    (∃ (q : Addr) (vm₁ : Vm) (B : Pt), s.WarmedH vm₁ ∧ Stand p l e R s m args below meth c B.U B.locs B.cells B.slots ∧ PostX ⟨T.setVm vm₁, locs, cells, slots⟩ argsL.toArray q B ∧
      Steps p.tables e below (T.setTop g) ((B.U.setTop { g with stack := rest }).pushFrame (.throwing q))) := by
  obtain ⟨mk, methM, cM, hnamed, hmethM, -, -, -, -, -, -, hsigM⟩ := Cond.codeWith_spec hcode
  have hstatic : methM.isStatic = true := Cond.static_spec hnamed hmethM hstat
  obtain ⟨kP, hkP, -⟩ := className_of_methodNamed hnamed
  have hinitP : kP.init = .initialized := Cond.initialized_spec (findClass_of_methodNamed hnamed) hkP hinit
  obtain ⟨vm₁, X₁, hstep₁⟩ := X.invokestatic hexec hown hlink hnamed hmethM hstatic hkP hinitP hy (g := g) hg (argsL := argsL) (rest := rest) (hlen _ hsigM) hstack hdg
  rcases hK m meth c ⟨T.setVm vm₁, locs, cells, slots⟩ { g with stack := rest } (.invokestatic index) mk argsL.toArray X₁ hg hsize hdg hW (X₁.named hnamed) (hpre vm₁ X₁.warmed) with ⟨v, B, X', hpost, hsteps⟩ | ⟨q, B, X', hpost, hsteps⟩
  · exact Or.inl ⟨v, vm₁, B, X₁.warmed, X', hpost, fun target h => hstep₁ _ fun acts => by rw [doInvoke_state]; exact hsteps.trans h⟩
  · exact Or.inr ⟨q, vm₁, B, X₁.warmed, X', hpost, hstep₁ _ fun acts => by rw [doInvoke_state]; exact hsteps⟩
theorem vx_callVW (X : Stand p l e R s m args below meth c T locs cells slots) (hexec : p.tables.exec = Jvm.exec) {own C : String} {index : Nat} {y : MethodName} {bytes : ByteArray} {maxL : Nat} {ret : Option FieldType} {hh : List (Nat × Nat × Nat × Nat)}
    (hown : s.vm.findClass own = some m.cls) (hlink : (Cond.methodLink own index y).before args s = true) (hinst : (Cond.instanceMethod y).before args s = true) (hsel : (Cond.selects C y y).before args s = true)
    (hcode : (Cond.codeWith y bytes maxL ret hh).before args s = true) (hy : y.cls ≠ "java/lang/invoke/MethodHandle" ∧ y.cls ≠ "java/lang/invoke/VarHandle")
    {W9 : Nat} {Pre : Pt → Array Value → Prop} {Post : Pt → Array Value → Option Value → Pt → Prop} (hK : Back l R p e below s args y 3 W9 Pre Post)
    {b : Addr} {cellB : Cell} (hcell : T.heap[b]? = some cellB) (hobj : cellB.vm.isStatics = false) (hcls : s.vm.findClass C = some cellB.cls)
    {g : JFrame} (hg : g.method = m) (hsize : g.locals.size = c.maxLocals) {argsL rest : List Value} (hlen : ∀ sig, parseMethodDescriptor y.desc = some sig → argsL.length = sig.parameters.length)
    (hstack : g.stack = argsL.reverse ++ .ref b :: rest) (hW : 2 * g.monitorRoom + (rest.map fun v => v.category).sum ≤ W9) (hdg : decode c.code g.pc = .ok (.invokevirtual index, 3))
    (hpre : ∀ vm₁, s.WarmedH vm₁ → Pre ⟨T.setVm vm₁, locs, cells, slots⟩ (Value.ref b :: argsL).toArray) :
    ∃ (v : Option Value) (vm₁ : Vm) (B : Pt), s.WarmedH vm₁ ∧ Stand p l e R s m args below meth c B.U B.locs B.cells B.slots ∧ Post ⟨T.setVm vm₁, locs, cells, slots⟩ (Value.ref b :: argsL).toArray v B ∧
      ∀ target, Steps p.tables e below (B.U.setTop { g with pc := g.pc + 3, stack := v.toList ++ rest }) target → Steps p.tables e below (T.setTop g) target := by
  obtain ⟨mk, methM, hnamed, hmethM, hstM, habM⟩ := Cond.instanceMethod_spec hinst
  obtain ⟨m8, methM', cM, hn8, hmethM', -, -, -, -, -, -, hsigM⟩ := Cond.codeWith_spec hcode
  cases Option.some.inj (hn8.symm.trans hnamed)
  cases hmethM.symm.trans hmethM'
  obtain ⟨c2, r2, m2, q1, q2, q3, q4, kP, hkP, hkPi⟩ := Cond.selects_spec hsel
  cases hcls.symm.trans q1
  cases (State.methodFound?_of_named hnamed hy).symm.trans q2
  cases hnamed.symm.trans q3
  have hselP : selectMethod e.platform s.vm cellB.cls mk = .method mk := by rw [Launch.admits_selectMethod X.admits]; exact q4
  obtain ⟨vm₁, X₁, hstep₁⟩ := X.invokevirtual hexec hown hlink hnamed hmethM hstM hkP hkPi hy (a := b) (cell := cellB) hcell
    (fun z h => by rw [h] at hobj; cases hobj) hselP hmethM habM hkP hkPi (g := g) hg (argsL := argsL) (rest := rest) (hlen _ hsigM) hstack hdg
  obtain ⟨v, B, X', hpost, hsteps⟩ := hK m meth c ⟨T.setVm vm₁, locs, cells, slots⟩ { g with stack := rest } (.invokevirtual index) mk (Value.ref b :: argsL).toArray X₁ hg hsize hdg hW (X₁.named hnamed) (hpre vm₁ X₁.warmed)
  exact ⟨v, vm₁, B, X₁.warmed, X', hpost, fun target h => hstep₁ _ fun acts => by rw [doInvoke_state]; exact hsteps.trans h⟩
abbrev vx_CVW (R : Room) (s : State) (args : Array Value) (own C : String) (index : Nat) (y : MethodName) (bytes : ByteArray) (maxL : Nat) (ret : Option FieldType) (hh : List (Nat × Nat × Nat × Nat)) (ws : List Cond) (rm : Room) (mc ms n : Nat) : Prop :=
  (rm.cells = mc ∧ rm.slots = ms ∧ rm.frames + 1 ≤ R.frames ∧ 8 + (maxL + 11) + rm.locals ≤ R.locals ∧ (∀ w ∈ ws, ∀ (a' : Array Value) (U : State), s.WarmedH U.vm → w.before a' U = true) ∧ Cond.codeWith y bytes maxL ret hh ∈ ws) ∧
  (Cond.codeWith y bytes maxL ret hh).before args s = true ∧ (Cond.initialized y.cls).before args s = true ∧ (y.cls ≠ "java/lang/invoke/MethodHandle" ∧ y.cls ≠ "java/lang/invoke/VarHandle") ∧
  (∀ sig, parseMethodDescriptor y.desc = some sig → n = sig.parameters.length) ∧ (Cond.methodLink own index y).before args s = true ∧ (Cond.instanceMethod y).before args s = true ∧ (Cond.selects C y y).before args s = true
theorem vx_cwVW {own C : String} {index maxL mc ms : Nat} {y : MethodName} {bytes : ByteArray} {ret : Option FieldType} {hh : List (Nat × Nat × Nat × Nat)} {Ts ws ws' : List Cond} {rm : Room} (n : Nat) (ht : ∀ w ∈ Ts, w.before args s = true) (hT : GoodIn Ts (wsV own index C y ws)) (hw : ws = Cond.codeWith y bytes maxL ret hh :: ws') (hrc : rm.cells = mc) (hrs : rm.slots = ms)
    (hd : y.cls = C ∧ y.cls ≠ "java/lang/invoke/MethodHandle" ∧ y.cls ≠ "java/lang/invoke/VarHandle" ∧ (parseMethodDescriptor y.desc).map (fun d => d.parameters.length) = some n) (hR : rm.frames + 1 ≤ R.frames ∧ 8 + (maxL + 11) + rm.locals ≤ R.locals) :
    vx_CVW R s args own C index y bytes maxL ret hh ws rm mc ms n := by
  obtain ⟨hC, hd⟩ := hd
  subst hC
  have ok : ∀ w ∈ wsV own index y.cls y ws, w.before args s = true := fun w h => ht w (hT w h).1
  have hG : GoodIn Ts ws := fun w h => hT w (by unfold wsV; exact List.mem_append_right _ h)
  have hc : Cond.codeWith y bytes maxL ret hh ∈ ws := by rw [hw]; exact List.mem_cons_self
  refine ⟨⟨hrc, hrs, hR.1, hR.2, pay_in ht hG, hc⟩, ht _ (hG _ hc).1, ok _ (by simp [wsV]), ⟨hd.1, hd.2.1⟩, fun sig h => ?_, ok _ (by simp [wsV]), ok _ (by simp [wsV]), ok _ (by simp [wsV])⟩
  have h2 := hd.2.2
  rw [h] at h2
  exact (Option.some.inj h2).symm
theorem vx_runVW {y : MethodName} {bytes cc : ByteArray} {maxL nL mc ms n index : Nat} {ret : Option FieldType} {hh : List (Nat × Nat × Nat × Nat)} {ws : List Cond} {rm : Room} {Pc : Array Value → State → Prop} {Qc : Array Value → State → Outcome → State → Prop} {free : Addr → Prop} {Ts : List Cond} {own C : String} {b : Addr} {As rest : List Value} {g : JFrame}
    (S : CallFix p m c cc nL s args Ts own) (hM : Met l y ws rm Pc Qc mc ms free) (cw : vx_CVW R s args own C index y bytes maxL ret hh ws rm mc ms n) (hp : PreV s H C b Pc As)
    (hg : g.method = m) (hn : As.length = n) (hsize : g.locals.size = nL) (hstack : g.stack = As.reverse ++ .ref b :: rest) (hW : 2 * g.monitorRoom + (rest.map fun v => v.category).sum ≤ 8) (hdg : decode cc g.pc = .ok (.invokevirtual index, 3)) (hf : cells + mc ≤ R.cells ∧ slots + ms ≤ R.slots) :
    va_Run p l e R s m args below meth c H locs cells slots mc ms g rest (Qc (Value.ref b :: As).toArray) free := by
  obtain ⟨⟨hrc, hrs, hfr, hlo, hws, hcw⟩, hcode, hini, hy, hlen, hl, hin, hse⟩ := cw
  have hK : Back l R p e below s args y 3 8 (PreOf R mc ms Pc) (PostOf Qc mc ms free) := va_backW (hh := hh) (bytes := bytes) (maxL := maxL) (ret := ret) hM hp.1 hrc hrs hfr hlo hws hcw (fun a' U hW => word_at hW (Or.inl (by first | rfl | simp [Cond.onTables, Cond.keeps, Cond.steady])) hini)
  obtain ⟨hx, hb, hml, ho, -⟩ := S
  obtain ⟨-, ⟨cellB, hcB, hoB, hclB⟩, hPc⟩ := hp
  intro T hT X
  obtain ⟨v, vm₁, ⟨U', l2, c2, s2⟩, hW₁, X', ⟨g', mk, t, L, e1, e2, hq, h1, hL, h2, h3⟩, st⟩ := vx_callVW X hx (C := C) (hh := hh) (bytes := bytes) (maxL := maxL) (ret := ret) ho hl hin hse hcode hy hK (by rw [hT]; exact hcB) hoB hclB hg (hsize.trans hml.symm) (argsL := As) (rest := rest) (fun sig h => hn.trans (hlen sig h)) hstack hW (by rw [hb]; exact hdg)
    (fun vm₁ hW₁ => ⟨hf.1, hf.2, hPc (T.setVm vm₁) hT hW₁⟩)
  dsimp only [Pt.U, Pt.locs, Pt.cells, Pt.slots] at X' e1 e2 h1 h2 h3 st
  subst h1; subst h2; subst h3
  exact ⟨v, (T.setVm vm₁).calling g' mk (Value.ref b :: As).toArray, t, U', L, hT, X', hL, e1, e2, hq, st⟩
section
variable {y : MethodName} {bytes cc : ByteArray} {maxL nL mc ms n index : Nat} {ret : Option FieldType} {ws : List Cond} {rm : Room} {Pc : Array Value → State → Prop} {Qc : Array Value → State → Outcome → State → Prop} {XC : String → State → State → Prop} {free : Addr → Prop} {Ts : List Cond} {own C : String} {b : Addr} {As rest : List Value} {g : JFrame}
theorem vx_runVX {hh : List (Nat × Nat × Nat × Nat)} (S : CallFix p m c cc nL s args Ts own) (hM : vx_Met l y ws rm Pc Qc XC mc ms free) (cw : vx_CVW R s args own C index y bytes maxL ret hh ws rm mc ms n) (hp : PreV s H C b Pc As)
    (hg : g.method = m) (hn : As.length = n) (hsize : g.locals.size = nL) (hstack : g.stack = As.reverse ++ .ref b :: rest) (hW : 2 * g.monitorRoom + (rest.map fun v => v.category).sum ≤ 8) (hdg : decode cc g.pc = .ok (.invokevirtual index, 3)) (hf : cells + mc ≤ R.cells ∧ slots + ms ≤ R.slots) :
    vx_Run p l e R s m args below meth c H locs cells slots mc ms g rest (Qc (Value.ref b :: As).toArray) XC free := by
  obtain ⟨⟨hrc, hrs, hfr, hlo, hws, hcw⟩, hcode, hini, hy, hlen, hl, hin, hse⟩ := cw
  have hK : vx_Back l R p e below s args y 3 8 (PreOf R mc ms Pc) (PostOf Qc mc ms free) (vx_Post XC mc ms free) := vx_backW (hh := hh) (bytes := bytes) (maxL := maxL) (ret := ret) hM hp.1 hrc hrs hfr hlo hws hcw (fun a' U hW => word_at hW (Or.inl (by first | rfl | simp [Cond.onTables, Cond.keeps, Cond.steady])) hini)
  obtain ⟨hx, hb, hml, ho, -⟩ := S
  obtain ⟨-, ⟨cellB, hcB, hoB, hclB⟩, hPc⟩ := hp
  intro T hT X
  rcases vx_callVX X hx (C := C) (hh := hh) (bytes := bytes) (maxL := maxL) (ret := ret) ho hl hin hse hcode hy hK (by rw [hT]; exact hcB) hoB hclB hg (hsize.trans hml.symm) (argsL := As) (rest := rest) (fun sig h => hn.trans (hlen sig h)) hstack hW (by rw [hb]; exact hdg)
    (fun vm₁ hW₁ => ⟨hf.1, hf.2, hPc (T.setVm vm₁) hT hW₁⟩) with ⟨v, vm₁, ⟨U', l2, c2, s2⟩, hW₁, X', ⟨g', mk, t, L, e1, e2, hq, h1, hL, h2, h3⟩, st⟩ | ⟨q, vm₁, ⟨U', l2, c2, s2⟩, hW₁, X', ⟨g', mk, t, L, E, ce, e1, e2, hq, hce, hcv, hcl, h1, hL, h2, h3⟩, st⟩
  · dsimp only [Pt.U, Pt.locs, Pt.cells, Pt.slots] at X' e1 e2 h1 h2 h3 st
    subst h1; subst h2; subst h3
    exact Or.inl ⟨v, (T.setVm vm₁).calling g' mk (Value.ref b :: As).toArray, t, U', L, hT, X', hL, e1, e2, hq, st⟩
  · dsimp only [Pt.U, Pt.locs, Pt.cells, Pt.slots] at X' e1 e2 h1 h2 h3 st hcl
    subst h1; subst h2; subst h3
    exact Or.inr ⟨q, (T.setVm vm₁).calling g' mk (Value.ref b :: As).toArray, t, U', L, E, ce, hT, X', hL, e1, e2, hq, hce, hcv, vx_cls hW₁ hcl, st⟩
theorem vx_runSX {hh : List (Nat × Nat × Nat × Nat)} (S : CallFix p m c cc nL s args Ts own) (hM : vx_Met l y ws rm Pc Qc XC mc ms free) (cw : vx_CSW R s args own index y bytes maxL ret hh ws rm mc ms n) (hp : PreS s H Pc As)
    (hg : g.method = m) (hn : As.length = n) (hsize : g.locals.size = nL) (hstack : g.stack = As.reverse ++ rest) (hW : 2 * g.monitorRoom + (rest.map fun v => v.category).sum ≤ 8) (hdg : decode cc g.pc = .ok (.invokestatic index, 3)) (hf : cells + mc ≤ R.cells ∧ slots + ms ≤ R.slots) :
    vx_Run p l e R s m args below meth c H locs cells slots mc ms g rest (Qc As.toArray) XC free := by
  obtain ⟨⟨hrc, hrs, hfr, hlo, hws, hcw⟩, hcode, hini, hy, hlen, hl, hstt⟩ := cw
  have hK : vx_Back l R p e below s args y 3 8 (PreOf R mc ms Pc) (PostOf Qc mc ms free) (vx_Post XC mc ms free) := vx_backW (hh := hh) (bytes := bytes) (maxL := maxL) (ret := ret) hM hp.1 hrc hrs hfr hlo hws hcw (fun a' U hW => word_at hW (Or.inl (by first | rfl | simp [Cond.onTables, Cond.keeps, Cond.steady])) hini)
  obtain ⟨hx, hb, hml, ho, -⟩ := S
  intro T hT X
  rcases vx_callSX X hx (hh := hh) (bytes := bytes) (maxL := maxL) (ret := ret) ho hl hstt hini hcode hy hK hg (hsize.trans hml.symm) (argsL := As) (rest := rest) (fun sig h => hn.trans (hlen sig h)) hstack hW (by rw [hb]; exact hdg)
    (fun vm₁ hW₁ => ⟨hf.1, hf.2, hp.2 (T.setVm vm₁) hT hW₁⟩) with ⟨v, vm₁, ⟨U', l2, c2, s2⟩, hW₁, X', ⟨g', mk, t, L, e1, e2, hq, h1, hL, h2, h3⟩, st⟩ | ⟨q, vm₁, ⟨U', l2, c2, s2⟩, hW₁, X', ⟨g', mk, t, L, E, ce, e1, e2, hq, hce, hcv, hcl, h1, hL, h2, h3⟩, st⟩
  · dsimp only [Pt.U, Pt.locs, Pt.cells, Pt.slots] at X' e1 e2 h1 h2 h3 st
    subst h1; subst h2; subst h3
    exact Or.inl ⟨v, (T.setVm vm₁).calling g' mk As.toArray, t, U', L, hT, X', hL, e1, e2, hq, st⟩
  · dsimp only [Pt.U, Pt.locs, Pt.cells, Pt.slots] at X' e1 e2 h1 h2 h3 st hcl
    subst h1; subst h2; subst h3
    exact Or.inr ⟨q, (T.setVm vm₁).calling g' mk As.toArray, t, U', L, E, ce, hT, X', hL, e1, e2, hq, hce, hcv, vx_cls hW₁ hcl, st⟩
end
end VXH
theorem vx_ofWH {l : Launch} {y : MethodName} {ws ws' : List Cond} {rm : Room} {Pc : Array Value → State → Prop} {Qc : Array Value → State → Outcome → State → Prop} {XC : String → State → State → Prop} {mc ms : Nat} {free : Addr → Prop} {cc : ByteArray} {maxL : Nat} {ret : Option FieldType} {hh : List (Nat × Nat × Nat × Nat)}
    (hy : plainName y.cls = true) (hw : ws = Cond.codeWith y cc maxL ret hh :: ws')
    (body : ∀ p e s m args below meth c s₁, BodyLoose p l y (headSpec ws rm) cc maxL ret e s m args below meth c s₁ → c.maxLocals = maxL → Pc args s →
      W p l e (headSpec ws rm).room s m args below meth c s.heap [] 0 0 (vx_MQ below Qc XC args s mc ms free) (entryFrame m args maxL)) : vx_Met l y ws rm Pc Qc XC mc ms free := by
  refine MetFree.of_bodyS (code := cc) (maxLocals := maxL) (ret := ret) hy ?_ ?_
  · intro args s m h hn
    obtain ⟨m9, meth, c, hn9, h1, h2, h3, h4, -, h5, h6, -⟩ := Cond.codeWith_spec (atoms_spec (ws := ws) h _ (by rw [hw]; exact List.mem_cons_self))
    cases hn.symm.trans hn9
    exact ⟨meth, c, h1, h2, h3, h4, h5, h6⟩
  · intro p e s m args below meth c s₁ B hml hP _
    have hh0 : s₁.heap = s.heap := by rw [B.state]; rfl
    obtain ⟨t, a1, o, b1, b2, b3⟩ := body p e s m args below meth c s₁ B hml hP s₁ hh0 (Stand.of_body B)
    exact ⟨t, o, a1, b1, b2, b3⟩
/-! ===== END ===== -/

/-! ===== BEGIN what the machine throws by itself, no traces kept ===== -/
section VXM
set_option maxHeartbeats 1000000 in
/-- the machine throws cls with the message text, no traces kept: from its note over the frame g to 'throwing' over the same frame (follows the proofs of Stand.vmThrowsMessage, Shelf/KitTracedVmS.lean, and Stand.throwsMessageColdBareV, StandMessageColdV.lean, without the step out of the frame) -/
theorem vx_vmAt {p : Program} {l : Launch} {e : Env} {R : Room} {s : State} {m₀ : MethodId} {args : Array Value} {below : List Frame} {meth : Method} {c : Code} {W : State} {locs : List Loc} {cells slots : Nat}
    (X : Stand p l e R s m₀ args below meth c W locs cells slots) (hexec : p.tables.exec = Jvm.exec) (htr : e.platform.stackTraces = false) {cls : String} {names : List String} {text : String}
    (hcls : Bundle.fit cls = true) (hnames : ∀ n ∈ names, Bundle.fit n = true) (hsoe : (cls == "java/lang/StackOverflowError") = false) (hoom : (cls == "java/lang/OutOfMemoryError") = false)
    (h : ∀ a ∈ Bundle.messageArmAtoms cls names, a.before args s = true)
    (hlocs : ∀ x ∈ locs, ∀ cell, s.heap[x.base]? = some cell → cell.vm.isStatics = false)
    (htext : (text == notModelled) = false) (hlimit : ¬ (stringBytes (stringToUtf16 text)).size > e.platform.arrayLengthLimit) (hheap : ¬ (stringBytes (stringToUtf16 text)).size * componentBytes .byte > e.platform.maxHeapBytes)
    {g : JFrame} (hg : g.method = m₀) (hsize : g.locals.size = c.maxLocals)
    (hRframes : names.length + 4 < R.frames) (hRlocals : 2 * g.monitorRoom + (g.stack.map fun v => v.category).sum + 10240 ≤ R.locals) (hshort : 13 * names.length + 55 ≤ 10240)
    (hRcells : cells + 3 ≤ R.cells) (hRslots : slots + ((stringBytes (stringToUtf16 text)).size + 4 + 6) ≤ R.slots) (hlocks : meth.locks = false) :
    ∃ (S : State) (q : Addr) (ce : Cell), (∀ target, Steps p.tables e below ((S.setTop g).pushFrame (.throwing q)) target → Steps p.tables e below ((W.setTop g).pushFrame (.throwNew cls (some text) none)) target) ∧
      Stand p l e R s m₀ args below meth c S locs (cells + 3) (slots + ((stringBytes (stringToUtf16 text)).size + 4 + 6)) ∧ S.heap[q]? = some ce ∧ s.vm.findClass cls = some ce.cls ∧ ce.vm = .none := by
  have howns : e.platform.frameOwnsMonitors = true := by rw [X.admits.platform]
  have hfin : e.platform.finalization = false := by rw [X.admits.platform]
  have hpl : e.platform.magicAccessors = ({} : Platform).magicAccessors := by rw [X.admits.platform]
  have a : ∀ x, x ∈ Bundle.messageArmAtoms cls names → x.holds args s none s [] = true := fun x hx => h x hx
  obtain ⟨T, Z0, L, -, Y⟩ := ThrowableC.of_atoms (args := args) howns hfin hpl (fun x hx => h x (by simp [Bundle.messageArmAtoms, hx]))
  obtain ⟨Z, M, LZ, LM, hnZ⟩ := Init0T.ofS_atoms (args := args) hpl L Y (fun x hx => h x (by simp [Bundle.messageArmAtoms, hx]))
  obtain ⟨P1, Ps, hlen, L1, hL, hP1m, hlink1, hlink⟩ := Bundle.chainS (args := args) hpl hnZ names cls hcls hnames (fun x hx => h x (by simp [Bundle.messageArmAtoms, hx]))
  obtain ⟨Zs, LZs, hn4, hfitv, hfitc⟩ := StringT.of_atoms (args := args) (fun x hx => h x (by simp [Bundle.messageArmAtoms, hx]))
  have hfound : s.vm.findClass cls = some P1.m.cls := findClass_of_methodNamed hP1m
  obtain ⟨c1, kX, hc1, hk, hord, -, -, hn6⟩ := Cond.instantiable_spec (a (.instantiable cls 6) (by simp [Bundle.messageArmAtoms]))
  cases Option.some.inj (hc1.symm.trans hfound)
  have hinit := Cond.initialized_spec hfound hk (a (.initialized cls) (by simp [Bundle.messageArmAtoms]))
  have hctor : kX.findMethod "<init>" "(Ljava/lang/String;)V" = some P1.m.idx := findMethod_of_methodNamed hP1m hk
  have hsel0 : selectMethod e.platform s.vm P1.m.cls T.fill0 = .method T.fill0 := by
    obtain ⟨c2, r2, m2, q1, q2, q3, q4, -⟩ := Cond.selects_spec (a (.selects cls Bundle.tFill0 Bundle.tFill0) (by simp [Bundle.messageArmAtoms]))
    cases Option.some.inj (q1.symm.trans hfound)
    cases Option.some.inj (q2.symm.trans (State.methodFound?_of_named Y.fill0 (by decide)))
    cases Option.some.inj (q3.symm.trans Y.fill0)
    rw [Launch.admits_selectMethod X.admits]; exact q4
  have hselF : selectMethod e.platform s.vm P1.m.cls T.fill = .method T.fill := by
    obtain ⟨c2, r2, m2, q1, q2, q3, q4, -⟩ := Cond.selects_spec (a (.selects cls Bundle.tFill Bundle.tFill) (by simp [Bundle.messageArmAtoms]))
    cases Option.some.inj (q1.symm.trans hfound)
    cases Option.some.inj (q2.symm.trans (State.methodFound?_of_named Y.fill (by decide)))
    cases Option.some.inj (q3.symm.trans Y.fill)
    rw [Launch.admits_selectMethod X.admits]; exact q4
  obtain ⟨cellS0, hcS0, hiss⟩ := Y.statics
  obtain ⟨u0, hu0⟩ := Cond.staticRefV Y.unassigned L.unassignedStatic L.statics hcS0 hiss (a (.isRef (.static Bundle.tN "UNASSIGNED_STACK" Bundle.steD)) (by simp [Bundle.messageArmAtoms]))
  obtain ⟨sen, hsen⟩ := Cond.staticRefV Y.sentinel L.sentinelStatic L.statics hcS0 hiss (a (.isRef (.static Bundle.tN "SUPPRESSED_SENTINEL" Bundle.listD)) (by simp [Bundle.messageArmAtoms]))
  obtain ⟨ci198, i198, fB, hk198, hg198, ha198, hsB, -, hnB, htB, hffB⟩ := Cond.ownField (t := .object "java/lang/Object") Y.found L.cls (by decide +kernel) (a (.fieldLink Bundle.tN 198 Bundle.tN "backtrace" "Ljava/lang/Object;") (by simp [Bundle.messageArmAtoms])) (a (.lays Bundle.tN Bundle.tN "backtrace" "Ljava/lang/Object;") (by simp [Bundle.messageArmAtoms])) e.platform hpl
  obtain ⟨cellS, hcS', heS, -, hkeep⟩ := X.same.2.2.2.2.2 T.aS cellS0 hcS0
  have hcellS : W.heap[T.aS]? = some cellS := hcS'
  have hout' : ∀ i, (⟨T.aS, i⟩ : Loc) ∉ locs := fun i hmem => by
    have := hlocs _ hmem cellS0 hcS0
    rw [hiss] at this; cases this
  have hknownS : cellS.vm ≠ .unknown := by
    rw [heS]; intro hu
    rw [show cellS0.vm = .unknown from hu] at hiss
    cases hiss
  have hvU : cellS.slots[T.fUnassigned.slot]? = some u0.v := by rw [hkeep _ (hout' _)]; exact hu0
  have hvSen : cellS.slots[T.fSentinel.slot]? = some sen.v := by rw [hkeep _ (hout' _)]; exact hsen
  obtain ⟨iM, hffM⟩ := Y.msg
  obtain ⟨tyC, dC, hdC, hdnC⟩ := Cond.laysAt hfound hk Y.cause (a (.lays cls Bundle.tN "cause" "Ljava/lang/Throwable;") (by simp [Bundle.messageArmAtoms]))
  obtain ⟨tyS, dS, hdS, hdnS⟩ := Cond.laysAt hfound hk Y.stack (a (.lays cls Bundle.tN "stackTrace" Bundle.steD) (by simp [Bundle.messageArmAtoms]))
  obtain ⟨tyP, dP, hdP, hdnP⟩ := Cond.laysAt hfound hk Y.supp (a (.lays cls Bundle.tN "suppressedExceptions" Bundle.listD) (by simp [Bundle.messageArmAtoms]))
  obtain ⟨tyM, dM, hdM, hdnM⟩ := Cond.laysAt hfound hk hffM (a (.lays cls Bundle.tN "detailMessage" "Ljava/lang/String;") (by simp [Bundle.messageArmAtoms]))
  obtain ⟨tyB, dB, hdB, hdnB⟩ := Cond.laysAt hfound hk hffB (a (.lays cls Bundle.tN "backtrace" "Ljava/lang/Object;") (by simp [Bundle.messageArmAtoms]))
  have bC := Cond.laysApart hdB hdC hdnB hdnC (by rw [hnB, Y.causeName]; decide)
  have bS := Cond.laysApart hdB hdS hdnB hdnS (by rw [hnB, Y.stackName]; decide)
  have bP := Cond.laysApart hdB hdP hdnB hdnP (by rw [hnB, Y.suppName]; decide)
  have hbk : ((preparedCellV T.toThrowableT (freshCell P1.m.cls kX) (W.heap.size + 2) u0 sen).withEntry W.cur).slots[fB.slot]? = some .null := by
    have := fresh_default (c := P1.m.cls) tyB
    rw [htB] at this
    simpa [preparedCellV, Cell.setSlot, Cell.withEntry, Array.getElem?_setIfInBounds, bC, bS, bP, bC.symm, bS.symm, bP.symm, defaultValue] using this
  have tkC := Takes.of_laid (v := .ref (W.heap.size + 2)) hk hord tyC (by rw [Y.causeType]; rfl)
  have tkS := Takes.of_laid (v := u0.v) hk hord tyS (by rw [Y.stackType]; exact fits_refV_array _ u0)
  have tkP := Takes.of_laid (v := sen.v) hk hord tyP (by rw [Y.suppType]; exact fits_refV_object _ sen)
  have tkM := Takes.of_laid (v := .ref (W.heap.size + 1)) hk hord tyM (by rw [Y.msgType]; rfl)
  have hskip : SkipFacts T e.platform s (fun u => u) u0 ((preparedCellV T.toThrowableT (freshCell P1.m.cls kX) (W.heap.size + 2) u0 sen).withEntry W.cur) := ⟨{ ci198 := ci198, i198 := i198, fBack := fB }, ⟨hk198, hg198, ha198, hsB⟩, hbk, fun _ _ => rfl⟩
  have h0 : At W g.method c below := by rw [hg]; exact X.here
  obtain ⟨hbeyond, hfreeW⟩ := X.vmMayThrow hsize (.throwNew cls (some text) none) (fun f hf => by cases hf) rfl hRlocals
  have hfr' : W.frames.length + Ps.length + 4 < (e.platform.stackLimits W.me).1 := by have := X.framesAbove hRframes; omega
  have hwd' : (stackUse (.java g :: W.frames.tail)).2 + 13 * Ps.length + 55 ≤ (e.platform.stackLimits W.me).2 := by have := X.stackAbove hsize (K := 13 * Ps.length + 55) (by omega); omega
  have hslots : W.slotsUsed + (stringBytes (stringToUtf16 text)).size + Zs.kS.instanceTypes.size + kX.instanceTypes.size ≤ e.platform.maxSlots := by
    have := X.slotsAbove hRslots
    rw [hn4, hn6]
    omega
  obtain ⟨vm', hW', st⟩ := Steps.vmThrowsMessageColdByV p (s₀ := s) (S := W) (g := g) h0 hexec T L Z LZ M LM X.warmed (t := W.cur) rfl Zs LZs P1 L1 Ps hL hlink1 hlink hsoe hoom hfound hk hinit hord hctor
    (Launch.admits_hotImplicitExceptions X.admits) hbeyond hfreeW htext hlimit hheap (X.cellsAbove hRcells) hslots (hfitv _) (hfitc _)
    (Nn := fun u => u) heapOnly_id (fun _ _ => rfl) (fun _ => rfl) (fun u x y => setCell_twice _ _ _ _) (fun _ => Nat.le_refl _) (cN := ((preparedCellV T.toThrowableT (freshCell P1.m.cls kX) (W.heap.size + 2) u0 sen).withEntry W.cur))
    hsel0 hcellS hknownS hvU tkS (fun _ hu => hu) (fun _ hu => hu) rfl rfl rfl (by simp [preparedCellV, Cell.setSlot, Cell.withEntry]) hskip (fun _ _ hA hW _ hroom _ hrest => L.nativeOff p htr hA hW hroom hrest) hselF hvSen tkC tkP tkM Y.objLocals rfl hfr' hwd'
  rw [plainBareV_eq T.toThrowableT (W.heap.size + 2) u0 sen (.ref (W.heap.size + 1)) W.cur rfl rfl] at st
  obtain ⟨-, -, w3, w4, -, -, -⟩ := withThrown_facts e.platform W Zs text P1.m.cls kX
  have X3 := ((X.pushed (bytesOf Zs.cB (stringToUtf16 text))).pushed (stringAt Zs.cS Zs.kS Zs.fv Zs.fc (stringToUtf16 text) W.heap.size)).pushed (freshCell P1.m.cls kX)
  rw [← withString_eq] at X3
  have X4 := X3.noted hW'
  have ha : (W.heap.size + 2) < ((withThrown W Zs text P1.m.cls kX).setVm vm').heap.size := by show _ < (withThrown W Zs text P1.m.cls kX).heap.size; rw [w3]; omega
  have hcell : ((withThrown W Zs text P1.m.cls kX).setVm vm').heap[(W.heap.size + 2)]? = some (freshCell P1.m.cls kX) := w4
  have X5 := ((((X4.stored hcell T.fCause.slot (.ref (W.heap.size + 2))).storedAgain ha T.fStack.slot u0.v).storedAgain ha T.fSupp.slot sen.v).storedAgain ha T.fStack.slot u0.v).storedAgain ha T.fMsg.slot (.ref (W.heap.size + 1))
  obtain ⟨g₁, hfrM⟩ := X5.frames_eq
  have hU : ((((withThrown W Zs text P1.m.cls kX).setVm vm').setCell (W.heap.size + 2) (plainBareV T.toThrowableT (freshCell P1.m.cls kX) (W.heap.size + 2) u0 sen (.ref (W.heap.size + 1)))).setTop g).pushFrame (.throwing (W.heap.size + 2)) = (((withThrown W Zs text P1.m.cls kX).setVm vm').setCell (W.heap.size + 2) (plainBareV T.toThrowableT (freshCell P1.m.cls kX) (W.heap.size + 2) u0 sen (.ref (W.heap.size + 1)))).setFrames (.throwing (W.heap.size + 2) :: .java g :: below) := by
    rw [State.pushFrame, State.frames_setTop _ hfrM, State.setTop_of_frames _ hfrM, State.setFrames_setFrames]
  have b1 : (bytesOf Zs.cB (stringToUtf16 text)).slots.size = (stringBytes (stringToUtf16 text)).size := by
    rw [(Cell.writeAll_facts _ _).2.2]; simp [bytes0]
  have b2 : (stringAt Zs.cS Zs.kS Zs.fv Zs.fc (stringToUtf16 text) W.heap.size).slots.size = 4 := by simp [string0, Cell.setSlot, hn4]
  have b3 : (freshCell P1.m.cls kX).slots.size = 6 := by simp [hn6]
  rw [b1, b2, b3] at X5
  have e9 : slots + (stringBytes (stringToUtf16 text)).size + 4 + 6 = slots + ((stringBytes (stringToUtf16 text)).size + 4 + 6) := by omega
  rw [e9] at X5
  simp only [List.append_assoc, List.cons_append, List.nil_append] at X5
  refine ⟨((withThrown W Zs text P1.m.cls kX).setVm vm').setCell (W.heap.size + 2) (plainBareV T.toThrowableT (freshCell P1.m.cls kX) (W.heap.size + 2) u0 sen (.ref (W.heap.size + 1))), W.heap.size + 2, _, fun target ht => st _ (by rw [X.tail, ← hU]; exact ht),
    X5.forget (fun y hy => ?_), heapAt_setCell_self _ ha, hfound, rfl⟩
  simp only [List.mem_cons, List.not_mem_nil, or_false] at hy
  have hge : s.heap.size ≤ W.heap.size := X.same.2.1
  rcases hy with rfl | rfl | rfl | rfl | rfl <;> exact Nat.le_trans hge (Nat.le_add_right _ 2)
set_option maxHeartbeats 1000000 in
/-- the machine throws NullPointerException, no traces kept: from its note over the frame g to 'throwing' over the same frame (follows the proof of Stand.vmThrowsNpe, Shelf42/KT2.lean; throwsNpeColdBareVAt, Shelf42/NT91.lean, called) -/
theorem vx_npeAt {p : Program} {l : Launch} {e : Env} {R : Room} {s : State} {m₀ : MethodId} {args : Array Value} {below : List Frame} {meth : Method} {c : Code} {W : State} {locs : List Loc} {cells slots : Nat}
    (X : Stand p l e R s m₀ args below meth c W locs cells slots) (hexec : p.tables.exec = Jvm.exec) (htr : e.platform.stackTraces = false) {n : Nat}
    (h : ∀ a ∈ Bundle.npeArmAtoms n, a.before args s = true)
    (hlocs : ∀ x ∈ locs, ∀ cell, s.heap[x.base]? = some cell → cell.vm.isStatics = false)
    {g : JFrame} (hg : g.method = m₀) (hsize : g.locals.size = c.maxLocals)
    (hRframes : 7 < R.frames) (hRlocals : 2 * g.monitorRoom + (g.stack.map fun v => v.category).sum + 10240 ≤ R.locals)
    (hRcells : cells + 1 ≤ R.cells) (hRslots : slots + n ≤ R.slots) (hlocks : meth.locks = false) :
    ∃ (S : State) (q : Addr) (ce : Cell), (∀ target, Steps p.tables e below ((S.setTop g).pushFrame (.throwing q)) target → Steps p.tables e below ((W.setTop g).pushFrame (.throwNew "java/lang/NullPointerException" none none)) target) ∧
      Stand p l e R s m₀ args below meth c S locs (cells + 1) (slots + n) ∧ S.heap[q]? = some ce ∧ s.vm.findClass "java/lang/NullPointerException" = some ce.cls ∧ ce.vm = .none := by
  have howns : e.platform.frameOwnsMonitors = true := by rw [X.admits.platform]
  have hfin : e.platform.finalization = false := by rw [X.admits.platform]
  have hpl : e.platform.magicAccessors = ({} : Platform).magicAccessors := by rw [X.admits.platform]
  have hpl2 : e.platform.arrayCloneIsPublic = true := by rw [X.admits.platform]
  have a' : ∀ x, x ∈ Bundle.npeArmAtoms n → x.holds args s none s [] = true := fun x hx => h x hx
  obtain ⟨T, Z, L, LZ, Y⟩ := ThrowableC.of_atoms (args := args) howns hfin hpl (fun x hx => h x (by simp [Bundle.npeArmAtoms, hx]))
  obtain ⟨N, LN, hcN, hnNF, hordN, hffS⟩ := NpeC.of_atoms (args := args) hpl hpl2 L Y (fun x hx => h x (by simp [Bundle.npeArmAtoms, hx]))
  obtain ⟨P1, L1, hP1m, hP1s⟩ := PassC.of_atoms (args := args) (s := s) hpl (X := Bundle.nN) (Y := Bundle.rN) (by decide) (by decide) LibCode.NullPointerException.Init0.at_0 LibCode.NullPointerException.Init0.at_1 LibCode.NullPointerException.Init0.at_4 (fun x hx => h x (by simp [Bundle.npeArmAtoms, hx]))
  obtain ⟨PR, LR, hPRm, hPRs⟩ := PassC.of_atoms (args := args) (s := s) hpl (X := Bundle.rN) (Y := Bundle.eN) (by decide) (by decide) LibCode.RuntimeException.Init0.at_0 LibCode.RuntimeException.Init0.at_1 LibCode.RuntimeException.Init0.at_4 (fun x hx => h x (by simp [Bundle.npeArmAtoms, hx]))
  obtain ⟨PE, LEx, hPEm, hPEs⟩ := PassC.of_atoms (args := args) (s := s) hpl (X := Bundle.eN) (Y := Bundle.tN) (by decide) (by decide) LibCode.Exception.Init0.at_0 LibCode.Exception.Init0.at_1 LibCode.Exception.Init0.at_4 (fun x hx => h x (by simp [Bundle.npeArmAtoms, hx]))
  have hfound : s.vm.findClass Bundle.nN = some P1.m.cls := findClass_of_methodNamed hP1m
  have ecls : N.cN = P1.m.cls := Option.some.inj (hcN.symm.trans hfound)
  have hk : s.vm.classes[P1.m.cls]? = some N.kN := by rw [← ecls]; exact LN.cls
  have hinit := Cond.initialized_spec hfound hk (a' (.initialized Bundle.nN) (by simp [Bundle.npeArmAtoms]))
  have hctor : N.kN.findMethod "<init>" "()V" = some P1.m.idx := findMethod_of_methodNamed hP1m hk
  obtain ⟨c1, k1, hc1, hk1, -, -, -, hn⟩ := Cond.instantiable_spec (a' (.instantiable Bundle.nN n) (by simp [Bundle.npeArmAtoms]))
  cases Option.some.inj (hc1.symm.trans hfound)
  cases Option.some.inj (hk1.symm.trans hk)
  have hfsz : (freshCell P1.m.cls N.kN).slots.size = n := by simp [hn]
  have hlink1 : P1.sup = PR.m := Option.some.inj (hP1s.symm.trans hPRm)
  have hlinkR : PR.sup = PE.m := Option.some.inj (hPRs.symm.trans hPEm)
  have hlinkE : PE.sup = Z.m T.toThrowableT := Option.some.inj (hPEs.symm.trans Y.init0)
  have hLs : ∀ P, P ∈ [PR, PE] → P.Links0 e.platform s := fun P hP => by
    simp only [List.mem_cons, List.not_mem_nil, or_false] at hP
    rcases hP with rfl | rfl
    · exact LR
    · exact LEx
  have hsel0 : selectMethod e.platform s.vm P1.m.cls T.fill0 = .method T.fill0 := by
    obtain ⟨c2, r2, m2, q1, q2, q3, q4, -⟩ := Cond.selects_spec (a' (.selects Bundle.nN Bundle.tFill0 Bundle.tFill0) (by simp [Bundle.npeArmAtoms]))
    cases Option.some.inj (q1.symm.trans hfound)
    cases Option.some.inj (q2.symm.trans (State.methodFound?_of_named Y.fill0 (by decide)))
    cases Option.some.inj (q3.symm.trans Y.fill0)
    rw [Launch.admits_selectMethod X.admits]; exact q4
  have hselF : selectMethod e.platform s.vm P1.m.cls T.fill = .method N.fill := by
    obtain ⟨c2, r2, m2, q1, q2, q3, q4, -⟩ := Cond.selects_spec (a' (.selects Bundle.nN Bundle.tFill Bundle.nFill) (by simp [Bundle.npeArmAtoms]))
    cases Option.some.inj (q1.symm.trans hfound)
    cases Option.some.inj (q2.symm.trans (State.methodFound?_of_named Y.fill (by decide)))
    cases Option.some.inj (q3.symm.trans hnNF)
    rw [Launch.admits_selectMethod X.admits]; exact q4
  obtain ⟨cellS0, hcS0, hiss⟩ := Y.statics
  obtain ⟨u0, hu0⟩ := Cond.staticRefV Y.unassigned L.unassignedStatic L.statics hcS0 hiss (a' (.isRef (.static Bundle.tN "UNASSIGNED_STACK" Bundle.steD)) (by simp [Bundle.npeArmAtoms]))
  obtain ⟨sen, hsen⟩ := Cond.staticRefV Y.sentinel L.sentinelStatic L.statics hcS0 hiss (a' (.isRef (.static Bundle.tN "SUPPRESSED_SENTINEL" Bundle.listD)) (by simp [Bundle.npeArmAtoms]))
  obtain ⟨ci198, i198, fB, hk198, hg198, ha198, hsB, -, hnB, htB, hffB⟩ := Cond.ownField (t := .object "java/lang/Object") Y.found L.cls (by decide +kernel) (a' (.fieldLink Bundle.tN 198 Bundle.tN "backtrace" Bundle.objD) (by simp [Bundle.npeArmAtoms])) (a' (.lays Bundle.tN Bundle.tN "backtrace" Bundle.objD) (by simp [Bundle.npeArmAtoms])) e.platform hpl
  obtain ⟨cellS, hcS', heS, -, hkeep⟩ := X.same.2.2.2.2.2 T.aS cellS0 hcS0
  have hcellS : W.heap[T.aS]? = some cellS := hcS'
  have hout' : ∀ i, (⟨T.aS, i⟩ : Loc) ∉ locs := fun i hmem => by
    have := hlocs _ hmem cellS0 hcS0
    rw [hiss] at this; cases this
  have hknownS : cellS.vm ≠ .unknown := by
    rw [heS]; intro hu
    rw [show cellS0.vm = .unknown from hu] at hiss
    cases hiss
  have hvU : cellS.slots[T.fUnassigned.slot]? = some u0.v := by rw [hkeep _ (hout' _)]; exact hu0
  have hvSen : cellS.slots[T.fSentinel.slot]? = some sen.v := by rw [hkeep _ (hout' _)]; exact hsen
  obtain ⟨tyC, dC, hdC, hdnC⟩ := Cond.laysAt hfound hk Y.cause (a' (.lays Bundle.nN Bundle.tN "cause" "Ljava/lang/Throwable;") (by simp [Bundle.npeArmAtoms]))
  obtain ⟨tyS, dS, hdS, hdnS⟩ := Cond.laysAt hfound hk Y.stack (a' (.lays Bundle.nN Bundle.tN "stackTrace" Bundle.steD) (by simp [Bundle.npeArmAtoms]))
  obtain ⟨tyP, dP, hdP, hdnP⟩ := Cond.laysAt hfound hk Y.supp (a' (.lays Bundle.nN Bundle.tN "suppressedExceptions" Bundle.listD) (by simp [Bundle.npeArmAtoms]))
  obtain ⟨tyX, dX, hdX, hdnX⟩ := Cond.laysAt hfound hk hffS (a' (.lays Bundle.nN Bundle.nN "extendedMessageState" "I") (by simp [Bundle.npeArmAtoms, Bundle.npeAtoms]))
  obtain ⟨hnX, htX⟩ := State.fieldFound?_type hffS (t := .int) (by decide +kernel)
  have xC := Cond.laysApart hdC hdX hdnC hdnX (by rw [hnX, Y.causeName]; decide)
  have xS := Cond.laysApart hdS hdX hdnS hdnX (by rw [hnX, Y.stackName]; decide)
  have xP := Cond.laysApart hdP hdX hdnP hdnX (by rw [hnX, Y.suppName]; decide)
  have hv0 : (freshCell P1.m.cls N.kN).slots[N.fState.slot]? = some (.int 0) := by
    have := fresh_default (c := P1.m.cls) tyX
    rw [htX] at this; exact this
  obtain ⟨tyB, dB, hdB, hdnB⟩ := Cond.laysAt hfound hk hffB (a' (.lays Bundle.nN Bundle.tN "backtrace" Bundle.objD) (by simp [Bundle.npeArmAtoms]))
  have bC := Cond.laysApart hdB hdC hdnB hdnC (by rw [hnB, Y.causeName]; decide)
  have bS := Cond.laysApart hdB hdS hdnB hdnS (by rw [hnB, Y.stackName]; decide)
  have bP := Cond.laysApart hdB hdP hdnB hdnP (by rw [hnB, Y.suppName]; decide)
  have bX := Cond.laysApart hdB hdX hdnB hdnX (by rw [hnB, hnX]; decide)
  have hbk : ((npeCell N.toNpeT (preparedCellV T.toThrowableT (freshCell P1.m.cls N.kN) W.heap.size u0 sen) W.cur).withEntry W.cur).slots[fB.slot]? = some .null := by
    have := fresh_default (c := P1.m.cls) tyB
    rw [htB] at this
    simpa [npeCell, preparedCellV, Cell.setSlot, Cell.withEntry, Array.getElem?_setIfInBounds, bC, bS, bP, bX, bC.symm, bS.symm, bP.symm, bX.symm, defaultValue] using this
  have tkC := Takes.of_laid (v := .ref W.heap.size) hk hordN tyC (by rw [Y.causeType]; rfl)
  have tkS := Takes.of_laid (v := u0.v) hk hordN tyS (by rw [Y.stackType]; exact fits_refV_array _ u0)
  have tkP := Takes.of_laid (v := sen.v) hk hordN tyP (by rw [Y.suppType]; exact fits_refV_object _ sen)
  have tkX := Takes.of_laid (v := .int 1) hk hordN tyX (by rw [htX]; rfl)
  have hskip : SkipFacts T e.platform s (fun u => u) u0 ((npeCell N.toNpeT (preparedCellV T.toThrowableT (freshCell P1.m.cls N.kN) W.heap.size u0 sen) W.cur).withEntry W.cur) := ⟨{ ci198 := ci198, i198 := i198, fBack := fB }, ⟨hk198, hg198, ha198, hsB⟩, hbk, fun _ _ => rfl⟩
  obtain ⟨vm', X3, st, -⟩ := X.throwsNpeColdBareVAt hexec hg hsize T L Z LZ N LN P1 L1 [PR, PE] hLs hlink1 ⟨hlinkR, hlinkE, trivial⟩ hfound hk hinit hordN hctor hsel0 hselF hcellS hknownS hvU hvSen
    hv0 xC xS xP tkC tkS tkP tkX Y.objLocals hskip (fun _ _ hA hW _ hroom _ hrest => L.nativeOff p htr hA hW hroom hrest) (by simpa using hRframes) hRlocals (by simp) hRcells (by rw [hn]; exact hRslots)
  have hlt : W.heap.size < ((W.pushCell (freshCell P1.m.cls N.kN)).setVm vm').heap.size := by
    show W.heap.size < (W.pushCell (freshCell P1.m.cls N.kN)).heap.size
    rw [State.heap_size_pushCell]; omega
  rw [hfsz] at X3
  obtain ⟨g₁, hfrM⟩ := X3.frames_eq
  have hU : ((((W.pushCell (freshCell P1.m.cls N.kN)).setVm vm').setCell W.heap.size (npeBareV T.toThrowableT N.toNpeT (freshCell P1.m.cls N.kN) W.heap.size u0 sen)).setTop g).pushFrame (.throwing W.heap.size) = (((W.pushCell (freshCell P1.m.cls N.kN)).setVm vm').setCell W.heap.size (npeBareV T.toThrowableT N.toNpeT (freshCell P1.m.cls N.kN) W.heap.size u0 sen)).setFrames (.throwing W.heap.size :: .java g :: below) := by
    rw [State.pushFrame, State.frames_setTop _ hfrM, State.setTop_of_frames _ hfrM, State.setFrames_setFrames]
  refine ⟨_, W.heap.size, _, fun target ht => st.trans (by rw [← hU]; exact ht), X3.forget (fun y hy => ?_), heapAt_setCell_self _ hlt, hfound, rfl⟩
  simp only [List.mem_cons, List.not_mem_nil, or_false] at hy
  have hge : s.heap.size ≤ W.heap.size := X.same.2.1
  rcases hy with rfl | rfl | rfl | rfl | rfl <;> exact hge
/-- the words of a machine's NullPointerException, but the four that speak of the heap -/
def vx_atN (n : Nat) : List Cond := (Bundle.npeArmAtoms n).filter vx_no
/-- the words of a machine's throw with a message, but the four that speak of the heap -/
def vx_atM (X : String) (names : List String) : List Cond := (Bundle.messageArmAtoms X names).filter vx_no
section
variable {p : Program} {l : Launch} {e : Env} {R : Room} {s : State} {m : MethodId} {args : Array Value} {below : List Frame} {meth : Method} {c : Code} {H : Heap} {locs : List Loc} {cells slots : Nat}
/-- a frame seen from a rebased start, seen from the first start again -/
theorem vx_back9 {T S : State} {R' : Room} {k n : Nat} (X : Stand p l e R s m args below meth c T locs cells slots) (Y : Stand p l e R' ((T.setVm s.vm).setFrames (.invoking m args :: below)) m args below meth c T [] 0 0) (Z : Stand p l e R' ((T.setVm s.vm).setFrames (.invoking m args :: below)) m args below meth c S [] k n) :
    Stand p l e R s m args below meth c S locs (cells + k) (slots + n) := by
  have hW0 : s.WarmedH ((T.setVm s.vm).setFrames (.invoking m args :: below)).vm := State.WarmedH.refl s
  refine { admits := X.admits, cas := X.cas, clock := X.clock, frames := X.frames, room := X.room, hears := X.hears, method := X.method, code := X.code, here := Z.here, tail := Z.tail, warmed := State.WarmedH.trans hW0 Z.warmed, limits := Z.limits.trans (Y.limits.symm.trans X.limits), bytes := Z.bytes.trans (Y.bytes.symm.trans X.bytes), same := ?_ }
  obtain ⟨e1, e2⟩ := Z.same
  rw [State.setFrames_setFrames] at e1
  have h2 : (T.setVm s.vm).sameButNew (S.setVm s.vm) [] k n := ⟨e1, e2⟩
  have h3 := X.same.trans h2
  rw [List.append_nil] at h3
  exact h3
/-- from the machine's note that E is thrown here with this text -/
def vx_Note (p : Program) (l : Launch) (e : Env) (R : Room) (s : State) (m : MethodId) (args : Array Value) (below : List Frame) (meth : Method) (c : Code) (H : Heap) (locs : List Loc) (cells slots : Nat) (Q : State → Prop) (g : JFrame) (E text : String) : Prop :=
  ∀ T : State, T.heap = H → Stand p l e R s m args below meth c T locs cells slots → ∃ t, Steps p.tables e below ((T.setTop g).pushFrame (.throwNew E (some text) none)) t ∧ Q t
theorem vx_vm {pc : Nat} {ls : Array Slot} {rest : List Value} {Q : State → Prop} (hexec : p.tables.exec = Jvm.exec) (hl : l.stackTraces = false) {cls text : String} {names : List String} {nb : Nat} {A : Nat → Prop}
    (hcls : Bundle.fit cls = true) (hnames : ∀ n ∈ names, Bundle.fit n = true) (hsoe : (cls == "java/lang/StackOverflowError") = false) (hoom : (cls == "java/lang/OutOfMemoryError") = false)
    (hat : ∀ w ∈ vx_atM cls names, w.before args s = true) (hgood : ∀ w ∈ vx_atM cls names, vx_ot w = true)
    (hU : vx_Zq Bundle.tN "UNASSIGNED_STACK" Bundle.steD A s s.heap) (hN : vx_Zq Bundle.tN "SUPPRESSED_SENTINEL" Bundle.listD A s s.heap) (hS : va_S A s.heap H locs) (hsize : ls.size = c.maxLocals)
    (htext : (text == notModelled) = false) (hnb : (stringBytes (stringToUtf16 text)).size ≤ nb) (hnb1 : nb ≤ 1000)
    (hRframes : names.length + 4 < R.frames) (hRlocals : (rest.map fun v => v.category).sum + 10240 ≤ R.locals) (hshort : 13 * names.length + 55 ≤ 10240) (hRcells : cells + 3 ≤ R.cells) (hRslots : slots + (nb + 10) ≤ R.slots) (hlocks : meth.locks = false)
    (k : ∀ (H1 : Heap) (q9 : Addr) (ce : Cell), H.size ≤ H1.size → (∀ q : Nat, q < H.size → H1[q]? = H[q]?) → va_S A s.heap H1 locs → H1[q9]? = some ce → ce.vm = .none → s.vm.findClass cls = some ce.cls → vx_W p l e R s m args below meth c H1 locs (cells + 3) (slots + (nb + 10)) Q (F0 m pc ls rest) q9) :
    vx_Note p l e R s m args below meth c H locs cells slots Q (F0 m pc ls rest) cls text := by
  intro T hT X
  have htr : e.platform.stackTraces = false := (show e.platform.stackTraces = l.stackTraces by rw [X.admits.platform]).trans hl
  have Y := vx_rebase X (R' := { frames := R.frames, locals := R.locals, cells := 3, slots := nb + 10 }) (Nat.le_refl _) (Nat.le_refl _) hRcells hRslots
  have hhp : ((T.setVm s.vm).setFrames (.invoking m args :: below)).heap = H := hT
  have hW0 : s.WarmedH ((T.setVm s.vm).setFrames (.invoking m args :: below)).vm := State.WarmedH.refl s
  have hat' : ∀ w ∈ vx_atM cls names, w.before args ((T.setVm s.vm).setFrames (.invoking m args :: below)) = true := fun w hw => vx_ot_at hW0 rfl (hgood w hw) (hat w hw)
  have hU' : vx_Zq Bundle.tN "UNASSIGNED_STACK" Bundle.steD A ((T.setVm s.vm).setFrames (.invoking m args :: below)) ((T.setVm s.vm).setFrames (.invoking m args :: below)).heap := by rw [hhp]; exact vx_Zq.moved hW0.alike (hU.kept hS.2.1)
  have hN' : vx_Zq Bundle.tN "SUPPRESSED_SENTINEL" Bundle.listD A ((T.setVm s.vm).setFrames (.invoking m args :: below)) ((T.setVm s.vm).setFrames (.invoking m args :: below)).heap := by rw [hhp]; exact vx_Zq.moved hW0.alike (hN.kept hS.2.1)
  obtain ⟨S, q, ce, st, Z, hce, hcl', hv⟩ := vx_vmAt Y hexec htr (cls := cls) (names := names) (text := text) hcls hnames hsoe hoom (vx_own hat' (vx_isRefq hU'.1) (vx_isRefq hN'.1) hU'.2.word hN'.2.word) (fun x hx => nomatch hx) htext
    (by rw [Launch.admits_arrayLengthLimit X.admits]; omega) (by rw [Launch.admits_maxHeapBytes X.admits]; simp only [componentBytes]; omega)
    (g := F0 m pc ls rest) rfl hsize hRframes (by show 2 * 0 + (rest.map fun v => v.category).sum + 10240 ≤ R.locals; omega) hshort (by show 0 + 3 ≤ 3; omega) (by show 0 + (_ + 4 + 6) ≤ nb + 10; omega) hlocks
  obtain ⟨f1, f2⟩ := vx_frame Z.same
  have f1' : H.size ≤ S.heap.size := by rw [← hT]; exact f1
  have f2' : ∀ q : Nat, q < H.size → S.heap[q]? = H[q]? := fun q hq => by
    rw [← hT]
    exact f2 q (by rw [← hT] at hq; exact hq) (fun z hz => nomatch hz)
  have X5 := vx_back9 X Y Z
  have X6 : Stand p l e R s m args below meth c S locs (cells + 3) (slots + (nb + 10)) := { X5 with same := X5.same.mono (by omega) (by omega) }
  obtain ⟨t, a1, b1⟩ := k S.heap q ce f1' f2' ⟨Nat.le_trans hS.1 f1', fun q h1 h2 => (f2' q (Nat.lt_of_lt_of_le h1 hS.1)).trans (hS.2.1 q h1 h2), hS.2.2⟩ hce hv hcl' S rfl X6
  exact ⟨t, st t a1, b1⟩
/-- from the machine's note that NullPointerException is thrown here -/
def vx_NoteN (p : Program) (l : Launch) (e : Env) (R : Room) (s : State) (m : MethodId) (args : Array Value) (below : List Frame) (meth : Method) (c : Code) (H : Heap) (locs : List Loc) (cells slots : Nat) (Q : State → Prop) (g : JFrame) : Prop :=
  ∀ T : State, T.heap = H → Stand p l e R s m args below meth c T locs cells slots → ∃ t, Steps p.tables e below ((T.setTop g).pushFrame (.throwNew "java/lang/NullPointerException" none none)) t ∧ Q t
theorem vx_npe {pc : Nat} {ls : Array Slot} {rest : List Value} {Q : State → Prop} (hexec : p.tables.exec = Jvm.exec) (hl : l.stackTraces = false) {nb : Nat} {A : Nat → Prop}
    (hat : ∀ w ∈ vx_atN nb, w.before args s = true) (hgood : ∀ w ∈ vx_atN nb, vx_ot w = true)
    (hU : vx_Zq Bundle.tN "UNASSIGNED_STACK" Bundle.steD A s s.heap) (hN : vx_Zq Bundle.tN "SUPPRESSED_SENTINEL" Bundle.listD A s s.heap) (hS : va_S A s.heap H locs) (hsize : ls.size = c.maxLocals)
    (hRframes : 7 < R.frames) (hRlocals : (rest.map fun v => v.category).sum + 10240 ≤ R.locals) (hRcells : cells + 1 ≤ R.cells) (hRslots : slots + nb ≤ R.slots) (hlocks : meth.locks = false)
    (k : ∀ (H1 : Heap) (q9 : Addr) (ce : Cell), H.size ≤ H1.size → (∀ q : Nat, q < H.size → H1[q]? = H[q]?) → va_S A s.heap H1 locs → H1[q9]? = some ce → ce.vm = .none → s.vm.findClass "java/lang/NullPointerException" = some ce.cls → vx_W p l e R s m args below meth c H1 locs (cells + 1) (slots + nb) Q (F0 m pc ls rest) q9) :
    vx_NoteN p l e R s m args below meth c H locs cells slots Q (F0 m pc ls rest) := by
  intro T hT X
  have htr : e.platform.stackTraces = false := (show e.platform.stackTraces = l.stackTraces by rw [X.admits.platform]).trans hl
  have Y := vx_rebase X (R' := { frames := R.frames, locals := R.locals, cells := 1, slots := nb }) (Nat.le_refl _) (Nat.le_refl _) hRcells hRslots
  have hhp : ((T.setVm s.vm).setFrames (.invoking m args :: below)).heap = H := hT
  have hW0 : s.WarmedH ((T.setVm s.vm).setFrames (.invoking m args :: below)).vm := State.WarmedH.refl s
  have hat' : ∀ w ∈ vx_atN nb, w.before args ((T.setVm s.vm).setFrames (.invoking m args :: below)) = true := fun w hw => vx_ot_at hW0 rfl (hgood w hw) (hat w hw)
  have hU' : vx_Zq Bundle.tN "UNASSIGNED_STACK" Bundle.steD A ((T.setVm s.vm).setFrames (.invoking m args :: below)) ((T.setVm s.vm).setFrames (.invoking m args :: below)).heap := by rw [hhp]; exact vx_Zq.moved hW0.alike (hU.kept hS.2.1)
  have hN' : vx_Zq Bundle.tN "SUPPRESSED_SENTINEL" Bundle.listD A ((T.setVm s.vm).setFrames (.invoking m args :: below)) ((T.setVm s.vm).setFrames (.invoking m args :: below)).heap := by rw [hhp]; exact vx_Zq.moved hW0.alike (hN.kept hS.2.1)
  obtain ⟨S, q, ce, st, Z, hce, hcl', hv⟩ := vx_npeAt Y hexec htr (n := nb) (vx_own hat' (vx_isRefq hU'.1) (vx_isRefq hN'.1) hU'.2.word hN'.2.word) (fun x hx => nomatch hx)
    (g := F0 m pc ls rest) rfl hsize hRframes (by show 2 * 0 + (rest.map fun v => v.category).sum + 10240 ≤ R.locals; omega) (by show 0 + 1 ≤ 1; omega) (by show 0 + nb ≤ nb; omega) hlocks
  obtain ⟨f1, f2⟩ := vx_frame Z.same
  have f1' : H.size ≤ S.heap.size := by rw [← hT]; exact f1
  have f2' : ∀ q : Nat, q < H.size → S.heap[q]? = H[q]? := fun q hq => by
    rw [← hT]
    exact f2 q (by rw [← hT] at hq; exact hq) (fun z hz => nomatch hz)
  have X5 := vx_back9 X Y Z
  have X6 : Stand p l e R s m args below meth c S locs (cells + 1) (slots + nb) := { X5 with same := X5.same.mono (by omega) (by omega) }
  obtain ⟨t, a1, b1⟩ := k S.heap q ce f1' f2' ⟨Nat.le_trans hS.1 f1', fun q h1 h2 => (f2' q (Nat.lt_of_lt_of_le h1 hS.1)).trans (hS.2.1 q h1 h2), hS.2.2⟩ hce hv hcl' S rfl X6
  exact ⟨t, st t a1, b1⟩
variable {Q : State → Prop} {cc : ByteArray} {pc : Nat} {ls : Array Slot} {rest : List Value}
theorem vx_idivZ (hexec : p.tables.exec = Jvm.exec) (hb : c.code = cc) {a b : Int32} (h0 : b = 0) (d : decode cc pc = .ok (.idiv, 1)) (k : vx_Note p l e R s m args below meth c H locs cells slots Q (F0 m pc ls rest) "java/lang/ArithmeticException" "/ by zero") :
    W p l e R s m args below meth c H locs cells slots Q (F0 m pc ls (.int b :: .int a :: rest)) := by
  intro T hT X
  obtain ⟨t, st, q⟩ := k T hT X
  exact ⟨t, X.idivZero hexec (g := F0 m pc ls (.int b :: .int a :: rest)) rfl (a := a) (rest := rest) (by rw [h0]) (by rw [hb]; exact d) t st, q⟩
theorem vx_iremZ (hexec : p.tables.exec = Jvm.exec) (hb : c.code = cc) {a b : Int32} (h0 : b = 0) (d : decode cc pc = .ok (.irem, 1)) (k : vx_Note p l e R s m args below meth c H locs cells slots Q (F0 m pc ls rest) "java/lang/ArithmeticException" "/ by zero") :
    W p l e R s m args below meth c H locs cells slots Q (F0 m pc ls (.int b :: .int a :: rest)) := by
  intro T hT X
  obtain ⟨t, st, q⟩ := k T hT X
  exact ⟨t, X.iremZero hexec (g := F0 m pc ls (.int b :: .int a :: rest)) rfl (a := a) (rest := rest) (by rw [h0]) (by rw [hb]; exact d) t st, q⟩
theorem vx_ldivZ (hexec : p.tables.exec = Jvm.exec) (hb : c.code = cc) {a b : Int64} (h0 : b = 0) (d : decode cc pc = .ok (.ldiv, 1)) (k : vx_Note p l e R s m args below meth c H locs cells slots Q (F0 m pc ls rest) "java/lang/ArithmeticException" "/ by zero") :
    W p l e R s m args below meth c H locs cells slots Q (F0 m pc ls (.long b :: .long a :: rest)) := by
  intro T hT X
  obtain ⟨t, st, q⟩ := k T hT X
  exact ⟨t, X.ldivZero hexec (g := F0 m pc ls (.long b :: .long a :: rest)) rfl (a := a) (rest := rest) (by rw [h0]) (by rw [hb]; exact d) t st, q⟩
theorem vx_lremZ (hexec : p.tables.exec = Jvm.exec) (hb : c.code = cc) {a b : Int64} (h0 : b = 0) (d : decode cc pc = .ok (.lrem, 1)) (k : vx_Note p l e R s m args below meth c H locs cells slots Q (F0 m pc ls rest) "java/lang/ArithmeticException" "/ by zero") :
    W p l e R s m args below meth c H locs cells slots Q (F0 m pc ls (.long b :: .long a :: rest)) := by
  intro T hT X
  obtain ⟨t, st, q⟩ := k T hT X
  exact ⟨t, X.lremZero hexec (g := F0 m pc ls (.long b :: .long a :: rest)) rfl (a := a) (rest := rest) (by rw [h0]) (by rw [hb]; exact d) t st, q⟩
theorem vx_ialdZ {D : va_G} {cl : List vw_C} {ws : va_W} {tys : List (ClassId × FieldType)} {a : Nat} (hexec : p.tables.exec = Jvm.exec) (hb : c.code = cc) (hK : va_K D cl tys s) (hP : va_P D cl ws H) (q0 t0 : Nat) {cA : ClassId} {n : Nat} {f : Nat → Int32} (ha : ws[q0]? = some (a, .inl (cA, n, .inl f))) (ht : tys[t0]? = some (cA, .int)) {i : Int32} (hout : ¬ vp_in i n) (hdg : decode cc pc = .ok (.iaload, 1))
    (k : ∀ tx : String, tx = (toString "Index " ++ toString i ++ toString " out of bounds for length " ++ toString n : String) → vx_Note p l e R s m args below meth c H locs cells slots Q (F0 m pc ls rest) "java/lang/ArrayIndexOutOfBoundsException" tx) : W p l e R s m args below meth c H locs cells slots Q (F0 m pc ls (.int i :: .ref a :: rest)) := by
  intro T hT X
  obtain ⟨t, st, q⟩ := k _ rfl T hT X
  refine ⟨t, ?_, q⟩
  have h1 := X.ialoadOut hexec (by rw [hT]; exact hP q0 _ ha) ((hK.2 t0 _ ht).1 n (fun j => .int (f j))) (j := i) (by show (i < 0 ∨ (arrV _ _ _).slots.size ≤ _); rw [arrV_size]; exact Classical.byContradiction hout) (g := F0 m pc ls (.int i :: .ref a :: rest)) rfl (rest := rest) rfl (by rw [hb]; exact hdg) t
  simp only [arrV_size] at h1
  exact h1 st
theorem vx_iastZ {D : va_G} {cl : List vw_C} {ws : va_W} {tys : List (ClassId × FieldType)} {a : Nat} (hexec : p.tables.exec = Jvm.exec) (hb : c.code = cc) (hK : va_K D cl tys s) (hP : va_P D cl ws H) (q0 t0 : Nat) {cA : ClassId} {n : Nat} {f : Nat → Int32} (ha : ws[q0]? = some (a, .inl (cA, n, .inl f))) (ht : tys[t0]? = some (cA, .int)) {i : Int32} {x : Int32} (hout : ¬ vp_in i n) (hdg : decode cc pc = .ok (.iastore, 1))
    (k : ∀ tx : String, tx = (toString "Index " ++ toString i ++ toString " out of bounds for length " ++ toString n : String) → vx_Note p l e R s m args below meth c H locs cells slots Q (F0 m pc ls rest) "java/lang/ArrayIndexOutOfBoundsException" tx) : W p l e R s m args below meth c H locs cells slots Q (F0 m pc ls (.int x :: .int i :: .ref a :: rest)) := by
  intro T hT X
  obtain ⟨t, st, q⟩ := k _ rfl T hT X
  refine ⟨t, ?_, q⟩
  have h1 := X.iastoreOut hexec (by rw [hT]; exact hP q0 _ ha) ((hK.2 t0 _ ht).1 n (fun j => .int (f j))) (j := i) (by show (i < 0 ∨ (arrV _ _ _).slots.size ≤ _); rw [arrV_size]; exact Classical.byContradiction hout) (g := F0 m pc ls (.int x :: .int i :: .ref a :: rest)) rfl (rest := rest) rfl (by rw [hb]; exact hdg) t
  simp only [arrV_size] at h1
  exact h1 st
theorem vx_baldZ {D : va_G} {cl : List vw_C} {ws : va_W} {tys : List (ClassId × FieldType)} {a : Nat} (hexec : p.tables.exec = Jvm.exec) (hb : c.code = cc) (hK : va_K D cl tys s) (hP : va_P D cl ws H) (q0 t0 : Nat) {cA : ClassId} {n : Nat} {f : Nat → Int32} (ha : ws[q0]? = some (a, .inl (cA, n, .inl f))) (ht : tys[t0]? = some (cA, .byte)) {i : Int32} (hout : ¬ vp_in i n) (hdg : decode cc pc = .ok (.baload, 1))
    (k : ∀ tx : String, tx = (toString "Index " ++ toString i ++ toString " out of bounds for length " ++ toString n : String) → vx_Note p l e R s m args below meth c H locs cells slots Q (F0 m pc ls rest) "java/lang/ArrayIndexOutOfBoundsException" tx) : W p l e R s m args below meth c H locs cells slots Q (F0 m pc ls (.int i :: .ref a :: rest)) := by
  intro T hT X
  obtain ⟨t, st, q⟩ := k _ rfl T hT X
  refine ⟨t, ?_, q⟩
  have h1 := X.baloadOut hexec (by rw [hT]; exact hP q0 _ ha) ((hK.2 t0 _ ht).1 n (fun j => .int (f j))) (j := i) (by show (i < 0 ∨ (arrV _ _ _).slots.size ≤ _); rw [arrV_size]; exact Classical.byContradiction hout) (g := F0 m pc ls (.int i :: .ref a :: rest)) rfl (rest := rest) rfl (by rw [hb]; exact hdg) t
  simp only [arrV_size] at h1
  exact h1 st
theorem vx_bastZ {D : va_G} {cl : List vw_C} {ws : va_W} {tys : List (ClassId × FieldType)} {a : Nat} (hexec : p.tables.exec = Jvm.exec) (hb : c.code = cc) (hK : va_K D cl tys s) (hP : va_P D cl ws H) (q0 t0 : Nat) {cA : ClassId} {n : Nat} {f : Nat → Int32} (ha : ws[q0]? = some (a, .inl (cA, n, .inl f))) (ht : tys[t0]? = some (cA, .byte)) {i : Int32} {x : Int32} (hout : ¬ vp_in i n) (hdg : decode cc pc = .ok (.bastore, 1))
    (k : ∀ tx : String, tx = (toString "Index " ++ toString i ++ toString " out of bounds for length " ++ toString n : String) → vx_Note p l e R s m args below meth c H locs cells slots Q (F0 m pc ls rest) "java/lang/ArrayIndexOutOfBoundsException" tx) : W p l e R s m args below meth c H locs cells slots Q (F0 m pc ls (.int x :: .int i :: .ref a :: rest)) := by
  intro T hT X
  obtain ⟨t, st, q⟩ := k _ rfl T hT X
  refine ⟨t, ?_, q⟩
  have h1 := X.bastoreOut hexec (by rw [hT]; exact hP q0 _ ha) ((hK.2 t0 _ ht).1 n (fun j => .int (f j))) (j := i) (by show (i < 0 ∨ (arrV _ _ _).slots.size ≤ _); rw [arrV_size]; exact Classical.byContradiction hout) (g := F0 m pc ls (.int x :: .int i :: .ref a :: rest)) rfl (rest := rest) rfl (by rw [hb]; exact hdg) t
  simp only [arrV_size] at h1
  exact h1 st
theorem vx_zaldZ {D : va_G} {cl : List vw_C} {ws : va_W} {tys : List (ClassId × FieldType)} {a : Nat} (hexec : p.tables.exec = Jvm.exec) (hb : c.code = cc) (hK : va_K D cl tys s) (hP : va_P D cl ws H) (q0 t0 : Nat) {cA : ClassId} {n : Nat} {f : Nat → Int32} (ha : ws[q0]? = some (a, .inl (cA, n, .inl f))) (ht : tys[t0]? = some (cA, .boolean)) {i : Int32} (hout : ¬ vp_in i n) (hdg : decode cc pc = .ok (.baload, 1))
    (k : ∀ tx : String, tx = (toString "Index " ++ toString i ++ toString " out of bounds for length " ++ toString n : String) → vx_Note p l e R s m args below meth c H locs cells slots Q (F0 m pc ls rest) "java/lang/ArrayIndexOutOfBoundsException" tx) : W p l e R s m args below meth c H locs cells slots Q (F0 m pc ls (.int i :: .ref a :: rest)) := by
  intro T hT X
  obtain ⟨t, st, q⟩ := k _ rfl T hT X
  refine ⟨t, ?_, q⟩
  have h1 := X.baloadOut hexec (by rw [hT]; exact hP q0 _ ha) ((hK.2 t0 _ ht).1 n (fun j => .int (f j))) (j := i) (by show (i < 0 ∨ (arrV _ _ _).slots.size ≤ _); rw [arrV_size]; exact Classical.byContradiction hout) (g := F0 m pc ls (.int i :: .ref a :: rest)) rfl (rest := rest) rfl (by rw [hb]; exact hdg) t
  simp only [arrV_size] at h1
  exact h1 st
theorem vx_zastZ {D : va_G} {cl : List vw_C} {ws : va_W} {tys : List (ClassId × FieldType)} {a : Nat} (hexec : p.tables.exec = Jvm.exec) (hb : c.code = cc) (hK : va_K D cl tys s) (hP : va_P D cl ws H) (q0 t0 : Nat) {cA : ClassId} {n : Nat} {f : Nat → Int32} (ha : ws[q0]? = some (a, .inl (cA, n, .inl f))) (ht : tys[t0]? = some (cA, .boolean)) {i : Int32} {x : Int32} (hout : ¬ vp_in i n) (hdg : decode cc pc = .ok (.bastore, 1))
    (k : ∀ tx : String, tx = (toString "Index " ++ toString i ++ toString " out of bounds for length " ++ toString n : String) → vx_Note p l e R s m args below meth c H locs cells slots Q (F0 m pc ls rest) "java/lang/ArrayIndexOutOfBoundsException" tx) : W p l e R s m args below meth c H locs cells slots Q (F0 m pc ls (.int x :: .int i :: .ref a :: rest)) := by
  intro T hT X
  obtain ⟨t, st, q⟩ := k _ rfl T hT X
  refine ⟨t, ?_, q⟩
  have h1 := X.bastoreOut hexec (by rw [hT]; exact hP q0 _ ha) ((hK.2 t0 _ ht).1 n (fun j => .int (f j))) (j := i) (by show (i < 0 ∨ (arrV _ _ _).slots.size ≤ _); rw [arrV_size]; exact Classical.byContradiction hout) (g := F0 m pc ls (.int x :: .int i :: .ref a :: rest)) rfl (rest := rest) rfl (by rw [hb]; exact hdg) t
  simp only [arrV_size] at h1
  exact h1 st
theorem vx_caldZ {D : va_G} {cl : List vw_C} {ws : va_W} {tys : List (ClassId × FieldType)} {a : Nat} (hexec : p.tables.exec = Jvm.exec) (hb : c.code = cc) (hK : va_K D cl tys s) (hP : va_P D cl ws H) (q0 t0 : Nat) {cA : ClassId} {n : Nat} {f : Nat → Int32} (ha : ws[q0]? = some (a, .inl (cA, n, .inl f))) (ht : tys[t0]? = some (cA, .char)) {i : Int32} (hout : ¬ vp_in i n) (hdg : decode cc pc = .ok (.caload, 1))
    (k : ∀ tx : String, tx = (toString "Index " ++ toString i ++ toString " out of bounds for length " ++ toString n : String) → vx_Note p l e R s m args below meth c H locs cells slots Q (F0 m pc ls rest) "java/lang/ArrayIndexOutOfBoundsException" tx) : W p l e R s m args below meth c H locs cells slots Q (F0 m pc ls (.int i :: .ref a :: rest)) := by
  intro T hT X
  obtain ⟨t, st, q⟩ := k _ rfl T hT X
  refine ⟨t, ?_, q⟩
  have h1 := X.caloadOut hexec (by rw [hT]; exact hP q0 _ ha) ((hK.2 t0 _ ht).1 n (fun j => .int (f j))) (j := i) (by show (i < 0 ∨ (arrV _ _ _).slots.size ≤ _); rw [arrV_size]; exact Classical.byContradiction hout) (g := F0 m pc ls (.int i :: .ref a :: rest)) rfl (rest := rest) rfl (by rw [hb]; exact hdg) t
  simp only [arrV_size] at h1
  exact h1 st
theorem vx_castZ {D : va_G} {cl : List vw_C} {ws : va_W} {tys : List (ClassId × FieldType)} {a : Nat} (hexec : p.tables.exec = Jvm.exec) (hb : c.code = cc) (hK : va_K D cl tys s) (hP : va_P D cl ws H) (q0 t0 : Nat) {cA : ClassId} {n : Nat} {f : Nat → Int32} (ha : ws[q0]? = some (a, .inl (cA, n, .inl f))) (ht : tys[t0]? = some (cA, .char)) {i : Int32} {x : Int32} (hout : ¬ vp_in i n) (hdg : decode cc pc = .ok (.castore, 1))
    (k : ∀ tx : String, tx = (toString "Index " ++ toString i ++ toString " out of bounds for length " ++ toString n : String) → vx_Note p l e R s m args below meth c H locs cells slots Q (F0 m pc ls rest) "java/lang/ArrayIndexOutOfBoundsException" tx) : W p l e R s m args below meth c H locs cells slots Q (F0 m pc ls (.int x :: .int i :: .ref a :: rest)) := by
  intro T hT X
  obtain ⟨t, st, q⟩ := k _ rfl T hT X
  refine ⟨t, ?_, q⟩
  have h1 := X.castoreOut hexec (by rw [hT]; exact hP q0 _ ha) ((hK.2 t0 _ ht).1 n (fun j => .int (f j))) (j := i) (by show (i < 0 ∨ (arrV _ _ _).slots.size ≤ _); rw [arrV_size]; exact Classical.byContradiction hout) (g := F0 m pc ls (.int x :: .int i :: .ref a :: rest)) rfl (rest := rest) rfl (by rw [hb]; exact hdg) t
  simp only [arrV_size] at h1
  exact h1 st
theorem vx_saldZ {D : va_G} {cl : List vw_C} {ws : va_W} {tys : List (ClassId × FieldType)} {a : Nat} (hexec : p.tables.exec = Jvm.exec) (hb : c.code = cc) (hK : va_K D cl tys s) (hP : va_P D cl ws H) (q0 t0 : Nat) {cA : ClassId} {n : Nat} {f : Nat → Int32} (ha : ws[q0]? = some (a, .inl (cA, n, .inl f))) (ht : tys[t0]? = some (cA, .short)) {i : Int32} (hout : ¬ vp_in i n) (hdg : decode cc pc = .ok (.saload, 1))
    (k : ∀ tx : String, tx = (toString "Index " ++ toString i ++ toString " out of bounds for length " ++ toString n : String) → vx_Note p l e R s m args below meth c H locs cells slots Q (F0 m pc ls rest) "java/lang/ArrayIndexOutOfBoundsException" tx) : W p l e R s m args below meth c H locs cells slots Q (F0 m pc ls (.int i :: .ref a :: rest)) := by
  intro T hT X
  obtain ⟨t, st, q⟩ := k _ rfl T hT X
  refine ⟨t, ?_, q⟩
  have h1 := X.saloadOut hexec (by rw [hT]; exact hP q0 _ ha) ((hK.2 t0 _ ht).1 n (fun j => .int (f j))) (j := i) (by show (i < 0 ∨ (arrV _ _ _).slots.size ≤ _); rw [arrV_size]; exact Classical.byContradiction hout) (g := F0 m pc ls (.int i :: .ref a :: rest)) rfl (rest := rest) rfl (by rw [hb]; exact hdg) t
  simp only [arrV_size] at h1
  exact h1 st
theorem vx_sastZ {D : va_G} {cl : List vw_C} {ws : va_W} {tys : List (ClassId × FieldType)} {a : Nat} (hexec : p.tables.exec = Jvm.exec) (hb : c.code = cc) (hK : va_K D cl tys s) (hP : va_P D cl ws H) (q0 t0 : Nat) {cA : ClassId} {n : Nat} {f : Nat → Int32} (ha : ws[q0]? = some (a, .inl (cA, n, .inl f))) (ht : tys[t0]? = some (cA, .short)) {i : Int32} {x : Int32} (hout : ¬ vp_in i n) (hdg : decode cc pc = .ok (.sastore, 1))
    (k : ∀ tx : String, tx = (toString "Index " ++ toString i ++ toString " out of bounds for length " ++ toString n : String) → vx_Note p l e R s m args below meth c H locs cells slots Q (F0 m pc ls rest) "java/lang/ArrayIndexOutOfBoundsException" tx) : W p l e R s m args below meth c H locs cells slots Q (F0 m pc ls (.int x :: .int i :: .ref a :: rest)) := by
  intro T hT X
  obtain ⟨t, st, q⟩ := k _ rfl T hT X
  refine ⟨t, ?_, q⟩
  have h1 := X.sastoreOut hexec (by rw [hT]; exact hP q0 _ ha) ((hK.2 t0 _ ht).1 n (fun j => .int (f j))) (j := i) (by show (i < 0 ∨ (arrV _ _ _).slots.size ≤ _); rw [arrV_size]; exact Classical.byContradiction hout) (g := F0 m pc ls (.int x :: .int i :: .ref a :: rest)) rfl (rest := rest) rfl (by rw [hb]; exact hdg) t
  simp only [arrV_size] at h1
  exact h1 st
theorem vx_laldZ {D : va_G} {cl : List vw_C} {ws : va_W} {tys : List (ClassId × FieldType)} {a : Nat} (hexec : p.tables.exec = Jvm.exec) (hb : c.code = cc) (hK : va_K D cl tys s) (hP : va_P D cl ws H) (q0 t0 : Nat) {cA : ClassId} {n : Nat} {f : Nat → Int64} (ha : ws[q0]? = some (a, .inl (cA, n, .inr (.inl f)))) (ht : tys[t0]? = some (cA, .long)) {i : Int32} (hout : ¬ vp_in i n) (hdg : decode cc pc = .ok (.laload, 1))
    (k : ∀ tx : String, tx = (toString "Index " ++ toString i ++ toString " out of bounds for length " ++ toString n : String) → vx_Note p l e R s m args below meth c H locs cells slots Q (F0 m pc ls rest) "java/lang/ArrayIndexOutOfBoundsException" tx) : W p l e R s m args below meth c H locs cells slots Q (F0 m pc ls (.int i :: .ref a :: rest)) := by
  intro T hT X
  obtain ⟨t, st, q⟩ := k _ rfl T hT X
  refine ⟨t, ?_, q⟩
  have h1 := X.laloadOut hexec (by rw [hT]; exact hP q0 _ ha) ((hK.2 t0 _ ht).1 n (fun j => .long (f j))) (j := i) (by show (i < 0 ∨ (arrV _ _ _).slots.size ≤ _); rw [arrV_size]; exact Classical.byContradiction hout) (g := F0 m pc ls (.int i :: .ref a :: rest)) rfl (rest := rest) rfl (by rw [hb]; exact hdg) t
  simp only [arrV_size] at h1
  exact h1 st
theorem vx_lastZ {D : va_G} {cl : List vw_C} {ws : va_W} {tys : List (ClassId × FieldType)} {a : Nat} (hexec : p.tables.exec = Jvm.exec) (hb : c.code = cc) (hK : va_K D cl tys s) (hP : va_P D cl ws H) (q0 t0 : Nat) {cA : ClassId} {n : Nat} {f : Nat → Int64} (ha : ws[q0]? = some (a, .inl (cA, n, .inr (.inl f)))) (ht : tys[t0]? = some (cA, .long)) {i : Int32} {x : Int64} (hout : ¬ vp_in i n) (hdg : decode cc pc = .ok (.lastore, 1))
    (k : ∀ tx : String, tx = (toString "Index " ++ toString i ++ toString " out of bounds for length " ++ toString n : String) → vx_Note p l e R s m args below meth c H locs cells slots Q (F0 m pc ls rest) "java/lang/ArrayIndexOutOfBoundsException" tx) : W p l e R s m args below meth c H locs cells slots Q (F0 m pc ls (.long x :: .int i :: .ref a :: rest)) := by
  intro T hT X
  obtain ⟨t, st, q⟩ := k _ rfl T hT X
  refine ⟨t, ?_, q⟩
  have h1 := X.lastoreOut hexec (by rw [hT]; exact hP q0 _ ha) ((hK.2 t0 _ ht).1 n (fun j => .long (f j))) (j := i) (by show (i < 0 ∨ (arrV _ _ _).slots.size ≤ _); rw [arrV_size]; exact Classical.byContradiction hout) (g := F0 m pc ls (.long x :: .int i :: .ref a :: rest)) rfl (rest := rest) rfl (by rw [hb]; exact hdg) t
  simp only [arrV_size] at h1
  exact h1 st
theorem vx_faldZ {D : va_G} {cl : List vw_C} {ws : va_W} {tys : List (ClassId × FieldType)} {a : Nat} (hexec : p.tables.exec = Jvm.exec) (hb : c.code = cc) (hK : va_K D cl tys s) (hP : va_P D cl ws H) (q0 t0 : Nat) {cA : ClassId} {n : Nat} {f : Nat → UInt32} (ha : ws[q0]? = some (a, .inl (cA, n, .inr (.inr (.inl f))))) (ht : tys[t0]? = some (cA, .float)) {i : Int32} (hout : ¬ vp_in i n) (hdg : decode cc pc = .ok (.faload, 1))
    (k : ∀ tx : String, tx = (toString "Index " ++ toString i ++ toString " out of bounds for length " ++ toString n : String) → vx_Note p l e R s m args below meth c H locs cells slots Q (F0 m pc ls rest) "java/lang/ArrayIndexOutOfBoundsException" tx) : W p l e R s m args below meth c H locs cells slots Q (F0 m pc ls (.int i :: .ref a :: rest)) := by
  intro T hT X
  obtain ⟨t, st, q⟩ := k _ rfl T hT X
  refine ⟨t, ?_, q⟩
  have h1 := X.faloadOut hexec (by rw [hT]; exact hP q0 _ ha) ((hK.2 t0 _ ht).1 n (fun j => .float (f j))) (j := i) (by show (i < 0 ∨ (arrV _ _ _).slots.size ≤ _); rw [arrV_size]; exact Classical.byContradiction hout) (g := F0 m pc ls (.int i :: .ref a :: rest)) rfl (rest := rest) rfl (by rw [hb]; exact hdg) t
  simp only [arrV_size] at h1
  exact h1 st
theorem vx_fastZ {D : va_G} {cl : List vw_C} {ws : va_W} {tys : List (ClassId × FieldType)} {a : Nat} (hexec : p.tables.exec = Jvm.exec) (hb : c.code = cc) (hK : va_K D cl tys s) (hP : va_P D cl ws H) (q0 t0 : Nat) {cA : ClassId} {n : Nat} {f : Nat → UInt32} (ha : ws[q0]? = some (a, .inl (cA, n, .inr (.inr (.inl f))))) (ht : tys[t0]? = some (cA, .float)) {i : Int32} {x : UInt32} (hout : ¬ vp_in i n) (hdg : decode cc pc = .ok (.fastore, 1))
    (k : ∀ tx : String, tx = (toString "Index " ++ toString i ++ toString " out of bounds for length " ++ toString n : String) → vx_Note p l e R s m args below meth c H locs cells slots Q (F0 m pc ls rest) "java/lang/ArrayIndexOutOfBoundsException" tx) : W p l e R s m args below meth c H locs cells slots Q (F0 m pc ls (.float x :: .int i :: .ref a :: rest)) := by
  intro T hT X
  obtain ⟨t, st, q⟩ := k _ rfl T hT X
  refine ⟨t, ?_, q⟩
  have h1 := X.fastoreOut hexec (by rw [hT]; exact hP q0 _ ha) ((hK.2 t0 _ ht).1 n (fun j => .float (f j))) (j := i) (by show (i < 0 ∨ (arrV _ _ _).slots.size ≤ _); rw [arrV_size]; exact Classical.byContradiction hout) (g := F0 m pc ls (.float x :: .int i :: .ref a :: rest)) rfl (rest := rest) rfl (by rw [hb]; exact hdg) t
  simp only [arrV_size] at h1
  exact h1 st
theorem vx_daldZ {D : va_G} {cl : List vw_C} {ws : va_W} {tys : List (ClassId × FieldType)} {a : Nat} (hexec : p.tables.exec = Jvm.exec) (hb : c.code = cc) (hK : va_K D cl tys s) (hP : va_P D cl ws H) (q0 t0 : Nat) {cA : ClassId} {n : Nat} {f : Nat → UInt64} (ha : ws[q0]? = some (a, .inl (cA, n, .inr (.inr (.inr (.inl f)))))) (ht : tys[t0]? = some (cA, .double)) {i : Int32} (hout : ¬ vp_in i n) (hdg : decode cc pc = .ok (.daload, 1))
    (k : ∀ tx : String, tx = (toString "Index " ++ toString i ++ toString " out of bounds for length " ++ toString n : String) → vx_Note p l e R s m args below meth c H locs cells slots Q (F0 m pc ls rest) "java/lang/ArrayIndexOutOfBoundsException" tx) : W p l e R s m args below meth c H locs cells slots Q (F0 m pc ls (.int i :: .ref a :: rest)) := by
  intro T hT X
  obtain ⟨t, st, q⟩ := k _ rfl T hT X
  refine ⟨t, ?_, q⟩
  have h1 := X.daloadOut hexec (by rw [hT]; exact hP q0 _ ha) ((hK.2 t0 _ ht).1 n (fun j => .double (f j))) (j := i) (by show (i < 0 ∨ (arrV _ _ _).slots.size ≤ _); rw [arrV_size]; exact Classical.byContradiction hout) (g := F0 m pc ls (.int i :: .ref a :: rest)) rfl (rest := rest) rfl (by rw [hb]; exact hdg) t
  simp only [arrV_size] at h1
  exact h1 st
theorem vx_dastZ {D : va_G} {cl : List vw_C} {ws : va_W} {tys : List (ClassId × FieldType)} {a : Nat} (hexec : p.tables.exec = Jvm.exec) (hb : c.code = cc) (hK : va_K D cl tys s) (hP : va_P D cl ws H) (q0 t0 : Nat) {cA : ClassId} {n : Nat} {f : Nat → UInt64} (ha : ws[q0]? = some (a, .inl (cA, n, .inr (.inr (.inr (.inl f)))))) (ht : tys[t0]? = some (cA, .double)) {i : Int32} {x : UInt64} (hout : ¬ vp_in i n) (hdg : decode cc pc = .ok (.dastore, 1))
    (k : ∀ tx : String, tx = (toString "Index " ++ toString i ++ toString " out of bounds for length " ++ toString n : String) → vx_Note p l e R s m args below meth c H locs cells slots Q (F0 m pc ls rest) "java/lang/ArrayIndexOutOfBoundsException" tx) : W p l e R s m args below meth c H locs cells slots Q (F0 m pc ls (.double x :: .int i :: .ref a :: rest)) := by
  intro T hT X
  obtain ⟨t, st, q⟩ := k _ rfl T hT X
  refine ⟨t, ?_, q⟩
  have h1 := X.dastoreOut hexec (by rw [hT]; exact hP q0 _ ha) ((hK.2 t0 _ ht).1 n (fun j => .double (f j))) (j := i) (by show (i < 0 ∨ (arrV _ _ _).slots.size ≤ _); rw [arrV_size]; exact Classical.byContradiction hout) (g := F0 m pc ls (.double x :: .int i :: .ref a :: rest)) rfl (rest := rest) rfl (by rw [hb]; exact hdg) t
  simp only [arrV_size] at h1
  exact h1 st
theorem vx_arraylengthN (hexec : p.tables.exec = Jvm.exec) (hb : c.code = cc) (hdg : decode cc pc = .ok (.arraylength, 1)) (k : vx_NoteN p l e R s m args below meth c H locs cells slots Q (F0 m pc ls rest)) : W p l e R s m args below meth c H locs cells slots Q (F0 m pc ls (.null :: rest)) := by
  intro T hT X
  obtain ⟨t, st, q⟩ := k T hT X
  exact ⟨t, X.arraylengthNull hexec (g := F0 m pc ls (.null :: rest)) rfl (rest := rest) rfl (by rw [hb]; exact hdg) t st, q⟩
theorem vx_ialoadN (hexec : p.tables.exec = Jvm.exec) (hb : c.code = cc) {i : Int32} (hdg : decode cc pc = .ok (.iaload, 1)) (k : vx_NoteN p l e R s m args below meth c H locs cells slots Q (F0 m pc ls rest)) : W p l e R s m args below meth c H locs cells slots Q (F0 m pc ls (.int i :: .null :: rest)) := by
  intro T hT X
  obtain ⟨t, st, q⟩ := k T hT X
  exact ⟨t, X.ialoadNull hexec (g := F0 m pc ls (.int i :: .null :: rest)) rfl (rest := rest) rfl (by rw [hb]; exact hdg) t st, q⟩
theorem vx_laloadN (hexec : p.tables.exec = Jvm.exec) (hb : c.code = cc) {i : Int32} (hdg : decode cc pc = .ok (.laload, 1)) (k : vx_NoteN p l e R s m args below meth c H locs cells slots Q (F0 m pc ls rest)) : W p l e R s m args below meth c H locs cells slots Q (F0 m pc ls (.int i :: .null :: rest)) := by
  intro T hT X
  obtain ⟨t, st, q⟩ := k T hT X
  exact ⟨t, X.laloadNull hexec (g := F0 m pc ls (.int i :: .null :: rest)) rfl (rest := rest) rfl (by rw [hb]; exact hdg) t st, q⟩
theorem vx_faloadN (hexec : p.tables.exec = Jvm.exec) (hb : c.code = cc) {i : Int32} (hdg : decode cc pc = .ok (.faload, 1)) (k : vx_NoteN p l e R s m args below meth c H locs cells slots Q (F0 m pc ls rest)) : W p l e R s m args below meth c H locs cells slots Q (F0 m pc ls (.int i :: .null :: rest)) := by
  intro T hT X
  obtain ⟨t, st, q⟩ := k T hT X
  exact ⟨t, X.faloadNull hexec (g := F0 m pc ls (.int i :: .null :: rest)) rfl (rest := rest) rfl (by rw [hb]; exact hdg) t st, q⟩
theorem vx_daloadN (hexec : p.tables.exec = Jvm.exec) (hb : c.code = cc) {i : Int32} (hdg : decode cc pc = .ok (.daload, 1)) (k : vx_NoteN p l e R s m args below meth c H locs cells slots Q (F0 m pc ls rest)) : W p l e R s m args below meth c H locs cells slots Q (F0 m pc ls (.int i :: .null :: rest)) := by
  intro T hT X
  obtain ⟨t, st, q⟩ := k T hT X
  exact ⟨t, X.daloadNull hexec (g := F0 m pc ls (.int i :: .null :: rest)) rfl (rest := rest) rfl (by rw [hb]; exact hdg) t st, q⟩
theorem vx_aaloadN (hexec : p.tables.exec = Jvm.exec) (hb : c.code = cc) {i : Int32} (hdg : decode cc pc = .ok (.aaload, 1)) (k : vx_NoteN p l e R s m args below meth c H locs cells slots Q (F0 m pc ls rest)) : W p l e R s m args below meth c H locs cells slots Q (F0 m pc ls (.int i :: .null :: rest)) := by
  intro T hT X
  obtain ⟨t, st, q⟩ := k T hT X
  exact ⟨t, X.aaloadNull hexec (g := F0 m pc ls (.int i :: .null :: rest)) rfl (rest := rest) rfl (by rw [hb]; exact hdg) t st, q⟩
theorem vx_baloadN (hexec : p.tables.exec = Jvm.exec) (hb : c.code = cc) {i : Int32} (hdg : decode cc pc = .ok (.baload, 1)) (k : vx_NoteN p l e R s m args below meth c H locs cells slots Q (F0 m pc ls rest)) : W p l e R s m args below meth c H locs cells slots Q (F0 m pc ls (.int i :: .null :: rest)) := by
  intro T hT X
  obtain ⟨t, st, q⟩ := k T hT X
  exact ⟨t, X.baloadNull hexec (g := F0 m pc ls (.int i :: .null :: rest)) rfl (rest := rest) rfl (by rw [hb]; exact hdg) t st, q⟩
theorem vx_caloadN (hexec : p.tables.exec = Jvm.exec) (hb : c.code = cc) {i : Int32} (hdg : decode cc pc = .ok (.caload, 1)) (k : vx_NoteN p l e R s m args below meth c H locs cells slots Q (F0 m pc ls rest)) : W p l e R s m args below meth c H locs cells slots Q (F0 m pc ls (.int i :: .null :: rest)) := by
  intro T hT X
  obtain ⟨t, st, q⟩ := k T hT X
  exact ⟨t, X.caloadNull hexec (g := F0 m pc ls (.int i :: .null :: rest)) rfl (rest := rest) rfl (by rw [hb]; exact hdg) t st, q⟩
theorem vx_saloadN (hexec : p.tables.exec = Jvm.exec) (hb : c.code = cc) {i : Int32} (hdg : decode cc pc = .ok (.saload, 1)) (k : vx_NoteN p l e R s m args below meth c H locs cells slots Q (F0 m pc ls rest)) : W p l e R s m args below meth c H locs cells slots Q (F0 m pc ls (.int i :: .null :: rest)) := by
  intro T hT X
  obtain ⟨t, st, q⟩ := k T hT X
  exact ⟨t, X.saloadNull hexec (g := F0 m pc ls (.int i :: .null :: rest)) rfl (rest := rest) rfl (by rw [hb]; exact hdg) t st, q⟩
theorem vx_iastoreN (hexec : p.tables.exec = Jvm.exec) (hb : c.code = cc) {x : Int32} {i : Int32} (hdg : decode cc pc = .ok (.iastore, 1)) (k : vx_NoteN p l e R s m args below meth c H locs cells slots Q (F0 m pc ls rest)) : W p l e R s m args below meth c H locs cells slots Q (F0 m pc ls (.int x :: .int i :: .null :: rest)) := by
  intro T hT X
  obtain ⟨t, st, q⟩ := k T hT X
  exact ⟨t, X.iastoreNull hexec (g := F0 m pc ls (.int x :: .int i :: .null :: rest)) rfl (rest := rest) rfl (by rw [hb]; exact hdg) t st, q⟩
theorem vx_lastoreN (hexec : p.tables.exec = Jvm.exec) (hb : c.code = cc) {x : Int64} {i : Int32} (hdg : decode cc pc = .ok (.lastore, 1)) (k : vx_NoteN p l e R s m args below meth c H locs cells slots Q (F0 m pc ls rest)) : W p l e R s m args below meth c H locs cells slots Q (F0 m pc ls (.long x :: .int i :: .null :: rest)) := by
  intro T hT X
  obtain ⟨t, st, q⟩ := k T hT X
  exact ⟨t, X.lastoreNull hexec (g := F0 m pc ls (.long x :: .int i :: .null :: rest)) rfl (rest := rest) rfl (by rw [hb]; exact hdg) t st, q⟩
theorem vx_fastoreN (hexec : p.tables.exec = Jvm.exec) (hb : c.code = cc) {x : UInt32} {i : Int32} (hdg : decode cc pc = .ok (.fastore, 1)) (k : vx_NoteN p l e R s m args below meth c H locs cells slots Q (F0 m pc ls rest)) : W p l e R s m args below meth c H locs cells slots Q (F0 m pc ls (.float x :: .int i :: .null :: rest)) := by
  intro T hT X
  obtain ⟨t, st, q⟩ := k T hT X
  exact ⟨t, X.fastoreNull hexec (g := F0 m pc ls (.float x :: .int i :: .null :: rest)) rfl (rest := rest) rfl (by rw [hb]; exact hdg) t st, q⟩
theorem vx_dastoreN (hexec : p.tables.exec = Jvm.exec) (hb : c.code = cc) {x : UInt64} {i : Int32} (hdg : decode cc pc = .ok (.dastore, 1)) (k : vx_NoteN p l e R s m args below meth c H locs cells slots Q (F0 m pc ls rest)) : W p l e R s m args below meth c H locs cells slots Q (F0 m pc ls (.double x :: .int i :: .null :: rest)) := by
  intro T hT X
  obtain ⟨t, st, q⟩ := k T hT X
  exact ⟨t, X.dastoreNull hexec (g := F0 m pc ls (.double x :: .int i :: .null :: rest)) rfl (rest := rest) rfl (by rw [hb]; exact hdg) t st, q⟩
theorem vx_bastoreN (hexec : p.tables.exec = Jvm.exec) (hb : c.code = cc) {x : Int32} {i : Int32} (hdg : decode cc pc = .ok (.bastore, 1)) (k : vx_NoteN p l e R s m args below meth c H locs cells slots Q (F0 m pc ls rest)) : W p l e R s m args below meth c H locs cells slots Q (F0 m pc ls (.int x :: .int i :: .null :: rest)) := by
  intro T hT X
  obtain ⟨t, st, q⟩ := k T hT X
  exact ⟨t, X.bastoreNull hexec (g := F0 m pc ls (.int x :: .int i :: .null :: rest)) rfl (rest := rest) rfl (by rw [hb]; exact hdg) t st, q⟩
theorem vx_castoreN (hexec : p.tables.exec = Jvm.exec) (hb : c.code = cc) {x : Int32} {i : Int32} (hdg : decode cc pc = .ok (.castore, 1)) (k : vx_NoteN p l e R s m args below meth c H locs cells slots Q (F0 m pc ls rest)) : W p l e R s m args below meth c H locs cells slots Q (F0 m pc ls (.int x :: .int i :: .null :: rest)) := by
  intro T hT X
  obtain ⟨t, st, q⟩ := k T hT X
  exact ⟨t, X.castoreNull hexec (g := F0 m pc ls (.int x :: .int i :: .null :: rest)) rfl (rest := rest) rfl (by rw [hb]; exact hdg) t st, q⟩
theorem vx_sastoreN (hexec : p.tables.exec = Jvm.exec) (hb : c.code = cc) {x : Int32} {i : Int32} (hdg : decode cc pc = .ok (.sastore, 1)) (k : vx_NoteN p l e R s m args below meth c H locs cells slots Q (F0 m pc ls rest)) : W p l e R s m args below meth c H locs cells slots Q (F0 m pc ls (.int x :: .int i :: .null :: rest)) := by
  intro T hT X
  obtain ⟨t, st, q⟩ := k T hT X
  exact ⟨t, X.sastoreNull hexec (g := F0 m pc ls (.int x :: .int i :: .null :: rest)) rfl (rest := rest) rfl (by rw [hb]; exact hdg) t st, q⟩
theorem vx_invokeN {own C : String} {index maxL : Nat} {y : MethodName} {bytes : ByteArray} {ret : Option FieldType} (hexec : p.tables.exec = Jvm.exec) (hb : c.code = cc) (hown : s.vm.findClass own = some m.cls) (hlink : (Cond.methodLink own index y).before args s = true) (hinst : (Cond.instanceMethod y).before args s = true) (hcode : (Cond.code y bytes maxL ret).before args s = true) (hsel : (Cond.selects C y y).before args s = true)
    (hx : y.cls ≠ "java/lang/invoke/MethodHandle" ∧ y.cls ≠ "java/lang/invoke/VarHandle") {As : List Value} (hlen : (parseMethodDescriptor y.desc).map (fun d => d.parameters.length) = some As.length) (hdg : decode cc pc = .ok (.invokevirtual index, 3))
    (k : vx_NoteN p l e R s m args below meth c H locs cells slots Q (F0 m pc ls rest)) {st0 : List Value} (hst : st0 = As.reverse ++ .null :: rest) : W p l e R s m args below meth c H locs cells slots Q (F0 m pc ls st0) := by
  intro T hT X
  obtain ⟨r0, r, hn, hrm, hstR, hsigR⟩ := va_Decl.of hinst hcode
  obtain ⟨c2, r2, m2, q1, q2, q3, q4, kP, hkP, hkPi⟩ := Cond.selects_spec hsel
  cases hn.symm.trans q3
  have hl9 : As.length = r.sig.parameters.length := by
    rw [hsigR] at hlen
    exact (Option.some.inj hlen).symm
  obtain ⟨vm', X1, st1⟩ := X.invokevirtualNull hexec hown hlink hn hrm hstR hkP hkPi hx (g := F0 m pc ls st0) rfl (argsL := As) (rest := rest) hl9 hst (by rw [hb]; exact hdg)
  obtain ⟨t, st, q⟩ := k (T.setVm vm') hT X1
  exact ⟨t, st1 t st, q⟩
theorem vx_newarrayZ {atype : ArrayType} (hexec : p.tables.exec = Jvm.exec) (hb : c.code = cc) {n : Int32} (h0 : n < 0) (hdg : decode cc pc = .ok (.newarray atype, 2)) (k : ∀ tx : String, tx = toString n → vx_Note p l e R s m args below meth c H locs cells slots Q (F0 m pc ls rest) "java/lang/NegativeArraySizeException" tx) : W p l e R s m args below meth c H locs cells slots Q (F0 m pc ls (.int n :: rest)) := by
  intro T hT X
  obtain ⟨t, st, q⟩ := k _ rfl T hT X
  exact ⟨t, X.newarrayNegative hexec (g := F0 m pc ls (.int n :: rest)) rfl h0 (rest := rest) rfl (by rw [hb]; exact hdg) t st, q⟩
end
end VXM
/-! ===== END ===== -/
end
section
/-! ===== BEGIN printed: names, fields, word lists, decode rows ===== -/
def RX0 : String := "RasterCover$Crossings"
def TX0 : u_T := fun k => match k with
  | 0 => ("RasterCover$Crossings", "xs", "[I", true)
  | 1 => ("RasterCover$Crossings", "turns", "[I", true)
  | _ => ("RasterCover$Crossings", "count", "I", false)
def tyX0 : Nat → FieldType := fun k => match k with
  | 0 => .array .int
  | 1 => .array .int
  | _ => .int
abbrev wsX00 : List Cond := u_ws RX0 TX0 3
theorem nmX0 : ∀ a, a < 3 → ∀ b, b < 3 → a ≠ b → (TX0 a).2.1 ≠ (TX0 b).2.1 := by decide +kernel
theorem tyX0_ok : ∀ k, k < 3 → parseFieldDescriptor (TX0 k).2.2.1 = some (tyX0 k) := by decide +kernel
abbrev cX0_init : ByteArray := prog_2_method_1_code
def yX0_init : MethodName := ⟨RX0, "<init>", "()V"⟩
abbrev cX0_collect : ByteArray := prog_2_method_2_code
def yX0_collect : MethodName := ⟨RX0, "collect", "(LRasterCover$Path;I)V"⟩
abbrev cX0_cross : ByteArray := prog_2_method_3_code
def yX0_cross : MethodName := ⟨RX0, "cross", "(LRasterCover$Path;IIII)V"⟩
abbrev cX0_insert : ByteArray := prog_2_method_4_code
def yX0_insert : MethodName := ⟨RX0, "insert", "(II)V"⟩
def RX1 : String := "RasterCover$PackedRow"
def TX1 : u_T := fun k => match k with
  | 0 => ("RasterCover$PackedRow", "signs", "[B", true)
  | _ => ("RasterCover$PackedRow", "size", "I", false)
def tyX1 : Nat → FieldType := fun k => match k with
  | 0 => .array .byte
  | _ => .int
abbrev wsX10 : List Cond := u_ws RX1 TX1 2
theorem nmX1 : ∀ a, a < 2 → ∀ b, b < 2 → a ≠ b → (TX1 a).2.1 ≠ (TX1 b).2.1 := by decide +kernel
theorem tyX1_ok : ∀ k, k < 2 → parseFieldDescriptor (TX1 k).2.2.1 = some (tyX1 k) := by decide +kernel
abbrev cX1_init : ByteArray := prog_3_method_1_code
def yX1_init : MethodName := ⟨RX1, "<init>", "(I)V"⟩
abbrev cX1_pack : ByteArray := prog_3_method_2_code
def yX1_pack : MethodName := ⟨RX1, "pack", "([III)V"⟩
abbrev cX1_put : ByteArray := prog_3_method_3_code
def yX1_put : MethodName := ⟨RX1, "put", "(I)V"⟩
def RX2 : String := "RasterCover$Path"
def TX2 : u_T := fun k => match k with
  | 0 => ("RasterCover$Path", "xs", "[I", true)
  | 1 => ("RasterCover$Path", "ys", "[I", true)
  | 2 => ("RasterCover$Path", "begins", "[Z", true)
  | _ => ("RasterCover$Path", "count", "I", false)
def tyX2 : Nat → FieldType := fun k => match k with
  | 0 => .array .int
  | 1 => .array .int
  | 2 => .array .boolean
  | _ => .int
abbrev wsX20 : List Cond := u_ws RX2 TX2 4
theorem nmX2 : ∀ a, a < 4 → ∀ b, b < 4 → a ≠ b → (TX2 a).2.1 ≠ (TX2 b).2.1 := by decide +kernel
theorem tyX2_ok : ∀ k, k < 4 → parseFieldDescriptor (TX2 k).2.2.1 = some (tyX2 k) := by decide +kernel
abbrev cX2_init : ByteArray := prog_4_method_1_code
def yX2_init : MethodName := ⟨RX2, "<init>", "()V"⟩
abbrev cX2_begin : ByteArray := prog_4_method_2_code
def yX2_begin : MethodName := ⟨RX2, "begin", "(II)V"⟩
abbrev cX2_join : ByteArray := prog_4_method_3_code
def yX2_join : MethodName := ⟨RX2, "join", "(II)V"⟩
abbrev cX2_add : ByteArray := prog_4_method_4_code
def yX2_add : MethodName := ⟨RX2, "add", "(IIZ)V"⟩
abbrev cX2_clear : ByteArray := prog_4_method_5_code
def yX2_clear : MethodName := ⟨RX2, "clear", "()V"⟩
def RX3 : String := "RasterCover$RowCover"
def TX3 : u_T := fun k => match k with
  | 0 => ("RasterCover$RowCover", "units", "[I", true)
  | _ => ("RasterCover$RowCover", "crossings", "LRasterCover$Crossings;", true)
def tyX3 : Nat → FieldType := fun k => match k with
  | 0 => .array .int
  | _ => .object "RasterCover$Crossings"
abbrev wsX30 : List Cond := u_ws RX3 TX3 2
theorem nmX3 : ∀ a, a < 2 → ∀ b, b < 2 → a ≠ b → (TX3 a).2.1 ≠ (TX3 b).2.1 := by decide +kernel
theorem tyX3_ok : ∀ k, k < 2 → parseFieldDescriptor (TX3 k).2.2.1 = some (tyX3 k) := by decide +kernel
abbrev cX3_init : ByteArray := prog_5_method_1_code
def yX3_init : MethodName := ⟨RX3, "<init>", "(I)V"⟩
abbrev cX3_at : ByteArray := prog_5_method_2_code
def yX3_at : MethodName := ⟨RX3, "at", "(I)I"⟩
abbrev cX3_measure : ByteArray := prog_5_method_3_code
def yX3_measure : MethodName := ⟨RX3, "measure", "(LRasterCover$Path;II)V"⟩
abbrev cX3_addSubRow : ByteArray := prog_5_method_4_code
def yX3_addSubRow : MethodName := ⟨RX3, "addSubRow", "(I)V"⟩
abbrev cX3_addSpan : ByteArray := prog_5_method_5_code
def yX3_addSpan : MethodName := ⟨RX3, "addSpan", "(II)V"⟩
def RX4 : String := "RasterCover"
def TX4 : u_T := fun k => match k with
  | 0 => ("RasterCover", "width", "I", true)
  | 1 => ("RasterCover", "height", "I", true)
  | 2 => ("RasterCover", "planes", "I", true)
  | 3 => ("RasterCover", "bytes", "[I", true)
  | 4 => ("RasterCover", "clips", "[I", true)
  | 5 => ("RasterCover", "overs", "[Z", true)
  | 6 => ("RasterCover", "path", "LRasterCover$Path;", true)
  | 7 => ("RasterCover", "rowCover", "LRasterCover$RowCover;", true)
  | 8 => ("RasterCover", "packedRow", "LRasterCover$PackedRow;", true)
  | 9 => ("RasterCover", "bandFrom", "I", false)
  | 10 => ("RasterCover", "bandTo", "I", false)
  | _ => ("RasterCover", "fills", "I", false)
def tyX4 : Nat → FieldType := fun k => match k with
  | 0 => .int
  | 1 => .int
  | 2 => .int
  | 3 => .array .int
  | 4 => .array .int
  | 5 => .array .boolean
  | 6 => .object "RasterCover$Path"
  | 7 => .object "RasterCover$RowCover"
  | 8 => .object "RasterCover$PackedRow"
  | 9 => .int
  | 10 => .int
  | _ => .int
abbrev wsX40 : List Cond := u_ws RX4 TX4 12
theorem nmX4 : ∀ a, a < 12 → ∀ b, b < 12 → a ≠ b → (TX4 a).2.1 ≠ (TX4 b).2.1 := by decide +kernel
theorem tyX4_ok : ∀ k, k < 12 → parseFieldDescriptor (TX4 k).2.2.1 = some (tyX4 k) := by decide +kernel
abbrev cX4_init : ByteArray := prog_1_method_1_code
def yX4_init : MethodName := ⟨RX4, "<init>", "(III)V"⟩
abbrev cX4_move : ByteArray := prog_1_method_2_code
def yX4_move : MethodName := ⟨RX4, "move", "(JJ)I"⟩
abbrev cX4_line : ByteArray := prog_1_method_3_code
def yX4_line : MethodName := ⟨RX4, "line", "(JJ)I"⟩
abbrev cX4_hair : ByteArray := prog_1_method_4_code
def yX4_hair : MethodName := ⟨RX4, "hair", "(JJJJ)I"⟩
abbrev cX4_fill : ByteArray := prog_1_method_5_code
def yX4_fill : MethodName := ⟨RX4, "fill", "(III)I"⟩
abbrev cX4_clip : ByteArray := prog_1_method_6_code
def yX4_clip : MethodName := ⟨RX4, "clip", "(I)I"⟩
abbrev cX4_end : ByteArray := prog_1_method_7_code
def yX4_end : MethodName := ⟨RX4, "end", "()I"⟩
abbrev cX4_point : ByteArray := prog_1_method_8_code
def yX4_point : MethodName := ⟨RX4, "point", "(III)I"⟩
abbrev cX4_cover : ByteArray := prog_1_method_9_code
def yX4_cover : MethodName := ⟨RX4, "cover", "(II)I"⟩
abbrev cX4_band : ByteArray := prog_1_method_10_code
def yX4_band : MethodName := ⟨RX4, "band", "(II)I"⟩
abbrev cX4_same : ByteArray := prog_1_method_11_code
def yX4_same : MethodName := ⟨RX4, "same", "(I)Z"⟩
abbrev cX4_packed : ByteArray := prog_1_method_12_code
def yX4_packed : MethodName := ⟨RX4, "packed", "(I)B"⟩
abbrev cX4_over : ByteArray := prog_1_method_13_code
def yX4_over : MethodName := ⟨RX4, "over", "(IZ)I"⟩
abbrev cX4_needRoom : ByteArray := prog_1_method_14_code
def yX4_needRoom : MethodName := ⟨RX4, "needRoom", "(I)V"⟩
abbrev cX4_needRule : ByteArray := prog_1_method_15_code
def yX4_needRule : MethodName := ⟨RX4, "needRule", "(I)V"⟩
abbrev cX4_needPlane : ByteArray := prog_1_method_16_code
def yX4_needPlane : MethodName := ⟨RX4, "needPlane", "(I)V"⟩
abbrev cX4_needPoint : ByteArray := prog_1_method_17_code
def yX4_needPoint : MethodName := ⟨RX4, "needPoint", "(II)V"⟩
abbrev cX4_cut : ByteArray := prog_1_method_18_code
def yX4_cut : MethodName := ⟨RX4, "cut", "(II)I"⟩
abbrev cX4_cutPlace : ByteArray := prog_1_method_19_code
def yX4_cutPlace : MethodName := ⟨RX4, "cutPlace", "(J)I"⟩
abbrev cX4_mul : ByteArray := prog_1_method_20_code
def yX4_mul : MethodName := ⟨RX4, "mul", "(II)I"⟩
abbrev cX4_blend : ByteArray := prog_1_method_21_code
def yX4_blend : MethodName := ⟨RX4, "blend", "(III)I"⟩
abbrev cX4_addHair : ByteArray := prog_1_method_22_code
def yX4_addHair : MethodName := ⟨RX4, "addHair", "(IIII)V"⟩
abbrev cX4_paintRow : ByteArray := prog_1_method_23_code
def yX4_paintRow : MethodName := ⟨RX4, "paintRow", "(III)I"⟩
abbrev cX4_paintPoint : ByteArray := prog_1_method_24_code
def yX4_paintPoint : MethodName := ⟨RX4, "paintPoint", "(IIII)V"⟩
abbrev cX4_clipRow : ByteArray := prog_1_method_25_code
def yX4_clipRow : MethodName := ⟨RX4, "clipRow", "(I)I"⟩
def RX5 : String := "RasterCoverModel"
def TX5 : u_T := fun k => match k with
  | 0 => ("RasterCoverModel", "thrown", "I", false)
  | 1 => ("RasterCoverModel", "wide", "I", true)
  | 2 => ("RasterCoverModel", "high", "I", true)
  | 3 => ("RasterCoverModel", "planes", "I", true)
  | 4 => ("RasterCoverModel", "bytes", "[I", true)
  | 5 => ("RasterCoverModel", "clips", "[I", true)
  | 6 => ("RasterCoverModel", "isOver", "[Z", true)
  | 7 => ("RasterCoverModel", "points", "I", false)
  | 8 => ("RasterCoverModel", "px", "[J", true)
  | 9 => ("RasterCoverModel", "py", "[J", true)
  | 10 => ("RasterCoverModel", "begins", "[Z", true)
  | 11 => ("RasterCoverModel", "fills", "I", false)
  | 12 => ("RasterCoverModel", "from", "I", false)
  | 13 => ("RasterCoverModel", "to", "I", false)
  | 14 => ("RasterCoverModel", "crossings", "I", false)
  | 15 => ("RasterCoverModel", "place", "[J", true)
  | 16 => ("RasterCoverModel", "turn", "[I", true)
  | 17 => ("RasterCoverModel", "units", "[I", true)
  | 18 => ("RasterCoverModel", "isPacked", "Z", false)
  | 19 => ("RasterCoverModel", "size", "I", false)
  | _ => ("RasterCoverModel", "packed", "[I", true)
def tyX5 : Nat → FieldType := fun k => match k with
  | 0 => .int
  | 1 => .int
  | 2 => .int
  | 3 => .int
  | 4 => .array .int
  | 5 => .array .int
  | 6 => .array .boolean
  | 7 => .int
  | 8 => .array .long
  | 9 => .array .long
  | 10 => .array .boolean
  | 11 => .int
  | 12 => .int
  | 13 => .int
  | 14 => .int
  | 15 => .array .long
  | 16 => .array .int
  | 17 => .array .int
  | 18 => .boolean
  | 19 => .int
  | _ => .array .int
abbrev wsX50 : List Cond := u_ws RX5 TX5 21
theorem nmX5 : ∀ a, a < 21 → ∀ b, b < 21 → a ≠ b → (TX5 a).2.1 ≠ (TX5 b).2.1 := by decide +kernel
theorem tyX5_ok : ∀ k, k < 21 → parseFieldDescriptor (TX5 k).2.2.1 = some (tyX5 k) := by decide +kernel
abbrev cX5_init : ByteArray := prog_7_method_1_code
def yX5_init : MethodName := ⟨RX5, "<init>", "(III)V"⟩
abbrev cX5_thrown : ByteArray := prog_7_method_2_code
def yX5_thrown : MethodName := ⟨RX5, "thrown", "()I"⟩
abbrev cX5_cut : ByteArray := prog_7_method_3_code
def yX5_cut : MethodName := ⟨RX5, "cut", "(J)J"⟩
abbrev cX5_add : ByteArray := prog_7_method_4_code
def yX5_add : MethodName := ⟨RX5, "add", "(JJZ)V"⟩
abbrev cX5_move : ByteArray := prog_7_method_5_code
def yX5_move : MethodName := ⟨RX5, "move", "(JJ)I"⟩
abbrev cX5_line : ByteArray := prog_7_method_6_code
def yX5_line : MethodName := ⟨RX5, "line", "(JJ)I"⟩
abbrev cX5_size : ByteArray := prog_7_method_7_code
def yX5_size : MethodName := ⟨RX5, "size", "(J)J"⟩
abbrev cX5_hair : ByteArray := prog_7_method_8_code
def yX5_hair : MethodName := ⟨RX5, "hair", "(JJJJ)I"⟩
abbrev cX5_down : ByteArray := prog_7_method_9_code
def yX5_down : MethodName := ⟨RX5, "down", "(JJ)J"⟩
abbrev cX5_cross : ByteArray := prog_7_method_10_code
def yX5_cross : MethodName := ⟨RX5, "cross", "(IIJ)V"⟩
abbrev cX5_crossAll : ByteArray := prog_7_method_11_code
def yX5_crossAll : MethodName := ⟨RX5, "crossAll", "(J)V"⟩
abbrev cX5_isInside : ByteArray := prog_7_method_12_code
def yX5_isInside : MethodName := ⟨RX5, "isInside", "(IJ)Z"⟩
abbrev cX5_addUnits : ByteArray := prog_7_method_13_code
def yX5_addUnits : MethodName := ⟨RX5, "addUnits", "(JJ)V"⟩
abbrev cX5_coverRow : ByteArray := prog_7_method_14_code
def yX5_coverRow : MethodName := ⟨RX5, "coverRow", "(II)V"⟩
abbrev cX5_coverAt : ByteArray := prog_7_method_15_code
def yX5_coverAt : MethodName := ⟨RX5, "coverAt", "(I)I"⟩
abbrev cX5_mul : ByteArray := prog_7_method_16_code
def yX5_mul : MethodName := ⟨RX5, "mul", "(II)I"⟩
abbrev cX5_fill : ByteArray := prog_7_method_17_code
def yX5_fill : MethodName := ⟨RX5, "fill", "(III)I"⟩
abbrev cX5_clip : ByteArray := prog_7_method_18_code
def yX5_clip : MethodName := ⟨RX5, "clip", "(I)I"⟩
abbrev cX5_end : ByteArray := prog_7_method_19_code
def yX5_end : MethodName := ⟨RX5, "end", "()I"⟩
abbrev cX5_isPoint : ByteArray := prog_7_method_20_code
def yX5_isPoint : MethodName := ⟨RX5, "isPoint", "(II)Z"⟩
abbrev cX5_point : ByteArray := prog_7_method_21_code
def yX5_point : MethodName := ⟨RX5, "point", "(III)I"⟩
abbrev cX5_cover : ByteArray := prog_7_method_22_code
def yX5_cover : MethodName := ⟨RX5, "cover", "(II)I"⟩
abbrev cX5_band : ByteArray := prog_7_method_23_code
def yX5_band : MethodName := ⟨RX5, "band", "(II)I"⟩
abbrev cX5_same : ByteArray := prog_7_method_24_code
def yX5_same : MethodName := ⟨RX5, "same", "(I)Z"⟩
abbrev cX5_put : ByteArray := prog_7_method_25_code
def yX5_put : MethodName := ⟨RX5, "put", "(I)V"⟩
abbrev cX5_runAt : ByteArray := prog_7_method_26_code
def yX5_runAt : MethodName := ⟨RX5, "runAt", "(II)I"⟩
abbrev cX5_packAll : ByteArray := prog_7_method_27_code
def yX5_packAll : MethodName := ⟨RX5, "packAll", "()V"⟩
abbrev cX5_packed : ByteArray := prog_7_method_28_code
def yX5_packed : MethodName := ⟨RX5, "packed", "(I)B"⟩
abbrev cX5_over : ByteArray := prog_7_method_29_code
def yX5_over : MethodName := ⟨RX5, "over", "(IZ)I"⟩
def RJx145de : String := "java/io/Serializable"
def TJx145de : u_T := fun k => match k with
  | _ => ("", "", "", false)
def tyJx145de : Nat → FieldType := fun k => match k with
  | _ => .int
abbrev wsJx145de0 : List Cond := u_ws RJx145de TJx145de 0
theorem nmJx145de : ∀ a, a < 0 → ∀ b, b < 0 → a ≠ b → (TJx145de a).2.1 ≠ (TJx145de b).2.1 := by decide +kernel
theorem tyJx145de_ok : ∀ k, k < 0 → parseFieldDescriptor (TJx145de k).2.2.1 = some (tyJx145de k) := by decide +kernel
def RJx00060 : String := "java/lang/ArrayIndexOutOfBoundsException"
def TJx00060 : u_T := fun k => match k with
  | 0 => ("java/lang/Throwable", "backtrace", "Ljava/lang/Object;", false)
  | 1 => ("java/lang/Throwable", "detailMessage", "Ljava/lang/String;", false)
  | 2 => ("java/lang/Throwable", "cause", "Ljava/lang/Throwable;", false)
  | 3 => ("java/lang/Throwable", "stackTrace", "[Ljava/lang/StackTraceElement;", false)
  | 4 => ("java/lang/Throwable", "depth", "I", false)
  | _ => ("java/lang/Throwable", "suppressedExceptions", "Ljava/util/List;", false)
def tyJx00060 : Nat → FieldType := fun k => match k with
  | 0 => .object "java/lang/Object"
  | 1 => .object "java/lang/String"
  | 2 => .object "java/lang/Throwable"
  | 3 => .array (.object "java/lang/StackTraceElement")
  | 4 => .int
  | _ => .object "java/util/List"
abbrev wsJx000600 : List Cond := u_ws RJx00060 TJx00060 6
theorem nmJx00060 : ∀ a, a < 6 → ∀ b, b < 6 → a ≠ b → (TJx00060 a).2.1 ≠ (TJx00060 b).2.1 := by decide +kernel
theorem tyJx00060_ok : ∀ k, k < 6 → parseFieldDescriptor (TJx00060 k).2.2.1 = some (tyJx00060 k) := by decide +kernel
abbrev cJx00060_init_a7421 : ByteArray := prog_8_method_2_code
def yJx00060_init_a7421 : MethodName := ⟨RJx00060, "<init>", "(Ljava/lang/String;)V"⟩
def RJ9 : String := "java/lang/Math"
def TJ9 : u_T := fun k => match k with
  | _ => ("", "", "", false)
def tyJ9 : Nat → FieldType := fun k => match k with
  | _ => .int
abbrev wsJ90 : List Cond := u_ws RJ9 TJ9 0
theorem nmJ9 : ∀ a, a < 0 → ∀ b, b < 0 → a ≠ b → (TJ9 a).2.1 ≠ (TJ9 b).2.1 := by decide +kernel
theorem tyJ9_ok : ∀ k, k < 0 → parseFieldDescriptor (TJ9 k).2.2.1 = some (tyJ9 k) := by decide +kernel
abbrev cJ9_floorDiv_f86c9 : ByteArray := prog_13_method_49_code
def yJ9_floorDiv_f86c9 : MethodName := ⟨RJ9, "floorDiv", "(JJ)J"⟩
abbrev cJ9_abs_0f7a4 : ByteArray := prog_13_method_59_code
def yJ9_abs_0f7a4 : MethodName := ⟨RJ9, "abs", "(I)I"⟩
abbrev cJ9_max_7cf53 : ByteArray := prog_13_method_65_code
def yJ9_max_7cf53 : MethodName := ⟨RJ9, "max", "(II)I"⟩
abbrev cJ9_max_f86c9 : ByteArray := prog_13_method_66_code
def yJ9_max_f86c9 : MethodName := ⟨RJ9, "max", "(JJ)J"⟩
abbrev cJ9_min_7cf53 : ByteArray := prog_13_method_69_code
def yJ9_min_7cf53 : MethodName := ⟨RJ9, "min", "(II)I"⟩
abbrev cJ9_min_f86c9 : ByteArray := prog_13_method_70_code
def yJ9_min_f86c9 : MethodName := ⟨RJ9, "min", "(JJ)J"⟩
def RJ0 : String := "java/lang/String"
def TJ0 : u_T := fun k => match k with
  | 0 => ("java/lang/String", "value", "[B", true)
  | _ => ("java/lang/String", "coder", "B", true)
def tyJ0 : Nat → FieldType := fun k => match k with
  | 0 => .array .byte
  | _ => .byte
abbrev wsJ00 : List Cond := u_ws RJ0 TJ0 2
theorem nmJ0 : ∀ a, a < 2 → ∀ b, b < 2 → a ≠ b → (TJ0 a).2.1 ≠ (TJ0 b).2.1 := by decide +kernel
theorem tyJ0_ok : ∀ k, k < 2 → parseFieldDescriptor (TJ0 k).2.2.1 = some (tyJ0 k) := by decide +kernel
def RJ7 : String := "java/util/Arrays"
def TJ7 : u_T := fun k => match k with
  | _ => ("", "", "", false)
def tyJ7 : Nat → FieldType := fun k => match k with
  | _ => .int
abbrev wsJ70 : List Cond := u_ws RJ7 TJ7 0
theorem nmJ7 : ∀ a, a < 0 → ∀ b, b < 0 → a ≠ b → (TJ7 a).2.1 ≠ (TJ7 b).2.1 := by decide +kernel
theorem tyJ7_ok : ∀ k, k < 0 → parseFieldDescriptor (TJ7 k).2.2.1 = some (tyJ7 k) := by decide +kernel
abbrev cJ7_fill_53178 : ByteArray := prog_18_method_103_code
def yJ7_fill_53178 : MethodName := ⟨RJ7, "fill", "([II)V"⟩
def RL : String := "RasterCoverLaw"
abbrev cL_cell : ByteArray := method_2_code
def yL_cell : MethodName := ⟨RL, "cell", "([II)I"⟩
abbrev cL_move : ByteArray := method_3_code
def yL_move : MethodName := ⟨RL, "move", "(LRasterCover;JJ[J)I"⟩
abbrev cL_line : ByteArray := method_4_code
def yL_line : MethodName := ⟨RL, "line", "(LRasterCover;JJ[J)I"⟩
abbrev cL_hair : ByteArray := method_5_code
def yL_hair : MethodName := ⟨RL, "hair", "(LRasterCover;JJJJ[J)I"⟩
abbrev cL_fill : ByteArray := method_6_code
def yL_fill : MethodName := ⟨RL, "fill", "(LRasterCover;III[J)I"⟩
abbrev cL_clip : ByteArray := method_7_code
def yL_clip : MethodName := ⟨RL, "clip", "(LRasterCover;I[J)I"⟩
abbrev cL_point : ByteArray := method_8_code
def yL_point : MethodName := ⟨RL, "point", "(LRasterCover;III[J)I"⟩
abbrev cL_cover : ByteArray := method_9_code
def yL_cover : MethodName := ⟨RL, "cover", "(LRasterCover;II[J)I"⟩
abbrev cL_packed : ByteArray := method_10_code
def yL_packed : MethodName := ⟨RL, "packed", "(LRasterCover;I[J)I"⟩
abbrev cL_over : ByteArray := method_11_code
def yL_over : MethodName := ⟨RL, "over", "(LRasterCover;IZ[J)I"⟩
abbrev cL_law : ByteArray := code
def yL_law : MethodName := ⟨RL, "law", "([I)Z"⟩
def wsX0_init : List Cond := .code yX0_init cX0_init 1 none :: ([.methodLink RX0 1 objectInit, .instanceMethod objectInit, .code objectInit ⟨#[0xb1]⟩ 1 none, .arrayClass .int, .fieldLink RX0 9 "RasterCover$Crossings" "xs" "[I", .fieldLink RX0 15 "RasterCover$Crossings" "turns" "[I", .fieldLink RX0 18 "RasterCover$Crossings" "count" "I"] ++ wsX00)
def wsJ9_floorDiv_f86c9 : List Cond := .code yJ9_floorDiv_f86c9 cJ9_floorDiv_f86c9 6 (some .long) :: ([])
def wsX0_insert : List Cond := .code yX0_insert cX0_insert 4 none :: ([.fieldLink RX0 18 "RasterCover$Crossings" "count" "I", .fieldLink RX0 9 "RasterCover$Crossings" "xs" "[I", .fieldLink RX0 15 "RasterCover$Crossings" "turns" "[I"] ++ wsX00 ++ (vx_atM "java/lang/ArrayIndexOutOfBoundsException" ["java/lang/IndexOutOfBoundsException", "java/lang/RuntimeException", "java/lang/Exception"]).filter goodWord)
def wsX0_cross : List Cond := .code yX0_cross cX0_cross 10 none :: ([.methodLink RX0 35 yJ9_floorDiv_f86c9, .static yJ9_floorDiv_f86c9, .initialized RJ9, .code yJ9_floorDiv_f86c9 cJ9_floorDiv_f86c9 6 (some .long), .methodLink RX0 41 yX0_insert, .instanceMethod yX0_insert, .selects RX0 yX0_insert yX0_insert, .initialized RX0, .code yX0_insert cX0_insert 4 none, .fieldLink RX0 18 "RasterCover$Crossings" "count" "I", .fieldLink RX0 9 "RasterCover$Crossings" "xs" "[I", .fieldLink RX0 15 "RasterCover$Crossings" "turns" "[I"] ++ wsX20 ++ wsX00 ++ (vx_atM "java/lang/ArrayIndexOutOfBoundsException" ["java/lang/IndexOutOfBoundsException", "java/lang/RuntimeException", "java/lang/Exception"]).filter goodWord)
def wsX0_collect : List Cond := .code yX0_collect cX0_collect 7 none :: ([.fieldLink RX0 18 "RasterCover$Crossings" "count" "I", .methodLink RX0 30 yX0_cross, .instanceMethod yX0_cross, .selects RX0 yX0_cross yX0_cross, .initialized RX0, .code yX0_cross cX0_cross 10 none, .methodLink RX0 35 yJ9_floorDiv_f86c9, .static yJ9_floorDiv_f86c9, .initialized RJ9, .code yJ9_floorDiv_f86c9 cJ9_floorDiv_f86c9 6 (some .long), .methodLink RX0 41 yX0_insert, .instanceMethod yX0_insert, .selects RX0 yX0_insert yX0_insert, .code yX0_insert cX0_insert 4 none, .fieldLink RX0 9 "RasterCover$Crossings" "xs" "[I", .fieldLink RX0 15 "RasterCover$Crossings" "turns" "[I"] ++ wsX00 ++ wsX20 ++ (vx_atM "java/lang/ArrayIndexOutOfBoundsException" ["java/lang/IndexOutOfBoundsException", "java/lang/RuntimeException", "java/lang/Exception"]).filter goodWord)
def wsX1_init : List Cond := .code yX1_init cX1_init 2 none :: ([.methodLink RX1 1 objectInit, .instanceMethod objectInit, .code objectInit ⟨#[0xb1]⟩ 1 none, .fieldLink RX1 7 "RasterCover$PackedRow" "size" "I", .arrayClass .byte, .fieldLink RX1 13 "RasterCover$PackedRow" "signs" "[B"] ++ wsX10)
def wsX1_put : List Cond := .code yX1_put cX1_put 2 none :: ([.fieldLink RX1 7 "RasterCover$PackedRow" "size" "I", .fieldLink RX1 13 "RasterCover$PackedRow" "signs" "[B"] ++ wsX10 ++ (vx_atM "java/lang/ArrayIndexOutOfBoundsException" ["java/lang/IndexOutOfBoundsException", "java/lang/RuntimeException", "java/lang/Exception"]).filter goodWord)
def wsX1_pack : List Cond := .code yX1_pack cX1_pack 7 none :: ([.fieldLink RX1 7 "RasterCover$PackedRow" "size" "I", .fieldLink RX1 13 "RasterCover$PackedRow" "signs" "[B", .methodLink RX1 17 yX1_put, .instanceMethod yX1_put, .selects RX1 yX1_put yX1_put, .initialized RX1, .code yX1_put cX1_put 2 none] ++ wsX10 ++ (vx_atM "java/lang/ArrayIndexOutOfBoundsException" ["java/lang/IndexOutOfBoundsException", "java/lang/RuntimeException", "java/lang/Exception"]).filter goodWord)
def wsX2_init : List Cond := .code yX2_init cX2_init 1 none :: ([.methodLink RX2 1 objectInit, .instanceMethod objectInit, .code objectInit ⟨#[0xb1]⟩ 1 none, .arrayClass .int, .fieldLink RX2 9 "RasterCover$Path" "xs" "[I", .fieldLink RX2 13 "RasterCover$Path" "ys" "[I", .arrayClass .boolean, .fieldLink RX2 16 "RasterCover$Path" "begins" "[Z", .fieldLink RX2 20 "RasterCover$Path" "count" "I"] ++ wsX20)
def wsX2_add : List Cond := .code yX2_add cX2_add 4 none :: ([.fieldLink RX2 20 "RasterCover$Path" "count" "I", .fieldLink RX2 9 "RasterCover$Path" "xs" "[I", .fieldLink RX2 13 "RasterCover$Path" "ys" "[I", .fieldLink RX2 16 "RasterCover$Path" "begins" "[Z"] ++ wsX20 ++ (vx_atM "java/lang/ArrayIndexOutOfBoundsException" ["java/lang/IndexOutOfBoundsException", "java/lang/RuntimeException", "java/lang/Exception"]).filter goodWord)
def wsX2_begin : List Cond := .code yX2_begin cX2_begin 3 none :: ([.methodLink RX2 24 yX2_add, .instanceMethod yX2_add, .selects RX2 yX2_add yX2_add, .initialized RX2, .code yX2_add cX2_add 4 none, .fieldLink RX2 20 "RasterCover$Path" "count" "I", .fieldLink RX2 9 "RasterCover$Path" "xs" "[I", .fieldLink RX2 13 "RasterCover$Path" "ys" "[I", .fieldLink RX2 16 "RasterCover$Path" "begins" "[Z"] ++ wsX20 ++ (vx_atM "java/lang/ArrayIndexOutOfBoundsException" ["java/lang/IndexOutOfBoundsException", "java/lang/RuntimeException", "java/lang/Exception"]).filter goodWord)
def wsX2_join : List Cond := .code yX2_join cX2_join 3 none :: ([.methodLink RX2 24 yX2_add, .instanceMethod yX2_add, .selects RX2 yX2_add yX2_add, .initialized RX2, .code yX2_add cX2_add 4 none, .fieldLink RX2 20 "RasterCover$Path" "count" "I", .fieldLink RX2 9 "RasterCover$Path" "xs" "[I", .fieldLink RX2 13 "RasterCover$Path" "ys" "[I", .fieldLink RX2 16 "RasterCover$Path" "begins" "[Z"] ++ wsX20 ++ (vx_atM "java/lang/ArrayIndexOutOfBoundsException" ["java/lang/IndexOutOfBoundsException", "java/lang/RuntimeException", "java/lang/Exception"]).filter goodWord)
def wsX2_clear : List Cond := .code yX2_clear cX2_clear 1 none :: ([.fieldLink RX2 20 "RasterCover$Path" "count" "I"] ++ wsX20)
def wsX3_init : List Cond := .code yX3_init cX3_init 2 none :: ([.methodLink RX3 3 objectInit, .instanceMethod objectInit, .code objectInit ⟨#[0xb1]⟩ 1 none, .classLink RX3 9 RX0, .instantiable RX0 3, .initialized RX0, .fieldLink RX3 12 "RasterCover$RowCover" "crossings" "LRasterCover$Crossings;", .arrayClass .int, .fieldLink RX3 18 "RasterCover$RowCover" "units" "[I", .instanceMethod yX0_init, .code yX0_init cX0_init 1 none, .methodLink RX0 1 objectInit, .fieldLink RX0 9 "RasterCover$Crossings" "xs" "[I", .fieldLink RX0 15 "RasterCover$Crossings" "turns" "[I", .fieldLink RX0 18 "RasterCover$Crossings" "count" "I"] ++ wsX00 ++ wsX30)
def wsX3_at : List Cond := .code yX3_at cX3_at 2 (some .int) :: ([.fieldLink RX3 18 "RasterCover$RowCover" "units" "[I"] ++ wsX30 ++ (vx_atM "java/lang/ArrayIndexOutOfBoundsException" ["java/lang/IndexOutOfBoundsException", "java/lang/RuntimeException", "java/lang/Exception"]).filter goodWord)
def wsJ7_fill_53178 : List Cond := .code yJ7_fill_53178 cJ7_fill_53178 4 none :: ([])
def wsX3_addSpan : List Cond := .code yX3_addSpan cX3_addSpan 7 none :: ([.methodLink RX3 50 Lib.Math.max.name, .static Lib.Math.max.name, .initialized "java/lang/Math", .code Lib.Math.max.name Lib.Math.max.code 2 (some .int), .fieldLink RX3 18 "RasterCover$RowCover" "units" "[I", .methodLink RX3 56 Lib.Math.min.name, .static Lib.Math.min.name, .code Lib.Math.min.name Lib.Math.min.code 2 (some .int)] ++ wsX30 ++ (vx_atM "java/lang/ArrayIndexOutOfBoundsException" ["java/lang/IndexOutOfBoundsException", "java/lang/RuntimeException", "java/lang/Exception"]).filter goodWord)
def wsX3_addSubRow : List Cond := .code yX3_addSubRow cX3_addSubRow 5 none :: ([.fieldLink RX3 12 "RasterCover$RowCover" "crossings" "LRasterCover$Crossings;", .methodLink RX3 46 yX3_addSpan, .instanceMethod yX3_addSpan, .selects RX3 yX3_addSpan yX3_addSpan, .initialized RX3, .code yX3_addSpan cX3_addSpan 7 none, .methodLink RX3 50 Lib.Math.max.name, .static Lib.Math.max.name, .initialized "java/lang/Math", .code Lib.Math.max.name Lib.Math.max.code 2 (some .int), .fieldLink RX3 18 "RasterCover$RowCover" "units" "[I", .methodLink RX3 56 Lib.Math.min.name, .static Lib.Math.min.name, .code Lib.Math.min.name Lib.Math.min.code 2 (some .int)] ++ wsX30 ++ wsX00 ++ (vx_atM "java/lang/ArrayIndexOutOfBoundsException" ["java/lang/IndexOutOfBoundsException", "java/lang/RuntimeException", "java/lang/Exception"]).filter goodWord)
def wsX3_measure_r1 : List Cond := [Cond.fieldLink RX3 18 "RasterCover$RowCover" "units" "[I", Cond.fieldLink RX3 12 "RasterCover$RowCover" "crossings" "LRasterCover$Crossings;", Cond.methodLink RX3 22 yJ7_fill_53178, Cond.static yJ7_fill_53178, Cond.initialized RJ7, Cond.code yJ7_fill_53178 cJ7_fill_53178 4 none, Cond.instanceMethod yX0_collect, Cond.initialized RX0, Cond.selects RX0 yX0_collect yX0_collect, Cond.code yX0_collect cX0_collect 7 none, Cond.fieldLink RX0 18 "RasterCover$Crossings" "count" "I", Cond.methodLink RX0 30 yX0_cross, Cond.instanceMethod yX0_cross, Cond.selects RX0 yX0_cross yX0_cross, Cond.code yX0_cross cX0_cross 10 none, Cond.methodLink RX0 35 yJ9_floorDiv_f86c9, Cond.static yJ9_floorDiv_f86c9, Cond.initialized RJ9, Cond.code yJ9_floorDiv_f86c9 cJ9_floorDiv_f86c9 6 (some .long), Cond.methodLink RX0 41 yX0_insert, Cond.instanceMethod yX0_insert, Cond.selects RX0 yX0_insert yX0_insert, Cond.code yX0_insert cX0_insert 4 none, Cond.fieldLink RX0 9 "RasterCover$Crossings" "xs" "[I"]
def wsX3_measure_r2 : List Cond := [Cond.fieldLink RX0 15 "RasterCover$Crossings" "turns" "[I", Cond.methodLink RX3 32 yX3_addSubRow, Cond.instanceMethod yX3_addSubRow, Cond.selects RX3 yX3_addSubRow yX3_addSubRow, Cond.initialized RX3, Cond.code yX3_addSubRow cX3_addSubRow 5 none, Cond.methodLink RX3 46 yX3_addSpan, Cond.instanceMethod yX3_addSpan, Cond.selects RX3 yX3_addSpan yX3_addSpan, Cond.code yX3_addSpan cX3_addSpan 7 none, Cond.methodLink RX3 50 Lib.Math.max.name, Cond.static Lib.Math.max.name, Cond.initialized "java/lang/Math", Cond.code Lib.Math.max.name Lib.Math.max.code 2 (some .int), Cond.methodLink RX3 56 Lib.Math.min.name, Cond.static Lib.Math.min.name, Cond.code Lib.Math.min.name Lib.Math.min.code 2 (some .int)]
def wsX3_measure : List Cond := .code yX3_measure cX3_measure 5 none :: ((wsX3_measure_r1 ++ wsX3_measure_r2) ++ wsX30 ++ wsX00 ++ wsX20 ++ (vx_atM "java/lang/ArrayIndexOutOfBoundsException" ["java/lang/IndexOutOfBoundsException", "java/lang/RuntimeException", "java/lang/Exception"]).filter goodWord)
def wsX4_cut : List Cond := .code yX4_cut cX4_cut 2 (some .int) :: ([.methodLink RX4 162 Lib.Math.min.name, .static Lib.Math.min.name, .initialized "java/lang/Math", .code Lib.Math.min.name Lib.Math.min.code 2 (some .int), .methodLink RX4 127 Lib.Math.max.name, .static Lib.Math.max.name, .code Lib.Math.max.name Lib.Math.max.code 2 (some .int)])
def wsX4_init_r1 : List Cond := [Cond.methodLink RX4 1 objectInit, Cond.instanceMethod objectInit, Cond.code objectInit ⟨#[0xb1]⟩ 1 none, Cond.fieldLink RX4 13 "RasterCover" "width" "I", Cond.fieldLink RX4 17 "RasterCover" "height" "I", Cond.fieldLink RX4 20 "RasterCover" "planes" "I", Cond.arrayClass .int, Cond.fieldLink RX4 23 "RasterCover" "bytes" "[I", Cond.fieldLink RX4 27 "RasterCover" "clips" "[I", Cond.arrayClass .boolean, Cond.fieldLink RX4 30 "RasterCover" "overs" "[Z", Cond.classLink RX4 34 RX2, Cond.instantiable RX2 4, Cond.initialized RX2, Cond.fieldLink RX4 37 "RasterCover" "path" "LRasterCover$Path;", Cond.classLink RX4 41 RX3, Cond.instantiable RX3 2, Cond.initialized RX3, Cond.fieldLink RX4 46 "RasterCover" "rowCover" "LRasterCover$RowCover;", Cond.classLink RX4 50 RX1, Cond.instantiable RX1 2, Cond.initialized RX1, Cond.fieldLink RX4 53 "RasterCover" "packedRow" "LRasterCover$PackedRow;", Cond.fieldLink RX4 57 "RasterCover" "bandFrom" "I"]
def wsX4_init_r2 : List Cond := [Cond.fieldLink RX4 60 "RasterCover" "bandTo" "I", Cond.fieldLink RX4 63 "RasterCover" "fills" "I", Cond.methodLink RX4 9 yX4_cut, Cond.static yX4_cut, Cond.initialized RX4, Cond.code yX4_cut cX4_cut 2 (some .int), Cond.methodLink RX4 162 Lib.Math.min.name, Cond.static Lib.Math.min.name, Cond.initialized "java/lang/Math", Cond.code Lib.Math.min.name Lib.Math.min.code 2 (some .int), Cond.methodLink RX4 127 Lib.Math.max.name, Cond.static Lib.Math.max.name, Cond.code Lib.Math.max.name Lib.Math.max.code 2 (some .int), Cond.instanceMethod yX2_init, Cond.code yX2_init cX2_init 1 none, Cond.methodLink RX2 1 objectInit, Cond.fieldLink RX2 9 "RasterCover$Path" "xs" "[I", Cond.fieldLink RX2 13 "RasterCover$Path" "ys" "[I", Cond.fieldLink RX2 16 "RasterCover$Path" "begins" "[Z", Cond.fieldLink RX2 20 "RasterCover$Path" "count" "I", Cond.instanceMethod yX3_init, Cond.code yX3_init cX3_init 2 none, Cond.methodLink RX3 3 objectInit, Cond.classLink RX3 9 RX0]
def wsX4_init_r3 : List Cond := [Cond.instantiable RX0 3, Cond.initialized RX0, Cond.fieldLink RX3 12 "RasterCover$RowCover" "crossings" "LRasterCover$Crossings;", Cond.fieldLink RX3 18 "RasterCover$RowCover" "units" "[I", Cond.instanceMethod yX0_init, Cond.code yX0_init cX0_init 1 none, Cond.methodLink RX0 1 objectInit, Cond.fieldLink RX0 9 "RasterCover$Crossings" "xs" "[I", Cond.fieldLink RX0 15 "RasterCover$Crossings" "turns" "[I", Cond.fieldLink RX0 18 "RasterCover$Crossings" "count" "I", Cond.instanceMethod yX1_init, Cond.code yX1_init cX1_init 2 none, Cond.methodLink RX1 1 objectInit, Cond.fieldLink RX1 7 "RasterCover$PackedRow" "size" "I", Cond.arrayClass .byte, Cond.fieldLink RX1 13 "RasterCover$PackedRow" "signs" "[B", Cond.methodLink RX4 66 yJ7_fill_53178, Cond.static yJ7_fill_53178, Cond.initialized RJ7, Cond.code yJ7_fill_53178 cJ7_fill_53178 4 none]
def wsX4_init : List Cond := .code yX4_init cX4_init 4 none :: ((wsX4_init_r1 ++ (wsX4_init_r2 ++ wsX4_init_r3)) ++ wsX40 ++ wsX20 ++ wsX30 ++ wsX10 ++ wsX00)
def wsX4_needRoom : List Cond := .code yX4_needRoom cX4_needRoom 2 none :: ([.classLink RX4 148 "java/lang/UnsupportedOperationException", .initialized "java/lang/UnsupportedOperationException", .fieldLink RX4 37 "RasterCover" "path" "LRasterCover$Path;"] ++ wsX40 ++ wsX20 ++ (vx_atS RX4 152 "java/lang/UnsupportedOperationException" ["java/lang/RuntimeException", "java/lang/Exception"]).filter goodWord)
def wsX4_cutPlace : List Cond := .code yX4_cutPlace cX4_cutPlace 2 (some .int) :: ([.constantLong RX4 165 (-1048576), .constantLong RX4 167 (1048576), .methodLink RX4 169 Lib.MathLoose.min_long.x, .static Lib.MathLoose.min_long.x, .initialized "java/lang/Math", .code Lib.MathLoose.min_long.x Lib.MathLoose.min_long.code 4 (some .long), .methodLink RX4 172 Lib.MathLoose.max_long.x, .static Lib.MathLoose.max_long.x, .code Lib.MathLoose.max_long.x Lib.MathLoose.max_long.code 4 (some .long)])
def wsX4_move_r1 : List Cond := [Cond.fieldLink RX4 37 "RasterCover" "path" "LRasterCover$Path;", Cond.methodLink RX4 72 yX4_needRoom, Cond.instanceMethod yX4_needRoom, Cond.selects RX4 yX4_needRoom yX4_needRoom, Cond.initialized RX4, Cond.code yX4_needRoom cX4_needRoom 2 none, Cond.classLink RX4 148 "java/lang/UnsupportedOperationException", Cond.initialized "java/lang/UnsupportedOperationException", Cond.methodLink RX4 75 yX4_cutPlace, Cond.static yX4_cutPlace, Cond.code yX4_cutPlace cX4_cutPlace 2 (some .int), Cond.constantLong RX4 165 (-1048576), Cond.constantLong RX4 167 (1048576), Cond.methodLink RX4 169 Lib.MathLoose.min_long.x, Cond.static Lib.MathLoose.min_long.x, Cond.initialized "java/lang/Math", Cond.code Lib.MathLoose.min_long.x Lib.MathLoose.min_long.code 4 (some .long), Cond.methodLink RX4 172 Lib.MathLoose.max_long.x, Cond.static Lib.MathLoose.max_long.x, Cond.code Lib.MathLoose.max_long.x Lib.MathLoose.max_long.code 4 (some .long), Cond.instanceMethod yX2_begin, Cond.initialized RX2, Cond.selects RX2 yX2_begin yX2_begin, Cond.code yX2_begin cX2_begin 3 none]
def wsX4_move_r2 : List Cond := [Cond.methodLink RX2 24 yX2_add, Cond.instanceMethod yX2_add, Cond.selects RX2 yX2_add yX2_add, Cond.code yX2_add cX2_add 4 none, Cond.fieldLink RX2 20 "RasterCover$Path" "count" "I", Cond.fieldLink RX2 9 "RasterCover$Path" "xs" "[I", Cond.fieldLink RX2 13 "RasterCover$Path" "ys" "[I", Cond.fieldLink RX2 16 "RasterCover$Path" "begins" "[Z"]
def wsX4_move : List Cond := .code yX4_move cX4_move 5 (some .int) :: ((wsX4_move_r1 ++ wsX4_move_r2) ++ wsX40 ++ wsX20 ++ (vx_atS RX4 152 "java/lang/UnsupportedOperationException" ["java/lang/RuntimeException", "java/lang/Exception"]).filter goodWord ++ (vx_atM "java/lang/ArrayIndexOutOfBoundsException" ["java/lang/IndexOutOfBoundsException", "java/lang/RuntimeException", "java/lang/Exception"]).filter goodWord)
def wsX4_line_r1 : List Cond := [Cond.classLink RX4 86 "java/lang/IllegalStateException", Cond.initialized "java/lang/IllegalStateException", Cond.fieldLink RX4 37 "RasterCover" "path" "LRasterCover$Path;", Cond.methodLink RX4 72 yX4_needRoom, Cond.instanceMethod yX4_needRoom, Cond.selects RX4 yX4_needRoom yX4_needRoom, Cond.initialized RX4, Cond.code yX4_needRoom cX4_needRoom 2 none, Cond.classLink RX4 148 "java/lang/UnsupportedOperationException", Cond.initialized "java/lang/UnsupportedOperationException", Cond.methodLink RX4 75 yX4_cutPlace, Cond.static yX4_cutPlace, Cond.code yX4_cutPlace cX4_cutPlace 2 (some .int), Cond.constantLong RX4 165 (-1048576), Cond.constantLong RX4 167 (1048576), Cond.methodLink RX4 169 Lib.MathLoose.min_long.x, Cond.static Lib.MathLoose.min_long.x, Cond.initialized "java/lang/Math", Cond.code Lib.MathLoose.min_long.x Lib.MathLoose.min_long.code 4 (some .long), Cond.methodLink RX4 172 Lib.MathLoose.max_long.x, Cond.static Lib.MathLoose.max_long.x, Cond.code Lib.MathLoose.max_long.x Lib.MathLoose.max_long.code 4 (some .long), Cond.instanceMethod yX2_join, Cond.initialized RX2]
def wsX4_line_r2 : List Cond := [Cond.selects RX2 yX2_join yX2_join, Cond.code yX2_join cX2_join 3 none, Cond.methodLink RX2 24 yX2_add, Cond.instanceMethod yX2_add, Cond.selects RX2 yX2_add yX2_add, Cond.code yX2_add cX2_add 4 none, Cond.fieldLink RX2 20 "RasterCover$Path" "count" "I", Cond.fieldLink RX2 9 "RasterCover$Path" "xs" "[I", Cond.fieldLink RX2 13 "RasterCover$Path" "ys" "[I", Cond.fieldLink RX2 16 "RasterCover$Path" "begins" "[Z"]
def wsX4_line : List Cond := .code yX4_line cX4_line 5 (some .int) :: ((wsX4_line_r1 ++ wsX4_line_r2) ++ wsX40 ++ wsX20 ++ (vx_atS RX4 90 "java/lang/IllegalStateException" ["java/lang/RuntimeException", "java/lang/Exception"]).filter goodWord ++ (vx_atS RX4 152 "java/lang/UnsupportedOperationException" ["java/lang/RuntimeException", "java/lang/Exception"]).filter goodWord ++ (vx_atM "java/lang/ArrayIndexOutOfBoundsException" ["java/lang/IndexOutOfBoundsException", "java/lang/RuntimeException", "java/lang/Exception"]).filter goodWord)
def wsX4_addHair : List Cond := .code yX4_addHair cX4_addHair 8 none :: ([.fieldLink RX4 37 "RasterCover" "path" "LRasterCover$Path;", .methodLink RX4 174 Lib.Math.abs.name, .static Lib.Math.abs.name, .initialized "java/lang/Math", .code Lib.Math.abs.name Lib.Math.abs.code 1 (some .int), .instanceMethod yX2_begin, .initialized RX2, .selects RX2 yX2_begin yX2_begin, .code yX2_begin cX2_begin 3 none, .methodLink RX2 24 yX2_add, .instanceMethod yX2_add, .selects RX2 yX2_add yX2_add, .code yX2_add cX2_add 4 none, .fieldLink RX2 20 "RasterCover$Path" "count" "I", .fieldLink RX2 9 "RasterCover$Path" "xs" "[I", .fieldLink RX2 13 "RasterCover$Path" "ys" "[I", .fieldLink RX2 16 "RasterCover$Path" "begins" "[Z", .instanceMethod yX2_join, .selects RX2 yX2_join yX2_join, .code yX2_join cX2_join 3 none] ++ wsX40 ++ wsX20 ++ (vx_atM "java/lang/ArrayIndexOutOfBoundsException" ["java/lang/IndexOutOfBoundsException", "java/lang/RuntimeException", "java/lang/Exception"]).filter goodWord)
def wsX4_hair_r1 : List Cond := [Cond.fieldLink RX4 37 "RasterCover" "path" "LRasterCover$Path;", Cond.methodLink RX4 72 yX4_needRoom, Cond.instanceMethod yX4_needRoom, Cond.selects RX4 yX4_needRoom yX4_needRoom, Cond.initialized RX4, Cond.code yX4_needRoom cX4_needRoom 2 none, Cond.classLink RX4 148 "java/lang/UnsupportedOperationException", Cond.initialized "java/lang/UnsupportedOperationException", Cond.methodLink RX4 75 yX4_cutPlace, Cond.static yX4_cutPlace, Cond.code yX4_cutPlace cX4_cutPlace 2 (some .int), Cond.constantLong RX4 165 (-1048576), Cond.constantLong RX4 167 (1048576), Cond.methodLink RX4 169 Lib.MathLoose.min_long.x, Cond.static Lib.MathLoose.min_long.x, Cond.initialized "java/lang/Math", Cond.code Lib.MathLoose.min_long.x Lib.MathLoose.min_long.code 4 (some .long), Cond.methodLink RX4 172 Lib.MathLoose.max_long.x, Cond.static Lib.MathLoose.max_long.x, Cond.code Lib.MathLoose.max_long.x Lib.MathLoose.max_long.code 4 (some .long), Cond.methodLink RX4 96 yX4_addHair, Cond.instanceMethod yX4_addHair, Cond.selects RX4 yX4_addHair yX4_addHair, Cond.code yX4_addHair cX4_addHair 8 none]
def wsX4_hair_r2 : List Cond := [Cond.methodLink RX4 174 Lib.Math.abs.name, Cond.static Lib.Math.abs.name, Cond.code Lib.Math.abs.name Lib.Math.abs.code 1 (some .int), Cond.instanceMethod yX2_begin, Cond.initialized RX2, Cond.selects RX2 yX2_begin yX2_begin, Cond.code yX2_begin cX2_begin 3 none, Cond.methodLink RX2 24 yX2_add, Cond.instanceMethod yX2_add, Cond.selects RX2 yX2_add yX2_add, Cond.code yX2_add cX2_add 4 none, Cond.fieldLink RX2 20 "RasterCover$Path" "count" "I", Cond.fieldLink RX2 9 "RasterCover$Path" "xs" "[I", Cond.fieldLink RX2 13 "RasterCover$Path" "ys" "[I", Cond.fieldLink RX2 16 "RasterCover$Path" "begins" "[Z", Cond.instanceMethod yX2_join, Cond.selects RX2 yX2_join yX2_join, Cond.code yX2_join cX2_join 3 none]
def wsX4_hair : List Cond := .code yX4_hair cX4_hair 9 (some .int) :: ((wsX4_hair_r1 ++ wsX4_hair_r2) ++ wsX40 ++ wsX20 ++ (vx_atS RX4 152 "java/lang/UnsupportedOperationException" ["java/lang/RuntimeException", "java/lang/Exception"]).filter goodWord ++ (vx_atM "java/lang/ArrayIndexOutOfBoundsException" ["java/lang/IndexOutOfBoundsException", "java/lang/RuntimeException", "java/lang/Exception"]).filter goodWord)
def wsX4_needRule : List Cond := .code yX4_needRule cX4_needRule 1 none :: ([.classLink RX4 153 "java/lang/IllegalArgumentException", .initialized "java/lang/IllegalArgumentException"] ++ (vx_atS RX4 157 "java/lang/IllegalArgumentException" ["java/lang/RuntimeException", "java/lang/Exception"]).filter goodWord)
def wsX4_needPlane : List Cond := .code yX4_needPlane cX4_needPlane 2 none :: ([.fieldLink RX4 20 "RasterCover" "planes" "I", .classLink RX4 143 RJx00060, .instantiable RJx00060 6, .initialized RJx00060] ++ wsX40 ++ wsJx000600)
def wsX4_mul : List Cond := .code yX4_mul cX4_mul 2 (some .int) :: ([])
def wsX4_blend : List Cond := .code yX4_blend cX4_blend 3 (some .int) :: ([])
def wsX4_paintPoint : List Cond := .code yX4_paintPoint cX4_paintPoint 7 none :: ([.fieldLink RX4 20 "RasterCover" "planes" "I", .fieldLink RX4 17 "RasterCover" "height" "I", .fieldLink RX4 13 "RasterCover" "width" "I", .fieldLink RX4 23 "RasterCover" "bytes" "[I", .fieldLink RX4 30 "RasterCover" "overs" "[Z", .methodLink RX4 183 yX4_blend, .static yX4_blend, .initialized RX4, .code yX4_blend cX4_blend 3 (some .int)] ++ wsX40 ++ (vx_atM "java/lang/ArrayIndexOutOfBoundsException" ["java/lang/IndexOutOfBoundsException", "java/lang/RuntimeException", "java/lang/Exception"]).filter goodWord)
def wsX4_paintRow : List Cond := .code yX4_paintRow cX4_paintRow 8 (some .int) :: ([.fieldLink RX4 13 "RasterCover" "width" "I", .fieldLink RX4 46 "RasterCover" "rowCover" "LRasterCover$RowCover;", .fieldLink RX4 27 "RasterCover" "clips" "[I", .instanceMethod yX3_at, .initialized RX3, .selects RX3 yX3_at yX3_at, .code yX3_at cX3_at 2 (some .int), .fieldLink RX3 18 "RasterCover$RowCover" "units" "[I", .methodLink RX4 177 yX4_mul, .static yX4_mul, .initialized RX4, .code yX4_mul cX4_mul 2 (some .int), .methodLink RX4 180 yX4_paintPoint, .instanceMethod yX4_paintPoint, .selects RX4 yX4_paintPoint yX4_paintPoint, .code yX4_paintPoint cX4_paintPoint 7 none, .fieldLink RX4 20 "RasterCover" "planes" "I", .fieldLink RX4 17 "RasterCover" "height" "I", .fieldLink RX4 23 "RasterCover" "bytes" "[I", .fieldLink RX4 30 "RasterCover" "overs" "[Z", .methodLink RX4 183 yX4_blend, .static yX4_blend, .code yX4_blend cX4_blend 3 (some .int)] ++ wsX40 ++ wsX30 ++ (vx_atM "java/lang/ArrayIndexOutOfBoundsException" ["java/lang/IndexOutOfBoundsException", "java/lang/RuntimeException", "java/lang/Exception"]).filter goodWord)
def wsX4_fill_r1 : List Cond := [Cond.fieldLink RX4 57 "RasterCover" "bandFrom" "I", Cond.fieldLink RX4 60 "RasterCover" "bandTo" "I", Cond.fieldLink RX4 46 "RasterCover" "rowCover" "LRasterCover$RowCover;", Cond.fieldLink RX4 37 "RasterCover" "path" "LRasterCover$Path;", Cond.fieldLink RX4 63 "RasterCover" "fills" "I", Cond.methodLink RX4 100 yX4_needRule, Cond.static yX4_needRule, Cond.initialized RX4, Cond.code yX4_needRule cX4_needRule 1 none, Cond.classLink RX4 153 "java/lang/IllegalArgumentException", Cond.initialized "java/lang/IllegalArgumentException", Cond.methodLink RX4 103 yX4_needPlane, Cond.instanceMethod yX4_needPlane, Cond.selects RX4 yX4_needPlane yX4_needPlane, Cond.code yX4_needPlane cX4_needPlane 2 none, Cond.fieldLink RX4 20 "RasterCover" "planes" "I", Cond.classLink RX4 143 RJx00060, Cond.instantiable RJx00060 6, Cond.initialized RJx00060, Cond.instanceMethod yX3_measure, Cond.initialized RX3, Cond.selects RX3 yX3_measure yX3_measure, Cond.code yX3_measure cX3_measure 5 none, Cond.fieldLink RX3 18 "RasterCover$RowCover" "units" "[I"]
def wsX4_fill_r2 : List Cond := [Cond.fieldLink RX3 12 "RasterCover$RowCover" "crossings" "LRasterCover$Crossings;", Cond.methodLink RX3 22 yJ7_fill_53178, Cond.static yJ7_fill_53178, Cond.initialized RJ7, Cond.code yJ7_fill_53178 cJ7_fill_53178 4 none, Cond.instanceMethod yX0_collect, Cond.initialized RX0, Cond.selects RX0 yX0_collect yX0_collect, Cond.code yX0_collect cX0_collect 7 none, Cond.fieldLink RX0 18 "RasterCover$Crossings" "count" "I", Cond.methodLink RX0 30 yX0_cross, Cond.instanceMethod yX0_cross, Cond.selects RX0 yX0_cross yX0_cross, Cond.code yX0_cross cX0_cross 10 none, Cond.methodLink RX0 35 yJ9_floorDiv_f86c9, Cond.static yJ9_floorDiv_f86c9, Cond.initialized RJ9, Cond.code yJ9_floorDiv_f86c9 cJ9_floorDiv_f86c9 6 (some .long), Cond.methodLink RX0 41 yX0_insert, Cond.instanceMethod yX0_insert, Cond.selects RX0 yX0_insert yX0_insert, Cond.code yX0_insert cX0_insert 4 none, Cond.fieldLink RX0 9 "RasterCover$Crossings" "xs" "[I", Cond.fieldLink RX0 15 "RasterCover$Crossings" "turns" "[I"]
def wsX4_fill_r3 : List Cond := [Cond.methodLink RX3 32 yX3_addSubRow, Cond.instanceMethod yX3_addSubRow, Cond.selects RX3 yX3_addSubRow yX3_addSubRow, Cond.code yX3_addSubRow cX3_addSubRow 5 none, Cond.methodLink RX3 46 yX3_addSpan, Cond.instanceMethod yX3_addSpan, Cond.selects RX3 yX3_addSpan yX3_addSpan, Cond.code yX3_addSpan cX3_addSpan 7 none, Cond.methodLink RX3 50 Lib.Math.max.name, Cond.static Lib.Math.max.name, Cond.initialized "java/lang/Math", Cond.code Lib.Math.max.name Lib.Math.max.code 2 (some .int), Cond.methodLink RX3 56 Lib.Math.min.name, Cond.static Lib.Math.min.name, Cond.code Lib.Math.min.name Lib.Math.min.code 2 (some .int), Cond.methodLink RX4 110 yX4_paintRow, Cond.instanceMethod yX4_paintRow, Cond.selects RX4 yX4_paintRow yX4_paintRow, Cond.code yX4_paintRow cX4_paintRow 8 (some .int), Cond.fieldLink RX4 13 "RasterCover" "width" "I", Cond.fieldLink RX4 27 "RasterCover" "clips" "[I", Cond.instanceMethod yX3_at, Cond.selects RX3 yX3_at yX3_at, Cond.code yX3_at cX3_at 2 (some .int)]
def wsX4_fill_r4 : List Cond := [Cond.methodLink RX4 177 yX4_mul, Cond.static yX4_mul, Cond.code yX4_mul cX4_mul 2 (some .int), Cond.methodLink RX4 180 yX4_paintPoint, Cond.instanceMethod yX4_paintPoint, Cond.selects RX4 yX4_paintPoint yX4_paintPoint, Cond.code yX4_paintPoint cX4_paintPoint 7 none, Cond.fieldLink RX4 17 "RasterCover" "height" "I", Cond.fieldLink RX4 23 "RasterCover" "bytes" "[I", Cond.fieldLink RX4 30 "RasterCover" "overs" "[Z", Cond.methodLink RX4 183 yX4_blend, Cond.static yX4_blend, Cond.code yX4_blend cX4_blend 3 (some .int), Cond.instanceMethod yX2_clear, Cond.initialized RX2, Cond.selects RX2 yX2_clear yX2_clear, Cond.code yX2_clear cX2_clear 1 none, Cond.fieldLink RX2 20 "RasterCover$Path" "count" "I"]
def wsX4_fill : List Cond := .code yX4_fill cX4_fill 6 (some .int) :: ((wsX4_fill_r1 ++ (wsX4_fill_r2 ++ (wsX4_fill_r3 ++ wsX4_fill_r4))) ++ wsX40 ++ wsJx000600 ++ wsX30 ++ wsX00 ++ wsX20 ++ (vx_atS RX4 157 "java/lang/IllegalArgumentException" ["java/lang/RuntimeException", "java/lang/Exception"]).filter goodWord ++ (vx_atM "java/lang/ArrayIndexOutOfBoundsException" ["java/lang/IndexOutOfBoundsException", "java/lang/RuntimeException", "java/lang/Exception"]).filter goodWord)
def wsX4_clipRow : List Cond := .code yX4_clipRow cX4_clipRow 5 (some .int) :: ([.fieldLink RX4 13 "RasterCover" "width" "I", .fieldLink RX4 27 "RasterCover" "clips" "[I", .fieldLink RX4 46 "RasterCover" "rowCover" "LRasterCover$RowCover;", .instanceMethod yX3_at, .initialized RX3, .selects RX3 yX3_at yX3_at, .code yX3_at cX3_at 2 (some .int), .fieldLink RX3 18 "RasterCover$RowCover" "units" "[I", .methodLink RX4 177 yX4_mul, .static yX4_mul, .initialized RX4, .code yX4_mul cX4_mul 2 (some .int)] ++ wsX40 ++ wsX30 ++ (vx_atM "java/lang/ArrayIndexOutOfBoundsException" ["java/lang/IndexOutOfBoundsException", "java/lang/RuntimeException", "java/lang/Exception"]).filter goodWord)
def wsX4_clip_r1 : List Cond := [Cond.fieldLink RX4 17 "RasterCover" "height" "I", Cond.fieldLink RX4 46 "RasterCover" "rowCover" "LRasterCover$RowCover;", Cond.fieldLink RX4 37 "RasterCover" "path" "LRasterCover$Path;", Cond.methodLink RX4 100 yX4_needRule, Cond.static yX4_needRule, Cond.initialized RX4, Cond.code yX4_needRule cX4_needRule 1 none, Cond.classLink RX4 153 "java/lang/IllegalArgumentException", Cond.initialized "java/lang/IllegalArgumentException", Cond.instanceMethod yX3_measure, Cond.initialized RX3, Cond.selects RX3 yX3_measure yX3_measure, Cond.code yX3_measure cX3_measure 5 none, Cond.fieldLink RX3 18 "RasterCover$RowCover" "units" "[I", Cond.fieldLink RX3 12 "RasterCover$RowCover" "crossings" "LRasterCover$Crossings;", Cond.methodLink RX3 22 yJ7_fill_53178, Cond.static yJ7_fill_53178, Cond.initialized RJ7, Cond.code yJ7_fill_53178 cJ7_fill_53178 4 none, Cond.instanceMethod yX0_collect, Cond.initialized RX0, Cond.selects RX0 yX0_collect yX0_collect, Cond.code yX0_collect cX0_collect 7 none, Cond.fieldLink RX0 18 "RasterCover$Crossings" "count" "I"]
def wsX4_clip_r2 : List Cond := [Cond.methodLink RX0 30 yX0_cross, Cond.instanceMethod yX0_cross, Cond.selects RX0 yX0_cross yX0_cross, Cond.code yX0_cross cX0_cross 10 none, Cond.methodLink RX0 35 yJ9_floorDiv_f86c9, Cond.static yJ9_floorDiv_f86c9, Cond.initialized RJ9, Cond.code yJ9_floorDiv_f86c9 cJ9_floorDiv_f86c9 6 (some .long), Cond.methodLink RX0 41 yX0_insert, Cond.instanceMethod yX0_insert, Cond.selects RX0 yX0_insert yX0_insert, Cond.code yX0_insert cX0_insert 4 none, Cond.fieldLink RX0 9 "RasterCover$Crossings" "xs" "[I", Cond.fieldLink RX0 15 "RasterCover$Crossings" "turns" "[I", Cond.methodLink RX3 32 yX3_addSubRow, Cond.instanceMethod yX3_addSubRow, Cond.selects RX3 yX3_addSubRow yX3_addSubRow, Cond.code yX3_addSubRow cX3_addSubRow 5 none, Cond.methodLink RX3 46 yX3_addSpan, Cond.instanceMethod yX3_addSpan, Cond.selects RX3 yX3_addSpan yX3_addSpan, Cond.code yX3_addSpan cX3_addSpan 7 none, Cond.methodLink RX3 50 Lib.Math.max.name, Cond.static Lib.Math.max.name]
def wsX4_clip_r3 : List Cond := [Cond.initialized "java/lang/Math", Cond.code Lib.Math.max.name Lib.Math.max.code 2 (some .int), Cond.methodLink RX3 56 Lib.Math.min.name, Cond.static Lib.Math.min.name, Cond.code Lib.Math.min.name Lib.Math.min.code 2 (some .int), Cond.methodLink RX4 117 yX4_clipRow, Cond.instanceMethod yX4_clipRow, Cond.selects RX4 yX4_clipRow yX4_clipRow, Cond.code yX4_clipRow cX4_clipRow 5 (some .int), Cond.fieldLink RX4 13 "RasterCover" "width" "I", Cond.fieldLink RX4 27 "RasterCover" "clips" "[I", Cond.instanceMethod yX3_at, Cond.selects RX3 yX3_at yX3_at, Cond.code yX3_at cX3_at 2 (some .int), Cond.methodLink RX4 177 yX4_mul, Cond.static yX4_mul, Cond.code yX4_mul cX4_mul 2 (some .int), Cond.instanceMethod yX2_clear, Cond.initialized RX2, Cond.selects RX2 yX2_clear yX2_clear, Cond.code yX2_clear cX2_clear 1 none, Cond.fieldLink RX2 20 "RasterCover$Path" "count" "I"]
def wsX4_clip : List Cond := .code yX4_clip cX4_clip 4 (some .int) :: ((wsX4_clip_r1 ++ (wsX4_clip_r2 ++ wsX4_clip_r3)) ++ wsX40 ++ wsX30 ++ wsX00 ++ wsX20 ++ (vx_atS RX4 157 "java/lang/IllegalArgumentException" ["java/lang/RuntimeException", "java/lang/Exception"]).filter goodWord ++ (vx_atM "java/lang/ArrayIndexOutOfBoundsException" ["java/lang/IndexOutOfBoundsException", "java/lang/RuntimeException", "java/lang/Exception"]).filter goodWord)
def wsX4_end : List Cond := .code yX4_end cX4_end 2 (some .int) :: ([.fieldLink RX4 63 "RasterCover" "fills" "I", .fieldLink RX4 37 "RasterCover" "path" "LRasterCover$Path;", .fieldLink RX4 27 "RasterCover" "clips" "[I", .instanceMethod yX2_clear, .initialized RX2, .selects RX2 yX2_clear yX2_clear, .code yX2_clear cX2_clear 1 none, .fieldLink RX2 20 "RasterCover$Path" "count" "I", .methodLink RX4 66 yJ7_fill_53178, .static yJ7_fill_53178, .initialized RJ7, .code yJ7_fill_53178 cJ7_fill_53178 4 none] ++ wsX40 ++ wsX20)
def wsX4_needPoint : List Cond := .code yX4_needPoint cX4_needPoint 3 none :: ([.fieldLink RX4 13 "RasterCover" "width" "I", .fieldLink RX4 17 "RasterCover" "height" "I", .classLink RX4 143 RJx00060, .instantiable RJx00060 6, .initialized RJx00060] ++ wsX40 ++ wsJx000600)
def wsX4_point : List Cond := .code yX4_point cX4_point 4 (some .int) :: ([.fieldLink RX4 23 "RasterCover" "bytes" "[I", .fieldLink RX4 17 "RasterCover" "height" "I", .fieldLink RX4 13 "RasterCover" "width" "I", .methodLink RX4 121 yX4_needPoint, .instanceMethod yX4_needPoint, .selects RX4 yX4_needPoint yX4_needPoint, .initialized RX4, .code yX4_needPoint cX4_needPoint 3 none, .classLink RX4 143 RJx00060, .instantiable RJx00060 6, .initialized RJx00060, .methodLink RX4 103 yX4_needPlane, .instanceMethod yX4_needPlane, .selects RX4 yX4_needPlane yX4_needPlane, .code yX4_needPlane cX4_needPlane 2 none, .fieldLink RX4 20 "RasterCover" "planes" "I"] ++ wsX40 ++ wsJx000600 ++ (vx_atM "java/lang/ArrayIndexOutOfBoundsException" ["java/lang/IndexOutOfBoundsException", "java/lang/RuntimeException", "java/lang/Exception"]).filter goodWord)
def wsX4_cover_r1 : List Cond := [Cond.fieldLink RX4 46 "RasterCover" "rowCover" "LRasterCover$RowCover;", Cond.fieldLink RX4 37 "RasterCover" "path" "LRasterCover$Path;", Cond.methodLink RX4 121 yX4_needPoint, Cond.instanceMethod yX4_needPoint, Cond.selects RX4 yX4_needPoint yX4_needPoint, Cond.initialized RX4, Cond.code yX4_needPoint cX4_needPoint 3 none, Cond.fieldLink RX4 13 "RasterCover" "width" "I", Cond.fieldLink RX4 17 "RasterCover" "height" "I", Cond.classLink RX4 143 RJx00060, Cond.instantiable RJx00060 6, Cond.initialized RJx00060, Cond.instanceMethod yX3_measure, Cond.initialized RX3, Cond.selects RX3 yX3_measure yX3_measure, Cond.code yX3_measure cX3_measure 5 none, Cond.fieldLink RX3 18 "RasterCover$RowCover" "units" "[I", Cond.fieldLink RX3 12 "RasterCover$RowCover" "crossings" "LRasterCover$Crossings;", Cond.methodLink RX3 22 yJ7_fill_53178, Cond.static yJ7_fill_53178, Cond.initialized RJ7, Cond.code yJ7_fill_53178 cJ7_fill_53178 4 none, Cond.instanceMethod yX0_collect, Cond.initialized RX0]
def wsX4_cover_r2 : List Cond := [Cond.selects RX0 yX0_collect yX0_collect, Cond.code yX0_collect cX0_collect 7 none, Cond.fieldLink RX0 18 "RasterCover$Crossings" "count" "I", Cond.methodLink RX0 30 yX0_cross, Cond.instanceMethod yX0_cross, Cond.selects RX0 yX0_cross yX0_cross, Cond.code yX0_cross cX0_cross 10 none, Cond.methodLink RX0 35 yJ9_floorDiv_f86c9, Cond.static yJ9_floorDiv_f86c9, Cond.initialized RJ9, Cond.code yJ9_floorDiv_f86c9 cJ9_floorDiv_f86c9 6 (some .long), Cond.methodLink RX0 41 yX0_insert, Cond.instanceMethod yX0_insert, Cond.selects RX0 yX0_insert yX0_insert, Cond.code yX0_insert cX0_insert 4 none, Cond.fieldLink RX0 9 "RasterCover$Crossings" "xs" "[I", Cond.fieldLink RX0 15 "RasterCover$Crossings" "turns" "[I", Cond.methodLink RX3 32 yX3_addSubRow, Cond.instanceMethod yX3_addSubRow, Cond.selects RX3 yX3_addSubRow yX3_addSubRow, Cond.code yX3_addSubRow cX3_addSubRow 5 none, Cond.methodLink RX3 46 yX3_addSpan, Cond.instanceMethod yX3_addSpan, Cond.selects RX3 yX3_addSpan yX3_addSpan]
def wsX4_cover_r3 : List Cond := [Cond.code yX3_addSpan cX3_addSpan 7 none, Cond.methodLink RX3 50 Lib.Math.max.name, Cond.static Lib.Math.max.name, Cond.initialized "java/lang/Math", Cond.code Lib.Math.max.name Lib.Math.max.code 2 (some .int), Cond.methodLink RX3 56 Lib.Math.min.name, Cond.static Lib.Math.min.name, Cond.code Lib.Math.min.name Lib.Math.min.code 2 (some .int), Cond.instanceMethod yX3_at, Cond.selects RX3 yX3_at yX3_at, Cond.code yX3_at cX3_at 2 (some .int)]
def wsX4_cover : List Cond := .code yX4_cover cX4_cover 3 (some .int) :: ((wsX4_cover_r1 ++ (wsX4_cover_r2 ++ wsX4_cover_r3)) ++ wsX40 ++ wsJx000600 ++ wsX30 ++ wsX00 ++ wsX20 ++ (vx_atM "java/lang/ArrayIndexOutOfBoundsException" ["java/lang/IndexOutOfBoundsException", "java/lang/RuntimeException", "java/lang/Exception"]).filter goodWord)
def wsX4_band : List Cond := .code yX4_band cX4_band 3 (some .int) :: ([.fieldLink RX4 17 "RasterCover" "height" "I", .fieldLink RX4 57 "RasterCover" "bandFrom" "I", .methodLink RX4 127 Lib.Math.max.name, .static Lib.Math.max.name, .initialized "java/lang/Math", .code Lib.Math.max.name Lib.Math.max.code 2 (some .int), .fieldLink RX4 60 "RasterCover" "bandTo" "I", .methodLink RX4 9 yX4_cut, .static yX4_cut, .initialized RX4, .code yX4_cut cX4_cut 2 (some .int), .methodLink RX4 162 Lib.Math.min.name, .static Lib.Math.min.name, .code Lib.Math.min.name Lib.Math.min.code 2 (some .int)] ++ wsX40)
def wsX4_same : List Cond := .code yX4_same cX4_same 2 (some .boolean) :: ([.fieldLink RX4 17 "RasterCover" "height" "I"] ++ wsX40)
def wsX4_packed : List Cond := .code yX4_packed cX4_packed 4 (some .byte) :: ([.fieldLink RX4 20 "RasterCover" "planes" "I", .fieldLink RX4 17 "RasterCover" "height" "I", .fieldLink RX4 53 "RasterCover" "packedRow" "LRasterCover$PackedRow;", .fieldLink RX4 23 "RasterCover" "bytes" "[I", .fieldLink RX4 13 "RasterCover" "width" "I", .classLink RX4 143 RJx00060, .instantiable RJx00060 6, .initialized RJx00060, .instanceMethod yX1_pack, .initialized RX1, .selects RX1 yX1_pack yX1_pack, .code yX1_pack cX1_pack 7 none, .fieldLink RX1 7 "RasterCover$PackedRow" "size" "I", .fieldLink RX1 13 "RasterCover$PackedRow" "signs" "[B", .methodLink RX1 17 yX1_put, .instanceMethod yX1_put, .selects RX1 yX1_put yX1_put, .code yX1_put cX1_put 2 none] ++ wsX40 ++ wsX10 ++ wsJx000600 ++ (vx_atM "java/lang/ArrayIndexOutOfBoundsException" ["java/lang/IndexOutOfBoundsException", "java/lang/RuntimeException", "java/lang/Exception"]).filter goodWord)
def wsX4_over : List Cond := .code yX4_over cX4_over 4 (some .int) :: ([.fieldLink RX4 30 "RasterCover" "overs" "[Z", .methodLink RX4 103 yX4_needPlane, .instanceMethod yX4_needPlane, .selects RX4 yX4_needPlane yX4_needPlane, .initialized RX4, .code yX4_needPlane cX4_needPlane 2 none, .fieldLink RX4 20 "RasterCover" "planes" "I", .classLink RX4 143 RJx00060, .instantiable RJx00060 6, .initialized RJx00060] ++ wsX40 ++ wsJx000600 ++ (vx_atM "java/lang/ArrayIndexOutOfBoundsException" ["java/lang/IndexOutOfBoundsException", "java/lang/RuntimeException", "java/lang/Exception"]).filter goodWord)
def wsX5_init : List Cond := .code yX5_init cX5_init 5 none :: ([.methodLink RX5 1 objectInit, .instanceMethod objectInit, .code objectInit ⟨#[0xb1]⟩ 1 none, .arrayClass .int, .fieldLink RX5 7 "RasterCoverModel" "bytes" "[I", .fieldLink RX5 13 "RasterCoverModel" "clips" "[I", .arrayClass .boolean, .fieldLink RX5 16 "RasterCoverModel" "isOver" "[Z", .arrayClass .long, .fieldLink RX5 20 "RasterCoverModel" "px" "[J", .fieldLink RX5 24 "RasterCoverModel" "py" "[J", .fieldLink RX5 27 "RasterCoverModel" "begins" "[Z", .fieldLink RX5 30 "RasterCoverModel" "place" "[J", .fieldLink RX5 33 "RasterCoverModel" "turn" "[I", .fieldLink RX5 36 "RasterCoverModel" "units" "[I", .fieldLink RX5 39 "RasterCoverModel" "packed" "[I", .fieldLink RX5 42 "RasterCoverModel" "wide" "I", .fieldLink RX5 46 "RasterCoverModel" "high" "I", .fieldLink RX5 49 "RasterCoverModel" "planes" "I", .fieldLink RX5 52 "RasterCoverModel" "to" "I"] ++ wsX50 ++ (vx_atM "java/lang/ArrayIndexOutOfBoundsException" ["java/lang/IndexOutOfBoundsException", "java/lang/RuntimeException", "java/lang/Exception"]).filter goodWord)
def wsX5_thrown : List Cond := .code yX5_thrown cX5_thrown 1 (some .int) :: ([.fieldLink RX5 55 "RasterCoverModel" "thrown" "I"] ++ wsX50)
def wsX5_cut : List Cond := .code yX5_cut cX5_cut 2 (some .long) :: ([.constantLong RX5 58 (-1048576), .constantLong RX5 60 (1048576)])
def wsX5_add : List Cond := .code yX5_add cX5_add 6 none :: ([.fieldLink RX5 20 "RasterCoverModel" "px" "[J", .fieldLink RX5 62 "RasterCoverModel" "points" "I", .fieldLink RX5 24 "RasterCoverModel" "py" "[J", .fieldLink RX5 27 "RasterCoverModel" "begins" "[Z"] ++ wsX50 ++ (vx_atM "java/lang/ArrayIndexOutOfBoundsException" ["java/lang/IndexOutOfBoundsException", "java/lang/RuntimeException", "java/lang/Exception"]).filter goodWord)
def wsX5_move : List Cond := .code yX5_move cX5_move 5 (some .int) :: ([.fieldLink RX5 62 "RasterCoverModel" "points" "I", .fieldLink RX5 55 "RasterCoverModel" "thrown" "I", .methodLink RX5 65 yX5_cut, .static yX5_cut, .initialized RX5, .code yX5_cut cX5_cut 2 (some .long), .constantLong RX5 58 (-1048576), .constantLong RX5 60 (1048576), .methodLink RX5 69 yX5_add, .instanceMethod yX5_add, .selects RX5 yX5_add yX5_add, .code yX5_add cX5_add 6 none, .fieldLink RX5 20 "RasterCoverModel" "px" "[J", .fieldLink RX5 24 "RasterCoverModel" "py" "[J", .fieldLink RX5 27 "RasterCoverModel" "begins" "[Z"] ++ wsX50 ++ (vx_atM "java/lang/ArrayIndexOutOfBoundsException" ["java/lang/IndexOutOfBoundsException", "java/lang/RuntimeException", "java/lang/Exception"]).filter goodWord)
def wsX5_line : List Cond := .code yX5_line cX5_line 5 (some .int) :: ([.fieldLink RX5 62 "RasterCoverModel" "points" "I", .fieldLink RX5 55 "RasterCoverModel" "thrown" "I", .methodLink RX5 65 yX5_cut, .static yX5_cut, .initialized RX5, .code yX5_cut cX5_cut 2 (some .long), .constantLong RX5 58 (-1048576), .constantLong RX5 60 (1048576), .methodLink RX5 69 yX5_add, .instanceMethod yX5_add, .selects RX5 yX5_add yX5_add, .code yX5_add cX5_add 6 none, .fieldLink RX5 20 "RasterCoverModel" "px" "[J", .fieldLink RX5 24 "RasterCoverModel" "py" "[J", .fieldLink RX5 27 "RasterCoverModel" "begins" "[Z"] ++ wsX50 ++ (vx_atM "java/lang/ArrayIndexOutOfBoundsException" ["java/lang/IndexOutOfBoundsException", "java/lang/RuntimeException", "java/lang/Exception"]).filter goodWord)
def wsX5_size : List Cond := .code yX5_size cX5_size 2 (some .long) :: ([])
def wsX5_hair : List Cond := .code yX5_hair cX5_hair 23 (some .int) :: ([.fieldLink RX5 62 "RasterCoverModel" "points" "I", .fieldLink RX5 55 "RasterCoverModel" "thrown" "I", .constantLong RX5 76 (128), .methodLink RX5 65 yX5_cut, .static yX5_cut, .initialized RX5, .code yX5_cut cX5_cut 2 (some .long), .constantLong RX5 58 (-1048576), .constantLong RX5 60 (1048576), .methodLink RX5 73 yX5_size, .static yX5_size, .code yX5_size cX5_size 2 (some .long), .methodLink RX5 69 yX5_add, .instanceMethod yX5_add, .selects RX5 yX5_add yX5_add, .code yX5_add cX5_add 6 none, .fieldLink RX5 20 "RasterCoverModel" "px" "[J", .fieldLink RX5 24 "RasterCoverModel" "py" "[J", .fieldLink RX5 27 "RasterCoverModel" "begins" "[Z"] ++ wsX50 ++ (vx_atM "java/lang/ArrayIndexOutOfBoundsException" ["java/lang/IndexOutOfBoundsException", "java/lang/RuntimeException", "java/lang/Exception"]).filter goodWord)
def wsX5_down : List Cond := .code yX5_down cX5_down 6 (some .long) :: ([])
def wsX5_cross : List Cond := .code yX5_cross cX5_cross 8 none :: ([.fieldLink RX5 24 "RasterCoverModel" "py" "[J", .fieldLink RX5 30 "RasterCoverModel" "place" "[J", .fieldLink RX5 78 "RasterCoverModel" "crossings" "I", .fieldLink RX5 20 "RasterCoverModel" "px" "[J", .fieldLink RX5 33 "RasterCoverModel" "turn" "[I", .methodLink RX5 81 yX5_down, .static yX5_down, .initialized RX5, .code yX5_down cX5_down 6 (some .long)] ++ wsX50 ++ (vx_atM "java/lang/ArrayIndexOutOfBoundsException" ["java/lang/IndexOutOfBoundsException", "java/lang/RuntimeException", "java/lang/Exception"]).filter goodWord)
def wsX5_crossAll : List Cond := .code yX5_crossAll cX5_crossAll 6 none :: ([.fieldLink RX5 78 "RasterCoverModel" "crossings" "I", .fieldLink RX5 62 "RasterCoverModel" "points" "I", .fieldLink RX5 27 "RasterCoverModel" "begins" "[Z", .methodLink RX5 85 yX5_cross, .instanceMethod yX5_cross, .selects RX5 yX5_cross yX5_cross, .initialized RX5, .code yX5_cross cX5_cross 8 none, .fieldLink RX5 24 "RasterCoverModel" "py" "[J", .fieldLink RX5 30 "RasterCoverModel" "place" "[J", .fieldLink RX5 20 "RasterCoverModel" "px" "[J", .fieldLink RX5 33 "RasterCoverModel" "turn" "[I", .methodLink RX5 81 yX5_down, .static yX5_down, .code yX5_down cX5_down 6 (some .long)] ++ wsX50 ++ (vx_atM "java/lang/ArrayIndexOutOfBoundsException" ["java/lang/IndexOutOfBoundsException", "java/lang/RuntimeException", "java/lang/Exception"]).filter goodWord)
def wsX5_isInside : List Cond := .code yX5_isInside cX5_isInside 7 (some .boolean) :: ([.fieldLink RX5 78 "RasterCoverModel" "crossings" "I", .fieldLink RX5 30 "RasterCoverModel" "place" "[J", .fieldLink RX5 33 "RasterCoverModel" "turn" "[I"] ++ wsX50 ++ (vx_atM "java/lang/ArrayIndexOutOfBoundsException" ["java/lang/IndexOutOfBoundsException", "java/lang/RuntimeException", "java/lang/Exception"]).filter goodWord)
def wsX5_addUnits : List Cond := .code yX5_addUnits cX5_addUnits 10 none :: ([.fieldLink RX5 42 "RasterCoverModel" "wide" "I", .constantLong RX5 89 (256), .fieldLink RX5 36 "RasterCoverModel" "units" "[I"] ++ wsX50 ++ (vx_atM "java/lang/ArrayIndexOutOfBoundsException" ["java/lang/IndexOutOfBoundsException", "java/lang/RuntimeException", "java/lang/Exception"]).filter goodWord)
def wsX5_coverRow_r1 : List Cond := [Cond.fieldLink RX5 42 "RasterCoverModel" "wide" "I", Cond.fieldLink RX5 36 "RasterCoverModel" "units" "[I", Cond.constantLong RX5 91 (16), Cond.constantLong RX5 93 (8), Cond.fieldLink RX5 78 "RasterCoverModel" "crossings" "I", Cond.constantLong RX5 99 (9000000), Cond.fieldLink RX5 30 "RasterCoverModel" "place" "[J", Cond.methodLink RX5 95 yX5_crossAll, Cond.instanceMethod yX5_crossAll, Cond.selects RX5 yX5_crossAll yX5_crossAll, Cond.initialized RX5, Cond.code yX5_crossAll cX5_crossAll 6 none, Cond.fieldLink RX5 62 "RasterCoverModel" "points" "I", Cond.fieldLink RX5 27 "RasterCoverModel" "begins" "[Z", Cond.methodLink RX5 85 yX5_cross, Cond.instanceMethod yX5_cross, Cond.selects RX5 yX5_cross yX5_cross, Cond.code yX5_cross cX5_cross 8 none, Cond.fieldLink RX5 24 "RasterCoverModel" "py" "[J", Cond.fieldLink RX5 20 "RasterCoverModel" "px" "[J", Cond.fieldLink RX5 33 "RasterCoverModel" "turn" "[I", Cond.methodLink RX5 81 yX5_down, Cond.static yX5_down, Cond.code yX5_down cX5_down 6 (some .long)]
def wsX5_coverRow_r2 : List Cond := [Cond.methodLink RX5 101 yX5_isInside, Cond.instanceMethod yX5_isInside, Cond.selects RX5 yX5_isInside yX5_isInside, Cond.code yX5_isInside cX5_isInside 7 (some .boolean), Cond.methodLink RX5 105 yX5_addUnits, Cond.instanceMethod yX5_addUnits, Cond.selects RX5 yX5_addUnits yX5_addUnits, Cond.code yX5_addUnits cX5_addUnits 10 none, Cond.constantLong RX5 89 (256)]
def wsX5_coverRow : List Cond := .code yX5_coverRow cX5_coverRow 9 none :: ((wsX5_coverRow_r1 ++ wsX5_coverRow_r2) ++ wsX50 ++ (vx_atM "java/lang/ArrayIndexOutOfBoundsException" ["java/lang/IndexOutOfBoundsException", "java/lang/RuntimeException", "java/lang/Exception"]).filter goodWord)
def wsX5_coverAt : List Cond := .code yX5_coverAt cX5_coverAt 2 (some .int) :: ([.fieldLink RX5 36 "RasterCoverModel" "units" "[I"] ++ wsX50 ++ (vx_atM "java/lang/ArrayIndexOutOfBoundsException" ["java/lang/IndexOutOfBoundsException", "java/lang/RuntimeException", "java/lang/Exception"]).filter goodWord)
def wsX5_mul : List Cond := .code yX5_mul cX5_mul 2 (some .int) :: ([])
def wsX5_fill_r1 : List Cond := [Cond.fieldLink RX5 49 "RasterCoverModel" "planes" "I", Cond.fieldLink RX5 55 "RasterCoverModel" "thrown" "I", Cond.fieldLink RX5 109 "RasterCoverModel" "from" "I", Cond.fieldLink RX5 52 "RasterCoverModel" "to" "I", Cond.fieldLink RX5 42 "RasterCoverModel" "wide" "I", Cond.fieldLink RX5 13 "RasterCoverModel" "clips" "[I", Cond.fieldLink RX5 7 "RasterCoverModel" "bytes" "[I", Cond.fieldLink RX5 16 "RasterCoverModel" "isOver" "[Z", Cond.fieldLink RX5 62 "RasterCoverModel" "points" "I", Cond.fieldLink RX5 124 "RasterCoverModel" "fills" "I", Cond.fieldLink RX5 127 "RasterCoverModel" "isPacked" "Z", Cond.methodLink RX5 112 yX5_coverRow, Cond.instanceMethod yX5_coverRow, Cond.selects RX5 yX5_coverRow yX5_coverRow, Cond.initialized RX5, Cond.code yX5_coverRow cX5_coverRow 9 none, Cond.fieldLink RX5 36 "RasterCoverModel" "units" "[I", Cond.constantLong RX5 91 (16), Cond.constantLong RX5 93 (8), Cond.fieldLink RX5 78 "RasterCoverModel" "crossings" "I", Cond.constantLong RX5 99 (9000000), Cond.fieldLink RX5 30 "RasterCoverModel" "place" "[J", Cond.methodLink RX5 95 yX5_crossAll, Cond.instanceMethod yX5_crossAll]
def wsX5_fill_r2 : List Cond := [Cond.selects RX5 yX5_crossAll yX5_crossAll, Cond.code yX5_crossAll cX5_crossAll 6 none, Cond.fieldLink RX5 27 "RasterCoverModel" "begins" "[Z", Cond.methodLink RX5 85 yX5_cross, Cond.instanceMethod yX5_cross, Cond.selects RX5 yX5_cross yX5_cross, Cond.code yX5_cross cX5_cross 8 none, Cond.fieldLink RX5 24 "RasterCoverModel" "py" "[J", Cond.fieldLink RX5 20 "RasterCoverModel" "px" "[J", Cond.fieldLink RX5 33 "RasterCoverModel" "turn" "[I", Cond.methodLink RX5 81 yX5_down, Cond.static yX5_down, Cond.code yX5_down cX5_down 6 (some .long), Cond.methodLink RX5 101 yX5_isInside, Cond.instanceMethod yX5_isInside, Cond.selects RX5 yX5_isInside yX5_isInside, Cond.code yX5_isInside cX5_isInside 7 (some .boolean), Cond.methodLink RX5 105 yX5_addUnits, Cond.instanceMethod yX5_addUnits, Cond.selects RX5 yX5_addUnits yX5_addUnits, Cond.code yX5_addUnits cX5_addUnits 10 none, Cond.constantLong RX5 89 (256), Cond.methodLink RX5 116 yX5_coverAt, Cond.instanceMethod yX5_coverAt]
def wsX5_fill_r3 : List Cond := [Cond.selects RX5 yX5_coverAt yX5_coverAt, Cond.code yX5_coverAt cX5_coverAt 2 (some .int), Cond.methodLink RX5 120 yX5_mul, Cond.static yX5_mul, Cond.code yX5_mul cX5_mul 2 (some .int)]
def wsX5_fill : List Cond := .code yX5_fill cX5_fill 11 (some .int) :: ((wsX5_fill_r1 ++ (wsX5_fill_r2 ++ wsX5_fill_r3)) ++ wsX50 ++ (vx_atM "java/lang/ArrayIndexOutOfBoundsException" ["java/lang/IndexOutOfBoundsException", "java/lang/RuntimeException", "java/lang/Exception"]).filter goodWord)
def wsX5_clip_r1 : List Cond := [Cond.fieldLink RX5 55 "RasterCoverModel" "thrown" "I", Cond.fieldLink RX5 46 "RasterCoverModel" "high" "I", Cond.fieldLink RX5 42 "RasterCoverModel" "wide" "I", Cond.fieldLink RX5 13 "RasterCoverModel" "clips" "[I", Cond.fieldLink RX5 62 "RasterCoverModel" "points" "I", Cond.methodLink RX5 112 yX5_coverRow, Cond.instanceMethod yX5_coverRow, Cond.selects RX5 yX5_coverRow yX5_coverRow, Cond.initialized RX5, Cond.code yX5_coverRow cX5_coverRow 9 none, Cond.fieldLink RX5 36 "RasterCoverModel" "units" "[I", Cond.constantLong RX5 91 (16), Cond.constantLong RX5 93 (8), Cond.fieldLink RX5 78 "RasterCoverModel" "crossings" "I", Cond.constantLong RX5 99 (9000000), Cond.fieldLink RX5 30 "RasterCoverModel" "place" "[J", Cond.methodLink RX5 95 yX5_crossAll, Cond.instanceMethod yX5_crossAll, Cond.selects RX5 yX5_crossAll yX5_crossAll, Cond.code yX5_crossAll cX5_crossAll 6 none, Cond.fieldLink RX5 27 "RasterCoverModel" "begins" "[Z", Cond.methodLink RX5 85 yX5_cross, Cond.instanceMethod yX5_cross, Cond.selects RX5 yX5_cross yX5_cross]
def wsX5_clip_r2 : List Cond := [Cond.code yX5_cross cX5_cross 8 none, Cond.fieldLink RX5 24 "RasterCoverModel" "py" "[J", Cond.fieldLink RX5 20 "RasterCoverModel" "px" "[J", Cond.fieldLink RX5 33 "RasterCoverModel" "turn" "[I", Cond.methodLink RX5 81 yX5_down, Cond.static yX5_down, Cond.code yX5_down cX5_down 6 (some .long), Cond.methodLink RX5 101 yX5_isInside, Cond.instanceMethod yX5_isInside, Cond.selects RX5 yX5_isInside yX5_isInside, Cond.code yX5_isInside cX5_isInside 7 (some .boolean), Cond.methodLink RX5 105 yX5_addUnits, Cond.instanceMethod yX5_addUnits, Cond.selects RX5 yX5_addUnits yX5_addUnits, Cond.code yX5_addUnits cX5_addUnits 10 none, Cond.constantLong RX5 89 (256), Cond.methodLink RX5 116 yX5_coverAt, Cond.instanceMethod yX5_coverAt, Cond.selects RX5 yX5_coverAt yX5_coverAt, Cond.code yX5_coverAt cX5_coverAt 2 (some .int), Cond.methodLink RX5 120 yX5_mul, Cond.static yX5_mul, Cond.code yX5_mul cX5_mul 2 (some .int)]
def wsX5_clip : List Cond := .code yX5_clip cX5_clip 5 (some .int) :: ((wsX5_clip_r1 ++ wsX5_clip_r2) ++ wsX50 ++ (vx_atM "java/lang/ArrayIndexOutOfBoundsException" ["java/lang/IndexOutOfBoundsException", "java/lang/RuntimeException", "java/lang/Exception"]).filter goodWord)
def wsX5_end : List Cond := .code yX5_end cX5_end 3 (some .int) :: ([.fieldLink RX5 55 "RasterCoverModel" "thrown" "I", .fieldLink RX5 124 "RasterCoverModel" "fills" "I", .fieldLink RX5 62 "RasterCoverModel" "points" "I", .fieldLink RX5 13 "RasterCoverModel" "clips" "[I"] ++ wsX50 ++ (vx_atM "java/lang/ArrayIndexOutOfBoundsException" ["java/lang/IndexOutOfBoundsException", "java/lang/RuntimeException", "java/lang/Exception"]).filter goodWord)
def wsX5_isPoint : List Cond := .code yX5_isPoint cX5_isPoint 3 (some .boolean) :: ([.fieldLink RX5 42 "RasterCoverModel" "wide" "I", .fieldLink RX5 46 "RasterCoverModel" "high" "I"] ++ wsX50)
def wsX5_point : List Cond := .code yX5_point cX5_point 4 (some .int) :: ([.fieldLink RX5 49 "RasterCoverModel" "planes" "I", .fieldLink RX5 55 "RasterCoverModel" "thrown" "I", .fieldLink RX5 7 "RasterCoverModel" "bytes" "[I", .methodLink RX5 131 yX5_isPoint, .instanceMethod yX5_isPoint, .selects RX5 yX5_isPoint yX5_isPoint, .initialized RX5, .code yX5_isPoint cX5_isPoint 3 (some .boolean), .fieldLink RX5 42 "RasterCoverModel" "wide" "I", .fieldLink RX5 46 "RasterCoverModel" "high" "I"] ++ wsX50 ++ (vx_atM "java/lang/ArrayIndexOutOfBoundsException" ["java/lang/IndexOutOfBoundsException", "java/lang/RuntimeException", "java/lang/Exception"]).filter goodWord)
def wsX5_cover_r1 : List Cond := [Cond.fieldLink RX5 55 "RasterCoverModel" "thrown" "I", Cond.methodLink RX5 131 yX5_isPoint, Cond.instanceMethod yX5_isPoint, Cond.selects RX5 yX5_isPoint yX5_isPoint, Cond.initialized RX5, Cond.code yX5_isPoint cX5_isPoint 3 (some .boolean), Cond.fieldLink RX5 42 "RasterCoverModel" "wide" "I", Cond.fieldLink RX5 46 "RasterCoverModel" "high" "I", Cond.methodLink RX5 112 yX5_coverRow, Cond.instanceMethod yX5_coverRow, Cond.selects RX5 yX5_coverRow yX5_coverRow, Cond.code yX5_coverRow cX5_coverRow 9 none, Cond.fieldLink RX5 36 "RasterCoverModel" "units" "[I", Cond.constantLong RX5 91 (16), Cond.constantLong RX5 93 (8), Cond.fieldLink RX5 78 "RasterCoverModel" "crossings" "I", Cond.constantLong RX5 99 (9000000), Cond.fieldLink RX5 30 "RasterCoverModel" "place" "[J", Cond.methodLink RX5 95 yX5_crossAll, Cond.instanceMethod yX5_crossAll, Cond.selects RX5 yX5_crossAll yX5_crossAll, Cond.code yX5_crossAll cX5_crossAll 6 none, Cond.fieldLink RX5 62 "RasterCoverModel" "points" "I", Cond.fieldLink RX5 27 "RasterCoverModel" "begins" "[Z"]
def wsX5_cover_r2 : List Cond := [Cond.methodLink RX5 85 yX5_cross, Cond.instanceMethod yX5_cross, Cond.selects RX5 yX5_cross yX5_cross, Cond.code yX5_cross cX5_cross 8 none, Cond.fieldLink RX5 24 "RasterCoverModel" "py" "[J", Cond.fieldLink RX5 20 "RasterCoverModel" "px" "[J", Cond.fieldLink RX5 33 "RasterCoverModel" "turn" "[I", Cond.methodLink RX5 81 yX5_down, Cond.static yX5_down, Cond.code yX5_down cX5_down 6 (some .long), Cond.methodLink RX5 101 yX5_isInside, Cond.instanceMethod yX5_isInside, Cond.selects RX5 yX5_isInside yX5_isInside, Cond.code yX5_isInside cX5_isInside 7 (some .boolean), Cond.methodLink RX5 105 yX5_addUnits, Cond.instanceMethod yX5_addUnits, Cond.selects RX5 yX5_addUnits yX5_addUnits, Cond.code yX5_addUnits cX5_addUnits 10 none, Cond.constantLong RX5 89 (256), Cond.methodLink RX5 116 yX5_coverAt, Cond.instanceMethod yX5_coverAt, Cond.selects RX5 yX5_coverAt yX5_coverAt, Cond.code yX5_coverAt cX5_coverAt 2 (some .int)]
def wsX5_cover : List Cond := .code yX5_cover cX5_cover 3 (some .int) :: ((wsX5_cover_r1 ++ wsX5_cover_r2) ++ wsX50 ++ (vx_atM "java/lang/ArrayIndexOutOfBoundsException" ["java/lang/IndexOutOfBoundsException", "java/lang/RuntimeException", "java/lang/Exception"]).filter goodWord)
def wsX5_band : List Cond := .code yX5_band cX5_band 3 (some .int) :: ([.fieldLink RX5 55 "RasterCoverModel" "thrown" "I", .fieldLink RX5 46 "RasterCoverModel" "high" "I", .fieldLink RX5 109 "RasterCoverModel" "from" "I", .fieldLink RX5 52 "RasterCoverModel" "to" "I"] ++ wsX50)
def wsX5_same : List Cond := .code yX5_same cX5_same 2 (some .boolean) :: ([.fieldLink RX5 55 "RasterCoverModel" "thrown" "I", .fieldLink RX5 46 "RasterCoverModel" "high" "I"] ++ wsX50)
def wsX5_put : List Cond := .code yX5_put cX5_put 2 none :: ([.fieldLink RX5 39 "RasterCoverModel" "packed" "[I", .fieldLink RX5 135 "RasterCoverModel" "size" "I"] ++ wsX50 ++ (vx_atM "java/lang/ArrayIndexOutOfBoundsException" ["java/lang/IndexOutOfBoundsException", "java/lang/RuntimeException", "java/lang/Exception"]).filter goodWord)
def wsX5_runAt : List Cond := .code yX5_runAt cX5_runAt 4 (some .int) :: ([.fieldLink RX5 7 "RasterCoverModel" "bytes" "[I"] ++ wsX50 ++ (vx_atM "java/lang/ArrayIndexOutOfBoundsException" ["java/lang/IndexOutOfBoundsException", "java/lang/RuntimeException", "java/lang/Exception"]).filter goodWord)
def wsX5_packAll : List Cond := .code yX5_packAll cX5_packAll 7 none :: ([.fieldLink RX5 135 "RasterCoverModel" "size" "I", .fieldLink RX5 49 "RasterCoverModel" "planes" "I", .fieldLink RX5 46 "RasterCoverModel" "high" "I", .fieldLink RX5 42 "RasterCoverModel" "wide" "I", .fieldLink RX5 7 "RasterCoverModel" "bytes" "[I", .fieldLink RX5 127 "RasterCoverModel" "isPacked" "Z", .methodLink RX5 137 yX5_runAt, .instanceMethod yX5_runAt, .selects RX5 yX5_runAt yX5_runAt, .initialized RX5, .code yX5_runAt cX5_runAt 4 (some .int), .methodLink RX5 140 yX5_put, .instanceMethod yX5_put, .selects RX5 yX5_put yX5_put, .code yX5_put cX5_put 2 none, .fieldLink RX5 39 "RasterCoverModel" "packed" "[I"] ++ wsX50 ++ (vx_atM "java/lang/ArrayIndexOutOfBoundsException" ["java/lang/IndexOutOfBoundsException", "java/lang/RuntimeException", "java/lang/Exception"]).filter goodWord)
def wsX5_packed : List Cond := .code yX5_packed cX5_packed 2 (some .byte) :: ([.fieldLink RX5 127 "RasterCoverModel" "isPacked" "Z", .fieldLink RX5 135 "RasterCoverModel" "size" "I", .fieldLink RX5 55 "RasterCoverModel" "thrown" "I", .fieldLink RX5 39 "RasterCoverModel" "packed" "[I", .methodLink RX5 144 yX5_packAll, .instanceMethod yX5_packAll, .selects RX5 yX5_packAll yX5_packAll, .initialized RX5, .code yX5_packAll cX5_packAll 7 none, .fieldLink RX5 49 "RasterCoverModel" "planes" "I", .fieldLink RX5 46 "RasterCoverModel" "high" "I", .fieldLink RX5 42 "RasterCoverModel" "wide" "I", .fieldLink RX5 7 "RasterCoverModel" "bytes" "[I", .methodLink RX5 137 yX5_runAt, .instanceMethod yX5_runAt, .selects RX5 yX5_runAt yX5_runAt, .code yX5_runAt cX5_runAt 4 (some .int), .methodLink RX5 140 yX5_put, .instanceMethod yX5_put, .selects RX5 yX5_put yX5_put, .code yX5_put cX5_put 2 none] ++ wsX50 ++ (vx_atM "java/lang/ArrayIndexOutOfBoundsException" ["java/lang/IndexOutOfBoundsException", "java/lang/RuntimeException", "java/lang/Exception"]).filter goodWord)
def wsX5_over : List Cond := .code yX5_over cX5_over 4 (some .int) :: ([.fieldLink RX5 49 "RasterCoverModel" "planes" "I", .fieldLink RX5 55 "RasterCoverModel" "thrown" "I", .fieldLink RX5 16 "RasterCoverModel" "isOver" "[Z"] ++ wsX50 ++ (vx_atM "java/lang/ArrayIndexOutOfBoundsException" ["java/lang/IndexOutOfBoundsException", "java/lang/RuntimeException", "java/lang/Exception"]).filter goodWord)
def wsJx00060_init_a7421 : List Cond := .code yJx00060_init_a7421 cJx00060_init_a7421 2 none :: ([])
def wsJ9_abs_0f7a4 : List Cond := .code yJ9_abs_0f7a4 cJ9_abs_0f7a4 1 (some .int) :: ([])
def wsJ9_max_7cf53 : List Cond := .code yJ9_max_7cf53 cJ9_max_7cf53 2 (some .int) :: ([])
def wsJ9_max_f86c9 : List Cond := .code yJ9_max_f86c9 cJ9_max_f86c9 4 (some .long) :: ([])
def wsJ9_min_7cf53 : List Cond := .code yJ9_min_7cf53 cJ9_min_7cf53 2 (some .int) :: ([])
def wsJ9_min_f86c9 : List Cond := .code yJ9_min_f86c9 cJ9_min_f86c9 4 (some .long) :: ([])
def wsL_cell : List Cond := .code yL_cell cL_cell 2 (some .int) :: ([] ++ (vx_atM "java/lang/ArrayIndexOutOfBoundsException" ["java/lang/IndexOutOfBoundsException", "java/lang/RuntimeException", "java/lang/Exception"]).filter goodWord)
def wsL_move_r1 : List Cond := [Cond.classLink RL 13 "java/lang/UnsupportedOperationException", Cond.methodLink RL 7 yX4_move, Cond.instanceMethod yX4_move, Cond.selects RX4 yX4_move yX4_move, Cond.initialized RX4, Cond.code yX4_move cX4_move 5 (some .int), Cond.fieldLink RX4 37 "RasterCover" "path" "LRasterCover$Path;", Cond.methodLink RX4 72 yX4_needRoom, Cond.instanceMethod yX4_needRoom, Cond.selects RX4 yX4_needRoom yX4_needRoom, Cond.code yX4_needRoom cX4_needRoom 2 none, Cond.classLink RX4 148 "java/lang/UnsupportedOperationException", Cond.initialized "java/lang/UnsupportedOperationException", Cond.methodLink RX4 75 yX4_cutPlace, Cond.static yX4_cutPlace, Cond.code yX4_cutPlace cX4_cutPlace 2 (some .int), Cond.constantLong RX4 165 (-1048576), Cond.constantLong RX4 167 (1048576), Cond.methodLink RX4 169 Lib.MathLoose.min_long.x, Cond.static Lib.MathLoose.min_long.x, Cond.initialized "java/lang/Math", Cond.code Lib.MathLoose.min_long.x Lib.MathLoose.min_long.code 4 (some .long), Cond.methodLink RX4 172 Lib.MathLoose.max_long.x, Cond.static Lib.MathLoose.max_long.x]
def wsL_move_r2 : List Cond := [Cond.code Lib.MathLoose.max_long.x Lib.MathLoose.max_long.code 4 (some .long), Cond.instanceMethod yX2_begin, Cond.initialized RX2, Cond.selects RX2 yX2_begin yX2_begin, Cond.code yX2_begin cX2_begin 3 none, Cond.methodLink RX2 24 yX2_add, Cond.instanceMethod yX2_add, Cond.selects RX2 yX2_add yX2_add, Cond.code yX2_add cX2_add 4 none, Cond.fieldLink RX2 20 "RasterCover$Path" "count" "I", Cond.fieldLink RX2 9 "RasterCover$Path" "xs" "[I", Cond.fieldLink RX2 13 "RasterCover$Path" "ys" "[I", Cond.fieldLink RX2 16 "RasterCover$Path" "begins" "[Z"]
def wsL_move : List Cond := .codeWith yL_move cL_move 7 (some .int) [(0, 11, 14, 13)] :: ((wsL_move_r1 ++ wsL_move_r2) ++ wsX40 ++ wsX20 ++ (vx_atM "java/lang/ArrayIndexOutOfBoundsException" ["java/lang/IndexOutOfBoundsException", "java/lang/RuntimeException", "java/lang/Exception"]).filter goodWord ++ (vx_atS RX4 152 "java/lang/UnsupportedOperationException" ["java/lang/RuntimeException", "java/lang/Exception"]).filter goodWord)
def wsL_line_r1 : List Cond := [Cond.classLink RL 18 "java/lang/IllegalStateException", Cond.classLink RL 13 "java/lang/UnsupportedOperationException", Cond.methodLink RL 15 yX4_line, Cond.instanceMethod yX4_line, Cond.selects RX4 yX4_line yX4_line, Cond.initialized RX4, Cond.code yX4_line cX4_line 5 (some .int), Cond.classLink RX4 86 "java/lang/IllegalStateException", Cond.initialized "java/lang/IllegalStateException", Cond.fieldLink RX4 37 "RasterCover" "path" "LRasterCover$Path;", Cond.methodLink RX4 72 yX4_needRoom, Cond.instanceMethod yX4_needRoom, Cond.selects RX4 yX4_needRoom yX4_needRoom, Cond.code yX4_needRoom cX4_needRoom 2 none, Cond.classLink RX4 148 "java/lang/UnsupportedOperationException", Cond.initialized "java/lang/UnsupportedOperationException", Cond.methodLink RX4 75 yX4_cutPlace, Cond.static yX4_cutPlace, Cond.code yX4_cutPlace cX4_cutPlace 2 (some .int), Cond.constantLong RX4 165 (-1048576), Cond.constantLong RX4 167 (1048576), Cond.methodLink RX4 169 Lib.MathLoose.min_long.x, Cond.static Lib.MathLoose.min_long.x, Cond.initialized "java/lang/Math"]
def wsL_line_r2 : List Cond := [Cond.code Lib.MathLoose.min_long.x Lib.MathLoose.min_long.code 4 (some .long), Cond.methodLink RX4 172 Lib.MathLoose.max_long.x, Cond.static Lib.MathLoose.max_long.x, Cond.code Lib.MathLoose.max_long.x Lib.MathLoose.max_long.code 4 (some .long), Cond.instanceMethod yX2_join, Cond.initialized RX2, Cond.selects RX2 yX2_join yX2_join, Cond.code yX2_join cX2_join 3 none, Cond.methodLink RX2 24 yX2_add, Cond.instanceMethod yX2_add, Cond.selects RX2 yX2_add yX2_add, Cond.code yX2_add cX2_add 4 none, Cond.fieldLink RX2 20 "RasterCover$Path" "count" "I", Cond.fieldLink RX2 9 "RasterCover$Path" "xs" "[I", Cond.fieldLink RX2 13 "RasterCover$Path" "ys" "[I", Cond.fieldLink RX2 16 "RasterCover$Path" "begins" "[Z"]
def wsL_line : List Cond := .codeWith yL_line cL_line 7 (some .int) [(0, 11, 14, 18), (0, 11, 18, 13)] :: ((wsL_line_r1 ++ wsL_line_r2) ++ wsX40 ++ wsX20 ++ (vx_atM "java/lang/ArrayIndexOutOfBoundsException" ["java/lang/IndexOutOfBoundsException", "java/lang/RuntimeException", "java/lang/Exception"]).filter goodWord ++ (vx_atS RX4 90 "java/lang/IllegalStateException" ["java/lang/RuntimeException", "java/lang/Exception"]).filter goodWord ++ (vx_atS RX4 152 "java/lang/UnsupportedOperationException" ["java/lang/RuntimeException", "java/lang/Exception"]).filter goodWord)
def wsL_hair_r1 : List Cond := [Cond.classLink RL 13 "java/lang/UnsupportedOperationException", Cond.methodLink RL 20 yX4_hair, Cond.instanceMethod yX4_hair, Cond.selects RX4 yX4_hair yX4_hair, Cond.initialized RX4, Cond.code yX4_hair cX4_hair 9 (some .int), Cond.fieldLink RX4 37 "RasterCover" "path" "LRasterCover$Path;", Cond.methodLink RX4 72 yX4_needRoom, Cond.instanceMethod yX4_needRoom, Cond.selects RX4 yX4_needRoom yX4_needRoom, Cond.code yX4_needRoom cX4_needRoom 2 none, Cond.classLink RX4 148 "java/lang/UnsupportedOperationException", Cond.initialized "java/lang/UnsupportedOperationException", Cond.methodLink RX4 75 yX4_cutPlace, Cond.static yX4_cutPlace, Cond.code yX4_cutPlace cX4_cutPlace 2 (some .int), Cond.constantLong RX4 165 (-1048576), Cond.constantLong RX4 167 (1048576), Cond.methodLink RX4 169 Lib.MathLoose.min_long.x, Cond.static Lib.MathLoose.min_long.x, Cond.initialized "java/lang/Math", Cond.code Lib.MathLoose.min_long.x Lib.MathLoose.min_long.code 4 (some .long), Cond.methodLink RX4 172 Lib.MathLoose.max_long.x, Cond.static Lib.MathLoose.max_long.x]
def wsL_hair_r2 : List Cond := [Cond.code Lib.MathLoose.max_long.x Lib.MathLoose.max_long.code 4 (some .long), Cond.methodLink RX4 96 yX4_addHair, Cond.instanceMethod yX4_addHair, Cond.selects RX4 yX4_addHair yX4_addHair, Cond.code yX4_addHair cX4_addHair 8 none, Cond.methodLink RX4 174 Lib.Math.abs.name, Cond.static Lib.Math.abs.name, Cond.code Lib.Math.abs.name Lib.Math.abs.code 1 (some .int), Cond.instanceMethod yX2_begin, Cond.initialized RX2, Cond.selects RX2 yX2_begin yX2_begin, Cond.code yX2_begin cX2_begin 3 none, Cond.methodLink RX2 24 yX2_add, Cond.instanceMethod yX2_add, Cond.selects RX2 yX2_add yX2_add, Cond.code yX2_add cX2_add 4 none, Cond.fieldLink RX2 20 "RasterCover$Path" "count" "I", Cond.fieldLink RX2 9 "RasterCover$Path" "xs" "[I", Cond.fieldLink RX2 13 "RasterCover$Path" "ys" "[I", Cond.fieldLink RX2 16 "RasterCover$Path" "begins" "[Z", Cond.instanceMethod yX2_join, Cond.selects RX2 yX2_join yX2_join, Cond.code yX2_join cX2_join 3 none]
def wsL_hair : List Cond := .codeWith yL_hair cL_hair 11 (some .int) [(0, 15, 18, 13)] :: ((wsL_hair_r1 ++ wsL_hair_r2) ++ wsX40 ++ wsX20 ++ (vx_atM "java/lang/ArrayIndexOutOfBoundsException" ["java/lang/IndexOutOfBoundsException", "java/lang/RuntimeException", "java/lang/Exception"]).filter goodWord ++ (vx_atS RX4 152 "java/lang/UnsupportedOperationException" ["java/lang/RuntimeException", "java/lang/Exception"]).filter goodWord)
def wsL_fill_r1 : List Cond := [Cond.classLink RL 28 "java/lang/IllegalArgumentException", Cond.classLink RL 30 "java/lang/ArrayIndexOutOfBoundsException", Cond.methodLink RL 24 yX4_fill, Cond.instanceMethod yX4_fill, Cond.selects RX4 yX4_fill yX4_fill, Cond.initialized RX4, Cond.code yX4_fill cX4_fill 6 (some .int), Cond.fieldLink RX4 57 "RasterCover" "bandFrom" "I", Cond.fieldLink RX4 60 "RasterCover" "bandTo" "I", Cond.fieldLink RX4 46 "RasterCover" "rowCover" "LRasterCover$RowCover;", Cond.fieldLink RX4 37 "RasterCover" "path" "LRasterCover$Path;", Cond.fieldLink RX4 63 "RasterCover" "fills" "I", Cond.methodLink RX4 100 yX4_needRule, Cond.static yX4_needRule, Cond.code yX4_needRule cX4_needRule 1 none, Cond.classLink RX4 153 "java/lang/IllegalArgumentException", Cond.initialized "java/lang/IllegalArgumentException", Cond.methodLink RX4 103 yX4_needPlane, Cond.instanceMethod yX4_needPlane, Cond.selects RX4 yX4_needPlane yX4_needPlane, Cond.code yX4_needPlane cX4_needPlane 2 none, Cond.fieldLink RX4 20 "RasterCover" "planes" "I", Cond.classLink RX4 143 RJx00060, Cond.instantiable RJx00060 6]
def wsL_fill_r2 : List Cond := [Cond.initialized RJx00060, Cond.instanceMethod yX3_measure, Cond.initialized RX3, Cond.selects RX3 yX3_measure yX3_measure, Cond.code yX3_measure cX3_measure 5 none, Cond.fieldLink RX3 18 "RasterCover$RowCover" "units" "[I", Cond.fieldLink RX3 12 "RasterCover$RowCover" "crossings" "LRasterCover$Crossings;", Cond.methodLink RX3 22 yJ7_fill_53178, Cond.static yJ7_fill_53178, Cond.initialized RJ7, Cond.code yJ7_fill_53178 cJ7_fill_53178 4 none, Cond.instanceMethod yX0_collect, Cond.initialized RX0, Cond.selects RX0 yX0_collect yX0_collect, Cond.code yX0_collect cX0_collect 7 none, Cond.fieldLink RX0 18 "RasterCover$Crossings" "count" "I", Cond.methodLink RX0 30 yX0_cross, Cond.instanceMethod yX0_cross, Cond.selects RX0 yX0_cross yX0_cross, Cond.code yX0_cross cX0_cross 10 none, Cond.methodLink RX0 35 yJ9_floorDiv_f86c9, Cond.static yJ9_floorDiv_f86c9, Cond.initialized RJ9, Cond.code yJ9_floorDiv_f86c9 cJ9_floorDiv_f86c9 6 (some .long)]
def wsL_fill_r3 : List Cond := [Cond.methodLink RX0 41 yX0_insert, Cond.instanceMethod yX0_insert, Cond.selects RX0 yX0_insert yX0_insert, Cond.code yX0_insert cX0_insert 4 none, Cond.fieldLink RX0 9 "RasterCover$Crossings" "xs" "[I", Cond.fieldLink RX0 15 "RasterCover$Crossings" "turns" "[I", Cond.methodLink RX3 32 yX3_addSubRow, Cond.instanceMethod yX3_addSubRow, Cond.selects RX3 yX3_addSubRow yX3_addSubRow, Cond.code yX3_addSubRow cX3_addSubRow 5 none, Cond.methodLink RX3 46 yX3_addSpan, Cond.instanceMethod yX3_addSpan, Cond.selects RX3 yX3_addSpan yX3_addSpan, Cond.code yX3_addSpan cX3_addSpan 7 none, Cond.methodLink RX3 50 Lib.Math.max.name, Cond.static Lib.Math.max.name, Cond.initialized "java/lang/Math", Cond.code Lib.Math.max.name Lib.Math.max.code 2 (some .int), Cond.methodLink RX3 56 Lib.Math.min.name, Cond.static Lib.Math.min.name, Cond.code Lib.Math.min.name Lib.Math.min.code 2 (some .int), Cond.methodLink RX4 110 yX4_paintRow, Cond.instanceMethod yX4_paintRow, Cond.selects RX4 yX4_paintRow yX4_paintRow]
def wsL_fill_r4 : List Cond := [Cond.code yX4_paintRow cX4_paintRow 8 (some .int), Cond.fieldLink RX4 13 "RasterCover" "width" "I", Cond.fieldLink RX4 27 "RasterCover" "clips" "[I", Cond.instanceMethod yX3_at, Cond.selects RX3 yX3_at yX3_at, Cond.code yX3_at cX3_at 2 (some .int), Cond.methodLink RX4 177 yX4_mul, Cond.static yX4_mul, Cond.code yX4_mul cX4_mul 2 (some .int), Cond.methodLink RX4 180 yX4_paintPoint, Cond.instanceMethod yX4_paintPoint, Cond.selects RX4 yX4_paintPoint yX4_paintPoint, Cond.code yX4_paintPoint cX4_paintPoint 7 none, Cond.fieldLink RX4 17 "RasterCover" "height" "I", Cond.fieldLink RX4 23 "RasterCover" "bytes" "[I", Cond.fieldLink RX4 30 "RasterCover" "overs" "[Z", Cond.methodLink RX4 183 yX4_blend, Cond.static yX4_blend, Cond.code yX4_blend cX4_blend 3 (some .int), Cond.instanceMethod yX2_clear, Cond.initialized RX2, Cond.selects RX2 yX2_clear yX2_clear, Cond.code yX2_clear cX2_clear 1 none, Cond.fieldLink RX2 20 "RasterCover$Path" "count" "I"]
def wsL_fill : List Cond := .codeWith yL_fill cL_fill 6 (some .int) [(0, 12, 15, 28), (0, 12, 19, 30)] :: ((wsL_fill_r1 ++ (wsL_fill_r2 ++ (wsL_fill_r3 ++ wsL_fill_r4))) ++ wsX40 ++ wsJx000600 ++ wsX30 ++ wsX00 ++ wsX20 ++ (vx_atM "java/lang/ArrayIndexOutOfBoundsException" ["java/lang/IndexOutOfBoundsException", "java/lang/RuntimeException", "java/lang/Exception"]).filter goodWord ++ (vx_atS RX4 157 "java/lang/IllegalArgumentException" ["java/lang/RuntimeException", "java/lang/Exception"]).filter goodWord)
def wsL_clip_r1 : List Cond := [Cond.classLink RL 28 "java/lang/IllegalArgumentException", Cond.methodLink RL 32 yX4_clip, Cond.instanceMethod yX4_clip, Cond.selects RX4 yX4_clip yX4_clip, Cond.initialized RX4, Cond.code yX4_clip cX4_clip 4 (some .int), Cond.fieldLink RX4 17 "RasterCover" "height" "I", Cond.fieldLink RX4 46 "RasterCover" "rowCover" "LRasterCover$RowCover;", Cond.fieldLink RX4 37 "RasterCover" "path" "LRasterCover$Path;", Cond.methodLink RX4 100 yX4_needRule, Cond.static yX4_needRule, Cond.code yX4_needRule cX4_needRule 1 none, Cond.classLink RX4 153 "java/lang/IllegalArgumentException", Cond.initialized "java/lang/IllegalArgumentException", Cond.instanceMethod yX3_measure, Cond.initialized RX3, Cond.selects RX3 yX3_measure yX3_measure, Cond.code yX3_measure cX3_measure 5 none, Cond.fieldLink RX3 18 "RasterCover$RowCover" "units" "[I", Cond.fieldLink RX3 12 "RasterCover$RowCover" "crossings" "LRasterCover$Crossings;", Cond.methodLink RX3 22 yJ7_fill_53178, Cond.static yJ7_fill_53178, Cond.initialized RJ7, Cond.code yJ7_fill_53178 cJ7_fill_53178 4 none]
def wsL_clip_r2 : List Cond := [Cond.instanceMethod yX0_collect, Cond.initialized RX0, Cond.selects RX0 yX0_collect yX0_collect, Cond.code yX0_collect cX0_collect 7 none, Cond.fieldLink RX0 18 "RasterCover$Crossings" "count" "I", Cond.methodLink RX0 30 yX0_cross, Cond.instanceMethod yX0_cross, Cond.selects RX0 yX0_cross yX0_cross, Cond.code yX0_cross cX0_cross 10 none, Cond.methodLink RX0 35 yJ9_floorDiv_f86c9, Cond.static yJ9_floorDiv_f86c9, Cond.initialized RJ9, Cond.code yJ9_floorDiv_f86c9 cJ9_floorDiv_f86c9 6 (some .long), Cond.methodLink RX0 41 yX0_insert, Cond.instanceMethod yX0_insert, Cond.selects RX0 yX0_insert yX0_insert, Cond.code yX0_insert cX0_insert 4 none, Cond.fieldLink RX0 9 "RasterCover$Crossings" "xs" "[I", Cond.fieldLink RX0 15 "RasterCover$Crossings" "turns" "[I", Cond.methodLink RX3 32 yX3_addSubRow, Cond.instanceMethod yX3_addSubRow, Cond.selects RX3 yX3_addSubRow yX3_addSubRow, Cond.code yX3_addSubRow cX3_addSubRow 5 none, Cond.methodLink RX3 46 yX3_addSpan]
def wsL_clip_r3 : List Cond := [Cond.instanceMethod yX3_addSpan, Cond.selects RX3 yX3_addSpan yX3_addSpan, Cond.code yX3_addSpan cX3_addSpan 7 none, Cond.methodLink RX3 50 Lib.Math.max.name, Cond.static Lib.Math.max.name, Cond.initialized "java/lang/Math", Cond.code Lib.Math.max.name Lib.Math.max.code 2 (some .int), Cond.methodLink RX3 56 Lib.Math.min.name, Cond.static Lib.Math.min.name, Cond.code Lib.Math.min.name Lib.Math.min.code 2 (some .int), Cond.methodLink RX4 117 yX4_clipRow, Cond.instanceMethod yX4_clipRow, Cond.selects RX4 yX4_clipRow yX4_clipRow, Cond.code yX4_clipRow cX4_clipRow 5 (some .int), Cond.fieldLink RX4 13 "RasterCover" "width" "I", Cond.fieldLink RX4 27 "RasterCover" "clips" "[I", Cond.instanceMethod yX3_at, Cond.selects RX3 yX3_at yX3_at, Cond.code yX3_at cX3_at 2 (some .int), Cond.methodLink RX4 177 yX4_mul, Cond.static yX4_mul, Cond.code yX4_mul cX4_mul 2 (some .int), Cond.instanceMethod yX2_clear, Cond.initialized RX2]
def wsL_clip_r4 : List Cond := [Cond.selects RX2 yX2_clear yX2_clear, Cond.code yX2_clear cX2_clear 1 none, Cond.fieldLink RX2 20 "RasterCover$Path" "count" "I"]
def wsL_clip : List Cond := .codeWith yL_clip cL_clip 4 (some .int) [(0, 9, 12, 28)] :: ((wsL_clip_r1 ++ (wsL_clip_r2 ++ (wsL_clip_r3 ++ wsL_clip_r4))) ++ wsX40 ++ wsX30 ++ wsX00 ++ wsX20 ++ (vx_atM "java/lang/ArrayIndexOutOfBoundsException" ["java/lang/IndexOutOfBoundsException", "java/lang/RuntimeException", "java/lang/Exception"]).filter goodWord ++ (vx_atS RX4 157 "java/lang/IllegalArgumentException" ["java/lang/RuntimeException", "java/lang/Exception"]).filter goodWord)
def wsL_point : List Cond := .codeWith yL_point cL_point 6 (some .int) [(0, 12, 15, 30)] :: ([.classLink RL 30 "java/lang/ArrayIndexOutOfBoundsException", .methodLink RL 36 yX4_point, .instanceMethod yX4_point, .selects RX4 yX4_point yX4_point, .initialized RX4, .code yX4_point cX4_point 4 (some .int), .fieldLink RX4 23 "RasterCover" "bytes" "[I", .fieldLink RX4 17 "RasterCover" "height" "I", .fieldLink RX4 13 "RasterCover" "width" "I", .methodLink RX4 121 yX4_needPoint, .instanceMethod yX4_needPoint, .selects RX4 yX4_needPoint yX4_needPoint, .code yX4_needPoint cX4_needPoint 3 none, .classLink RX4 143 RJx00060, .instantiable RJx00060 6, .initialized RJx00060, .methodLink RX4 103 yX4_needPlane, .instanceMethod yX4_needPlane, .selects RX4 yX4_needPlane yX4_needPlane, .code yX4_needPlane cX4_needPlane 2 none, .fieldLink RX4 20 "RasterCover" "planes" "I"] ++ wsX40 ++ wsJx000600 ++ (vx_atM "java/lang/ArrayIndexOutOfBoundsException" ["java/lang/IndexOutOfBoundsException", "java/lang/RuntimeException", "java/lang/Exception"]).filter goodWord)
def wsL_cover_r1 : List Cond := [Cond.classLink RL 30 "java/lang/ArrayIndexOutOfBoundsException", Cond.methodLink RL 39 yX4_cover, Cond.instanceMethod yX4_cover, Cond.selects RX4 yX4_cover yX4_cover, Cond.initialized RX4, Cond.code yX4_cover cX4_cover 3 (some .int), Cond.fieldLink RX4 46 "RasterCover" "rowCover" "LRasterCover$RowCover;", Cond.fieldLink RX4 37 "RasterCover" "path" "LRasterCover$Path;", Cond.methodLink RX4 121 yX4_needPoint, Cond.instanceMethod yX4_needPoint, Cond.selects RX4 yX4_needPoint yX4_needPoint, Cond.code yX4_needPoint cX4_needPoint 3 none, Cond.fieldLink RX4 13 "RasterCover" "width" "I", Cond.fieldLink RX4 17 "RasterCover" "height" "I", Cond.classLink RX4 143 RJx00060, Cond.instantiable RJx00060 6, Cond.initialized RJx00060, Cond.instanceMethod yX3_measure, Cond.initialized RX3, Cond.selects RX3 yX3_measure yX3_measure, Cond.code yX3_measure cX3_measure 5 none, Cond.fieldLink RX3 18 "RasterCover$RowCover" "units" "[I", Cond.fieldLink RX3 12 "RasterCover$RowCover" "crossings" "LRasterCover$Crossings;", Cond.methodLink RX3 22 yJ7_fill_53178]
def wsL_cover_r2 : List Cond := [Cond.static yJ7_fill_53178, Cond.initialized RJ7, Cond.code yJ7_fill_53178 cJ7_fill_53178 4 none, Cond.instanceMethod yX0_collect, Cond.initialized RX0, Cond.selects RX0 yX0_collect yX0_collect, Cond.code yX0_collect cX0_collect 7 none, Cond.fieldLink RX0 18 "RasterCover$Crossings" "count" "I", Cond.methodLink RX0 30 yX0_cross, Cond.instanceMethod yX0_cross, Cond.selects RX0 yX0_cross yX0_cross, Cond.code yX0_cross cX0_cross 10 none, Cond.methodLink RX0 35 yJ9_floorDiv_f86c9, Cond.static yJ9_floorDiv_f86c9, Cond.initialized RJ9, Cond.code yJ9_floorDiv_f86c9 cJ9_floorDiv_f86c9 6 (some .long), Cond.methodLink RX0 41 yX0_insert, Cond.instanceMethod yX0_insert, Cond.selects RX0 yX0_insert yX0_insert, Cond.code yX0_insert cX0_insert 4 none, Cond.fieldLink RX0 9 "RasterCover$Crossings" "xs" "[I", Cond.fieldLink RX0 15 "RasterCover$Crossings" "turns" "[I", Cond.methodLink RX3 32 yX3_addSubRow, Cond.instanceMethod yX3_addSubRow]
def wsL_cover_r3 : List Cond := [Cond.selects RX3 yX3_addSubRow yX3_addSubRow, Cond.code yX3_addSubRow cX3_addSubRow 5 none, Cond.methodLink RX3 46 yX3_addSpan, Cond.instanceMethod yX3_addSpan, Cond.selects RX3 yX3_addSpan yX3_addSpan, Cond.code yX3_addSpan cX3_addSpan 7 none, Cond.methodLink RX3 50 Lib.Math.max.name, Cond.static Lib.Math.max.name, Cond.initialized "java/lang/Math", Cond.code Lib.Math.max.name Lib.Math.max.code 2 (some .int), Cond.methodLink RX3 56 Lib.Math.min.name, Cond.static Lib.Math.min.name, Cond.code Lib.Math.min.name Lib.Math.min.code 2 (some .int), Cond.instanceMethod yX3_at, Cond.selects RX3 yX3_at yX3_at, Cond.code yX3_at cX3_at 2 (some .int)]
def wsL_cover : List Cond := .codeWith yL_cover cL_cover 5 (some .int) [(0, 10, 13, 30)] :: ((wsL_cover_r1 ++ (wsL_cover_r2 ++ wsL_cover_r3)) ++ wsX40 ++ wsJx000600 ++ wsX30 ++ wsX00 ++ wsX20 ++ (vx_atM "java/lang/ArrayIndexOutOfBoundsException" ["java/lang/IndexOutOfBoundsException", "java/lang/RuntimeException", "java/lang/Exception"]).filter goodWord)
def wsL_packed : List Cond := .codeWith yL_packed cL_packed 4 (some .int) [(0, 9, 12, 30)] :: ([.classLink RL 30 "java/lang/ArrayIndexOutOfBoundsException", .methodLink RL 43 yX4_packed, .instanceMethod yX4_packed, .selects RX4 yX4_packed yX4_packed, .initialized RX4, .code yX4_packed cX4_packed 4 (some .byte), .fieldLink RX4 20 "RasterCover" "planes" "I", .fieldLink RX4 17 "RasterCover" "height" "I", .fieldLink RX4 53 "RasterCover" "packedRow" "LRasterCover$PackedRow;", .fieldLink RX4 23 "RasterCover" "bytes" "[I", .fieldLink RX4 13 "RasterCover" "width" "I", .classLink RX4 143 RJx00060, .instantiable RJx00060 6, .initialized RJx00060, .instanceMethod yX1_pack, .initialized RX1, .selects RX1 yX1_pack yX1_pack, .code yX1_pack cX1_pack 7 none, .fieldLink RX1 7 "RasterCover$PackedRow" "size" "I", .fieldLink RX1 13 "RasterCover$PackedRow" "signs" "[B", .methodLink RX1 17 yX1_put, .instanceMethod yX1_put, .selects RX1 yX1_put yX1_put, .code yX1_put cX1_put 2 none] ++ wsX40 ++ wsX10 ++ wsJx000600 ++ (vx_atM "java/lang/ArrayIndexOutOfBoundsException" ["java/lang/IndexOutOfBoundsException", "java/lang/RuntimeException", "java/lang/Exception"]).filter goodWord)
def wsL_over : List Cond := .codeWith yL_over cL_over 5 (some .int) [(0, 10, 13, 30)] :: ([.classLink RL 30 "java/lang/ArrayIndexOutOfBoundsException", .methodLink RL 47 yX4_over, .instanceMethod yX4_over, .selects RX4 yX4_over yX4_over, .initialized RX4, .code yX4_over cX4_over 4 (some .int), .fieldLink RX4 30 "RasterCover" "overs" "[Z", .methodLink RX4 103 yX4_needPlane, .instanceMethod yX4_needPlane, .selects RX4 yX4_needPlane yX4_needPlane, .code yX4_needPlane cX4_needPlane 2 none, .fieldLink RX4 20 "RasterCover" "planes" "I", .classLink RX4 143 RJx00060, .instantiable RJx00060 6, .initialized RJx00060] ++ wsX40 ++ wsJx000600 ++ (vx_atM "java/lang/ArrayIndexOutOfBoundsException" ["java/lang/IndexOutOfBoundsException", "java/lang/RuntimeException", "java/lang/Exception"]).filter goodWord)
def wsL_law0_r1 : List Cond := [Cond.classLink RL 8 RX4, Cond.instantiable RX4 12, Cond.initialized RX4, Cond.classLink RL 60 RX5, Cond.instantiable RX5 21, Cond.initialized RX5, Cond.arrayClass .long, Cond.constantLong RL 63 (4294967295), Cond.methodLink RL 51 yL_cell, Cond.static yL_cell, Cond.initialized RL, Cond.code yL_cell cL_cell 2 (some .int), Cond.methodLink RL 57 yX4_init, Cond.instanceMethod yX4_init, Cond.code yX4_init cX4_init 4 none, Cond.methodLink RX4 1 objectInit, Cond.instanceMethod objectInit, Cond.code objectInit ⟨#[0xb1]⟩ 1 none, Cond.fieldLink RX4 13 "RasterCover" "width" "I", Cond.fieldLink RX4 17 "RasterCover" "height" "I", Cond.fieldLink RX4 20 "RasterCover" "planes" "I", Cond.arrayClass .int, Cond.fieldLink RX4 23 "RasterCover" "bytes" "[I", Cond.fieldLink RX4 27 "RasterCover" "clips" "[I"]
def wsL_law0_r2 : List Cond := [Cond.arrayClass .boolean, Cond.fieldLink RX4 30 "RasterCover" "overs" "[Z", Cond.classLink RX4 34 RX2, Cond.instantiable RX2 4, Cond.initialized RX2, Cond.fieldLink RX4 37 "RasterCover" "path" "LRasterCover$Path;", Cond.classLink RX4 41 RX3, Cond.instantiable RX3 2, Cond.initialized RX3, Cond.fieldLink RX4 46 "RasterCover" "rowCover" "LRasterCover$RowCover;", Cond.classLink RX4 50 RX1, Cond.instantiable RX1 2, Cond.initialized RX1, Cond.fieldLink RX4 53 "RasterCover" "packedRow" "LRasterCover$PackedRow;", Cond.fieldLink RX4 57 "RasterCover" "bandFrom" "I", Cond.fieldLink RX4 60 "RasterCover" "bandTo" "I", Cond.fieldLink RX4 63 "RasterCover" "fills" "I", Cond.methodLink RX4 9 yX4_cut, Cond.static yX4_cut, Cond.code yX4_cut cX4_cut 2 (some .int), Cond.methodLink RX4 162 Lib.Math.min.name, Cond.static Lib.Math.min.name, Cond.initialized "java/lang/Math", Cond.code Lib.Math.min.name Lib.Math.min.code 2 (some .int)]
def wsL_law0_r3 : List Cond := [Cond.methodLink RX4 127 Lib.Math.max.name, Cond.static Lib.Math.max.name, Cond.code Lib.Math.max.name Lib.Math.max.code 2 (some .int), Cond.instanceMethod yX2_init, Cond.code yX2_init cX2_init 1 none, Cond.methodLink RX2 1 objectInit, Cond.fieldLink RX2 9 "RasterCover$Path" "xs" "[I", Cond.fieldLink RX2 13 "RasterCover$Path" "ys" "[I", Cond.fieldLink RX2 16 "RasterCover$Path" "begins" "[Z", Cond.fieldLink RX2 20 "RasterCover$Path" "count" "I", Cond.instanceMethod yX3_init, Cond.code yX3_init cX3_init 2 none, Cond.methodLink RX3 3 objectInit, Cond.classLink RX3 9 RX0, Cond.instantiable RX0 3, Cond.initialized RX0, Cond.fieldLink RX3 12 "RasterCover$RowCover" "crossings" "LRasterCover$Crossings;", Cond.fieldLink RX3 18 "RasterCover$RowCover" "units" "[I", Cond.instanceMethod yX0_init, Cond.code yX0_init cX0_init 1 none, Cond.methodLink RX0 1 objectInit, Cond.fieldLink RX0 9 "RasterCover$Crossings" "xs" "[I", Cond.fieldLink RX0 15 "RasterCover$Crossings" "turns" "[I", Cond.fieldLink RX0 18 "RasterCover$Crossings" "count" "I"]
def wsL_law0_r4 : List Cond := [Cond.instanceMethod yX1_init, Cond.code yX1_init cX1_init 2 none, Cond.methodLink RX1 1 objectInit, Cond.fieldLink RX1 7 "RasterCover$PackedRow" "size" "I", Cond.arrayClass .byte, Cond.fieldLink RX1 13 "RasterCover$PackedRow" "signs" "[B", Cond.methodLink RX4 66 yJ7_fill_53178, Cond.static yJ7_fill_53178, Cond.initialized RJ7, Cond.code yJ7_fill_53178 cJ7_fill_53178 4 none, Cond.methodLink RL 62 yX5_init, Cond.instanceMethod yX5_init, Cond.code yX5_init cX5_init 5 none, Cond.methodLink RX5 1 objectInit, Cond.fieldLink RX5 7 "RasterCoverModel" "bytes" "[I", Cond.fieldLink RX5 13 "RasterCoverModel" "clips" "[I", Cond.fieldLink RX5 16 "RasterCoverModel" "isOver" "[Z", Cond.fieldLink RX5 20 "RasterCoverModel" "px" "[J", Cond.fieldLink RX5 24 "RasterCoverModel" "py" "[J", Cond.fieldLink RX5 27 "RasterCoverModel" "begins" "[Z", Cond.fieldLink RX5 30 "RasterCoverModel" "place" "[J", Cond.fieldLink RX5 33 "RasterCoverModel" "turn" "[I", Cond.fieldLink RX5 36 "RasterCoverModel" "units" "[I", Cond.fieldLink RX5 39 "RasterCoverModel" "packed" "[I"]
def wsL_law0_r5 : List Cond := [Cond.fieldLink RX5 42 "RasterCoverModel" "wide" "I", Cond.fieldLink RX5 46 "RasterCoverModel" "high" "I", Cond.fieldLink RX5 49 "RasterCoverModel" "planes" "I", Cond.fieldLink RX5 52 "RasterCoverModel" "to" "I", Cond.methodLink RL 65 yL_move, Cond.static yL_move, Cond.codeWith yL_move cL_move 7 (some .int) [(0, 11, 14, 13)], Cond.classLink RL 13 "java/lang/UnsupportedOperationException", Cond.methodLink RL 7 yX4_move, Cond.instanceMethod yX4_move, Cond.selects RX4 yX4_move yX4_move, Cond.code yX4_move cX4_move 5 (some .int), Cond.methodLink RX4 72 yX4_needRoom, Cond.instanceMethod yX4_needRoom, Cond.selects RX4 yX4_needRoom yX4_needRoom, Cond.code yX4_needRoom cX4_needRoom 2 none, Cond.classLink RX4 148 "java/lang/UnsupportedOperationException", Cond.initialized "java/lang/UnsupportedOperationException", Cond.methodLink RX4 75 yX4_cutPlace, Cond.static yX4_cutPlace, Cond.code yX4_cutPlace cX4_cutPlace 2 (some .int), Cond.constantLong RX4 165 (-1048576), Cond.constantLong RX4 167 (1048576), Cond.methodLink RX4 169 Lib.MathLoose.min_long.x]
def wsL_law0_r6 : List Cond := [Cond.static Lib.MathLoose.min_long.x, Cond.code Lib.MathLoose.min_long.x Lib.MathLoose.min_long.code 4 (some .long), Cond.methodLink RX4 172 Lib.MathLoose.max_long.x, Cond.static Lib.MathLoose.max_long.x, Cond.code Lib.MathLoose.max_long.x Lib.MathLoose.max_long.code 4 (some .long), Cond.instanceMethod yX2_begin, Cond.selects RX2 yX2_begin yX2_begin, Cond.code yX2_begin cX2_begin 3 none, Cond.methodLink RX2 24 yX2_add, Cond.instanceMethod yX2_add, Cond.selects RX2 yX2_add yX2_add, Cond.code yX2_add cX2_add 4 none, Cond.methodLink RL 68 yX5_move, Cond.instanceMethod yX5_move, Cond.selects RX5 yX5_move yX5_move, Cond.code yX5_move cX5_move 5 (some .int), Cond.fieldLink RX5 62 "RasterCoverModel" "points" "I", Cond.fieldLink RX5 55 "RasterCoverModel" "thrown" "I", Cond.methodLink RX5 65 yX5_cut, Cond.static yX5_cut, Cond.code yX5_cut cX5_cut 2 (some .long), Cond.constantLong RX5 58 (-1048576), Cond.constantLong RX5 60 (1048576), Cond.methodLink RX5 69 yX5_add]
def wsL_law0_r7 : List Cond := [Cond.instanceMethod yX5_add, Cond.selects RX5 yX5_add yX5_add, Cond.code yX5_add cX5_add 6 none, Cond.methodLink RL 69 yX5_thrown, Cond.instanceMethod yX5_thrown, Cond.selects RX5 yX5_thrown yX5_thrown, Cond.code yX5_thrown cX5_thrown 1 (some .int), Cond.methodLink RL 73 yL_line, Cond.static yL_line, Cond.codeWith yL_line cL_line 7 (some .int) [(0, 11, 14, 18), (0, 11, 18, 13)], Cond.classLink RL 18 "java/lang/IllegalStateException", Cond.methodLink RL 15 yX4_line, Cond.instanceMethod yX4_line, Cond.selects RX4 yX4_line yX4_line, Cond.code yX4_line cX4_line 5 (some .int), Cond.classLink RX4 86 "java/lang/IllegalStateException", Cond.initialized "java/lang/IllegalStateException", Cond.instanceMethod yX2_join, Cond.selects RX2 yX2_join yX2_join, Cond.code yX2_join cX2_join 3 none, Cond.methodLink RL 75 yX5_line, Cond.instanceMethod yX5_line, Cond.selects RX5 yX5_line yX5_line, Cond.code yX5_line cX5_line 5 (some .int)]
def wsL_law0_r8 : List Cond := [Cond.methodLink RL 76 yL_hair, Cond.static yL_hair, Cond.codeWith yL_hair cL_hair 11 (some .int) [(0, 15, 18, 13)], Cond.methodLink RL 20 yX4_hair, Cond.instanceMethod yX4_hair, Cond.selects RX4 yX4_hair yX4_hair, Cond.code yX4_hair cX4_hair 9 (some .int), Cond.methodLink RX4 96 yX4_addHair, Cond.instanceMethod yX4_addHair, Cond.selects RX4 yX4_addHair yX4_addHair, Cond.code yX4_addHair cX4_addHair 8 none, Cond.methodLink RX4 174 Lib.Math.abs.name, Cond.static Lib.Math.abs.name, Cond.code Lib.Math.abs.name Lib.Math.abs.code 1 (some .int), Cond.methodLink RL 79 yX5_hair, Cond.instanceMethod yX5_hair, Cond.selects RX5 yX5_hair yX5_hair, Cond.code yX5_hair cX5_hair 23 (some .int), Cond.constantLong RX5 76 (128), Cond.methodLink RX5 73 yX5_size, Cond.static yX5_size, Cond.code yX5_size cX5_size 2 (some .long), Cond.methodLink RL 80 yL_fill, Cond.static yL_fill]
def wsL_law0_r9 : List Cond := [Cond.codeWith yL_fill cL_fill 6 (some .int) [(0, 12, 15, 28), (0, 12, 19, 30)], Cond.classLink RL 28 "java/lang/IllegalArgumentException", Cond.classLink RL 30 "java/lang/ArrayIndexOutOfBoundsException", Cond.methodLink RL 24 yX4_fill, Cond.instanceMethod yX4_fill, Cond.selects RX4 yX4_fill yX4_fill, Cond.code yX4_fill cX4_fill 6 (some .int), Cond.methodLink RX4 100 yX4_needRule, Cond.static yX4_needRule, Cond.code yX4_needRule cX4_needRule 1 none, Cond.classLink RX4 153 "java/lang/IllegalArgumentException", Cond.initialized "java/lang/IllegalArgumentException", Cond.methodLink RX4 103 yX4_needPlane, Cond.instanceMethod yX4_needPlane, Cond.selects RX4 yX4_needPlane yX4_needPlane, Cond.code yX4_needPlane cX4_needPlane 2 none, Cond.classLink RX4 143 RJx00060, Cond.instantiable RJx00060 6, Cond.initialized RJx00060, Cond.instanceMethod yX3_measure, Cond.selects RX3 yX3_measure yX3_measure, Cond.code yX3_measure cX3_measure 5 none, Cond.methodLink RX3 22 yJ7_fill_53178, Cond.instanceMethod yX0_collect]
def wsL_law0_r10 : List Cond := [Cond.selects RX0 yX0_collect yX0_collect, Cond.code yX0_collect cX0_collect 7 none, Cond.methodLink RX0 30 yX0_cross, Cond.instanceMethod yX0_cross, Cond.selects RX0 yX0_cross yX0_cross, Cond.code yX0_cross cX0_cross 10 none, Cond.methodLink RX0 35 yJ9_floorDiv_f86c9, Cond.static yJ9_floorDiv_f86c9, Cond.initialized RJ9, Cond.code yJ9_floorDiv_f86c9 cJ9_floorDiv_f86c9 6 (some .long), Cond.methodLink RX0 41 yX0_insert, Cond.instanceMethod yX0_insert, Cond.selects RX0 yX0_insert yX0_insert, Cond.code yX0_insert cX0_insert 4 none, Cond.methodLink RX3 32 yX3_addSubRow, Cond.instanceMethod yX3_addSubRow, Cond.selects RX3 yX3_addSubRow yX3_addSubRow, Cond.code yX3_addSubRow cX3_addSubRow 5 none, Cond.methodLink RX3 46 yX3_addSpan, Cond.instanceMethod yX3_addSpan, Cond.selects RX3 yX3_addSpan yX3_addSpan, Cond.code yX3_addSpan cX3_addSpan 7 none, Cond.methodLink RX3 50 Lib.Math.max.name, Cond.methodLink RX3 56 Lib.Math.min.name]
def wsL_law0_r11 : List Cond := [Cond.methodLink RX4 110 yX4_paintRow, Cond.instanceMethod yX4_paintRow, Cond.selects RX4 yX4_paintRow yX4_paintRow, Cond.code yX4_paintRow cX4_paintRow 8 (some .int), Cond.instanceMethod yX3_at, Cond.selects RX3 yX3_at yX3_at, Cond.code yX3_at cX3_at 2 (some .int), Cond.methodLink RX4 177 yX4_mul, Cond.static yX4_mul, Cond.code yX4_mul cX4_mul 2 (some .int), Cond.methodLink RX4 180 yX4_paintPoint, Cond.instanceMethod yX4_paintPoint, Cond.selects RX4 yX4_paintPoint yX4_paintPoint, Cond.code yX4_paintPoint cX4_paintPoint 7 none, Cond.methodLink RX4 183 yX4_blend, Cond.static yX4_blend, Cond.code yX4_blend cX4_blend 3 (some .int), Cond.instanceMethod yX2_clear, Cond.selects RX2 yX2_clear yX2_clear, Cond.code yX2_clear cX2_clear 1 none, Cond.methodLink RL 83 yX5_fill, Cond.instanceMethod yX5_fill, Cond.selects RX5 yX5_fill yX5_fill, Cond.code yX5_fill cX5_fill 11 (some .int)]
def wsL_law0_r12 : List Cond := [Cond.fieldLink RX5 109 "RasterCoverModel" "from" "I", Cond.fieldLink RX5 124 "RasterCoverModel" "fills" "I", Cond.fieldLink RX5 127 "RasterCoverModel" "isPacked" "Z", Cond.methodLink RX5 112 yX5_coverRow, Cond.instanceMethod yX5_coverRow, Cond.selects RX5 yX5_coverRow yX5_coverRow, Cond.code yX5_coverRow cX5_coverRow 9 none, Cond.constantLong RX5 91 (16), Cond.constantLong RX5 93 (8), Cond.fieldLink RX5 78 "RasterCoverModel" "crossings" "I", Cond.constantLong RX5 99 (9000000), Cond.methodLink RX5 95 yX5_crossAll, Cond.instanceMethod yX5_crossAll, Cond.selects RX5 yX5_crossAll yX5_crossAll, Cond.code yX5_crossAll cX5_crossAll 6 none, Cond.methodLink RX5 85 yX5_cross, Cond.instanceMethod yX5_cross, Cond.selects RX5 yX5_cross yX5_cross, Cond.code yX5_cross cX5_cross 8 none, Cond.methodLink RX5 81 yX5_down, Cond.static yX5_down, Cond.code yX5_down cX5_down 6 (some .long), Cond.methodLink RX5 101 yX5_isInside, Cond.instanceMethod yX5_isInside]
def wsL_law0_r13 : List Cond := [Cond.selects RX5 yX5_isInside yX5_isInside, Cond.code yX5_isInside cX5_isInside 7 (some .boolean), Cond.methodLink RX5 105 yX5_addUnits, Cond.instanceMethod yX5_addUnits, Cond.selects RX5 yX5_addUnits yX5_addUnits, Cond.code yX5_addUnits cX5_addUnits 10 none, Cond.constantLong RX5 89 (256), Cond.methodLink RX5 116 yX5_coverAt, Cond.instanceMethod yX5_coverAt, Cond.selects RX5 yX5_coverAt yX5_coverAt, Cond.code yX5_coverAt cX5_coverAt 2 (some .int), Cond.methodLink RX5 120 yX5_mul, Cond.static yX5_mul, Cond.code yX5_mul cX5_mul 2 (some .int), Cond.methodLink RL 84 yL_clip, Cond.static yL_clip, Cond.codeWith yL_clip cL_clip 4 (some .int) [(0, 9, 12, 28)], Cond.methodLink RL 32 yX4_clip, Cond.instanceMethod yX4_clip, Cond.selects RX4 yX4_clip yX4_clip, Cond.code yX4_clip cX4_clip 4 (some .int), Cond.methodLink RX4 117 yX4_clipRow, Cond.instanceMethod yX4_clipRow, Cond.selects RX4 yX4_clipRow yX4_clipRow]
def wsL_law0_r14 : List Cond := [Cond.code yX4_clipRow cX4_clipRow 5 (some .int), Cond.methodLink RL 87 yX5_clip, Cond.instanceMethod yX5_clip, Cond.selects RX5 yX5_clip yX5_clip, Cond.code yX5_clip cX5_clip 5 (some .int), Cond.methodLink RL 88 yX4_end, Cond.instanceMethod yX4_end, Cond.selects RX4 yX4_end yX4_end, Cond.code yX4_end cX4_end 2 (some .int), Cond.methodLink RL 91 yX5_end, Cond.instanceMethod yX5_end, Cond.selects RX5 yX5_end yX5_end, Cond.code yX5_end cX5_end 3 (some .int), Cond.methodLink RL 92 yL_point, Cond.static yL_point, Cond.codeWith yL_point cL_point 6 (some .int) [(0, 12, 15, 30)], Cond.methodLink RL 36 yX4_point, Cond.instanceMethod yX4_point, Cond.selects RX4 yX4_point yX4_point, Cond.code yX4_point cX4_point 4 (some .int), Cond.methodLink RX4 121 yX4_needPoint, Cond.instanceMethod yX4_needPoint, Cond.selects RX4 yX4_needPoint yX4_needPoint, Cond.code yX4_needPoint cX4_needPoint 3 none]
def wsL_law0_r15 : List Cond := [Cond.methodLink RL 94 yX5_point, Cond.instanceMethod yX5_point, Cond.selects RX5 yX5_point yX5_point, Cond.code yX5_point cX5_point 4 (some .int), Cond.methodLink RX5 131 yX5_isPoint, Cond.instanceMethod yX5_isPoint, Cond.selects RX5 yX5_isPoint yX5_isPoint, Cond.code yX5_isPoint cX5_isPoint 3 (some .boolean), Cond.methodLink RL 95 yL_cover, Cond.static yL_cover, Cond.codeWith yL_cover cL_cover 5 (some .int) [(0, 10, 13, 30)], Cond.methodLink RL 39 yX4_cover, Cond.instanceMethod yX4_cover, Cond.selects RX4 yX4_cover yX4_cover, Cond.code yX4_cover cX4_cover 3 (some .int), Cond.methodLink RL 98 yX5_cover, Cond.instanceMethod yX5_cover, Cond.selects RX5 yX5_cover yX5_cover, Cond.code yX5_cover cX5_cover 3 (some .int), Cond.methodLink RL 99 yX4_band, Cond.instanceMethod yX4_band, Cond.selects RX4 yX4_band yX4_band, Cond.code yX4_band cX4_band 3 (some .int), Cond.methodLink RL 102 yX5_band]
def wsL_law0_r16 : List Cond := [Cond.instanceMethod yX5_band, Cond.selects RX5 yX5_band yX5_band, Cond.code yX5_band cX5_band 3 (some .int), Cond.methodLink RL 103 yX4_same, Cond.instanceMethod yX4_same, Cond.selects RX4 yX4_same yX4_same, Cond.code yX4_same cX4_same 2 (some .boolean), Cond.methodLink RL 107 yX5_same, Cond.instanceMethod yX5_same, Cond.selects RX5 yX5_same yX5_same, Cond.code yX5_same cX5_same 2 (some .boolean), Cond.methodLink RL 108 yL_packed, Cond.static yL_packed, Cond.codeWith yL_packed cL_packed 4 (some .int) [(0, 9, 12, 30)], Cond.methodLink RL 43 yX4_packed, Cond.instanceMethod yX4_packed, Cond.selects RX4 yX4_packed yX4_packed, Cond.code yX4_packed cX4_packed 4 (some .byte), Cond.instanceMethod yX1_pack, Cond.selects RX1 yX1_pack yX1_pack, Cond.code yX1_pack cX1_pack 7 none, Cond.methodLink RX1 17 yX1_put, Cond.instanceMethod yX1_put, Cond.selects RX1 yX1_put yX1_put]
def wsL_law0_r17 : List Cond := [Cond.code yX1_put cX1_put 2 none, Cond.methodLink RL 110 yX5_packed, Cond.instanceMethod yX5_packed, Cond.selects RX5 yX5_packed yX5_packed, Cond.code yX5_packed cX5_packed 2 (some .byte), Cond.fieldLink RX5 135 "RasterCoverModel" "size" "I", Cond.methodLink RX5 144 yX5_packAll, Cond.instanceMethod yX5_packAll, Cond.selects RX5 yX5_packAll yX5_packAll, Cond.code yX5_packAll cX5_packAll 7 none, Cond.methodLink RX5 137 yX5_runAt, Cond.instanceMethod yX5_runAt, Cond.selects RX5 yX5_runAt yX5_runAt, Cond.code yX5_runAt cX5_runAt 4 (some .int), Cond.methodLink RX5 140 yX5_put, Cond.instanceMethod yX5_put, Cond.selects RX5 yX5_put yX5_put, Cond.code yX5_put cX5_put 2 none, Cond.methodLink RL 111 yL_over, Cond.static yL_over, Cond.codeWith yL_over cL_over 5 (some .int) [(0, 10, 13, 30)], Cond.methodLink RL 47 yX4_over, Cond.instanceMethod yX4_over, Cond.selects RX4 yX4_over yX4_over]
def wsL_law0_r18 : List Cond := [Cond.code yX4_over cX4_over 4 (some .int), Cond.methodLink RL 114 yX5_over, Cond.instanceMethod yX5_over, Cond.selects RX5 yX5_over yX5_over, Cond.code yX5_over cX5_over 4 (some .int)]
def wsL_law0 : List Cond := (wsL_law0_r1 ++ (wsL_law0_r2 ++ (wsL_law0_r3 ++ (wsL_law0_r4 ++ (wsL_law0_r5 ++ (wsL_law0_r6 ++ (wsL_law0_r7 ++ (wsL_law0_r8 ++ (wsL_law0_r9 ++ (wsL_law0_r10 ++ (wsL_law0_r11 ++ (wsL_law0_r12 ++ (wsL_law0_r13 ++ (wsL_law0_r14 ++ (wsL_law0_r15 ++ (wsL_law0_r16 ++ (wsL_law0_r17 ++ wsL_law0_r18))))))))))))))))) ++ wsX40 ++ wsX50 ++ wsX20 ++ wsX30 ++ wsX10 ++ wsX00 ++ wsJx000600 ++ ([] : List Cond)
def wsL_law : List Cond := wsL_law0 ++ (vx_atM "java/lang/ArrayIndexOutOfBoundsException" ["java/lang/IndexOutOfBoundsException", "java/lang/RuntimeException", "java/lang/Exception"]).filter goodWord ++ (vx_atS RX4 152 "java/lang/UnsupportedOperationException" ["java/lang/RuntimeException", "java/lang/Exception"]).filter goodWord ++ (vx_atS RX4 90 "java/lang/IllegalStateException" ["java/lang/RuntimeException", "java/lang/Exception"]).filter goodWord ++ (vx_atS RX4 157 "java/lang/IllegalArgumentException" ["java/lang/RuntimeException", "java/lang/Exception"]).filter goodWord
end
section
theorem q_inp {big : List Cond} (ws : List Cond) (ps : List Nat) (hp : ws = ps.filterMap (fun i => big[i]?)) : ∀ w ∈ ws, w ∈ big := by
  intro w hw
  rw [hp] at hw
  obtain ⟨i, -, hi⟩ := List.mem_filterMap.mp hw
  exact List.mem_of_getElem? hi
set_option maxRecDepth 20000 in
theorem wsL_law_q1 : ∀ w ∈ wsL_law0_r1, w ∈ lw_tbl := q_inp wsL_law0_r1 [50, 51, 33, 500, 501, 40, 570, 686, 197, 198, 32, 199, 52, 53, 54, 55, 56, 57, 144, 145, 146, 91, 147, 148] (by decide +kernel)
set_option maxRecDepth 20000 in
theorem wsL_law_q2 : ∀ w ∈ wsL_law0_r2, w ∈ lw_tbl := q_inp wsL_law0_r2 [92, 149, 67, 68, 35, 150, 93, 94, 36, 151, 125, 126, 38, 152, 153, 154, 155, 58, 59, 60, 61, 62, 34, 63] (by decide +kernel)
set_option maxRecDepth 20000 in
theorem wsL_law_q3 : ∀ w ∈ wsL_law0_r3, w ∈ lw_tbl := q_inp wsL_law0_r3 [64, 65, 66, 70, 71, 72, 73, 75, 77, 79, 96, 97, 98, 99, 100, 37, 119, 118, 102, 103, 104, 105, 107, 109] (by decide +kernel)
set_option maxRecDepth 20000 in
theorem wsL_law_q4 : ∀ w ∈ wsL_law0_r4, w ∈ lw_tbl := q_inp wsL_law0_r4 [128, 129, 130, 133, 140, 131, 141, 142, 39, 143, 502, 503, 504, 505, 510, 511, 512, 514, 515, 516, 521, 522, 523, 526] (by decide +kernel)
set_option maxRecDepth 20000 in
theorem wsL_law_q5 : ∀ w ∈ wsL_law0_r5, w ∈ lw_tbl := q_inp wsL_law0_r5 [507, 508, 509, 519, 200, 201, 202, 203, 204, 205, 206, 207, 208, 210, 1, 211, 212, 44, 280, 281, 282, 283, 284, 285] (by decide +kernel)
set_option maxRecDepth 20000 in
theorem wsL_law_q6 : ∀ w ∈ wsL_law0_r6, w ∈ lw_tbl := q_inp wsL_law0_r6 [286, 287, 288, 289, 290, 293, 3, 294, 295, 297, 4, 298, 575, 576, 577, 578, 513, 506, 579, 580, 581, 582, 583, 584] (by decide +kernel)
set_option maxRecDepth 20000 in
theorem wsL_law_q7 : ∀ w ∈ wsL_law0_r7, w ∈ lw_tbl := q_inp wsL_law0_r7 [586, 21, 587, 571, 572, 573, 574, 299, 300, 301, 302, 303, 304, 305, 306, 307, 45, 325, 5, 326, 588, 589, 590, 591] (by decide +kernel)
set_option maxRecDepth 20000 in
theorem wsL_law_q8 : ∀ w ∈ wsL_law0_r8, w ∈ lw_tbl := q_inp wsL_law0_r8 [327, 328, 329, 330, 331, 332, 333, 334, 336, 6, 337, 338, 339, 340, 592, 593, 594, 595, 599, 596, 597, 598, 341, 342] (by decide +kernel)
set_option maxRecDepth 20000 in
theorem wsL_law_q9 : ∀ w ∈ wsL_law0_r9, w ∈ lw_tbl := q_inp wsL_law0_r9 [343, 344, 345, 369, 370, 371, 372, 373, 374, 375, 376, 49, 392, 394, 7, 395, 396, 346, 47, 401, 8, 402, 403, 406] (by decide +kernel)
set_option maxRecDepth 20000 in
theorem wsL_law_q10 : ∀ w ∈ wsL_law0_r10, w ∈ lw_tbl := q_inp wsL_law0_r10 [9, 407, 408, 410, 10, 411, 412, 413, 34, 414, 415, 417, 11, 418, 419, 421, 12, 422, 423, 425, 13, 426, 427, 428] (by decide +kernel)
set_option maxRecDepth 20000 in
theorem wsL_law_q11 : ∀ w ∈ wsL_law0_r11, w ∈ lw_tbl := q_inp wsL_law0_r11 [429, 431, 14, 432, 435, 15, 436, 437, 438, 439, 440, 442, 16, 443, 444, 445, 446, 187, 0, 188, 600, 601, 602, 603] (by decide +kernel)
set_option maxRecDepth 20000 in
theorem wsL_law_q12 : ∀ w ∈ wsL_law0_r12, w ∈ lw_tbl := q_inp wsL_law0_r12 [518, 517, 524, 604, 606, 22, 607, 608, 609, 520, 621, 610, 612, 23, 613, 614, 616, 24, 617, 618, 619, 620, 622, 624] (by decide +kernel)
set_option maxRecDepth 20000 in
theorem wsL_law_q13 : ∀ w ∈ wsL_law0_r13, w ∈ lw_tbl := q_inp wsL_law0_r13 [25, 625, 626, 628, 26, 629, 630, 631, 633, 27, 634, 635, 636, 637, 447, 448, 449, 450, 451, 452, 453, 454, 456, 17] (by decide +kernel)
set_option maxRecDepth 20000 in
theorem wsL_law_q14 : ∀ w ∈ wsL_law0_r14, w ∈ lw_tbl := q_inp wsL_law0_r14 [457, 638, 639, 640, 641, 181, 182, 183, 184, 642, 643, 644, 645, 458, 459, 460, 461, 462, 463, 464, 465, 467, 18, 468] (by decide +kernel)
set_option maxRecDepth 20000 in
theorem wsL_law_q15 : ∀ w ∈ wsL_law0_r15, w ∈ lw_tbl := q_inp wsL_law0_r15 [646, 647, 648, 649, 650, 652, 28, 653, 470, 471, 472, 473, 474, 475, 476, 654, 655, 656, 657, 189, 190, 191, 192, 658] (by decide +kernel)
set_option maxRecDepth 20000 in
theorem wsL_law_q16 : ∀ w ∈ wsL_law0_r16, w ∈ lw_tbl := q_inp wsL_law0_r16 [659, 660, 661, 193, 194, 195, 196, 662, 663, 664, 665, 477, 478, 479, 480, 481, 482, 483, 486, 19, 487, 488, 490, 20] (by decide +kernel)
set_option maxRecDepth 20000 in
theorem wsL_law_q17 : ∀ w ∈ wsL_law0_r17, w ∈ lw_tbl := q_inp wsL_law0_r17 [491, 666, 667, 668, 669, 525, 670, 672, 29, 673, 674, 676, 30, 677, 678, 680, 31, 681, 493, 494, 495, 496, 497, 498] (by decide +kernel)
set_option maxRecDepth 20000 in
theorem wsL_law_q18 : ∀ w ∈ wsL_law0_r18, w ∈ lw_tbl := q_inp wsL_law0_r18 [499, 682, 683, 684, 685] (by decide +kernel)
set_option maxRecDepth 20000 in
theorem wsL_law_uX4 : ∀ w ∈ wsX40, w ∈ lw_tbl := q_inp wsX40 [156, 158, 160, 162, 164, 166, 168, 170, 172, 174, 176, 178] (by decide +kernel)
set_option maxRecDepth 20000 in
theorem wsL_law_uX5 : ∀ w ∈ wsX50, w ∈ lw_tbl := q_inp wsX50 [527, 529, 531, 533, 535, 537, 539, 541, 543, 545, 547, 549, 551, 553, 555, 557, 559, 561, 563, 565, 567] (by decide +kernel)
set_option maxRecDepth 20000 in
theorem wsL_law_uX2 : ∀ w ∈ wsX20, w ∈ lw_tbl := q_inp wsX20 [82, 84, 86, 88] (by decide +kernel)
set_option maxRecDepth 20000 in
theorem wsL_law_uX3 : ∀ w ∈ wsX30, w ∈ lw_tbl := q_inp wsX30 [120, 122] (by decide +kernel)
set_option maxRecDepth 20000 in
theorem wsL_law_uX1 : ∀ w ∈ wsX10, w ∈ lw_tbl := q_inp wsX10 [135, 137] (by decide +kernel)
set_option maxRecDepth 20000 in
theorem wsL_law_uX0 : ∀ w ∈ wsX00, w ∈ lw_tbl := q_inp wsX00 [111, 113, 115] (by decide +kernel)
set_option maxRecDepth 20000 in
theorem wsL_law_uJx00060 : ∀ w ∈ wsJx000600, w ∈ lw_tbl := q_inp wsJx000600 [353, 354, 355, 356, 357, 358] (by decide +kernel)
theorem wsL_law_in0 : ∀ w ∈ wsL_law0, w ∈ lw_tbl := fun w h => (List.mem_append.mp h).elim (fun h => (List.mem_append.mp h).elim (fun h => (List.mem_append.mp h).elim (fun h => (List.mem_append.mp h).elim (fun h => (List.mem_append.mp h).elim (fun h => (List.mem_append.mp h).elim (fun h => (List.mem_append.mp h).elim (fun h => (List.mem_append.mp h).elim (fun h => (List.mem_append.mp h).elim (wsL_law_q1 w) (fun h => (List.mem_append.mp h).elim (wsL_law_q2 w) (fun h => (List.mem_append.mp h).elim (wsL_law_q3 w) (fun h => (List.mem_append.mp h).elim (wsL_law_q4 w) (fun h => (List.mem_append.mp h).elim (wsL_law_q5 w) (fun h => (List.mem_append.mp h).elim (wsL_law_q6 w) (fun h => (List.mem_append.mp h).elim (wsL_law_q7 w) (fun h => (List.mem_append.mp h).elim (wsL_law_q8 w) (fun h => (List.mem_append.mp h).elim (wsL_law_q9 w) (fun h => (List.mem_append.mp h).elim (wsL_law_q10 w) (fun h => (List.mem_append.mp h).elim (wsL_law_q11 w) (fun h => (List.mem_append.mp h).elim (wsL_law_q12 w) (fun h => (List.mem_append.mp h).elim (wsL_law_q13 w) (fun h => (List.mem_append.mp h).elim (wsL_law_q14 w) (fun h => (List.mem_append.mp h).elim (wsL_law_q15 w) (fun h => (List.mem_append.mp h).elim (wsL_law_q16 w) (fun h => (List.mem_append.mp h).elim (wsL_law_q17 w) (fun h => wsL_law_q18 w h)))))))))))))))))) (wsL_law_uX4 w)) (wsL_law_uX5 w)) (wsL_law_uX2 w)) (wsL_law_uX3 w)) (wsL_law_uX1 w)) (wsL_law_uX0 w)) (wsL_law_uJx00060 w)) (fun h => absurd h List.not_mem_nil)
theorem wsL_law_x0 : ∀ w ∈ (vx_atM "java/lang/ArrayIndexOutOfBoundsException" ["java/lang/IndexOutOfBoundsException", "java/lang/RuntimeException", "java/lang/Exception"]).filter goodWord, w ∈ lw_tbl := by decide +kernel
theorem wsL_law_x1 : ∀ w ∈ (vx_atS RX4 152 "java/lang/UnsupportedOperationException" ["java/lang/RuntimeException", "java/lang/Exception"]).filter goodWord, w ∈ lw_tbl := by decide +kernel
theorem wsL_law_x2 : ∀ w ∈ (vx_atS RX4 90 "java/lang/IllegalStateException" ["java/lang/RuntimeException", "java/lang/Exception"]).filter goodWord, w ∈ lw_tbl := by decide +kernel
theorem wsL_law_x3 : ∀ w ∈ (vx_atS RX4 157 "java/lang/IllegalArgumentException" ["java/lang/RuntimeException", "java/lang/Exception"]).filter goodWord, w ∈ lw_tbl := by decide +kernel
theorem wsL_law_in : ∀ w ∈ wsL_law, w ∈ lw_tbl := fun w h => (List.mem_append.mp h).elim (fun h => (List.mem_append.mp h).elim (fun h => (List.mem_append.mp h).elim (fun h => (List.mem_append.mp h).elim (fun h => wsL_law_in0 w h) (fun h => wsL_law_x0 w h)) (fun h => wsL_law_x1 w h)) (fun h => wsL_law_x2 w h)) (fun h => wsL_law_x3 w h)
theorem inlX0 : ∀ w ∈ wsX00, w ∈ wsL_law := fun _ h => List.mem_append_left _ (List.mem_append_left _ (List.mem_append_left _ (List.mem_append_left _ (List.mem_append_left _ (List.mem_append_left _ (List.mem_append_right _ h))))))
theorem inX0 : ∀ w ∈ wsX00, w ∈ lw_tbl := fun w h => wsL_law_in w (inlX0 w h)
theorem inlX1 : ∀ w ∈ wsX10, w ∈ wsL_law := fun _ h => List.mem_append_left _ (List.mem_append_left _ (List.mem_append_left _ (List.mem_append_left _ (List.mem_append_left _ (List.mem_append_left _ (List.mem_append_left _ (List.mem_append_right _ h)))))))
theorem inX1 : ∀ w ∈ wsX10, w ∈ lw_tbl := fun w h => wsL_law_in w (inlX1 w h)
theorem inlX2 : ∀ w ∈ wsX20, w ∈ wsL_law := fun _ h => List.mem_append_left _ (List.mem_append_left _ (List.mem_append_left _ (List.mem_append_left _ (List.mem_append_left _ (List.mem_append_left _ (List.mem_append_left _ (List.mem_append_left _ (List.mem_append_left _ (List.mem_append_right _ h)))))))))
theorem inX2 : ∀ w ∈ wsX20, w ∈ lw_tbl := fun w h => wsL_law_in w (inlX2 w h)
theorem inlX3 : ∀ w ∈ wsX30, w ∈ wsL_law := fun _ h => List.mem_append_left _ (List.mem_append_left _ (List.mem_append_left _ (List.mem_append_left _ (List.mem_append_left _ (List.mem_append_left _ (List.mem_append_left _ (List.mem_append_left _ (List.mem_append_right _ h))))))))
theorem inX3 : ∀ w ∈ wsX30, w ∈ lw_tbl := fun w h => wsL_law_in w (inlX3 w h)
theorem inlX4 : ∀ w ∈ wsX40, w ∈ wsL_law := fun _ h => List.mem_append_left _ (List.mem_append_left _ (List.mem_append_left _ (List.mem_append_left _ (List.mem_append_left _ (List.mem_append_left _ (List.mem_append_left _ (List.mem_append_left _ (List.mem_append_left _ (List.mem_append_left _ (List.mem_append_left _ (List.mem_append_right _ h)))))))))))
theorem inX4 : ∀ w ∈ wsX40, w ∈ lw_tbl := fun w h => wsL_law_in w (inlX4 w h)
theorem inlX5 : ∀ w ∈ wsX50, w ∈ wsL_law := fun _ h => List.mem_append_left _ (List.mem_append_left _ (List.mem_append_left _ (List.mem_append_left _ (List.mem_append_left _ (List.mem_append_left _ (List.mem_append_left _ (List.mem_append_left _ (List.mem_append_left _ (List.mem_append_left _ (List.mem_append_right _ h))))))))))
theorem inX5 : ∀ w ∈ wsX50, w ∈ lw_tbl := fun w h => wsL_law_in w (inlX5 w h)
theorem inJx145de : ∀ w ∈ wsJx145de0, w ∈ lw_tbl := by decide +kernel
theorem inlJx00060 : ∀ w ∈ wsJx000600, w ∈ wsL_law := fun _ h => List.mem_append_left _ (List.mem_append_left _ (List.mem_append_left _ (List.mem_append_left _ (List.mem_append_left _ (List.mem_append_right _ h)))))
theorem inJx00060 : ∀ w ∈ wsJx000600, w ∈ lw_tbl := fun w h => wsL_law_in w (inlJx00060 w h)
theorem inJ9 : ∀ w ∈ wsJ90, w ∈ lw_tbl := by decide +kernel
theorem inJ0 : ∀ w ∈ wsJ00, w ∈ lw_tbl := by decide +kernel
theorem inJ7 : ∀ w ∈ wsJ70, w ∈ lw_tbl := by decide +kernel
end
section
theorem dX0_init_0 : decode cX0_init 0 = .ok (.aload_n 0, 1) := by decide +kernel
theorem dX0_init_1 : decode cX0_init 1 = .ok (.invokespecial 1, 3) := by decide +kernel
theorem dX0_init_4 : decode cX0_init 4 = .ok (.aload_n 0, 1) := by decide +kernel
theorem dX0_init_5 : decode cX0_init 5 = .ok (.bipush 100, 2) := by decide +kernel
theorem dX0_init_7 : decode cX0_init 7 = .ok (.newarray .int, 2) := by decide +kernel
theorem dX0_init_9 : decode cX0_init 9 = .ok (.putfield 9, 3) := by decide +kernel
theorem dX0_init_12 : decode cX0_init 12 = .ok (.aload_n 0, 1) := by decide +kernel
theorem dX0_init_13 : decode cX0_init 13 = .ok (.bipush 100, 2) := by decide +kernel
theorem dX0_init_15 : decode cX0_init 15 = .ok (.newarray .int, 2) := by decide +kernel
theorem dX0_init_17 : decode cX0_init 17 = .ok (.putfield 15, 3) := by decide +kernel
theorem dX0_init_20 : decode cX0_init 20 = .ok (.aload_n 0, 1) := by decide +kernel
theorem dX0_init_21 : decode cX0_init 21 = .ok (.iconst 0, 1) := by decide +kernel
theorem dX0_init_22 : decode cX0_init 22 = .ok (.putfield 18, 3) := by decide +kernel
theorem dX0_init_25 : decode cX0_init 25 = .ok (.return_, 1) := by decide +kernel
set_option maxRecDepth 20000 in
theorem ggX0_collect_X0_cross : GoodIn wsX0_collect wsX0_cross := goodIn_ca (goodIn_r _ [6, 7, 8, 9, 10, 11, 12, 13, 5, 14, 1, 15, 16, 20, 21, 22, 23, 17, 18, 19] (by decide +kernel) (by decide +kernel)) (goodIn_sub (fun _ h => List.mem_cons_of_mem _ (List.mem_append_right _ h)) (by decide +kernel))
set_option maxRecDepth 20000 in
theorem gX0_collect_X0_cross : GoodIn wsX0_collect (wsV RX0 30 RX0 yX0_cross wsX0_cross) := goodIn_app (goodIn_of _ (by decide +kernel)) ggX0_collect_X0_cross
theorem dX0_collect_0 : decode cX0_collect 0 = .ok (.aload_n 0, 1) := by decide +kernel
theorem dX0_collect_1 : decode cX0_collect 1 = .ok (.iconst 0, 1) := by decide +kernel
theorem dX0_collect_2 : decode cX0_collect 2 = .ok (.putfield 18, 3) := by decide +kernel
theorem dX0_collect_5 : decode cX0_collect 5 = .ok (.iconst 0, 1) := by decide +kernel
theorem dX0_collect_6 : decode cX0_collect 6 = .ok (.istore_n 3, 1) := by decide +kernel
theorem dX0_collect_7 : decode cX0_collect 7 = .ok (.iconst 0, 1) := by decide +kernel
theorem dX0_collect_8 : decode cX0_collect 8 = .ok (.istore 4, 2) := by decide +kernel
theorem dX0_collect_10 : decode cX0_collect 10 = .ok (.iload 4, 2) := by decide +kernel
theorem dX0_collect_12 : decode cX0_collect 12 = .ok (.aload_n 1, 1) := by decide +kernel
theorem dX0_collect_13 : decode cX0_collect 13 = .ok (.getfield 22, 3) := by decide +kernel
theorem dX0_collect_16 : decode cX0_collect 16 = .ok (.if_icmp .ge 109, 3) := by decide +kernel
theorem dX0_collect_19 : decode cX0_collect 19 = .ok (.aload_n 1, 1) := by decide +kernel
theorem dX0_collect_20 : decode cX0_collect 20 = .ok (.getfield 23, 3) := by decide +kernel
theorem dX0_collect_23 : decode cX0_collect 23 = .ok (.iload 4, 2) := by decide +kernel
theorem dX0_collect_25 : decode cX0_collect 25 = .ok (.baload, 1) := by decide +kernel
theorem dX0_collect_26 : decode cX0_collect 26 = .ok (.ifCond .eq 6, 3) := by decide +kernel
theorem dX0_collect_29 : decode cX0_collect 29 = .ok (.iload 4, 2) := by decide +kernel
theorem dX0_collect_31 : decode cX0_collect 31 = .ok (.istore_n 3, 1) := by decide +kernel
theorem dX0_collect_32 : decode cX0_collect 32 = .ok (.iload 4, 2) := by decide +kernel
theorem dX0_collect_34 : decode cX0_collect 34 = .ok (.iconst 1, 1) := by decide +kernel
theorem dX0_collect_35 : decode cX0_collect 35 = .ok (.iadd, 1) := by decide +kernel
theorem dX0_collect_36 : decode cX0_collect 36 = .ok (.aload_n 1, 1) := by decide +kernel
theorem dX0_collect_37 : decode cX0_collect 37 = .ok (.getfield 22, 3) := by decide +kernel
theorem dX0_collect_40 : decode cX0_collect 40 = .ok (.if_icmp .eq 15, 3) := by decide +kernel
theorem dX0_collect_43 : decode cX0_collect 43 = .ok (.aload_n 1, 1) := by decide +kernel
theorem dX0_collect_44 : decode cX0_collect 44 = .ok (.getfield 23, 3) := by decide +kernel
theorem dX0_collect_47 : decode cX0_collect 47 = .ok (.iload 4, 2) := by decide +kernel
theorem dX0_collect_49 : decode cX0_collect 49 = .ok (.iconst 1, 1) := by decide +kernel
theorem dX0_collect_50 : decode cX0_collect 50 = .ok (.iadd, 1) := by decide +kernel
theorem dX0_collect_51 : decode cX0_collect 51 = .ok (.baload, 1) := by decide +kernel
theorem dX0_collect_52 : decode cX0_collect 52 = .ok (.ifCond .eq 7, 3) := by decide +kernel
theorem dX0_collect_55 : decode cX0_collect 55 = .ok (.iconst 1, 1) := by decide +kernel
theorem dX0_collect_56 : decode cX0_collect 56 = .ok (.goto 4, 3) := by decide +kernel
theorem dX0_collect_59 : decode cX0_collect 59 = .ok (.iconst 0, 1) := by decide +kernel
theorem dX0_collect_60 : decode cX0_collect 60 = .ok (.istore 5, 2) := by decide +kernel
theorem dX0_collect_62 : decode cX0_collect 62 = .ok (.iload 5, 2) := by decide +kernel
theorem dX0_collect_64 : decode cX0_collect 64 = .ok (.ifCond .eq 7, 3) := by decide +kernel
theorem dX0_collect_67 : decode cX0_collect 67 = .ok (.iload_n 3, 1) := by decide +kernel
theorem dX0_collect_68 : decode cX0_collect 68 = .ok (.goto 7, 3) := by decide +kernel
theorem dX0_collect_71 : decode cX0_collect 71 = .ok (.iload 4, 2) := by decide +kernel
theorem dX0_collect_73 : decode cX0_collect 73 = .ok (.iconst 1, 1) := by decide +kernel
theorem dX0_collect_74 : decode cX0_collect 74 = .ok (.iadd, 1) := by decide +kernel
theorem dX0_collect_75 : decode cX0_collect 75 = .ok (.istore 6, 2) := by decide +kernel
theorem dX0_collect_77 : decode cX0_collect 77 = .ok (.aload_n 1, 1) := by decide +kernel
theorem dX0_collect_78 : decode cX0_collect 78 = .ok (.getfield 27, 3) := by decide +kernel
theorem dX0_collect_81 : decode cX0_collect 81 = .ok (.iload 4, 2) := by decide +kernel
theorem dX0_collect_83 : decode cX0_collect 83 = .ok (.iaload, 1) := by decide +kernel
theorem dX0_collect_84 : decode cX0_collect 84 = .ok (.aload_n 1, 1) := by decide +kernel
theorem dX0_collect_85 : decode cX0_collect 85 = .ok (.getfield 27, 3) := by decide +kernel
theorem dX0_collect_88 : decode cX0_collect 88 = .ok (.iload 6, 2) := by decide +kernel
theorem dX0_collect_90 : decode cX0_collect 90 = .ok (.iaload, 1) := by decide +kernel
theorem dX0_collect_91 : decode cX0_collect 91 = .ok (.if_icmp .gt 17, 3) := by decide +kernel
theorem dX0_collect_94 : decode cX0_collect 94 = .ok (.aload_n 0, 1) := by decide +kernel
theorem dX0_collect_95 : decode cX0_collect 95 = .ok (.aload_n 1, 1) := by decide +kernel
theorem dX0_collect_96 : decode cX0_collect 96 = .ok (.iload 4, 2) := by decide +kernel
theorem dX0_collect_98 : decode cX0_collect 98 = .ok (.iload 6, 2) := by decide +kernel
theorem dX0_collect_100 : decode cX0_collect 100 = .ok (.iload_n 2, 1) := by decide +kernel
theorem dX0_collect_101 : decode cX0_collect 101 = .ok (.iconst 1, 1) := by decide +kernel
theorem dX0_collect_102 : decode cX0_collect 102 = .ok (.invokevirtual 30, 3) := by decide +kernel
theorem dX0_collect_105 : decode cX0_collect 105 = .ok (.goto 14, 3) := by decide +kernel
theorem dX0_collect_108 : decode cX0_collect 108 = .ok (.aload_n 0, 1) := by decide +kernel
theorem dX0_collect_109 : decode cX0_collect 109 = .ok (.aload_n 1, 1) := by decide +kernel
theorem dX0_collect_110 : decode cX0_collect 110 = .ok (.iload 6, 2) := by decide +kernel
theorem dX0_collect_112 : decode cX0_collect 112 = .ok (.iload 4, 2) := by decide +kernel
theorem dX0_collect_114 : decode cX0_collect 114 = .ok (.iload_n 2, 1) := by decide +kernel
theorem dX0_collect_115 : decode cX0_collect 115 = .ok (.iconst (-1), 1) := by decide +kernel
theorem dX0_collect_116 : decode cX0_collect 116 = .ok (.invokevirtual 30, 3) := by decide +kernel
theorem dX0_collect_119 : decode cX0_collect 119 = .ok (.iinc 4 1, 3) := by decide +kernel
theorem dX0_collect_122 : decode cX0_collect 122 = .ok (.goto (-112), 3) := by decide +kernel
theorem dX0_collect_125 : decode cX0_collect 125 = .ok (.return_, 1) := by decide +kernel
set_option maxRecDepth 20000 in
theorem ggX0_cross_J9_floorDiv_f86c9 : GoodIn wsX0_cross wsJ9_floorDiv_f86c9 := goodIn_r _ [4] (by decide +kernel) (by decide +kernel)
set_option maxRecDepth 20000 in
theorem gX0_cross_J9_floorDiv_f86c9 : GoodIn wsX0_cross (va_wsS RX0 35 yJ9_floorDiv_f86c9 wsJ9_floorDiv_f86c9) := goodIn_app (goodIn_of _ (by decide +kernel)) ggX0_cross_J9_floorDiv_f86c9
set_option maxRecDepth 20000 in
theorem ggX0_cross_X0_insert : GoodIn wsX0_cross wsX0_insert := goodIn_ca (goodIn_r _ [9, 10, 11, 12, 17, 18, 19] (by decide +kernel) (by decide +kernel)) (goodIn_sub (fun _ h => List.mem_cons_of_mem _ (List.mem_append_right _ h)) (by decide +kernel))
set_option maxRecDepth 20000 in
theorem gX0_cross_X0_insert : GoodIn wsX0_cross (wsV RX0 41 RX0 yX0_insert wsX0_insert) := goodIn_app (goodIn_of _ (by decide +kernel)) ggX0_cross_X0_insert
theorem dX0_cross_0 : decode cX0_cross 0 = .ok (.aload_n 1, 1) := by decide +kernel
theorem dX0_cross_1 : decode cX0_cross 1 = .ok (.getfield 27, 3) := by decide +kernel
theorem dX0_cross_4 : decode cX0_cross 4 = .ok (.iload_n 2, 1) := by decide +kernel
theorem dX0_cross_5 : decode cX0_cross 5 = .ok (.iaload, 1) := by decide +kernel
theorem dX0_cross_6 : decode cX0_cross 6 = .ok (.istore 6, 2) := by decide +kernel
theorem dX0_cross_8 : decode cX0_cross 8 = .ok (.aload_n 1, 1) := by decide +kernel
theorem dX0_cross_9 : decode cX0_cross 9 = .ok (.getfield 27, 3) := by decide +kernel
theorem dX0_cross_12 : decode cX0_cross 12 = .ok (.iload_n 3, 1) := by decide +kernel
theorem dX0_cross_13 : decode cX0_cross 13 = .ok (.iaload, 1) := by decide +kernel
theorem dX0_cross_14 : decode cX0_cross 14 = .ok (.istore 7, 2) := by decide +kernel
theorem dX0_cross_16 : decode cX0_cross 16 = .ok (.iload 6, 2) := by decide +kernel
theorem dX0_cross_18 : decode cX0_cross 18 = .ok (.iload 4, 2) := by decide +kernel
theorem dX0_cross_20 : decode cX0_cross 20 = .ok (.if_icmp .gt 58, 3) := by decide +kernel
theorem dX0_cross_23 : decode cX0_cross 23 = .ok (.iload 4, 2) := by decide +kernel
theorem dX0_cross_25 : decode cX0_cross 25 = .ok (.iload 7, 2) := by decide +kernel
theorem dX0_cross_27 : decode cX0_cross 27 = .ok (.if_icmp .ge 51, 3) := by decide +kernel
theorem dX0_cross_30 : decode cX0_cross 30 = .ok (.iload 4, 2) := by decide +kernel
theorem dX0_cross_32 : decode cX0_cross 32 = .ok (.iload 6, 2) := by decide +kernel
theorem dX0_cross_34 : decode cX0_cross 34 = .ok (.isub, 1) := by decide +kernel
theorem dX0_cross_35 : decode cX0_cross 35 = .ok (.i2l, 1) := by decide +kernel
theorem dX0_cross_36 : decode cX0_cross 36 = .ok (.aload_n 1, 1) := by decide +kernel
theorem dX0_cross_37 : decode cX0_cross 37 = .ok (.getfield 34, 3) := by decide +kernel
theorem dX0_cross_40 : decode cX0_cross 40 = .ok (.iload_n 3, 1) := by decide +kernel
theorem dX0_cross_41 : decode cX0_cross 41 = .ok (.iaload, 1) := by decide +kernel
theorem dX0_cross_42 : decode cX0_cross 42 = .ok (.aload_n 1, 1) := by decide +kernel
theorem dX0_cross_43 : decode cX0_cross 43 = .ok (.getfield 34, 3) := by decide +kernel
theorem dX0_cross_46 : decode cX0_cross 46 = .ok (.iload_n 2, 1) := by decide +kernel
theorem dX0_cross_47 : decode cX0_cross 47 = .ok (.iaload, 1) := by decide +kernel
theorem dX0_cross_48 : decode cX0_cross 48 = .ok (.isub, 1) := by decide +kernel
theorem dX0_cross_49 : decode cX0_cross 49 = .ok (.i2l, 1) := by decide +kernel
theorem dX0_cross_50 : decode cX0_cross 50 = .ok (.lmul, 1) := by decide +kernel
theorem dX0_cross_51 : decode cX0_cross 51 = .ok (.lstore 8, 2) := by decide +kernel
theorem dX0_cross_53 : decode cX0_cross 53 = .ok (.aload_n 0, 1) := by decide +kernel
theorem dX0_cross_54 : decode cX0_cross 54 = .ok (.aload_n 1, 1) := by decide +kernel
theorem dX0_cross_55 : decode cX0_cross 55 = .ok (.getfield 34, 3) := by decide +kernel
theorem dX0_cross_58 : decode cX0_cross 58 = .ok (.iload_n 2, 1) := by decide +kernel
theorem dX0_cross_59 : decode cX0_cross 59 = .ok (.iaload, 1) := by decide +kernel
theorem dX0_cross_60 : decode cX0_cross 60 = .ok (.lload 8, 2) := by decide +kernel
theorem dX0_cross_62 : decode cX0_cross 62 = .ok (.iload 7, 2) := by decide +kernel
theorem dX0_cross_64 : decode cX0_cross 64 = .ok (.iload 6, 2) := by decide +kernel
theorem dX0_cross_66 : decode cX0_cross 66 = .ok (.isub, 1) := by decide +kernel
theorem dX0_cross_67 : decode cX0_cross 67 = .ok (.i2l, 1) := by decide +kernel
theorem dX0_cross_68 : decode cX0_cross 68 = .ok (.invokestatic 35, 3) := by decide +kernel
theorem dX0_cross_71 : decode cX0_cross 71 = .ok (.l2i, 1) := by decide +kernel
theorem dX0_cross_72 : decode cX0_cross 72 = .ok (.iadd, 1) := by decide +kernel
theorem dX0_cross_73 : decode cX0_cross 73 = .ok (.iload 5, 2) := by decide +kernel
theorem dX0_cross_75 : decode cX0_cross 75 = .ok (.invokevirtual 41, 3) := by decide +kernel
theorem dX0_cross_78 : decode cX0_cross 78 = .ok (.return_, 1) := by decide +kernel
theorem dX0_insert_0 : decode cX0_insert 0 = .ok (.aload_n 0, 1) := by decide +kernel
theorem dX0_insert_1 : decode cX0_insert 1 = .ok (.getfield 18, 3) := by decide +kernel
theorem dX0_insert_4 : decode cX0_insert 4 = .ok (.bipush 100, 2) := by decide +kernel
theorem dX0_insert_6 : decode cX0_insert 6 = .ok (.if_icmp .lt 4, 3) := by decide +kernel
theorem dX0_insert_9 : decode cX0_insert 9 = .ok (.return_, 1) := by decide +kernel
theorem dX0_insert_10 : decode cX0_insert 10 = .ok (.aload_n 0, 1) := by decide +kernel
theorem dX0_insert_11 : decode cX0_insert 11 = .ok (.getfield 18, 3) := by decide +kernel
theorem dX0_insert_14 : decode cX0_insert 14 = .ok (.istore_n 3, 1) := by decide +kernel
theorem dX0_insert_15 : decode cX0_insert 15 = .ok (.iload_n 3, 1) := by decide +kernel
theorem dX0_insert_16 : decode cX0_insert 16 = .ok (.ifCond .le 49, 3) := by decide +kernel
theorem dX0_insert_19 : decode cX0_insert 19 = .ok (.aload_n 0, 1) := by decide +kernel
theorem dX0_insert_20 : decode cX0_insert 20 = .ok (.getfield 9, 3) := by decide +kernel
theorem dX0_insert_23 : decode cX0_insert 23 = .ok (.iload_n 3, 1) := by decide +kernel
theorem dX0_insert_24 : decode cX0_insert 24 = .ok (.iconst 1, 1) := by decide +kernel
theorem dX0_insert_25 : decode cX0_insert 25 = .ok (.isub, 1) := by decide +kernel
theorem dX0_insert_26 : decode cX0_insert 26 = .ok (.iaload, 1) := by decide +kernel
theorem dX0_insert_27 : decode cX0_insert 27 = .ok (.iload_n 1, 1) := by decide +kernel
theorem dX0_insert_28 : decode cX0_insert 28 = .ok (.if_icmp .le 37, 3) := by decide +kernel
theorem dX0_insert_31 : decode cX0_insert 31 = .ok (.aload_n 0, 1) := by decide +kernel
theorem dX0_insert_32 : decode cX0_insert 32 = .ok (.getfield 9, 3) := by decide +kernel
theorem dX0_insert_35 : decode cX0_insert 35 = .ok (.iload_n 3, 1) := by decide +kernel
theorem dX0_insert_36 : decode cX0_insert 36 = .ok (.aload_n 0, 1) := by decide +kernel
theorem dX0_insert_37 : decode cX0_insert 37 = .ok (.getfield 9, 3) := by decide +kernel
theorem dX0_insert_40 : decode cX0_insert 40 = .ok (.iload_n 3, 1) := by decide +kernel
theorem dX0_insert_41 : decode cX0_insert 41 = .ok (.iconst 1, 1) := by decide +kernel
theorem dX0_insert_42 : decode cX0_insert 42 = .ok (.isub, 1) := by decide +kernel
theorem dX0_insert_43 : decode cX0_insert 43 = .ok (.iaload, 1) := by decide +kernel
theorem dX0_insert_44 : decode cX0_insert 44 = .ok (.iastore, 1) := by decide +kernel
theorem dX0_insert_45 : decode cX0_insert 45 = .ok (.aload_n 0, 1) := by decide +kernel
theorem dX0_insert_46 : decode cX0_insert 46 = .ok (.getfield 15, 3) := by decide +kernel
theorem dX0_insert_49 : decode cX0_insert 49 = .ok (.iload_n 3, 1) := by decide +kernel
theorem dX0_insert_50 : decode cX0_insert 50 = .ok (.aload_n 0, 1) := by decide +kernel
theorem dX0_insert_51 : decode cX0_insert 51 = .ok (.getfield 15, 3) := by decide +kernel
theorem dX0_insert_54 : decode cX0_insert 54 = .ok (.iload_n 3, 1) := by decide +kernel
theorem dX0_insert_55 : decode cX0_insert 55 = .ok (.iconst 1, 1) := by decide +kernel
theorem dX0_insert_56 : decode cX0_insert 56 = .ok (.isub, 1) := by decide +kernel
theorem dX0_insert_57 : decode cX0_insert 57 = .ok (.iaload, 1) := by decide +kernel
theorem dX0_insert_58 : decode cX0_insert 58 = .ok (.iastore, 1) := by decide +kernel
theorem dX0_insert_59 : decode cX0_insert 59 = .ok (.iinc 3 (-1), 3) := by decide +kernel
theorem dX0_insert_62 : decode cX0_insert 62 = .ok (.goto (-47), 3) := by decide +kernel
theorem dX0_insert_65 : decode cX0_insert 65 = .ok (.aload_n 0, 1) := by decide +kernel
theorem dX0_insert_66 : decode cX0_insert 66 = .ok (.getfield 9, 3) := by decide +kernel
theorem dX0_insert_69 : decode cX0_insert 69 = .ok (.iload_n 3, 1) := by decide +kernel
theorem dX0_insert_70 : decode cX0_insert 70 = .ok (.iload_n 1, 1) := by decide +kernel
theorem dX0_insert_71 : decode cX0_insert 71 = .ok (.iastore, 1) := by decide +kernel
theorem dX0_insert_72 : decode cX0_insert 72 = .ok (.aload_n 0, 1) := by decide +kernel
theorem dX0_insert_73 : decode cX0_insert 73 = .ok (.getfield 15, 3) := by decide +kernel
theorem dX0_insert_76 : decode cX0_insert 76 = .ok (.iload_n 3, 1) := by decide +kernel
theorem dX0_insert_77 : decode cX0_insert 77 = .ok (.iload_n 2, 1) := by decide +kernel
theorem dX0_insert_78 : decode cX0_insert 78 = .ok (.iastore, 1) := by decide +kernel
theorem dX0_insert_79 : decode cX0_insert 79 = .ok (.aload_n 0, 1) := by decide +kernel
theorem dX0_insert_80 : decode cX0_insert 80 = .ok (.dup, 1) := by decide +kernel
theorem dX0_insert_81 : decode cX0_insert 81 = .ok (.getfield 18, 3) := by decide +kernel
theorem dX0_insert_84 : decode cX0_insert 84 = .ok (.iconst 1, 1) := by decide +kernel
theorem dX0_insert_85 : decode cX0_insert 85 = .ok (.iadd, 1) := by decide +kernel
theorem dX0_insert_86 : decode cX0_insert 86 = .ok (.putfield 18, 3) := by decide +kernel
theorem dX0_insert_89 : decode cX0_insert 89 = .ok (.return_, 1) := by decide +kernel
theorem dX1_init_0 : decode cX1_init 0 = .ok (.aload_n 0, 1) := by decide +kernel
theorem dX1_init_1 : decode cX1_init 1 = .ok (.invokespecial 1, 3) := by decide +kernel
theorem dX1_init_4 : decode cX1_init 4 = .ok (.aload_n 0, 1) := by decide +kernel
theorem dX1_init_5 : decode cX1_init 5 = .ok (.iconst 0, 1) := by decide +kernel
theorem dX1_init_6 : decode cX1_init 6 = .ok (.putfield 7, 3) := by decide +kernel
theorem dX1_init_9 : decode cX1_init 9 = .ok (.aload_n 0, 1) := by decide +kernel
theorem dX1_init_10 : decode cX1_init 10 = .ok (.iconst 2, 1) := by decide +kernel
theorem dX1_init_11 : decode cX1_init 11 = .ok (.iload_n 1, 1) := by decide +kernel
theorem dX1_init_12 : decode cX1_init 12 = .ok (.imul, 1) := by decide +kernel
theorem dX1_init_13 : decode cX1_init 13 = .ok (.newarray .byte, 2) := by decide +kernel
theorem dX1_init_15 : decode cX1_init 15 = .ok (.putfield 13, 3) := by decide +kernel
theorem dX1_init_18 : decode cX1_init 18 = .ok (.return_, 1) := by decide +kernel
set_option maxRecDepth 20000 in
theorem ggX1_pack_X1_put : GoodIn wsX1_pack wsX1_put := goodIn_ca (goodIn_r _ [7, 1, 2, 8, 9] (by decide +kernel) (by decide +kernel)) (goodIn_sub (fun _ h => List.mem_cons_of_mem _ (List.mem_append_right _ h)) (by decide +kernel))
set_option maxRecDepth 20000 in
theorem gX1_pack_X1_put : GoodIn wsX1_pack (wsV RX1 17 RX1 yX1_put wsX1_put) := goodIn_app (goodIn_of _ (by decide +kernel)) ggX1_pack_X1_put
theorem dX1_pack_0 : decode cX1_pack 0 = .ok (.aload_n 0, 1) := by decide +kernel
theorem dX1_pack_1 : decode cX1_pack 1 = .ok (.iconst 0, 1) := by decide +kernel
theorem dX1_pack_2 : decode cX1_pack 2 = .ok (.putfield 7, 3) := by decide +kernel
theorem dX1_pack_5 : decode cX1_pack 5 = .ok (.iconst 0, 1) := by decide +kernel
theorem dX1_pack_6 : decode cX1_pack 6 = .ok (.istore 4, 2) := by decide +kernel
theorem dX1_pack_8 : decode cX1_pack 8 = .ok (.iconst 0, 1) := by decide +kernel
theorem dX1_pack_9 : decode cX1_pack 9 = .ok (.istore 5, 2) := by decide +kernel
theorem dX1_pack_11 : decode cX1_pack 11 = .ok (.iload_n 2, 1) := by decide +kernel
theorem dX1_pack_12 : decode cX1_pack 12 = .ok (.istore 6, 2) := by decide +kernel
theorem dX1_pack_14 : decode cX1_pack 14 = .ok (.iload 6, 2) := by decide +kernel
theorem dX1_pack_16 : decode cX1_pack 16 = .ok (.iload_n 3, 1) := by decide +kernel
theorem dX1_pack_17 : decode cX1_pack 17 = .ok (.if_icmp .ge 129, 3) := by decide +kernel
theorem dX1_pack_20 : decode cX1_pack 20 = .ok (.iload 6, 2) := by decide +kernel
theorem dX1_pack_22 : decode cX1_pack 22 = .ok (.iload_n 2, 1) := by decide +kernel
theorem dX1_pack_23 : decode cX1_pack 23 = .ok (.if_icmp .le 31, 3) := by decide +kernel
theorem dX1_pack_26 : decode cX1_pack 26 = .ok (.aload_n 1, 1) := by decide +kernel
theorem dX1_pack_27 : decode cX1_pack 27 = .ok (.iload 6, 2) := by decide +kernel
theorem dX1_pack_29 : decode cX1_pack 29 = .ok (.iaload, 1) := by decide +kernel
theorem dX1_pack_30 : decode cX1_pack 30 = .ok (.aload_n 1, 1) := by decide +kernel
theorem dX1_pack_31 : decode cX1_pack 31 = .ok (.iload 6, 2) := by decide +kernel
theorem dX1_pack_33 : decode cX1_pack 33 = .ok (.iconst 1, 1) := by decide +kernel
theorem dX1_pack_34 : decode cX1_pack 34 = .ok (.isub, 1) := by decide +kernel
theorem dX1_pack_35 : decode cX1_pack 35 = .ok (.iaload, 1) := by decide +kernel
theorem dX1_pack_36 : decode cX1_pack 36 = .ok (.if_icmp .ne 18, 3) := by decide +kernel
theorem dX1_pack_39 : decode cX1_pack 39 = .ok (.aload_n 0, 1) := by decide +kernel
theorem dX1_pack_40 : decode cX1_pack 40 = .ok (.getfield 13, 3) := by decide +kernel
theorem dX1_pack_43 : decode cX1_pack 43 = .ok (.iload 4, 2) := by decide +kernel
theorem dX1_pack_45 : decode cX1_pack 45 = .ok (.dup2, 1) := by decide +kernel
theorem dX1_pack_46 : decode cX1_pack 46 = .ok (.baload, 1) := by decide +kernel
theorem dX1_pack_47 : decode cX1_pack 47 = .ok (.iconst 1, 1) := by decide +kernel
theorem dX1_pack_48 : decode cX1_pack 48 = .ok (.isub, 1) := by decide +kernel
theorem dX1_pack_49 : decode cX1_pack 49 = .ok (.i2b, 1) := by decide +kernel
theorem dX1_pack_50 : decode cX1_pack 50 = .ok (.bastore, 1) := by decide +kernel
theorem dX1_pack_51 : decode cX1_pack 51 = .ok (.goto 89, 3) := by decide +kernel
theorem dX1_pack_54 : decode cX1_pack 54 = .ok (.iload 6, 2) := by decide +kernel
theorem dX1_pack_56 : decode cX1_pack 56 = .ok (.iconst 1, 1) := by decide +kernel
theorem dX1_pack_57 : decode cX1_pack 57 = .ok (.iadd, 1) := by decide +kernel
theorem dX1_pack_58 : decode cX1_pack 58 = .ok (.iload_n 3, 1) := by decide +kernel
theorem dX1_pack_59 : decode cX1_pack 59 = .ok (.if_icmp .ge 42, 3) := by decide +kernel
theorem dX1_pack_62 : decode cX1_pack 62 = .ok (.aload_n 1, 1) := by decide +kernel
theorem dX1_pack_63 : decode cX1_pack 63 = .ok (.iload 6, 2) := by decide +kernel
theorem dX1_pack_65 : decode cX1_pack 65 = .ok (.iaload, 1) := by decide +kernel
theorem dX1_pack_66 : decode cX1_pack 66 = .ok (.aload_n 1, 1) := by decide +kernel
theorem dX1_pack_67 : decode cX1_pack 67 = .ok (.iload 6, 2) := by decide +kernel
theorem dX1_pack_69 : decode cX1_pack 69 = .ok (.iconst 1, 1) := by decide +kernel
theorem dX1_pack_70 : decode cX1_pack 70 = .ok (.iadd, 1) := by decide +kernel
theorem dX1_pack_71 : decode cX1_pack 71 = .ok (.iaload, 1) := by decide +kernel
theorem dX1_pack_72 : decode cX1_pack 72 = .ok (.if_icmp .ne 29, 3) := by decide +kernel
theorem dX1_pack_75 : decode cX1_pack 75 = .ok (.aload_n 0, 1) := by decide +kernel
theorem dX1_pack_76 : decode cX1_pack 76 = .ok (.getfield 7, 3) := by decide +kernel
theorem dX1_pack_79 : decode cX1_pack 79 = .ok (.istore 4, 2) := by decide +kernel
theorem dX1_pack_81 : decode cX1_pack 81 = .ok (.aload_n 0, 1) := by decide +kernel
theorem dX1_pack_82 : decode cX1_pack 82 = .ok (.bipush 127, 2) := by decide +kernel
theorem dX1_pack_84 : decode cX1_pack 84 = .ok (.invokevirtual 17, 3) := by decide +kernel
theorem dX1_pack_87 : decode cX1_pack 87 = .ok (.aload_n 0, 1) := by decide +kernel
theorem dX1_pack_88 : decode cX1_pack 88 = .ok (.aload_n 1, 1) := by decide +kernel
theorem dX1_pack_89 : decode cX1_pack 89 = .ok (.iload 6, 2) := by decide +kernel
theorem dX1_pack_91 : decode cX1_pack 91 = .ok (.iaload, 1) := by decide +kernel
theorem dX1_pack_92 : decode cX1_pack 92 = .ok (.invokevirtual 17, 3) := by decide +kernel
theorem dX1_pack_95 : decode cX1_pack 95 = .ok (.iconst 0, 1) := by decide +kernel
theorem dX1_pack_96 : decode cX1_pack 96 = .ok (.istore 5, 2) := by decide +kernel
theorem dX1_pack_98 : decode cX1_pack 98 = .ok (.goto 42, 3) := by decide +kernel
theorem dX1_pack_101 : decode cX1_pack 101 = .ok (.iload 5, 2) := by decide +kernel
theorem dX1_pack_103 : decode cX1_pack 103 = .ok (.ifCond .ne 14, 3) := by decide +kernel
theorem dX1_pack_106 : decode cX1_pack 106 = .ok (.aload_n 0, 1) := by decide +kernel
theorem dX1_pack_107 : decode cX1_pack 107 = .ok (.getfield 7, 3) := by decide +kernel
theorem dX1_pack_110 : decode cX1_pack 110 = .ok (.istore 4, 2) := by decide +kernel
theorem dX1_pack_112 : decode cX1_pack 112 = .ok (.aload_n 0, 1) := by decide +kernel
theorem dX1_pack_113 : decode cX1_pack 113 = .ok (.iconst 0, 1) := by decide +kernel
theorem dX1_pack_114 : decode cX1_pack 114 = .ok (.invokevirtual 17, 3) := by decide +kernel
theorem dX1_pack_117 : decode cX1_pack 117 = .ok (.aload_n 0, 1) := by decide +kernel
theorem dX1_pack_118 : decode cX1_pack 118 = .ok (.getfield 13, 3) := by decide +kernel
theorem dX1_pack_121 : decode cX1_pack 121 = .ok (.iload 4, 2) := by decide +kernel
theorem dX1_pack_123 : decode cX1_pack 123 = .ok (.dup2, 1) := by decide +kernel
theorem dX1_pack_124 : decode cX1_pack 124 = .ok (.baload, 1) := by decide +kernel
theorem dX1_pack_125 : decode cX1_pack 125 = .ok (.iconst 1, 1) := by decide +kernel
theorem dX1_pack_126 : decode cX1_pack 126 = .ok (.iadd, 1) := by decide +kernel
theorem dX1_pack_127 : decode cX1_pack 127 = .ok (.i2b, 1) := by decide +kernel
theorem dX1_pack_128 : decode cX1_pack 128 = .ok (.bastore, 1) := by decide +kernel
theorem dX1_pack_129 : decode cX1_pack 129 = .ok (.aload_n 0, 1) := by decide +kernel
theorem dX1_pack_130 : decode cX1_pack 130 = .ok (.aload_n 1, 1) := by decide +kernel
theorem dX1_pack_131 : decode cX1_pack 131 = .ok (.iload 6, 2) := by decide +kernel
theorem dX1_pack_133 : decode cX1_pack 133 = .ok (.iaload, 1) := by decide +kernel
theorem dX1_pack_134 : decode cX1_pack 134 = .ok (.invokevirtual 17, 3) := by decide +kernel
theorem dX1_pack_137 : decode cX1_pack 137 = .ok (.iconst 1, 1) := by decide +kernel
theorem dX1_pack_138 : decode cX1_pack 138 = .ok (.istore 5, 2) := by decide +kernel
theorem dX1_pack_140 : decode cX1_pack 140 = .ok (.iinc 6 1, 3) := by decide +kernel
theorem dX1_pack_143 : decode cX1_pack 143 = .ok (.goto (-129), 3) := by decide +kernel
theorem dX1_pack_146 : decode cX1_pack 146 = .ok (.return_, 1) := by decide +kernel
theorem dX1_put_0 : decode cX1_put 0 = .ok (.aload_n 0, 1) := by decide +kernel
theorem dX1_put_1 : decode cX1_put 1 = .ok (.getfield 7, 3) := by decide +kernel
theorem dX1_put_4 : decode cX1_put 4 = .ok (.aload_n 0, 1) := by decide +kernel
theorem dX1_put_5 : decode cX1_put 5 = .ok (.getfield 13, 3) := by decide +kernel
theorem dX1_put_8 : decode cX1_put 8 = .ok (.arraylength, 1) := by decide +kernel
theorem dX1_put_9 : decode cX1_put 9 = .ok (.if_icmp .ge 24, 3) := by decide +kernel
theorem dX1_put_12 : decode cX1_put 12 = .ok (.aload_n 0, 1) := by decide +kernel
theorem dX1_put_13 : decode cX1_put 13 = .ok (.getfield 13, 3) := by decide +kernel
theorem dX1_put_16 : decode cX1_put 16 = .ok (.aload_n 0, 1) := by decide +kernel
theorem dX1_put_17 : decode cX1_put 17 = .ok (.getfield 7, 3) := by decide +kernel
theorem dX1_put_20 : decode cX1_put 20 = .ok (.iload_n 1, 1) := by decide +kernel
theorem dX1_put_21 : decode cX1_put 21 = .ok (.i2b, 1) := by decide +kernel
theorem dX1_put_22 : decode cX1_put 22 = .ok (.bastore, 1) := by decide +kernel
theorem dX1_put_23 : decode cX1_put 23 = .ok (.aload_n 0, 1) := by decide +kernel
theorem dX1_put_24 : decode cX1_put 24 = .ok (.dup, 1) := by decide +kernel
theorem dX1_put_25 : decode cX1_put 25 = .ok (.getfield 7, 3) := by decide +kernel
theorem dX1_put_28 : decode cX1_put 28 = .ok (.iconst 1, 1) := by decide +kernel
theorem dX1_put_29 : decode cX1_put 29 = .ok (.iadd, 1) := by decide +kernel
theorem dX1_put_30 : decode cX1_put 30 = .ok (.putfield 7, 3) := by decide +kernel
theorem dX1_put_33 : decode cX1_put 33 = .ok (.return_, 1) := by decide +kernel
theorem dX2_init_0 : decode cX2_init 0 = .ok (.aload_n 0, 1) := by decide +kernel
theorem dX2_init_1 : decode cX2_init 1 = .ok (.invokespecial 1, 3) := by decide +kernel
theorem dX2_init_4 : decode cX2_init 4 = .ok (.aload_n 0, 1) := by decide +kernel
theorem dX2_init_5 : decode cX2_init 5 = .ok (.bipush 100, 2) := by decide +kernel
theorem dX2_init_7 : decode cX2_init 7 = .ok (.newarray .int, 2) := by decide +kernel
theorem dX2_init_9 : decode cX2_init 9 = .ok (.putfield 9, 3) := by decide +kernel
theorem dX2_init_12 : decode cX2_init 12 = .ok (.aload_n 0, 1) := by decide +kernel
theorem dX2_init_13 : decode cX2_init 13 = .ok (.bipush 100, 2) := by decide +kernel
theorem dX2_init_15 : decode cX2_init 15 = .ok (.newarray .int, 2) := by decide +kernel
theorem dX2_init_17 : decode cX2_init 17 = .ok (.putfield 13, 3) := by decide +kernel
theorem dX2_init_20 : decode cX2_init 20 = .ok (.aload_n 0, 1) := by decide +kernel
theorem dX2_init_21 : decode cX2_init 21 = .ok (.bipush 100, 2) := by decide +kernel
theorem dX2_init_23 : decode cX2_init 23 = .ok (.newarray .boolean, 2) := by decide +kernel
theorem dX2_init_25 : decode cX2_init 25 = .ok (.putfield 16, 3) := by decide +kernel
theorem dX2_init_28 : decode cX2_init 28 = .ok (.aload_n 0, 1) := by decide +kernel
theorem dX2_init_29 : decode cX2_init 29 = .ok (.iconst 0, 1) := by decide +kernel
theorem dX2_init_30 : decode cX2_init 30 = .ok (.putfield 20, 3) := by decide +kernel
theorem dX2_init_33 : decode cX2_init 33 = .ok (.return_, 1) := by decide +kernel
set_option maxRecDepth 20000 in
theorem ggX2_begin_X2_add : GoodIn wsX2_begin wsX2_add := goodIn_ca (goodIn_r _ [5, 6, 7, 8, 9, 10, 11, 12, 13] (by decide +kernel) (by decide +kernel)) (goodIn_sub (fun _ h => List.mem_cons_of_mem _ (List.mem_append_right _ h)) (by decide +kernel))
set_option maxRecDepth 20000 in
theorem gX2_begin_X2_add : GoodIn wsX2_begin (wsV RX2 24 RX2 yX2_add wsX2_add) := goodIn_app (goodIn_of _ (by decide +kernel)) ggX2_begin_X2_add
theorem dX2_begin_0 : decode cX2_begin 0 = .ok (.aload_n 0, 1) := by decide +kernel
theorem dX2_begin_1 : decode cX2_begin 1 = .ok (.iload_n 1, 1) := by decide +kernel
theorem dX2_begin_2 : decode cX2_begin 2 = .ok (.iload_n 2, 1) := by decide +kernel
theorem dX2_begin_3 : decode cX2_begin 3 = .ok (.iconst 1, 1) := by decide +kernel
theorem dX2_begin_4 : decode cX2_begin 4 = .ok (.invokevirtual 24, 3) := by decide +kernel
theorem dX2_begin_7 : decode cX2_begin 7 = .ok (.return_, 1) := by decide +kernel
set_option maxRecDepth 20000 in
theorem ggX2_join_X2_add : GoodIn wsX2_join wsX2_add := goodIn_ca (goodIn_r _ [5, 6, 7, 8, 9, 10, 11, 12, 13] (by decide +kernel) (by decide +kernel)) (goodIn_sub (fun _ h => List.mem_cons_of_mem _ (List.mem_append_right _ h)) (by decide +kernel))
set_option maxRecDepth 20000 in
theorem gX2_join_X2_add : GoodIn wsX2_join (wsV RX2 24 RX2 yX2_add wsX2_add) := goodIn_app (goodIn_of _ (by decide +kernel)) ggX2_join_X2_add
theorem dX2_join_0 : decode cX2_join 0 = .ok (.aload_n 0, 1) := by decide +kernel
theorem dX2_join_1 : decode cX2_join 1 = .ok (.iload_n 1, 1) := by decide +kernel
theorem dX2_join_2 : decode cX2_join 2 = .ok (.iload_n 2, 1) := by decide +kernel
theorem dX2_join_3 : decode cX2_join 3 = .ok (.iconst 0, 1) := by decide +kernel
theorem dX2_join_4 : decode cX2_join 4 = .ok (.invokevirtual 24, 3) := by decide +kernel
theorem dX2_join_7 : decode cX2_join 7 = .ok (.return_, 1) := by decide +kernel
theorem dX2_add_0 : decode cX2_add 0 = .ok (.aload_n 0, 1) := by decide +kernel
theorem dX2_add_1 : decode cX2_add 1 = .ok (.getfield 20, 3) := by decide +kernel
theorem dX2_add_4 : decode cX2_add 4 = .ok (.bipush 100, 2) := by decide +kernel
theorem dX2_add_6 : decode cX2_add 6 = .ok (.if_icmp .ge 43, 3) := by decide +kernel
theorem dX2_add_9 : decode cX2_add 9 = .ok (.aload_n 0, 1) := by decide +kernel
theorem dX2_add_10 : decode cX2_add 10 = .ok (.getfield 9, 3) := by decide +kernel
theorem dX2_add_13 : decode cX2_add 13 = .ok (.aload_n 0, 1) := by decide +kernel
theorem dX2_add_14 : decode cX2_add 14 = .ok (.getfield 20, 3) := by decide +kernel
theorem dX2_add_17 : decode cX2_add 17 = .ok (.iload_n 1, 1) := by decide +kernel
theorem dX2_add_18 : decode cX2_add 18 = .ok (.iastore, 1) := by decide +kernel
theorem dX2_add_19 : decode cX2_add 19 = .ok (.aload_n 0, 1) := by decide +kernel
theorem dX2_add_20 : decode cX2_add 20 = .ok (.getfield 13, 3) := by decide +kernel
theorem dX2_add_23 : decode cX2_add 23 = .ok (.aload_n 0, 1) := by decide +kernel
theorem dX2_add_24 : decode cX2_add 24 = .ok (.getfield 20, 3) := by decide +kernel
theorem dX2_add_27 : decode cX2_add 27 = .ok (.iload_n 2, 1) := by decide +kernel
theorem dX2_add_28 : decode cX2_add 28 = .ok (.iastore, 1) := by decide +kernel
theorem dX2_add_29 : decode cX2_add 29 = .ok (.aload_n 0, 1) := by decide +kernel
theorem dX2_add_30 : decode cX2_add 30 = .ok (.getfield 16, 3) := by decide +kernel
theorem dX2_add_33 : decode cX2_add 33 = .ok (.aload_n 0, 1) := by decide +kernel
theorem dX2_add_34 : decode cX2_add 34 = .ok (.getfield 20, 3) := by decide +kernel
theorem dX2_add_37 : decode cX2_add 37 = .ok (.iload_n 3, 1) := by decide +kernel
theorem dX2_add_38 : decode cX2_add 38 = .ok (.bastore, 1) := by decide +kernel
theorem dX2_add_39 : decode cX2_add 39 = .ok (.aload_n 0, 1) := by decide +kernel
theorem dX2_add_40 : decode cX2_add 40 = .ok (.dup, 1) := by decide +kernel
theorem dX2_add_41 : decode cX2_add 41 = .ok (.getfield 20, 3) := by decide +kernel
theorem dX2_add_44 : decode cX2_add 44 = .ok (.iconst 1, 1) := by decide +kernel
theorem dX2_add_45 : decode cX2_add 45 = .ok (.iadd, 1) := by decide +kernel
theorem dX2_add_46 : decode cX2_add 46 = .ok (.putfield 20, 3) := by decide +kernel
theorem dX2_add_49 : decode cX2_add 49 = .ok (.return_, 1) := by decide +kernel
theorem dX2_clear_0 : decode cX2_clear 0 = .ok (.aload_n 0, 1) := by decide +kernel
theorem dX2_clear_1 : decode cX2_clear 1 = .ok (.iconst 0, 1) := by decide +kernel
theorem dX2_clear_2 : decode cX2_clear 2 = .ok (.putfield 20, 3) := by decide +kernel
theorem dX2_clear_5 : decode cX2_clear 5 = .ok (.return_, 1) := by decide +kernel
set_option maxRecDepth 20000 in
theorem ggX3_init_X0_init : GoodIn wsX3_init wsX0_init := goodIn_r _ [11, 12, 2, 3, 8, 13, 14, 15, 16, 17, 18] (by decide +kernel) (by decide +kernel)
set_option maxRecDepth 20000 in
theorem gX3_init_X0_init_n11 : GoodIn wsX3_init (wsX0_init) := ggX3_init_X0_init
theorem dX3_init_0 : decode cX3_init 0 = .ok (.aload_n 0, 1) := by decide +kernel
theorem dX3_init_1 : decode cX3_init 1 = .ok (.invokespecial 3, 3) := by decide +kernel
theorem dX3_init_4 : decode cX3_init 4 = .ok (.aload_n 0, 1) := by decide +kernel
theorem dX3_init_5 : decode cX3_init 5 = .ok (.new 9, 3) := by decide +kernel
theorem dX3_init_8 : decode cX3_init 8 = .ok (.dup, 1) := by decide +kernel
theorem dX3_init_9 : decode cX3_init 9 = .ok (.invokespecial 11, 3) := by decide +kernel
theorem dX3_init_12 : decode cX3_init 12 = .ok (.putfield 12, 3) := by decide +kernel
theorem dX3_init_15 : decode cX3_init 15 = .ok (.aload_n 0, 1) := by decide +kernel
theorem dX3_init_16 : decode cX3_init 16 = .ok (.iload_n 1, 1) := by decide +kernel
theorem dX3_init_17 : decode cX3_init 17 = .ok (.newarray .int, 2) := by decide +kernel
theorem dX3_init_19 : decode cX3_init 19 = .ok (.putfield 18, 3) := by decide +kernel
theorem dX3_init_22 : decode cX3_init 22 = .ok (.return_, 1) := by decide +kernel
theorem dX3_at_0 : decode cX3_at 0 = .ok (.aload_n 0, 1) := by decide +kernel
theorem dX3_at_1 : decode cX3_at 1 = .ok (.getfield 18, 3) := by decide +kernel
theorem dX3_at_4 : decode cX3_at 4 = .ok (.iload_n 1, 1) := by decide +kernel
theorem dX3_at_5 : decode cX3_at 5 = .ok (.iaload, 1) := by decide +kernel
theorem dX3_at_6 : decode cX3_at 6 = .ok (.sipush 255, 3) := by decide +kernel
theorem dX3_at_9 : decode cX3_at 9 = .ok (.imul, 1) := by decide +kernel
theorem dX3_at_10 : decode cX3_at 10 = .ok (.sipush 2048, 3) := by decide +kernel
theorem dX3_at_13 : decode cX3_at 13 = .ok (.iadd, 1) := by decide +kernel
theorem dX3_at_14 : decode cX3_at 14 = .ok (.sipush 4096, 3) := by decide +kernel
theorem dX3_at_17 : decode cX3_at 17 = .ok (.idiv, 1) := by decide +kernel
theorem dX3_at_18 : decode cX3_at 18 = .ok (.ireturn, 1) := by decide +kernel
set_option maxRecDepth 20000 in
theorem ggX3_measure_J7_fill_53178 : GoodIn wsX3_measure wsJ7_fill_53178 := goodIn_r _ [6] (by decide +kernel) (by decide +kernel)
set_option maxRecDepth 20000 in
theorem gX3_measure_J7_fill_53178 : GoodIn wsX3_measure (va_wsS RX3 22 yJ7_fill_53178 wsJ7_fill_53178) := goodIn_app (goodIn_of _ (by decide +kernel)) ggX3_measure_J7_fill_53178
set_option maxRecDepth 20000 in
theorem ggX3_measure_X0_collect : GoodIn wsX3_measure wsX0_collect := goodIn_ca (goodIn_r _ [10, 11, 12, 13, 14, 8, 15, 16, 17, 18, 19, 20, 21, 22, 23, 24, 25, 44, 45, 46, 47, 48, 49, 50] (by decide +kernel) (by decide +kernel)) (goodIn_sub (fun _ h => List.mem_cons_of_mem _ (List.mem_append_right _ h)) (by decide +kernel))
set_option maxRecDepth 20000 in
theorem gX3_measure_X0_collect_n28 : GoodIn wsX3_measure (wsX0_collect) := ggX3_measure_X0_collect
set_option maxRecDepth 20000 in
theorem ggX3_measure_X3_addSubRow : GoodIn wsX3_measure wsX3_addSubRow := goodIn_ca (goodIn_r _ [30, 2, 31, 32, 33, 29, 34, 35, 36, 37, 38, 1, 39, 40, 41, 42, 43, 44, 45, 46] (by decide +kernel) (by decide +kernel)) (goodIn_sub (fun _ h => List.mem_cons_of_mem _ (List.mem_append_right _ h)) (by decide +kernel))
set_option maxRecDepth 20000 in
theorem gX3_measure_X3_addSubRow : GoodIn wsX3_measure (wsV RX3 32 RX3 yX3_addSubRow wsX3_addSubRow) := goodIn_app (goodIn_of _ (by decide +kernel)) ggX3_measure_X3_addSubRow
theorem dX3_measure_0 : decode cX3_measure 0 = .ok (.aload_n 0, 1) := by decide +kernel
theorem dX3_measure_1 : decode cX3_measure 1 = .ok (.getfield 18, 3) := by decide +kernel
theorem dX3_measure_4 : decode cX3_measure 4 = .ok (.iconst 0, 1) := by decide +kernel
theorem dX3_measure_5 : decode cX3_measure 5 = .ok (.invokestatic 22, 3) := by decide +kernel
theorem dX3_measure_8 : decode cX3_measure 8 = .ok (.iconst 0, 1) := by decide +kernel
theorem dX3_measure_9 : decode cX3_measure 9 = .ok (.istore 4, 2) := by decide +kernel
theorem dX3_measure_11 : decode cX3_measure 11 = .ok (.iload 4, 2) := by decide +kernel
theorem dX3_measure_13 : decode cX3_measure 13 = .ok (.bipush 16, 2) := by decide +kernel
theorem dX3_measure_15 : decode cX3_measure 15 = .ok (.if_icmp .ge 35, 3) := by decide +kernel
theorem dX3_measure_18 : decode cX3_measure 18 = .ok (.aload_n 0, 1) := by decide +kernel
theorem dX3_measure_19 : decode cX3_measure 19 = .ok (.getfield 12, 3) := by decide +kernel
theorem dX3_measure_22 : decode cX3_measure 22 = .ok (.aload_n 1, 1) := by decide +kernel
theorem dX3_measure_23 : decode cX3_measure 23 = .ok (.iload_n 2, 1) := by decide +kernel
theorem dX3_measure_24 : decode cX3_measure 24 = .ok (.bipush 16, 2) := by decide +kernel
theorem dX3_measure_26 : decode cX3_measure 26 = .ok (.imul, 1) := by decide +kernel
theorem dX3_measure_27 : decode cX3_measure 27 = .ok (.iload 4, 2) := by decide +kernel
theorem dX3_measure_29 : decode cX3_measure 29 = .ok (.iadd, 1) := by decide +kernel
theorem dX3_measure_30 : decode cX3_measure 30 = .ok (.bipush 16, 2) := by decide +kernel
theorem dX3_measure_32 : decode cX3_measure 32 = .ok (.imul, 1) := by decide +kernel
theorem dX3_measure_33 : decode cX3_measure 33 = .ok (.bipush 8, 2) := by decide +kernel
theorem dX3_measure_35 : decode cX3_measure 35 = .ok (.iadd, 1) := by decide +kernel
theorem dX3_measure_36 : decode cX3_measure 36 = .ok (.invokevirtual 28, 3) := by decide +kernel
theorem dX3_measure_39 : decode cX3_measure 39 = .ok (.aload_n 0, 1) := by decide +kernel
theorem dX3_measure_40 : decode cX3_measure 40 = .ok (.iload_n 3, 1) := by decide +kernel
theorem dX3_measure_41 : decode cX3_measure 41 = .ok (.invokevirtual 32, 3) := by decide +kernel
theorem dX3_measure_44 : decode cX3_measure 44 = .ok (.iinc 4 1, 3) := by decide +kernel
theorem dX3_measure_47 : decode cX3_measure 47 = .ok (.goto (-36), 3) := by decide +kernel
theorem dX3_measure_50 : decode cX3_measure 50 = .ok (.return_, 1) := by decide +kernel
set_option maxRecDepth 20000 in
theorem ggX3_addSubRow_X3_addSpan : GoodIn wsX3_addSubRow wsX3_addSpan := goodIn_ca (goodIn_r _ [6, 7, 8, 9, 10, 11, 12, 13, 14, 15, 16] (by decide +kernel) (by decide +kernel)) (goodIn_sub (fun _ h => List.mem_cons_of_mem _ (List.mem_append_right _ h)) (by decide +kernel))
set_option maxRecDepth 20000 in
theorem gX3_addSubRow_X3_addSpan : GoodIn wsX3_addSubRow (wsV RX3 46 RX3 yX3_addSpan wsX3_addSpan) := goodIn_app (goodIn_of _ (by decide +kernel)) ggX3_addSubRow_X3_addSpan
theorem dX3_addSubRow_0 : decode cX3_addSubRow 0 = .ok (.iconst 0, 1) := by decide +kernel
theorem dX3_addSubRow_1 : decode cX3_addSubRow 1 = .ok (.istore_n 2, 1) := by decide +kernel
theorem dX3_addSubRow_2 : decode cX3_addSubRow 2 = .ok (.iconst 0, 1) := by decide +kernel
theorem dX3_addSubRow_3 : decode cX3_addSubRow 3 = .ok (.istore_n 3, 1) := by decide +kernel
theorem dX3_addSubRow_4 : decode cX3_addSubRow 4 = .ok (.iload_n 3, 1) := by decide +kernel
theorem dX3_addSubRow_5 : decode cX3_addSubRow 5 = .ok (.iconst 1, 1) := by decide +kernel
theorem dX3_addSubRow_6 : decode cX3_addSubRow 6 = .ok (.iadd, 1) := by decide +kernel
theorem dX3_addSubRow_7 : decode cX3_addSubRow 7 = .ok (.aload_n 0, 1) := by decide +kernel
theorem dX3_addSubRow_8 : decode cX3_addSubRow 8 = .ok (.getfield 12, 3) := by decide +kernel
theorem dX3_addSubRow_11 : decode cX3_addSubRow 11 = .ok (.getfield 36, 3) := by decide +kernel
theorem dX3_addSubRow_14 : decode cX3_addSubRow 14 = .ok (.if_icmp .ge 74, 3) := by decide +kernel
theorem dX3_addSubRow_17 : decode cX3_addSubRow 17 = .ok (.iload_n 2, 1) := by decide +kernel
theorem dX3_addSubRow_18 : decode cX3_addSubRow 18 = .ok (.aload_n 0, 1) := by decide +kernel
theorem dX3_addSubRow_19 : decode cX3_addSubRow 19 = .ok (.getfield 12, 3) := by decide +kernel
theorem dX3_addSubRow_22 : decode cX3_addSubRow 22 = .ok (.getfield 40, 3) := by decide +kernel
theorem dX3_addSubRow_25 : decode cX3_addSubRow 25 = .ok (.iload_n 3, 1) := by decide +kernel
theorem dX3_addSubRow_26 : decode cX3_addSubRow 26 = .ok (.iaload, 1) := by decide +kernel
theorem dX3_addSubRow_27 : decode cX3_addSubRow 27 = .ok (.iadd, 1) := by decide +kernel
theorem dX3_addSubRow_28 : decode cX3_addSubRow 28 = .ok (.istore_n 2, 1) := by decide +kernel
theorem dX3_addSubRow_29 : decode cX3_addSubRow 29 = .ok (.iload_n 3, 1) := by decide +kernel
theorem dX3_addSubRow_30 : decode cX3_addSubRow 30 = .ok (.iconst 2, 1) := by decide +kernel
theorem dX3_addSubRow_31 : decode cX3_addSubRow 31 = .ok (.irem, 1) := by decide +kernel
theorem dX3_addSubRow_32 : decode cX3_addSubRow 32 = .ok (.ifCond .ne 7, 3) := by decide +kernel
theorem dX3_addSubRow_35 : decode cX3_addSubRow 35 = .ok (.iconst 1, 1) := by decide +kernel
theorem dX3_addSubRow_36 : decode cX3_addSubRow 36 = .ok (.goto 4, 3) := by decide +kernel
theorem dX3_addSubRow_39 : decode cX3_addSubRow 39 = .ok (.iconst 0, 1) := by decide +kernel
theorem dX3_addSubRow_40 : decode cX3_addSubRow 40 = .ok (.istore 4, 2) := by decide +kernel
theorem dX3_addSubRow_42 : decode cX3_addSubRow 42 = .ok (.iload_n 1, 1) := by decide +kernel
theorem dX3_addSubRow_43 : decode cX3_addSubRow 43 = .ok (.ifCond .ne 10, 3) := by decide +kernel
theorem dX3_addSubRow_46 : decode cX3_addSubRow 46 = .ok (.iload_n 2, 1) := by decide +kernel
theorem dX3_addSubRow_47 : decode cX3_addSubRow 47 = .ok (.ifCond .eq 35, 3) := by decide +kernel
theorem dX3_addSubRow_50 : decode cX3_addSubRow 50 = .ok (.goto 8, 3) := by decide +kernel
theorem dX3_addSubRow_53 : decode cX3_addSubRow 53 = .ok (.iload 4, 2) := by decide +kernel
theorem dX3_addSubRow_55 : decode cX3_addSubRow 55 = .ok (.ifCond .eq 27, 3) := by decide +kernel
theorem dX3_addSubRow_58 : decode cX3_addSubRow 58 = .ok (.aload_n 0, 1) := by decide +kernel
theorem dX3_addSubRow_59 : decode cX3_addSubRow 59 = .ok (.aload_n 0, 1) := by decide +kernel
theorem dX3_addSubRow_60 : decode cX3_addSubRow 60 = .ok (.getfield 12, 3) := by decide +kernel
theorem dX3_addSubRow_63 : decode cX3_addSubRow 63 = .ok (.getfield 43, 3) := by decide +kernel
theorem dX3_addSubRow_66 : decode cX3_addSubRow 66 = .ok (.iload_n 3, 1) := by decide +kernel
theorem dX3_addSubRow_67 : decode cX3_addSubRow 67 = .ok (.iaload, 1) := by decide +kernel
theorem dX3_addSubRow_68 : decode cX3_addSubRow 68 = .ok (.aload_n 0, 1) := by decide +kernel
theorem dX3_addSubRow_69 : decode cX3_addSubRow 69 = .ok (.getfield 12, 3) := by decide +kernel
theorem dX3_addSubRow_72 : decode cX3_addSubRow 72 = .ok (.getfield 43, 3) := by decide +kernel
theorem dX3_addSubRow_75 : decode cX3_addSubRow 75 = .ok (.iload_n 3, 1) := by decide +kernel
theorem dX3_addSubRow_76 : decode cX3_addSubRow 76 = .ok (.iconst 1, 1) := by decide +kernel
theorem dX3_addSubRow_77 : decode cX3_addSubRow 77 = .ok (.iadd, 1) := by decide +kernel
theorem dX3_addSubRow_78 : decode cX3_addSubRow 78 = .ok (.iaload, 1) := by decide +kernel
theorem dX3_addSubRow_79 : decode cX3_addSubRow 79 = .ok (.invokevirtual 46, 3) := by decide +kernel
theorem dX3_addSubRow_82 : decode cX3_addSubRow 82 = .ok (.iinc 3 1, 3) := by decide +kernel
theorem dX3_addSubRow_85 : decode cX3_addSubRow 85 = .ok (.goto (-81), 3) := by decide +kernel
theorem dX3_addSubRow_88 : decode cX3_addSubRow 88 = .ok (.return_, 1) := by decide +kernel
theorem dX3_addSpan_0 : decode cX3_addSpan 0 = .ok (.iconst 0, 1) := by decide +kernel
theorem dX3_addSpan_1 : decode cX3_addSpan 1 = .ok (.iload_n 1, 1) := by decide +kernel
theorem dX3_addSpan_2 : decode cX3_addSpan 2 = .ok (.invokestatic 50, 3) := by decide +kernel
theorem dX3_addSpan_5 : decode cX3_addSpan 5 = .ok (.istore_n 3, 1) := by decide +kernel
theorem dX3_addSpan_6 : decode cX3_addSpan 6 = .ok (.aload_n 0, 1) := by decide +kernel
theorem dX3_addSpan_7 : decode cX3_addSpan 7 = .ok (.getfield 18, 3) := by decide +kernel
theorem dX3_addSpan_10 : decode cX3_addSpan 10 = .ok (.arraylength, 1) := by decide +kernel
theorem dX3_addSpan_11 : decode cX3_addSpan 11 = .ok (.sipush 256, 3) := by decide +kernel
theorem dX3_addSpan_14 : decode cX3_addSpan 14 = .ok (.imul, 1) := by decide +kernel
theorem dX3_addSpan_15 : decode cX3_addSpan 15 = .ok (.iload_n 2, 1) := by decide +kernel
theorem dX3_addSpan_16 : decode cX3_addSpan 16 = .ok (.invokestatic 56, 3) := by decide +kernel
theorem dX3_addSpan_19 : decode cX3_addSpan 19 = .ok (.istore 4, 2) := by decide +kernel
theorem dX3_addSpan_21 : decode cX3_addSpan 21 = .ok (.iload_n 3, 1) := by decide +kernel
theorem dX3_addSpan_22 : decode cX3_addSpan 22 = .ok (.sipush 256, 3) := by decide +kernel
theorem dX3_addSpan_25 : decode cX3_addSpan 25 = .ok (.idiv, 1) := by decide +kernel
theorem dX3_addSpan_26 : decode cX3_addSpan 26 = .ok (.istore 5, 2) := by decide +kernel
theorem dX3_addSpan_28 : decode cX3_addSpan 28 = .ok (.iload 5, 2) := by decide +kernel
theorem dX3_addSpan_30 : decode cX3_addSpan 30 = .ok (.aload_n 0, 1) := by decide +kernel
theorem dX3_addSpan_31 : decode cX3_addSpan 31 = .ok (.getfield 18, 3) := by decide +kernel
theorem dX3_addSpan_34 : decode cX3_addSpan 34 = .ok (.arraylength, 1) := by decide +kernel
theorem dX3_addSpan_35 : decode cX3_addSpan 35 = .ok (.if_icmp .ge 56, 3) := by decide +kernel
theorem dX3_addSpan_38 : decode cX3_addSpan 38 = .ok (.iload 5, 2) := by decide +kernel
theorem dX3_addSpan_40 : decode cX3_addSpan 40 = .ok (.sipush 256, 3) := by decide +kernel
theorem dX3_addSpan_43 : decode cX3_addSpan 43 = .ok (.imul, 1) := by decide +kernel
theorem dX3_addSpan_44 : decode cX3_addSpan 44 = .ok (.iload 4, 2) := by decide +kernel
theorem dX3_addSpan_46 : decode cX3_addSpan 46 = .ok (.if_icmp .ge 45, 3) := by decide +kernel
theorem dX3_addSpan_49 : decode cX3_addSpan 49 = .ok (.iload 5, 2) := by decide +kernel
theorem dX3_addSpan_51 : decode cX3_addSpan 51 = .ok (.sipush 256, 3) := by decide +kernel
theorem dX3_addSpan_54 : decode cX3_addSpan 54 = .ok (.imul, 1) := by decide +kernel
theorem dX3_addSpan_55 : decode cX3_addSpan 55 = .ok (.istore 6, 2) := by decide +kernel
theorem dX3_addSpan_57 : decode cX3_addSpan 57 = .ok (.aload_n 0, 1) := by decide +kernel
theorem dX3_addSpan_58 : decode cX3_addSpan 58 = .ok (.getfield 18, 3) := by decide +kernel
theorem dX3_addSpan_61 : decode cX3_addSpan 61 = .ok (.iload 5, 2) := by decide +kernel
theorem dX3_addSpan_63 : decode cX3_addSpan 63 = .ok (.dup2, 1) := by decide +kernel
theorem dX3_addSpan_64 : decode cX3_addSpan 64 = .ok (.iaload, 1) := by decide +kernel
theorem dX3_addSpan_65 : decode cX3_addSpan 65 = .ok (.iload 4, 2) := by decide +kernel
theorem dX3_addSpan_67 : decode cX3_addSpan 67 = .ok (.iload 6, 2) := by decide +kernel
theorem dX3_addSpan_69 : decode cX3_addSpan 69 = .ok (.sipush 256, 3) := by decide +kernel
theorem dX3_addSpan_72 : decode cX3_addSpan 72 = .ok (.iadd, 1) := by decide +kernel
theorem dX3_addSpan_73 : decode cX3_addSpan 73 = .ok (.invokestatic 56, 3) := by decide +kernel
theorem dX3_addSpan_76 : decode cX3_addSpan 76 = .ok (.iload_n 3, 1) := by decide +kernel
theorem dX3_addSpan_77 : decode cX3_addSpan 77 = .ok (.iload 6, 2) := by decide +kernel
theorem dX3_addSpan_79 : decode cX3_addSpan 79 = .ok (.invokestatic 50, 3) := by decide +kernel
theorem dX3_addSpan_82 : decode cX3_addSpan 82 = .ok (.isub, 1) := by decide +kernel
theorem dX3_addSpan_83 : decode cX3_addSpan 83 = .ok (.iadd, 1) := by decide +kernel
theorem dX3_addSpan_84 : decode cX3_addSpan 84 = .ok (.iastore, 1) := by decide +kernel
theorem dX3_addSpan_85 : decode cX3_addSpan 85 = .ok (.iinc 5 1, 3) := by decide +kernel
theorem dX3_addSpan_88 : decode cX3_addSpan 88 = .ok (.goto (-60), 3) := by decide +kernel
theorem dX3_addSpan_91 : decode cX3_addSpan 91 = .ok (.return_, 1) := by decide +kernel
set_option maxRecDepth 20000 in
theorem ggX4_init_X4_cut : GoodIn wsX4_init wsX4_cut := goodIn_r _ [30, 31, 32, 33, 34, 35, 36, 37] (by decide +kernel) (by decide +kernel)
set_option maxRecDepth 20000 in
theorem gX4_init_X4_cut : GoodIn wsX4_init (va_wsS RX4 9 yX4_cut wsX4_cut) := goodIn_app (goodIn_of _ (by decide +kernel)) ggX4_init_X4_cut
set_option maxRecDepth 20000 in
theorem ggX4_init_X2_init : GoodIn wsX4_init wsX2_init := goodIn_r _ [39, 40, 2, 3, 7, 41, 42, 10, 43, 44, 81, 82, 83, 84] (by decide +kernel) (by decide +kernel)
set_option maxRecDepth 20000 in
theorem gX4_init_X2_init_n36 : GoodIn wsX4_init (wsX2_init) := ggX4_init_X2_init
set_option maxRecDepth 20000 in
theorem ggX4_init_X3_init : GoodIn wsX4_init wsX3_init := goodIn_r _ [46, 47, 2, 3, 48, 49, 50, 51, 7, 52, 53, 54, 55, 56, 57, 58, 89, 90, 91, 85, 86] (by decide +kernel) (by decide +kernel)
set_option maxRecDepth 20000 in
theorem gX4_init_X3_init_n43 : GoodIn wsX4_init (wsX3_init) := ggX4_init_X3_init
set_option maxRecDepth 20000 in
theorem ggX4_init_X1_init : GoodIn wsX4_init wsX1_init := goodIn_r _ [60, 61, 2, 3, 62, 63, 64, 87, 88] (by decide +kernel) (by decide +kernel)
set_option maxRecDepth 20000 in
theorem gX4_init_X1_init_n52 : GoodIn wsX4_init (wsX1_init) := ggX4_init_X1_init
set_option maxRecDepth 20000 in
theorem ggX4_init_J7_fill_53178 : GoodIn wsX4_init wsJ7_fill_53178 := goodIn_r _ [68] (by decide +kernel) (by decide +kernel)
set_option maxRecDepth 20000 in
theorem gX4_init_J7_fill_53178 : GoodIn wsX4_init (va_wsS RX4 66 yJ7_fill_53178 wsJ7_fill_53178) := goodIn_app (goodIn_of _ (by decide +kernel)) ggX4_init_J7_fill_53178
theorem dX4_init_0 : decode cX4_init 0 = .ok (.aload_n 0, 1) := by decide +kernel
theorem dX4_init_1 : decode cX4_init 1 = .ok (.invokespecial 1, 3) := by decide +kernel
theorem dX4_init_4 : decode cX4_init 4 = .ok (.aload_n 0, 1) := by decide +kernel
theorem dX4_init_5 : decode cX4_init 5 = .ok (.iload_n 1, 1) := by decide +kernel
theorem dX4_init_6 : decode cX4_init 6 = .ok (.bipush 48, 2) := by decide +kernel
theorem dX4_init_8 : decode cX4_init 8 = .ok (.invokestatic 9, 3) := by decide +kernel
theorem dX4_init_11 : decode cX4_init 11 = .ok (.putfield 13, 3) := by decide +kernel
theorem dX4_init_14 : decode cX4_init 14 = .ok (.aload_n 0, 1) := by decide +kernel
theorem dX4_init_15 : decode cX4_init 15 = .ok (.iload_n 2, 1) := by decide +kernel
theorem dX4_init_16 : decode cX4_init 16 = .ok (.bipush 48, 2) := by decide +kernel
theorem dX4_init_18 : decode cX4_init 18 = .ok (.invokestatic 9, 3) := by decide +kernel
theorem dX4_init_21 : decode cX4_init 21 = .ok (.putfield 17, 3) := by decide +kernel
theorem dX4_init_24 : decode cX4_init 24 = .ok (.aload_n 0, 1) := by decide +kernel
theorem dX4_init_25 : decode cX4_init 25 = .ok (.iload_n 3, 1) := by decide +kernel
theorem dX4_init_26 : decode cX4_init 26 = .ok (.iconst 4, 1) := by decide +kernel
theorem dX4_init_27 : decode cX4_init 27 = .ok (.invokestatic 9, 3) := by decide +kernel
theorem dX4_init_30 : decode cX4_init 30 = .ok (.putfield 20, 3) := by decide +kernel
theorem dX4_init_33 : decode cX4_init 33 = .ok (.aload_n 0, 1) := by decide +kernel
theorem dX4_init_34 : decode cX4_init 34 = .ok (.aload_n 0, 1) := by decide +kernel
theorem dX4_init_35 : decode cX4_init 35 = .ok (.getfield 20, 3) := by decide +kernel
theorem dX4_init_38 : decode cX4_init 38 = .ok (.aload_n 0, 1) := by decide +kernel
theorem dX4_init_39 : decode cX4_init 39 = .ok (.getfield 17, 3) := by decide +kernel
theorem dX4_init_42 : decode cX4_init 42 = .ok (.imul, 1) := by decide +kernel
theorem dX4_init_43 : decode cX4_init 43 = .ok (.aload_n 0, 1) := by decide +kernel
theorem dX4_init_44 : decode cX4_init 44 = .ok (.getfield 13, 3) := by decide +kernel
theorem dX4_init_47 : decode cX4_init 47 = .ok (.imul, 1) := by decide +kernel
theorem dX4_init_48 : decode cX4_init 48 = .ok (.newarray .int, 2) := by decide +kernel
theorem dX4_init_50 : decode cX4_init 50 = .ok (.putfield 23, 3) := by decide +kernel
theorem dX4_init_53 : decode cX4_init 53 = .ok (.aload_n 0, 1) := by decide +kernel
theorem dX4_init_54 : decode cX4_init 54 = .ok (.aload_n 0, 1) := by decide +kernel
theorem dX4_init_55 : decode cX4_init 55 = .ok (.getfield 17, 3) := by decide +kernel
theorem dX4_init_58 : decode cX4_init 58 = .ok (.aload_n 0, 1) := by decide +kernel
theorem dX4_init_59 : decode cX4_init 59 = .ok (.getfield 13, 3) := by decide +kernel
theorem dX4_init_62 : decode cX4_init 62 = .ok (.imul, 1) := by decide +kernel
theorem dX4_init_63 : decode cX4_init 63 = .ok (.newarray .int, 2) := by decide +kernel
theorem dX4_init_65 : decode cX4_init 65 = .ok (.putfield 27, 3) := by decide +kernel
theorem dX4_init_68 : decode cX4_init 68 = .ok (.aload_n 0, 1) := by decide +kernel
theorem dX4_init_69 : decode cX4_init 69 = .ok (.aload_n 0, 1) := by decide +kernel
theorem dX4_init_70 : decode cX4_init 70 = .ok (.getfield 20, 3) := by decide +kernel
theorem dX4_init_73 : decode cX4_init 73 = .ok (.newarray .boolean, 2) := by decide +kernel
theorem dX4_init_75 : decode cX4_init 75 = .ok (.putfield 30, 3) := by decide +kernel
theorem dX4_init_78 : decode cX4_init 78 = .ok (.aload_n 0, 1) := by decide +kernel
theorem dX4_init_79 : decode cX4_init 79 = .ok (.new 34, 3) := by decide +kernel
theorem dX4_init_82 : decode cX4_init 82 = .ok (.dup, 1) := by decide +kernel
theorem dX4_init_83 : decode cX4_init 83 = .ok (.invokespecial 36, 3) := by decide +kernel
theorem dX4_init_86 : decode cX4_init 86 = .ok (.putfield 37, 3) := by decide +kernel
theorem dX4_init_89 : decode cX4_init 89 = .ok (.aload_n 0, 1) := by decide +kernel
theorem dX4_init_90 : decode cX4_init 90 = .ok (.new 41, 3) := by decide +kernel
theorem dX4_init_93 : decode cX4_init 93 = .ok (.dup, 1) := by decide +kernel
theorem dX4_init_94 : decode cX4_init 94 = .ok (.aload_n 0, 1) := by decide +kernel
theorem dX4_init_95 : decode cX4_init 95 = .ok (.getfield 13, 3) := by decide +kernel
theorem dX4_init_98 : decode cX4_init 98 = .ok (.invokespecial 43, 3) := by decide +kernel
theorem dX4_init_101 : decode cX4_init 101 = .ok (.putfield 46, 3) := by decide +kernel
theorem dX4_init_104 : decode cX4_init 104 = .ok (.aload_n 0, 1) := by decide +kernel
theorem dX4_init_105 : decode cX4_init 105 = .ok (.new 50, 3) := by decide +kernel
theorem dX4_init_108 : decode cX4_init 108 = .ok (.dup, 1) := by decide +kernel
theorem dX4_init_109 : decode cX4_init 109 = .ok (.aload_n 0, 1) := by decide +kernel
theorem dX4_init_110 : decode cX4_init 110 = .ok (.getfield 13, 3) := by decide +kernel
theorem dX4_init_113 : decode cX4_init 113 = .ok (.invokespecial 52, 3) := by decide +kernel
theorem dX4_init_116 : decode cX4_init 116 = .ok (.putfield 53, 3) := by decide +kernel
theorem dX4_init_119 : decode cX4_init 119 = .ok (.aload_n 0, 1) := by decide +kernel
theorem dX4_init_120 : decode cX4_init 120 = .ok (.iconst 0, 1) := by decide +kernel
theorem dX4_init_121 : decode cX4_init 121 = .ok (.putfield 57, 3) := by decide +kernel
theorem dX4_init_124 : decode cX4_init 124 = .ok (.aload_n 0, 1) := by decide +kernel
theorem dX4_init_125 : decode cX4_init 125 = .ok (.aload_n 0, 1) := by decide +kernel
theorem dX4_init_126 : decode cX4_init 126 = .ok (.getfield 17, 3) := by decide +kernel
theorem dX4_init_129 : decode cX4_init 129 = .ok (.putfield 60, 3) := by decide +kernel
theorem dX4_init_132 : decode cX4_init 132 = .ok (.aload_n 0, 1) := by decide +kernel
theorem dX4_init_133 : decode cX4_init 133 = .ok (.iconst 0, 1) := by decide +kernel
theorem dX4_init_134 : decode cX4_init 134 = .ok (.putfield 63, 3) := by decide +kernel
theorem dX4_init_137 : decode cX4_init 137 = .ok (.aload_n 0, 1) := by decide +kernel
theorem dX4_init_138 : decode cX4_init 138 = .ok (.getfield 27, 3) := by decide +kernel
theorem dX4_init_141 : decode cX4_init 141 = .ok (.sipush 255, 3) := by decide +kernel
theorem dX4_init_144 : decode cX4_init 144 = .ok (.invokestatic 66, 3) := by decide +kernel
theorem dX4_init_147 : decode cX4_init 147 = .ok (.return_, 1) := by decide +kernel
set_option maxRecDepth 20000 in
theorem ggX4_move_X4_needRoom : GoodIn wsX4_move wsX4_needRoom := goodIn_ca (goodIn_r _ [6, 7, 8, 1, 33, 34, 35, 36, 37, 38, 39, 40, 41, 42, 43, 44, 45, 46, 47, 48] (by decide +kernel) (by decide +kernel)) (goodIn_sub (fun _ h => List.mem_cons_of_mem _ (List.mem_append_left _ (List.mem_append_right _ h))) (by decide +kernel))
set_option maxRecDepth 20000 in
theorem gX4_move_X4_needRoom : GoodIn wsX4_move (wsV RX4 72 RX4 yX4_needRoom wsX4_needRoom) := goodIn_app (goodIn_of _ (by decide +kernel)) ggX4_move_X4_needRoom
set_option maxRecDepth 20000 in
theorem ggX4_move_X4_cutPlace : GoodIn wsX4_move wsX4_cutPlace := goodIn_r _ [11, 12, 13, 14, 15, 16, 17, 18, 19, 20] (by decide +kernel) (by decide +kernel)
set_option maxRecDepth 20000 in
theorem gX4_move_X4_cutPlace : GoodIn wsX4_move (va_wsS RX4 75 yX4_cutPlace wsX4_cutPlace) := goodIn_app (goodIn_of _ (by decide +kernel)) ggX4_move_X4_cutPlace
set_option maxRecDepth 20000 in
theorem ggX4_move_X2_begin : GoodIn wsX4_move wsX2_begin := goodIn_ca (goodIn_r _ [24, 25, 26, 27, 22, 28, 29, 30, 31, 32, 45, 46, 47, 48] (by decide +kernel) (by decide +kernel)) (goodIn_sub (fun _ h => List.mem_cons_of_mem _ (List.mem_append_right _ h)) (by decide +kernel))
set_option maxRecDepth 20000 in
theorem gX4_move_X2_begin_n79 : GoodIn wsX4_move (wsX2_begin) := ggX4_move_X2_begin
theorem dX4_move_0 : decode cX4_move 0 = .ok (.aload_n 0, 1) := by decide +kernel
theorem dX4_move_1 : decode cX4_move 1 = .ok (.iconst 1, 1) := by decide +kernel
theorem dX4_move_2 : decode cX4_move 2 = .ok (.invokevirtual 72, 3) := by decide +kernel
theorem dX4_move_5 : decode cX4_move 5 = .ok (.aload_n 0, 1) := by decide +kernel
theorem dX4_move_6 : decode cX4_move 6 = .ok (.getfield 37, 3) := by decide +kernel
theorem dX4_move_9 : decode cX4_move 9 = .ok (.lload_n 1, 1) := by decide +kernel
theorem dX4_move_10 : decode cX4_move 10 = .ok (.invokestatic 75, 3) := by decide +kernel
theorem dX4_move_13 : decode cX4_move 13 = .ok (.lload_n 3, 1) := by decide +kernel
theorem dX4_move_14 : decode cX4_move 14 = .ok (.invokestatic 75, 3) := by decide +kernel
theorem dX4_move_17 : decode cX4_move 17 = .ok (.invokevirtual 79, 3) := by decide +kernel
theorem dX4_move_20 : decode cX4_move 20 = .ok (.aload_n 0, 1) := by decide +kernel
theorem dX4_move_21 : decode cX4_move 21 = .ok (.getfield 37, 3) := by decide +kernel
theorem dX4_move_24 : decode cX4_move 24 = .ok (.getfield 83, 3) := by decide +kernel
theorem dX4_move_27 : decode cX4_move 27 = .ok (.ireturn, 1) := by decide +kernel
set_option maxRecDepth 20000 in
theorem ggX4_line_X4_needRoom : GoodIn wsX4_line wsX4_needRoom := goodIn_ca (goodIn_r _ [8, 9, 10, 3, 35, 36, 37, 38, 39, 40, 41, 42, 43, 44, 45, 46, 47, 48, 49, 50] (by decide +kernel) (by decide +kernel)) (goodIn_sub (fun _ h => List.mem_cons_of_mem _ (List.mem_append_left _ (List.mem_append_right _ h))) (by decide +kernel))
set_option maxRecDepth 20000 in
theorem gX4_line_X4_needRoom : GoodIn wsX4_line (wsV RX4 72 RX4 yX4_needRoom wsX4_needRoom) := goodIn_app (goodIn_of _ (by decide +kernel)) ggX4_line_X4_needRoom
set_option maxRecDepth 20000 in
theorem ggX4_line_X4_cutPlace : GoodIn wsX4_line wsX4_cutPlace := goodIn_r _ [13, 14, 15, 16, 17, 18, 19, 20, 21, 22] (by decide +kernel) (by decide +kernel)
set_option maxRecDepth 20000 in
theorem gX4_line_X4_cutPlace : GoodIn wsX4_line (va_wsS RX4 75 yX4_cutPlace wsX4_cutPlace) := goodIn_app (goodIn_of _ (by decide +kernel)) ggX4_line_X4_cutPlace
set_option maxRecDepth 20000 in
theorem ggX4_line_X2_join : GoodIn wsX4_line wsX2_join := goodIn_ca (goodIn_r _ [26, 27, 28, 29, 24, 30, 31, 32, 33, 34, 47, 48, 49, 50] (by decide +kernel) (by decide +kernel)) (goodIn_sub (fun _ h => List.mem_cons_of_mem _ (List.mem_append_right _ h)) (by decide +kernel))
set_option maxRecDepth 20000 in
theorem gX4_line_X2_join_n93 : GoodIn wsX4_line (wsX2_join) := ggX4_line_X2_join
theorem dX4_line_0 : decode cX4_line 0 = .ok (.aload_n 0, 1) := by decide +kernel
theorem dX4_line_1 : decode cX4_line 1 = .ok (.getfield 37, 3) := by decide +kernel
theorem dX4_line_4 : decode cX4_line 4 = .ok (.getfield 83, 3) := by decide +kernel
theorem dX4_line_7 : decode cX4_line 7 = .ok (.ifCond .ne 13, 3) := by decide +kernel
theorem dX4_line_10 : decode cX4_line 10 = .ok (.new 86, 3) := by decide +kernel
theorem dX4_line_13 : decode cX4_line 13 = .ok (.dup, 1) := by decide +kernel
theorem dX4_line_14 : decode cX4_line 14 = .ok (.ldc 88, 2) := by decide +kernel
theorem dX4_line_16 : decode cX4_line 16 = .ok (.invokespecial 90, 3) := by decide +kernel
theorem dX4_line_19 : decode cX4_line 19 = .ok (.athrow, 1) := by decide +kernel
theorem dX4_line_20 : decode cX4_line 20 = .ok (.aload_n 0, 1) := by decide +kernel
theorem dX4_line_21 : decode cX4_line 21 = .ok (.iconst 1, 1) := by decide +kernel
theorem dX4_line_22 : decode cX4_line 22 = .ok (.invokevirtual 72, 3) := by decide +kernel
theorem dX4_line_25 : decode cX4_line 25 = .ok (.aload_n 0, 1) := by decide +kernel
theorem dX4_line_26 : decode cX4_line 26 = .ok (.getfield 37, 3) := by decide +kernel
theorem dX4_line_29 : decode cX4_line 29 = .ok (.lload_n 1, 1) := by decide +kernel
theorem dX4_line_30 : decode cX4_line 30 = .ok (.invokestatic 75, 3) := by decide +kernel
theorem dX4_line_33 : decode cX4_line 33 = .ok (.lload_n 3, 1) := by decide +kernel
theorem dX4_line_34 : decode cX4_line 34 = .ok (.invokestatic 75, 3) := by decide +kernel
theorem dX4_line_37 : decode cX4_line 37 = .ok (.invokevirtual 93, 3) := by decide +kernel
theorem dX4_line_40 : decode cX4_line 40 = .ok (.aload_n 0, 1) := by decide +kernel
theorem dX4_line_41 : decode cX4_line 41 = .ok (.getfield 37, 3) := by decide +kernel
theorem dX4_line_44 : decode cX4_line 44 = .ok (.getfield 83, 3) := by decide +kernel
theorem dX4_line_47 : decode cX4_line 47 = .ok (.ireturn, 1) := by decide +kernel
set_option maxRecDepth 20000 in
theorem ggX4_hair_X4_needRoom : GoodIn wsX4_hair wsX4_needRoom := goodIn_ca (goodIn_r _ [6, 7, 8, 1, 43, 44, 45, 46, 47, 48, 49, 50, 51, 52, 53, 54, 55, 56, 57, 58] (by decide +kernel) (by decide +kernel)) (goodIn_sub (fun _ h => List.mem_cons_of_mem _ (List.mem_append_left _ (List.mem_append_right _ h))) (by decide +kernel))
set_option maxRecDepth 20000 in
theorem gX4_hair_X4_needRoom : GoodIn wsX4_hair (wsV RX4 72 RX4 yX4_needRoom wsX4_needRoom) := goodIn_app (goodIn_of _ (by decide +kernel)) ggX4_hair_X4_needRoom
set_option maxRecDepth 20000 in
theorem ggX4_hair_X4_cutPlace : GoodIn wsX4_hair wsX4_cutPlace := goodIn_r _ [11, 12, 13, 14, 15, 16, 17, 18, 19, 20] (by decide +kernel) (by decide +kernel)
set_option maxRecDepth 20000 in
theorem gX4_hair_X4_cutPlace : GoodIn wsX4_hair (va_wsS RX4 75 yX4_cutPlace wsX4_cutPlace) := goodIn_app (goodIn_of _ (by decide +kernel)) ggX4_hair_X4_cutPlace
set_option maxRecDepth 20000 in
theorem ggX4_hair_X4_addHair : GoodIn wsX4_hair wsX4_addHair := goodIn_ca (goodIn_r _ [24, 1, 25, 26, 16, 27, 28, 29, 30, 31, 32, 33, 34, 35, 36, 37, 38, 39, 40, 41, 42, 43, 44, 45, 46, 47, 48, 49, 50, 51, 52, 53, 54, 55, 56, 57, 58] (by decide +kernel) (by decide +kernel)) (goodIn_sub (fun _ h => List.mem_cons_of_mem _ (List.mem_append_right _ h)) (by decide +kernel))
set_option maxRecDepth 20000 in
theorem gX4_hair_X4_addHair : GoodIn wsX4_hair (wsV RX4 96 RX4 yX4_addHair wsX4_addHair) := goodIn_app (goodIn_of _ (by decide +kernel)) ggX4_hair_X4_addHair
theorem dX4_hair_0 : decode cX4_hair 0 = .ok (.aload_n 0, 1) := by decide +kernel
theorem dX4_hair_1 : decode cX4_hair 1 = .ok (.iconst 4, 1) := by decide +kernel
theorem dX4_hair_2 : decode cX4_hair 2 = .ok (.invokevirtual 72, 3) := by decide +kernel
theorem dX4_hair_5 : decode cX4_hair 5 = .ok (.aload_n 0, 1) := by decide +kernel
theorem dX4_hair_6 : decode cX4_hair 6 = .ok (.lload_n 1, 1) := by decide +kernel
theorem dX4_hair_7 : decode cX4_hair 7 = .ok (.invokestatic 75, 3) := by decide +kernel
theorem dX4_hair_10 : decode cX4_hair 10 = .ok (.lload_n 3, 1) := by decide +kernel
theorem dX4_hair_11 : decode cX4_hair 11 = .ok (.invokestatic 75, 3) := by decide +kernel
theorem dX4_hair_14 : decode cX4_hair 14 = .ok (.lload 5, 2) := by decide +kernel
theorem dX4_hair_16 : decode cX4_hair 16 = .ok (.invokestatic 75, 3) := by decide +kernel
theorem dX4_hair_19 : decode cX4_hair 19 = .ok (.lload 7, 2) := by decide +kernel
theorem dX4_hair_21 : decode cX4_hair 21 = .ok (.invokestatic 75, 3) := by decide +kernel
theorem dX4_hair_24 : decode cX4_hair 24 = .ok (.invokevirtual 96, 3) := by decide +kernel
theorem dX4_hair_27 : decode cX4_hair 27 = .ok (.aload_n 0, 1) := by decide +kernel
theorem dX4_hair_28 : decode cX4_hair 28 = .ok (.getfield 37, 3) := by decide +kernel
theorem dX4_hair_31 : decode cX4_hair 31 = .ok (.getfield 83, 3) := by decide +kernel
theorem dX4_hair_34 : decode cX4_hair 34 = .ok (.ireturn, 1) := by decide +kernel
set_option maxRecDepth 20000 in
theorem ggX4_fill_X4_needRule : GoodIn wsX4_fill wsX4_needRule := goodIn_ca (goodIn_r _ [9, 10, 11] (by decide +kernel) (by decide +kernel)) (goodIn_sub (fun _ h => List.mem_cons_of_mem _ (List.mem_append_left _ (List.mem_append_right _ h))) (by decide +kernel))
set_option maxRecDepth 20000 in
theorem gX4_fill_X4_needRule : GoodIn wsX4_fill (va_wsS RX4 100 yX4_needRule wsX4_needRule) := goodIn_app (goodIn_of _ (by decide +kernel)) ggX4_fill_X4_needRule
set_option maxRecDepth 20000 in
theorem ggX4_fill_X4_needPlane : GoodIn wsX4_fill wsX4_needPlane := goodIn_r _ [15, 16, 17, 18, 19, 91, 92, 93, 94, 95, 96, 97, 98, 99, 100, 101, 102, 103, 104, 105, 106, 107, 108] (by decide +kernel) (by decide +kernel)
set_option maxRecDepth 20000 in
theorem gX4_fill_X4_needPlane : GoodIn wsX4_fill (wsV RX4 103 RX4 yX4_needPlane wsX4_needPlane) := goodIn_app (goodIn_of _ (by decide +kernel)) ggX4_fill_X4_needPlane
set_option maxRecDepth 20000 in
theorem ggX4_fill_X3_measure : GoodIn wsX4_fill wsX3_measure := goodIn_ca (goodIn_r _ [23, 24, 25, 26, 27, 28, 29, 30, 31, 32, 33, 34, 35, 36, 37, 38, 39, 40, 41, 42, 43, 44, 45, 46, 47, 48, 49, 50, 51, 21, 52, 53, 54, 55, 56, 57, 58, 59, 60, 61, 62, 63, 109, 110, 111, 112, 113, 114, 115, 116, 117] (by decide +kernel) (by decide +kernel)) (goodIn_sub (fun _ h => List.mem_cons_of_mem _ (List.mem_append_right _ h)) (by decide +kernel))
set_option maxRecDepth 20000 in
theorem gX4_fill_X3_measure_n106 : GoodIn wsX4_fill (wsX3_measure) := ggX4_fill_X3_measure
set_option maxRecDepth 20000 in
theorem ggX4_fill_X4_paintRow : GoodIn wsX4_fill wsX4_paintRow := goodIn_ca (goodIn_r _ [67, 68, 3, 69, 70, 21, 71, 72, 24, 73, 74, 8, 75, 76, 77, 78, 79, 16, 80, 81, 82, 83, 84, 85, 91, 92, 93, 94, 95, 96, 97, 98, 99, 100, 101, 102, 109, 110] (by decide +kernel) (by decide +kernel)) (goodIn_sub (fun _ h => List.mem_cons_of_mem _ (List.mem_append_right _ h)) (by decide +kernel))
set_option maxRecDepth 20000 in
theorem gX4_fill_X4_paintRow : GoodIn wsX4_fill (wsV RX4 110 RX4 yX4_paintRow wsX4_paintRow) := goodIn_app (goodIn_of _ (by decide +kernel)) ggX4_fill_X4_paintRow
set_option maxRecDepth 20000 in
theorem ggX4_fill_X2_clear : GoodIn wsX4_fill wsX2_clear := goodIn_r _ [89, 90, 114, 115, 116, 117] (by decide +kernel) (by decide +kernel)
set_option maxRecDepth 20000 in
theorem gX4_fill_X2_clear_n114 : GoodIn wsX4_fill (wsX2_clear) := ggX4_fill_X2_clear
theorem dX4_fill_0 : decode cX4_fill 0 = .ok (.iload_n 1, 1) := by decide +kernel
theorem dX4_fill_1 : decode cX4_fill 1 = .ok (.invokestatic 100, 3) := by decide +kernel
theorem dX4_fill_4 : decode cX4_fill 4 = .ok (.aload_n 0, 1) := by decide +kernel
theorem dX4_fill_5 : decode cX4_fill 5 = .ok (.iload_n 2, 1) := by decide +kernel
theorem dX4_fill_6 : decode cX4_fill 6 = .ok (.invokevirtual 103, 3) := by decide +kernel
theorem dX4_fill_9 : decode cX4_fill 9 = .ok (.iconst 0, 1) := by decide +kernel
theorem dX4_fill_10 : decode cX4_fill 10 = .ok (.istore 4, 2) := by decide +kernel
theorem dX4_fill_12 : decode cX4_fill 12 = .ok (.aload_n 0, 1) := by decide +kernel
theorem dX4_fill_13 : decode cX4_fill 13 = .ok (.getfield 57, 3) := by decide +kernel
theorem dX4_fill_16 : decode cX4_fill 16 = .ok (.istore 5, 2) := by decide +kernel
theorem dX4_fill_18 : decode cX4_fill 18 = .ok (.iload 5, 2) := by decide +kernel
theorem dX4_fill_20 : decode cX4_fill 20 = .ok (.aload_n 0, 1) := by decide +kernel
theorem dX4_fill_21 : decode cX4_fill 21 = .ok (.getfield 60, 3) := by decide +kernel
theorem dX4_fill_24 : decode cX4_fill 24 = .ok (.if_icmp .ge 40, 3) := by decide +kernel
theorem dX4_fill_27 : decode cX4_fill 27 = .ok (.aload_n 0, 1) := by decide +kernel
theorem dX4_fill_28 : decode cX4_fill 28 = .ok (.getfield 46, 3) := by decide +kernel
theorem dX4_fill_31 : decode cX4_fill 31 = .ok (.aload_n 0, 1) := by decide +kernel
theorem dX4_fill_32 : decode cX4_fill 32 = .ok (.getfield 37, 3) := by decide +kernel
theorem dX4_fill_35 : decode cX4_fill 35 = .ok (.iload 5, 2) := by decide +kernel
theorem dX4_fill_37 : decode cX4_fill 37 = .ok (.iload_n 1, 1) := by decide +kernel
theorem dX4_fill_38 : decode cX4_fill 38 = .ok (.invokevirtual 106, 3) := by decide +kernel
theorem dX4_fill_41 : decode cX4_fill 41 = .ok (.iload 4, 2) := by decide +kernel
theorem dX4_fill_43 : decode cX4_fill 43 = .ok (.aload_n 0, 1) := by decide +kernel
theorem dX4_fill_44 : decode cX4_fill 44 = .ok (.iload 5, 2) := by decide +kernel
theorem dX4_fill_46 : decode cX4_fill 46 = .ok (.iload_n 2, 1) := by decide +kernel
theorem dX4_fill_47 : decode cX4_fill 47 = .ok (.iload_n 3, 1) := by decide +kernel
theorem dX4_fill_48 : decode cX4_fill 48 = .ok (.sipush 255, 3) := by decide +kernel
theorem dX4_fill_51 : decode cX4_fill 51 = .ok (.iand, 1) := by decide +kernel
theorem dX4_fill_52 : decode cX4_fill 52 = .ok (.invokevirtual 110, 3) := by decide +kernel
theorem dX4_fill_55 : decode cX4_fill 55 = .ok (.iadd, 1) := by decide +kernel
theorem dX4_fill_56 : decode cX4_fill 56 = .ok (.istore 4, 2) := by decide +kernel
theorem dX4_fill_58 : decode cX4_fill 58 = .ok (.iinc 5 1, 3) := by decide +kernel
theorem dX4_fill_61 : decode cX4_fill 61 = .ok (.goto (-43), 3) := by decide +kernel
theorem dX4_fill_64 : decode cX4_fill 64 = .ok (.aload_n 0, 1) := by decide +kernel
theorem dX4_fill_65 : decode cX4_fill 65 = .ok (.getfield 37, 3) := by decide +kernel
theorem dX4_fill_68 : decode cX4_fill 68 = .ok (.invokevirtual 114, 3) := by decide +kernel
theorem dX4_fill_71 : decode cX4_fill 71 = .ok (.aload_n 0, 1) := by decide +kernel
theorem dX4_fill_72 : decode cX4_fill 72 = .ok (.dup, 1) := by decide +kernel
theorem dX4_fill_73 : decode cX4_fill 73 = .ok (.getfield 63, 3) := by decide +kernel
theorem dX4_fill_76 : decode cX4_fill 76 = .ok (.iconst 1, 1) := by decide +kernel
theorem dX4_fill_77 : decode cX4_fill 77 = .ok (.iadd, 1) := by decide +kernel
theorem dX4_fill_78 : decode cX4_fill 78 = .ok (.putfield 63, 3) := by decide +kernel
theorem dX4_fill_81 : decode cX4_fill 81 = .ok (.iload 4, 2) := by decide +kernel
theorem dX4_fill_83 : decode cX4_fill 83 = .ok (.ireturn, 1) := by decide +kernel
set_option maxRecDepth 20000 in
theorem ggX4_clip_X4_needRule : GoodIn wsX4_clip wsX4_needRule := goodIn_ca (goodIn_r _ [7, 8, 9] (by decide +kernel) (by decide +kernel)) (goodIn_sub (fun _ h => List.mem_cons_of_mem _ (List.mem_append_left _ (List.mem_append_right _ h))) (by decide +kernel))
set_option maxRecDepth 20000 in
theorem gX4_clip_X4_needRule : GoodIn wsX4_clip (va_wsS RX4 100 yX4_needRule wsX4_needRule) := goodIn_app (goodIn_of _ (by decide +kernel)) ggX4_clip_X4_needRule
set_option maxRecDepth 20000 in
theorem ggX4_clip_X3_measure : GoodIn wsX4_clip wsX3_measure := goodIn_ca (goodIn_r _ [13, 14, 15, 16, 17, 18, 19, 20, 21, 22, 23, 24, 25, 26, 27, 28, 29, 30, 31, 32, 33, 34, 35, 36, 37, 38, 39, 40, 41, 11, 42, 43, 44, 45, 46, 47, 48, 49, 50, 51, 52, 53, 83, 84, 85, 86, 87, 88, 89, 90, 91] (by decide +kernel) (by decide +kernel)) (goodIn_sub (fun _ h => List.mem_cons_of_mem _ (List.mem_append_right _ h)) (by decide +kernel))
set_option maxRecDepth 20000 in
theorem gX4_clip_X3_measure_n106 : GoodIn wsX4_clip (wsX3_measure) := ggX4_clip_X3_measure
set_option maxRecDepth 20000 in
theorem ggX4_clip_X4_clipRow : GoodIn wsX4_clip wsX4_clipRow := goodIn_ca (goodIn_r _ [57, 58, 59, 2, 60, 11, 61, 62, 14, 63, 64, 6, 65, 71, 72, 73, 74, 75, 76, 77, 78, 79, 80, 81, 82, 83, 84] (by decide +kernel) (by decide +kernel)) (goodIn_sub (fun _ h => List.mem_cons_of_mem _ (List.mem_append_right _ h)) (by decide +kernel))
set_option maxRecDepth 20000 in
theorem gX4_clip_X4_clipRow : GoodIn wsX4_clip (wsV RX4 117 RX4 yX4_clipRow wsX4_clipRow) := goodIn_app (goodIn_of _ (by decide +kernel)) ggX4_clip_X4_clipRow
set_option maxRecDepth 20000 in
theorem ggX4_clip_X2_clear : GoodIn wsX4_clip wsX2_clear := goodIn_r _ [69, 70, 88, 89, 90, 91] (by decide +kernel) (by decide +kernel)
set_option maxRecDepth 20000 in
theorem gX4_clip_X2_clear_n114 : GoodIn wsX4_clip (wsX2_clear) := ggX4_clip_X2_clear
theorem dX4_clip_0 : decode cX4_clip 0 = .ok (.iload_n 1, 1) := by decide +kernel
theorem dX4_clip_1 : decode cX4_clip 1 = .ok (.invokestatic 100, 3) := by decide +kernel
theorem dX4_clip_4 : decode cX4_clip 4 = .ok (.iconst 0, 1) := by decide +kernel
theorem dX4_clip_5 : decode cX4_clip 5 = .ok (.istore_n 2, 1) := by decide +kernel
theorem dX4_clip_6 : decode cX4_clip 6 = .ok (.iconst 0, 1) := by decide +kernel
theorem dX4_clip_7 : decode cX4_clip 7 = .ok (.istore_n 3, 1) := by decide +kernel
theorem dX4_clip_8 : decode cX4_clip 8 = .ok (.iload_n 3, 1) := by decide +kernel
theorem dX4_clip_9 : decode cX4_clip 9 = .ok (.aload_n 0, 1) := by decide +kernel
theorem dX4_clip_10 : decode cX4_clip 10 = .ok (.getfield 17, 3) := by decide +kernel
theorem dX4_clip_13 : decode cX4_clip 13 = .ok (.if_icmp .ge 30, 3) := by decide +kernel
theorem dX4_clip_16 : decode cX4_clip 16 = .ok (.aload_n 0, 1) := by decide +kernel
theorem dX4_clip_17 : decode cX4_clip 17 = .ok (.getfield 46, 3) := by decide +kernel
theorem dX4_clip_20 : decode cX4_clip 20 = .ok (.aload_n 0, 1) := by decide +kernel
theorem dX4_clip_21 : decode cX4_clip 21 = .ok (.getfield 37, 3) := by decide +kernel
theorem dX4_clip_24 : decode cX4_clip 24 = .ok (.iload_n 3, 1) := by decide +kernel
theorem dX4_clip_25 : decode cX4_clip 25 = .ok (.iload_n 1, 1) := by decide +kernel
theorem dX4_clip_26 : decode cX4_clip 26 = .ok (.invokevirtual 106, 3) := by decide +kernel
theorem dX4_clip_29 : decode cX4_clip 29 = .ok (.iload_n 2, 1) := by decide +kernel
theorem dX4_clip_30 : decode cX4_clip 30 = .ok (.aload_n 0, 1) := by decide +kernel
theorem dX4_clip_31 : decode cX4_clip 31 = .ok (.iload_n 3, 1) := by decide +kernel
theorem dX4_clip_32 : decode cX4_clip 32 = .ok (.invokevirtual 117, 3) := by decide +kernel
theorem dX4_clip_35 : decode cX4_clip 35 = .ok (.iadd, 1) := by decide +kernel
theorem dX4_clip_36 : decode cX4_clip 36 = .ok (.istore_n 2, 1) := by decide +kernel
theorem dX4_clip_37 : decode cX4_clip 37 = .ok (.iinc 3 1, 3) := by decide +kernel
theorem dX4_clip_40 : decode cX4_clip 40 = .ok (.goto (-32), 3) := by decide +kernel
theorem dX4_clip_43 : decode cX4_clip 43 = .ok (.aload_n 0, 1) := by decide +kernel
theorem dX4_clip_44 : decode cX4_clip 44 = .ok (.getfield 37, 3) := by decide +kernel
theorem dX4_clip_47 : decode cX4_clip 47 = .ok (.invokevirtual 114, 3) := by decide +kernel
theorem dX4_clip_50 : decode cX4_clip 50 = .ok (.iload_n 2, 1) := by decide +kernel
theorem dX4_clip_51 : decode cX4_clip 51 = .ok (.ireturn, 1) := by decide +kernel
set_option maxRecDepth 20000 in
theorem ggX4_end_X2_clear : GoodIn wsX4_end wsX2_clear := goodIn_r _ [7, 8, 25, 26, 27, 28] (by decide +kernel) (by decide +kernel)
set_option maxRecDepth 20000 in
theorem gX4_end_X2_clear_n114 : GoodIn wsX4_end (wsX2_clear) := ggX4_end_X2_clear
set_option maxRecDepth 20000 in
theorem ggX4_end_J7_fill_53178 : GoodIn wsX4_end wsJ7_fill_53178 := goodIn_r _ [12] (by decide +kernel) (by decide +kernel)
set_option maxRecDepth 20000 in
theorem gX4_end_J7_fill_53178 : GoodIn wsX4_end (va_wsS RX4 66 yJ7_fill_53178 wsJ7_fill_53178) := goodIn_app (goodIn_of _ (by decide +kernel)) ggX4_end_J7_fill_53178
theorem dX4_end_0 : decode cX4_end 0 = .ok (.aload_n 0, 1) := by decide +kernel
theorem dX4_end_1 : decode cX4_end 1 = .ok (.getfield 63, 3) := by decide +kernel
theorem dX4_end_4 : decode cX4_end 4 = .ok (.istore_n 1, 1) := by decide +kernel
theorem dX4_end_5 : decode cX4_end 5 = .ok (.aload_n 0, 1) := by decide +kernel
theorem dX4_end_6 : decode cX4_end 6 = .ok (.iconst 0, 1) := by decide +kernel
theorem dX4_end_7 : decode cX4_end 7 = .ok (.putfield 63, 3) := by decide +kernel
theorem dX4_end_10 : decode cX4_end 10 = .ok (.aload_n 0, 1) := by decide +kernel
theorem dX4_end_11 : decode cX4_end 11 = .ok (.getfield 37, 3) := by decide +kernel
theorem dX4_end_14 : decode cX4_end 14 = .ok (.invokevirtual 114, 3) := by decide +kernel
theorem dX4_end_17 : decode cX4_end 17 = .ok (.aload_n 0, 1) := by decide +kernel
theorem dX4_end_18 : decode cX4_end 18 = .ok (.getfield 27, 3) := by decide +kernel
theorem dX4_end_21 : decode cX4_end 21 = .ok (.sipush 255, 3) := by decide +kernel
theorem dX4_end_24 : decode cX4_end 24 = .ok (.invokestatic 66, 3) := by decide +kernel
theorem dX4_end_27 : decode cX4_end 27 = .ok (.iload_n 1, 1) := by decide +kernel
theorem dX4_end_28 : decode cX4_end 28 = .ok (.ireturn, 1) := by decide +kernel
set_option maxRecDepth 20000 in
theorem ggX4_point_X4_needPoint : GoodIn wsX4_point wsX4_needPoint := goodIn_r _ [8, 3, 2, 9, 10, 11, 17, 18, 19, 20, 21, 22, 23, 24, 25, 26, 27, 28, 29, 30, 31, 32, 33, 34] (by decide +kernel) (by decide +kernel)
set_option maxRecDepth 20000 in
theorem gX4_point_X4_needPoint : GoodIn wsX4_point (wsV RX4 121 RX4 yX4_needPoint wsX4_needPoint) := goodIn_app (goodIn_of _ (by decide +kernel)) ggX4_point_X4_needPoint
set_option maxRecDepth 20000 in
theorem ggX4_point_X4_needPlane : GoodIn wsX4_point wsX4_needPlane := goodIn_r _ [15, 16, 9, 10, 11, 17, 18, 19, 20, 21, 22, 23, 24, 25, 26, 27, 28, 29, 30, 31, 32, 33, 34] (by decide +kernel) (by decide +kernel)
set_option maxRecDepth 20000 in
theorem gX4_point_X4_needPlane : GoodIn wsX4_point (wsV RX4 103 RX4 yX4_needPlane wsX4_needPlane) := goodIn_app (goodIn_of _ (by decide +kernel)) ggX4_point_X4_needPlane
theorem dX4_point_0 : decode cX4_point 0 = .ok (.aload_n 0, 1) := by decide +kernel
theorem dX4_point_1 : decode cX4_point 1 = .ok (.iload_n 1, 1) := by decide +kernel
theorem dX4_point_2 : decode cX4_point 2 = .ok (.iload_n 2, 1) := by decide +kernel
theorem dX4_point_3 : decode cX4_point 3 = .ok (.invokevirtual 121, 3) := by decide +kernel
theorem dX4_point_6 : decode cX4_point 6 = .ok (.aload_n 0, 1) := by decide +kernel
theorem dX4_point_7 : decode cX4_point 7 = .ok (.iload_n 3, 1) := by decide +kernel
theorem dX4_point_8 : decode cX4_point 8 = .ok (.invokevirtual 103, 3) := by decide +kernel
theorem dX4_point_11 : decode cX4_point 11 = .ok (.aload_n 0, 1) := by decide +kernel
theorem dX4_point_12 : decode cX4_point 12 = .ok (.getfield 23, 3) := by decide +kernel
theorem dX4_point_15 : decode cX4_point 15 = .ok (.iload_n 3, 1) := by decide +kernel
theorem dX4_point_16 : decode cX4_point 16 = .ok (.aload_n 0, 1) := by decide +kernel
theorem dX4_point_17 : decode cX4_point 17 = .ok (.getfield 17, 3) := by decide +kernel
theorem dX4_point_20 : decode cX4_point 20 = .ok (.imul, 1) := by decide +kernel
theorem dX4_point_21 : decode cX4_point 21 = .ok (.iload_n 2, 1) := by decide +kernel
theorem dX4_point_22 : decode cX4_point 22 = .ok (.iadd, 1) := by decide +kernel
theorem dX4_point_23 : decode cX4_point 23 = .ok (.aload_n 0, 1) := by decide +kernel
theorem dX4_point_24 : decode cX4_point 24 = .ok (.getfield 13, 3) := by decide +kernel
theorem dX4_point_27 : decode cX4_point 27 = .ok (.imul, 1) := by decide +kernel
theorem dX4_point_28 : decode cX4_point 28 = .ok (.iload_n 1, 1) := by decide +kernel
theorem dX4_point_29 : decode cX4_point 29 = .ok (.iadd, 1) := by decide +kernel
theorem dX4_point_30 : decode cX4_point 30 = .ok (.iaload, 1) := by decide +kernel
theorem dX4_point_31 : decode cX4_point 31 = .ok (.ireturn, 1) := by decide +kernel
set_option maxRecDepth 20000 in
theorem ggX4_cover_X4_needPoint : GoodIn wsX4_cover wsX4_needPoint := goodIn_r _ [7, 8, 9, 10, 11, 12, 60, 61, 62, 63, 64, 65, 66, 67, 68, 69, 70, 71, 72, 73, 74, 75, 76, 77] (by decide +kernel) (by decide +kernel)
set_option maxRecDepth 20000 in
theorem gX4_cover_X4_needPoint : GoodIn wsX4_cover (wsV RX4 121 RX4 yX4_needPoint wsX4_needPoint) := goodIn_app (goodIn_of _ (by decide +kernel)) ggX4_cover_X4_needPoint
set_option maxRecDepth 20000 in
theorem ggX4_cover_X3_measure : GoodIn wsX4_cover wsX3_measure := goodIn_ca (goodIn_r _ [16, 17, 18, 19, 20, 21, 22, 23, 24, 25, 26, 27, 28, 29, 30, 31, 32, 33, 34, 35, 36, 37, 38, 39, 40, 41, 42, 43, 44, 14, 45, 46, 47, 48, 49, 50, 51, 52, 53, 54, 55, 56, 78, 79, 80, 81, 82, 83, 84, 85, 86] (by decide +kernel) (by decide +kernel)) (goodIn_sub (fun _ h => List.mem_cons_of_mem _ (List.mem_append_right _ h)) (by decide +kernel))
set_option maxRecDepth 20000 in
theorem gX4_cover_X3_measure_n106 : GoodIn wsX4_cover (wsX3_measure) := ggX4_cover_X3_measure
set_option maxRecDepth 20000 in
theorem ggX4_cover_X3_at : GoodIn wsX4_cover wsX3_at := goodIn_ca (goodIn_r _ [59, 17, 78, 79] (by decide +kernel) (by decide +kernel)) (goodIn_sub (fun _ h => List.mem_cons_of_mem _ (List.mem_append_right _ h)) (by decide +kernel))
set_option maxRecDepth 20000 in
theorem gX4_cover_X3_at_n124 : GoodIn wsX4_cover (wsX3_at) := ggX4_cover_X3_at
theorem dX4_cover_0 : decode cX4_cover 0 = .ok (.aload_n 0, 1) := by decide +kernel
theorem dX4_cover_1 : decode cX4_cover 1 = .ok (.iload_n 1, 1) := by decide +kernel
theorem dX4_cover_2 : decode cX4_cover 2 = .ok (.iload_n 2, 1) := by decide +kernel
theorem dX4_cover_3 : decode cX4_cover 3 = .ok (.invokevirtual 121, 3) := by decide +kernel
theorem dX4_cover_6 : decode cX4_cover 6 = .ok (.aload_n 0, 1) := by decide +kernel
theorem dX4_cover_7 : decode cX4_cover 7 = .ok (.getfield 46, 3) := by decide +kernel
theorem dX4_cover_10 : decode cX4_cover 10 = .ok (.aload_n 0, 1) := by decide +kernel
theorem dX4_cover_11 : decode cX4_cover 11 = .ok (.getfield 37, 3) := by decide +kernel
theorem dX4_cover_14 : decode cX4_cover 14 = .ok (.iload_n 2, 1) := by decide +kernel
theorem dX4_cover_15 : decode cX4_cover 15 = .ok (.iconst 0, 1) := by decide +kernel
theorem dX4_cover_16 : decode cX4_cover 16 = .ok (.invokevirtual 106, 3) := by decide +kernel
theorem dX4_cover_19 : decode cX4_cover 19 = .ok (.aload_n 0, 1) := by decide +kernel
theorem dX4_cover_20 : decode cX4_cover 20 = .ok (.getfield 46, 3) := by decide +kernel
theorem dX4_cover_23 : decode cX4_cover 23 = .ok (.iload_n 1, 1) := by decide +kernel
theorem dX4_cover_24 : decode cX4_cover 24 = .ok (.invokevirtual 124, 3) := by decide +kernel
theorem dX4_cover_27 : decode cX4_cover 27 = .ok (.ireturn, 1) := by decide +kernel
set_option maxRecDepth 20000 in
theorem ggX4_band_X4_cut : GoodIn wsX4_band wsX4_cut := goodIn_r _ [11, 12, 13, 5, 14, 3, 4, 6] (by decide +kernel) (by decide +kernel)
set_option maxRecDepth 20000 in
theorem gX4_band_X4_cut : GoodIn wsX4_band (va_wsS RX4 9 yX4_cut wsX4_cut) := goodIn_app (goodIn_of _ (by decide +kernel)) ggX4_band_X4_cut
theorem dX4_band_0 : decode cX4_band 0 = .ok (.aload_n 0, 1) := by decide +kernel
theorem dX4_band_1 : decode cX4_band 1 = .ok (.iload_n 1, 1) := by decide +kernel
theorem dX4_band_2 : decode cX4_band 2 = .ok (.aload_n 0, 1) := by decide +kernel
theorem dX4_band_3 : decode cX4_band 3 = .ok (.getfield 17, 3) := by decide +kernel
theorem dX4_band_6 : decode cX4_band 6 = .ok (.invokestatic 9, 3) := by decide +kernel
theorem dX4_band_9 : decode cX4_band 9 = .ok (.putfield 57, 3) := by decide +kernel
theorem dX4_band_12 : decode cX4_band 12 = .ok (.aload_n 0, 1) := by decide +kernel
theorem dX4_band_13 : decode cX4_band 13 = .ok (.aload_n 0, 1) := by decide +kernel
theorem dX4_band_14 : decode cX4_band 14 = .ok (.getfield 57, 3) := by decide +kernel
theorem dX4_band_17 : decode cX4_band 17 = .ok (.iload_n 2, 1) := by decide +kernel
theorem dX4_band_18 : decode cX4_band 18 = .ok (.aload_n 0, 1) := by decide +kernel
theorem dX4_band_19 : decode cX4_band 19 = .ok (.getfield 17, 3) := by decide +kernel
theorem dX4_band_22 : decode cX4_band 22 = .ok (.invokestatic 9, 3) := by decide +kernel
theorem dX4_band_25 : decode cX4_band 25 = .ok (.invokestatic 127, 3) := by decide +kernel
theorem dX4_band_28 : decode cX4_band 28 = .ok (.putfield 60, 3) := by decide +kernel
theorem dX4_band_31 : decode cX4_band 31 = .ok (.aload_n 0, 1) := by decide +kernel
theorem dX4_band_32 : decode cX4_band 32 = .ok (.getfield 60, 3) := by decide +kernel
theorem dX4_band_35 : decode cX4_band 35 = .ok (.aload_n 0, 1) := by decide +kernel
theorem dX4_band_36 : decode cX4_band 36 = .ok (.getfield 57, 3) := by decide +kernel
theorem dX4_band_39 : decode cX4_band 39 = .ok (.isub, 1) := by decide +kernel
theorem dX4_band_40 : decode cX4_band 40 = .ok (.ireturn, 1) := by decide +kernel
theorem dX4_same_0 : decode cX4_same 0 = .ok (.iload_n 1, 1) := by decide +kernel
theorem dX4_same_1 : decode cX4_same 1 = .ok (.iconst 1, 1) := by decide +kernel
theorem dX4_same_2 : decode cX4_same 2 = .ok (.if_icmp .lt 15, 3) := by decide +kernel
theorem dX4_same_5 : decode cX4_same 5 = .ok (.iload_n 1, 1) := by decide +kernel
theorem dX4_same_6 : decode cX4_same 6 = .ok (.aload_n 0, 1) := by decide +kernel
theorem dX4_same_7 : decode cX4_same 7 = .ok (.getfield 17, 3) := by decide +kernel
theorem dX4_same_10 : decode cX4_same 10 = .ok (.if_icmp .gt 7, 3) := by decide +kernel
theorem dX4_same_13 : decode cX4_same 13 = .ok (.iconst 1, 1) := by decide +kernel
theorem dX4_same_14 : decode cX4_same 14 = .ok (.goto 4, 3) := by decide +kernel
theorem dX4_same_17 : decode cX4_same 17 = .ok (.iconst 0, 1) := by decide +kernel
theorem dX4_same_18 : decode cX4_same 18 = .ok (.ireturn, 1) := by decide +kernel
set_option maxRecDepth 20000 in
theorem ggX4_packed_X1_pack : GoodIn wsX4_packed wsX1_pack := goodIn_ca (goodIn_r _ [12, 13, 14, 15, 16, 17, 10, 18, 31, 32] (by decide +kernel) (by decide +kernel)) (goodIn_sub (fun _ h => List.mem_cons_of_mem _ (List.mem_append_right _ h)) (by decide +kernel))
set_option maxRecDepth 20000 in
theorem gX4_packed_X1_pack_n132 : GoodIn wsX4_packed (wsX1_pack) := ggX4_packed_X1_pack
theorem dX4_packed_0 : decode cX4_packed 0 = .ok (.iload_n 1, 1) := by decide +kernel
theorem dX4_packed_1 : decode cX4_packed 1 = .ok (.istore_n 2, 1) := by decide +kernel
theorem dX4_packed_2 : decode cX4_packed 2 = .ok (.iconst 0, 1) := by decide +kernel
theorem dX4_packed_3 : decode cX4_packed 3 = .ok (.istore_n 3, 1) := by decide +kernel
theorem dX4_packed_4 : decode cX4_packed 4 = .ok (.iload_n 3, 1) := by decide +kernel
theorem dX4_packed_5 : decode cX4_packed 5 = .ok (.aload_n 0, 1) := by decide +kernel
theorem dX4_packed_6 : decode cX4_packed 6 = .ok (.getfield 20, 3) := by decide +kernel
theorem dX4_packed_9 : decode cX4_packed 9 = .ok (.aload_n 0, 1) := by decide +kernel
theorem dX4_packed_10 : decode cX4_packed 10 = .ok (.getfield 17, 3) := by decide +kernel
theorem dX4_packed_13 : decode cX4_packed 13 = .ok (.imul, 1) := by decide +kernel
theorem dX4_packed_14 : decode cX4_packed 14 = .ok (.if_icmp .ge 69, 3) := by decide +kernel
theorem dX4_packed_17 : decode cX4_packed 17 = .ok (.iload_n 2, 1) := by decide +kernel
theorem dX4_packed_18 : decode cX4_packed 18 = .ok (.ifCond .lt 65, 3) := by decide +kernel
theorem dX4_packed_21 : decode cX4_packed 21 = .ok (.aload_n 0, 1) := by decide +kernel
theorem dX4_packed_22 : decode cX4_packed 22 = .ok (.getfield 53, 3) := by decide +kernel
theorem dX4_packed_25 : decode cX4_packed 25 = .ok (.aload_n 0, 1) := by decide +kernel
theorem dX4_packed_26 : decode cX4_packed 26 = .ok (.getfield 23, 3) := by decide +kernel
theorem dX4_packed_29 : decode cX4_packed 29 = .ok (.iload_n 3, 1) := by decide +kernel
theorem dX4_packed_30 : decode cX4_packed 30 = .ok (.aload_n 0, 1) := by decide +kernel
theorem dX4_packed_31 : decode cX4_packed 31 = .ok (.getfield 13, 3) := by decide +kernel
theorem dX4_packed_34 : decode cX4_packed 34 = .ok (.imul, 1) := by decide +kernel
theorem dX4_packed_35 : decode cX4_packed 35 = .ok (.iload_n 3, 1) := by decide +kernel
theorem dX4_packed_36 : decode cX4_packed 36 = .ok (.iconst 1, 1) := by decide +kernel
theorem dX4_packed_37 : decode cX4_packed 37 = .ok (.iadd, 1) := by decide +kernel
theorem dX4_packed_38 : decode cX4_packed 38 = .ok (.aload_n 0, 1) := by decide +kernel
theorem dX4_packed_39 : decode cX4_packed 39 = .ok (.getfield 13, 3) := by decide +kernel
theorem dX4_packed_42 : decode cX4_packed 42 = .ok (.imul, 1) := by decide +kernel
theorem dX4_packed_43 : decode cX4_packed 43 = .ok (.invokevirtual 132, 3) := by decide +kernel
theorem dX4_packed_46 : decode cX4_packed 46 = .ok (.iload_n 2, 1) := by decide +kernel
theorem dX4_packed_47 : decode cX4_packed 47 = .ok (.aload_n 0, 1) := by decide +kernel
theorem dX4_packed_48 : decode cX4_packed 48 = .ok (.getfield 53, 3) := by decide +kernel
theorem dX4_packed_51 : decode cX4_packed 51 = .ok (.getfield 136, 3) := by decide +kernel
theorem dX4_packed_54 : decode cX4_packed 54 = .ok (.if_icmp .ge 13, 3) := by decide +kernel
theorem dX4_packed_57 : decode cX4_packed 57 = .ok (.aload_n 0, 1) := by decide +kernel
theorem dX4_packed_58 : decode cX4_packed 58 = .ok (.getfield 53, 3) := by decide +kernel
theorem dX4_packed_61 : decode cX4_packed 61 = .ok (.getfield 139, 3) := by decide +kernel
theorem dX4_packed_64 : decode cX4_packed 64 = .ok (.iload_n 2, 1) := by decide +kernel
theorem dX4_packed_65 : decode cX4_packed 65 = .ok (.baload, 1) := by decide +kernel
theorem dX4_packed_66 : decode cX4_packed 66 = .ok (.ireturn, 1) := by decide +kernel
theorem dX4_packed_67 : decode cX4_packed 67 = .ok (.iload_n 2, 1) := by decide +kernel
theorem dX4_packed_68 : decode cX4_packed 68 = .ok (.aload_n 0, 1) := by decide +kernel
theorem dX4_packed_69 : decode cX4_packed 69 = .ok (.getfield 53, 3) := by decide +kernel
theorem dX4_packed_72 : decode cX4_packed 72 = .ok (.getfield 136, 3) := by decide +kernel
theorem dX4_packed_75 : decode cX4_packed 75 = .ok (.isub, 1) := by decide +kernel
theorem dX4_packed_76 : decode cX4_packed 76 = .ok (.istore_n 2, 1) := by decide +kernel
theorem dX4_packed_77 : decode cX4_packed 77 = .ok (.iinc 3 1, 3) := by decide +kernel
theorem dX4_packed_80 : decode cX4_packed 80 = .ok (.goto (-76), 3) := by decide +kernel
theorem dX4_packed_83 : decode cX4_packed 83 = .ok (.new 143, 3) := by decide +kernel
theorem dX4_packed_86 : decode cX4_packed 86 = .ok (.dup, 1) := by decide +kernel
theorem dX4_packed_87 : decode cX4_packed 87 = .ok (.ldc 145, 2) := by decide +kernel
theorem dX4_packed_89 : decode cX4_packed 89 = .ok (.invokespecial 147, 3) := by decide +kernel
theorem dX4_packed_92 : decode cX4_packed 92 = .ok (.athrow, 1) := by decide +kernel
set_option maxRecDepth 20000 in
theorem ggX4_over_X4_needPlane : GoodIn wsX4_over wsX4_needPlane := goodIn_r _ [6, 7, 8, 9, 10, 11, 12, 13, 14, 15, 16, 17, 18, 19, 20, 21, 22, 23, 24, 25, 26, 27, 28] (by decide +kernel) (by decide +kernel)
set_option maxRecDepth 20000 in
theorem gX4_over_X4_needPlane : GoodIn wsX4_over (wsV RX4 103 RX4 yX4_needPlane wsX4_needPlane) := goodIn_app (goodIn_of _ (by decide +kernel)) ggX4_over_X4_needPlane
theorem dX4_over_0 : decode cX4_over 0 = .ok (.aload_n 0, 1) := by decide +kernel
theorem dX4_over_1 : decode cX4_over 1 = .ok (.iload_n 1, 1) := by decide +kernel
theorem dX4_over_2 : decode cX4_over 2 = .ok (.invokevirtual 103, 3) := by decide +kernel
theorem dX4_over_5 : decode cX4_over 5 = .ok (.aload_n 0, 1) := by decide +kernel
theorem dX4_over_6 : decode cX4_over 6 = .ok (.getfield 30, 3) := by decide +kernel
theorem dX4_over_9 : decode cX4_over 9 = .ok (.iload_n 1, 1) := by decide +kernel
theorem dX4_over_10 : decode cX4_over 10 = .ok (.baload, 1) := by decide +kernel
theorem dX4_over_11 : decode cX4_over 11 = .ok (.ifCond .eq 7, 3) := by decide +kernel
theorem dX4_over_14 : decode cX4_over 14 = .ok (.iconst 1, 1) := by decide +kernel
theorem dX4_over_15 : decode cX4_over 15 = .ok (.goto 4, 3) := by decide +kernel
theorem dX4_over_18 : decode cX4_over 18 = .ok (.iconst 0, 1) := by decide +kernel
theorem dX4_over_19 : decode cX4_over 19 = .ok (.istore_n 3, 1) := by decide +kernel
theorem dX4_over_20 : decode cX4_over 20 = .ok (.aload_n 0, 1) := by decide +kernel
theorem dX4_over_21 : decode cX4_over 21 = .ok (.getfield 30, 3) := by decide +kernel
theorem dX4_over_24 : decode cX4_over 24 = .ok (.iload_n 1, 1) := by decide +kernel
theorem dX4_over_25 : decode cX4_over 25 = .ok (.iload_n 2, 1) := by decide +kernel
theorem dX4_over_26 : decode cX4_over 26 = .ok (.bastore, 1) := by decide +kernel
theorem dX4_over_27 : decode cX4_over 27 = .ok (.iload_n 3, 1) := by decide +kernel
theorem dX4_over_28 : decode cX4_over 28 = .ok (.ireturn, 1) := by decide +kernel
theorem dX4_needRoom_0 : decode cX4_needRoom 0 = .ok (.aload_n 0, 1) := by decide +kernel
theorem dX4_needRoom_1 : decode cX4_needRoom 1 = .ok (.getfield 37, 3) := by decide +kernel
theorem dX4_needRoom_4 : decode cX4_needRoom 4 = .ok (.getfield 83, 3) := by decide +kernel
theorem dX4_needRoom_7 : decode cX4_needRoom 7 = .ok (.iload_n 1, 1) := by decide +kernel
theorem dX4_needRoom_8 : decode cX4_needRoom 8 = .ok (.iadd, 1) := by decide +kernel
theorem dX4_needRoom_9 : decode cX4_needRoom 9 = .ok (.bipush 100, 2) := by decide +kernel
theorem dX4_needRoom_11 : decode cX4_needRoom 11 = .ok (.if_icmp .le 13, 3) := by decide +kernel
theorem dX4_needRoom_14 : decode cX4_needRoom 14 = .ok (.new 148, 3) := by decide +kernel
theorem dX4_needRoom_17 : decode cX4_needRoom 17 = .ok (.dup, 1) := by decide +kernel
theorem dX4_needRoom_18 : decode cX4_needRoom 18 = .ok (.ldc 150, 2) := by decide +kernel
theorem dX4_needRoom_20 : decode cX4_needRoom 20 = .ok (.invokespecial 152, 3) := by decide +kernel
theorem dX4_needRoom_23 : decode cX4_needRoom 23 = .ok (.athrow, 1) := by decide +kernel
theorem dX4_needRoom_24 : decode cX4_needRoom 24 = .ok (.return_, 1) := by decide +kernel
theorem dX4_needRule_0 : decode cX4_needRule 0 = .ok (.iload_n 0, 1) := by decide +kernel
theorem dX4_needRule_1 : decode cX4_needRule 1 = .ok (.ifCond .eq 18, 3) := by decide +kernel
theorem dX4_needRule_4 : decode cX4_needRule 4 = .ok (.iload_n 0, 1) := by decide +kernel
theorem dX4_needRule_5 : decode cX4_needRule 5 = .ok (.iconst 1, 1) := by decide +kernel
theorem dX4_needRule_6 : decode cX4_needRule 6 = .ok (.if_icmp .eq 13, 3) := by decide +kernel
theorem dX4_needRule_9 : decode cX4_needRule 9 = .ok (.new 153, 3) := by decide +kernel
theorem dX4_needRule_12 : decode cX4_needRule 12 = .ok (.dup, 1) := by decide +kernel
theorem dX4_needRule_13 : decode cX4_needRule 13 = .ok (.ldc 155, 2) := by decide +kernel
theorem dX4_needRule_15 : decode cX4_needRule 15 = .ok (.invokespecial 157, 3) := by decide +kernel
theorem dX4_needRule_18 : decode cX4_needRule 18 = .ok (.athrow, 1) := by decide +kernel
theorem dX4_needRule_19 : decode cX4_needRule 19 = .ok (.return_, 1) := by decide +kernel
theorem dX4_needPlane_0 : decode cX4_needPlane 0 = .ok (.iload_n 1, 1) := by decide +kernel
theorem dX4_needPlane_1 : decode cX4_needPlane 1 = .ok (.ifCond .lt 11, 3) := by decide +kernel
theorem dX4_needPlane_4 : decode cX4_needPlane 4 = .ok (.iload_n 1, 1) := by decide +kernel
theorem dX4_needPlane_5 : decode cX4_needPlane 5 = .ok (.aload_n 0, 1) := by decide +kernel
theorem dX4_needPlane_6 : decode cX4_needPlane 6 = .ok (.getfield 20, 3) := by decide +kernel
theorem dX4_needPlane_9 : decode cX4_needPlane 9 = .ok (.if_icmp .lt 13, 3) := by decide +kernel
theorem dX4_needPlane_12 : decode cX4_needPlane 12 = .ok (.new 143, 3) := by decide +kernel
theorem dX4_needPlane_15 : decode cX4_needPlane 15 = .ok (.dup, 1) := by decide +kernel
theorem dX4_needPlane_16 : decode cX4_needPlane 16 = .ok (.ldc 158, 2) := by decide +kernel
theorem dX4_needPlane_18 : decode cX4_needPlane 18 = .ok (.invokespecial 147, 3) := by decide +kernel
theorem dX4_needPlane_21 : decode cX4_needPlane 21 = .ok (.athrow, 1) := by decide +kernel
theorem dX4_needPlane_22 : decode cX4_needPlane 22 = .ok (.return_, 1) := by decide +kernel
theorem dX4_needPoint_0 : decode cX4_needPoint 0 = .ok (.iload_n 1, 1) := by decide +kernel
theorem dX4_needPoint_1 : decode cX4_needPoint 1 = .ok (.ifCond .lt 23, 3) := by decide +kernel
theorem dX4_needPoint_4 : decode cX4_needPoint 4 = .ok (.iload_n 1, 1) := by decide +kernel
theorem dX4_needPoint_5 : decode cX4_needPoint 5 = .ok (.aload_n 0, 1) := by decide +kernel
theorem dX4_needPoint_6 : decode cX4_needPoint 6 = .ok (.getfield 13, 3) := by decide +kernel
theorem dX4_needPoint_9 : decode cX4_needPoint 9 = .ok (.if_icmp .ge 15, 3) := by decide +kernel
theorem dX4_needPoint_12 : decode cX4_needPoint 12 = .ok (.iload_n 2, 1) := by decide +kernel
theorem dX4_needPoint_13 : decode cX4_needPoint 13 = .ok (.ifCond .lt 11, 3) := by decide +kernel
theorem dX4_needPoint_16 : decode cX4_needPoint 16 = .ok (.iload_n 2, 1) := by decide +kernel
theorem dX4_needPoint_17 : decode cX4_needPoint 17 = .ok (.aload_n 0, 1) := by decide +kernel
theorem dX4_needPoint_18 : decode cX4_needPoint 18 = .ok (.getfield 17, 3) := by decide +kernel
theorem dX4_needPoint_21 : decode cX4_needPoint 21 = .ok (.if_icmp .lt 13, 3) := by decide +kernel
theorem dX4_needPoint_24 : decode cX4_needPoint 24 = .ok (.new 143, 3) := by decide +kernel
theorem dX4_needPoint_27 : decode cX4_needPoint 27 = .ok (.dup, 1) := by decide +kernel
theorem dX4_needPoint_28 : decode cX4_needPoint 28 = .ok (.ldc 160, 2) := by decide +kernel
theorem dX4_needPoint_30 : decode cX4_needPoint 30 = .ok (.invokespecial 147, 3) := by decide +kernel
theorem dX4_needPoint_33 : decode cX4_needPoint 33 = .ok (.athrow, 1) := by decide +kernel
theorem dX4_needPoint_34 : decode cX4_needPoint 34 = .ok (.return_, 1) := by decide +kernel
theorem dX4_cut_0 : decode cX4_cut 0 = .ok (.iconst 0, 1) := by decide +kernel
theorem dX4_cut_1 : decode cX4_cut 1 = .ok (.iload_n 1, 1) := by decide +kernel
theorem dX4_cut_2 : decode cX4_cut 2 = .ok (.iload_n 0, 1) := by decide +kernel
theorem dX4_cut_3 : decode cX4_cut 3 = .ok (.invokestatic 162, 3) := by decide +kernel
theorem dX4_cut_6 : decode cX4_cut 6 = .ok (.invokestatic 127, 3) := by decide +kernel
theorem dX4_cut_9 : decode cX4_cut 9 = .ok (.ireturn, 1) := by decide +kernel
theorem dX4_cutPlace_0 : decode cX4_cutPlace 0 = .ok (.ldc2_w 165, 3) := by decide +kernel
theorem dX4_cutPlace_3 : decode cX4_cutPlace 3 = .ok (.ldc2_w 167, 3) := by decide +kernel
theorem dX4_cutPlace_6 : decode cX4_cutPlace 6 = .ok (.lload_n 0, 1) := by decide +kernel
theorem dX4_cutPlace_7 : decode cX4_cutPlace 7 = .ok (.invokestatic 169, 3) := by decide +kernel
theorem dX4_cutPlace_10 : decode cX4_cutPlace 10 = .ok (.invokestatic 172, 3) := by decide +kernel
theorem dX4_cutPlace_13 : decode cX4_cutPlace 13 = .ok (.l2i, 1) := by decide +kernel
theorem dX4_cutPlace_14 : decode cX4_cutPlace 14 = .ok (.ireturn, 1) := by decide +kernel
theorem dX4_mul_0 : decode cX4_mul 0 = .ok (.iload_n 0, 1) := by decide +kernel
theorem dX4_mul_1 : decode cX4_mul 1 = .ok (.iload_n 1, 1) := by decide +kernel
theorem dX4_mul_2 : decode cX4_mul 2 = .ok (.imul, 1) := by decide +kernel
theorem dX4_mul_3 : decode cX4_mul 3 = .ok (.bipush 127, 2) := by decide +kernel
theorem dX4_mul_5 : decode cX4_mul 5 = .ok (.iadd, 1) := by decide +kernel
theorem dX4_mul_6 : decode cX4_mul 6 = .ok (.sipush 255, 3) := by decide +kernel
theorem dX4_mul_9 : decode cX4_mul 9 = .ok (.idiv, 1) := by decide +kernel
theorem dX4_mul_10 : decode cX4_mul 10 = .ok (.ireturn, 1) := by decide +kernel
theorem dX4_blend_0 : decode cX4_blend 0 = .ok (.iload_n 0, 1) := by decide +kernel
theorem dX4_blend_1 : decode cX4_blend 1 = .ok (.sipush 255, 3) := by decide +kernel
theorem dX4_blend_4 : decode cX4_blend 4 = .ok (.iload_n 2, 1) := by decide +kernel
theorem dX4_blend_5 : decode cX4_blend 5 = .ok (.isub, 1) := by decide +kernel
theorem dX4_blend_6 : decode cX4_blend 6 = .ok (.imul, 1) := by decide +kernel
theorem dX4_blend_7 : decode cX4_blend 7 = .ok (.iload_n 1, 1) := by decide +kernel
theorem dX4_blend_8 : decode cX4_blend 8 = .ok (.iload_n 2, 1) := by decide +kernel
theorem dX4_blend_9 : decode cX4_blend 9 = .ok (.imul, 1) := by decide +kernel
theorem dX4_blend_10 : decode cX4_blend 10 = .ok (.iadd, 1) := by decide +kernel
theorem dX4_blend_11 : decode cX4_blend 11 = .ok (.bipush 127, 2) := by decide +kernel
theorem dX4_blend_13 : decode cX4_blend 13 = .ok (.iadd, 1) := by decide +kernel
theorem dX4_blend_14 : decode cX4_blend 14 = .ok (.sipush 255, 3) := by decide +kernel
theorem dX4_blend_17 : decode cX4_blend 17 = .ok (.idiv, 1) := by decide +kernel
theorem dX4_blend_18 : decode cX4_blend 18 = .ok (.ireturn, 1) := by decide +kernel
set_option maxRecDepth 20000 in
theorem ggX4_addHair_X2_begin : GoodIn wsX4_addHair wsX2_begin := goodIn_ca (goodIn_r _ [9, 10, 11, 12, 7, 13, 14, 15, 16, 17, 33, 34, 35, 36] (by decide +kernel) (by decide +kernel)) (goodIn_sub (fun _ h => List.mem_cons_of_mem _ (List.mem_append_right _ h)) (by decide +kernel))
set_option maxRecDepth 20000 in
theorem gX4_addHair_X2_begin_n79 : GoodIn wsX4_addHair (wsX2_begin) := ggX4_addHair_X2_begin
set_option maxRecDepth 20000 in
theorem ggX4_addHair_X2_join : GoodIn wsX4_addHair wsX2_join := goodIn_ca (goodIn_r _ [20, 10, 11, 12, 7, 13, 14, 15, 16, 17, 33, 34, 35, 36] (by decide +kernel) (by decide +kernel)) (goodIn_sub (fun _ h => List.mem_cons_of_mem _ (List.mem_append_right _ h)) (by decide +kernel))
set_option maxRecDepth 20000 in
theorem gX4_addHair_X2_join_n93 : GoodIn wsX4_addHair (wsX2_join) := ggX4_addHair_X2_join
theorem dX4_addHair_0 : decode cX4_addHair 0 = .ok (.iload_n 1, 1) := by decide +kernel
theorem dX4_addHair_1 : decode cX4_addHair 1 = .ok (.iload_n 3, 1) := by decide +kernel
theorem dX4_addHair_2 : decode cX4_addHair 2 = .ok (.if_icmp .ne 78, 3) := by decide +kernel
theorem dX4_addHair_5 : decode cX4_addHair 5 = .ok (.iload_n 2, 1) := by decide +kernel
theorem dX4_addHair_6 : decode cX4_addHair 6 = .ok (.iload 4, 2) := by decide +kernel
theorem dX4_addHair_8 : decode cX4_addHair 8 = .ok (.if_icmp .ne 72, 3) := by decide +kernel
theorem dX4_addHair_11 : decode cX4_addHair 11 = .ok (.aload_n 0, 1) := by decide +kernel
theorem dX4_addHair_12 : decode cX4_addHair 12 = .ok (.getfield 37, 3) := by decide +kernel
theorem dX4_addHair_15 : decode cX4_addHair 15 = .ok (.iload_n 1, 1) := by decide +kernel
theorem dX4_addHair_16 : decode cX4_addHair 16 = .ok (.sipush 128, 3) := by decide +kernel
theorem dX4_addHair_19 : decode cX4_addHair 19 = .ok (.isub, 1) := by decide +kernel
theorem dX4_addHair_20 : decode cX4_addHair 20 = .ok (.iload_n 2, 1) := by decide +kernel
theorem dX4_addHair_21 : decode cX4_addHair 21 = .ok (.sipush 128, 3) := by decide +kernel
theorem dX4_addHair_24 : decode cX4_addHair 24 = .ok (.isub, 1) := by decide +kernel
theorem dX4_addHair_25 : decode cX4_addHair 25 = .ok (.invokevirtual 79, 3) := by decide +kernel
theorem dX4_addHair_28 : decode cX4_addHair 28 = .ok (.aload_n 0, 1) := by decide +kernel
theorem dX4_addHair_29 : decode cX4_addHair 29 = .ok (.getfield 37, 3) := by decide +kernel
theorem dX4_addHair_32 : decode cX4_addHair 32 = .ok (.iload_n 1, 1) := by decide +kernel
theorem dX4_addHair_33 : decode cX4_addHair 33 = .ok (.sipush 128, 3) := by decide +kernel
theorem dX4_addHair_36 : decode cX4_addHair 36 = .ok (.iadd, 1) := by decide +kernel
theorem dX4_addHair_37 : decode cX4_addHair 37 = .ok (.iload_n 2, 1) := by decide +kernel
theorem dX4_addHair_38 : decode cX4_addHair 38 = .ok (.sipush 128, 3) := by decide +kernel
theorem dX4_addHair_41 : decode cX4_addHair 41 = .ok (.isub, 1) := by decide +kernel
theorem dX4_addHair_42 : decode cX4_addHair 42 = .ok (.invokevirtual 93, 3) := by decide +kernel
theorem dX4_addHair_45 : decode cX4_addHair 45 = .ok (.aload_n 0, 1) := by decide +kernel
theorem dX4_addHair_46 : decode cX4_addHair 46 = .ok (.getfield 37, 3) := by decide +kernel
theorem dX4_addHair_49 : decode cX4_addHair 49 = .ok (.iload_n 1, 1) := by decide +kernel
theorem dX4_addHair_50 : decode cX4_addHair 50 = .ok (.sipush 128, 3) := by decide +kernel
theorem dX4_addHair_53 : decode cX4_addHair 53 = .ok (.iadd, 1) := by decide +kernel
theorem dX4_addHair_54 : decode cX4_addHair 54 = .ok (.iload_n 2, 1) := by decide +kernel
theorem dX4_addHair_55 : decode cX4_addHair 55 = .ok (.sipush 128, 3) := by decide +kernel
theorem dX4_addHair_58 : decode cX4_addHair 58 = .ok (.iadd, 1) := by decide +kernel
theorem dX4_addHair_59 : decode cX4_addHair 59 = .ok (.invokevirtual 93, 3) := by decide +kernel
theorem dX4_addHair_62 : decode cX4_addHair 62 = .ok (.aload_n 0, 1) := by decide +kernel
theorem dX4_addHair_63 : decode cX4_addHair 63 = .ok (.getfield 37, 3) := by decide +kernel
theorem dX4_addHair_66 : decode cX4_addHair 66 = .ok (.iload_n 1, 1) := by decide +kernel
theorem dX4_addHair_67 : decode cX4_addHair 67 = .ok (.sipush 128, 3) := by decide +kernel
theorem dX4_addHair_70 : decode cX4_addHair 70 = .ok (.isub, 1) := by decide +kernel
theorem dX4_addHair_71 : decode cX4_addHair 71 = .ok (.iload_n 2, 1) := by decide +kernel
theorem dX4_addHair_72 : decode cX4_addHair 72 = .ok (.sipush 128, 3) := by decide +kernel
theorem dX4_addHair_75 : decode cX4_addHair 75 = .ok (.iadd, 1) := by decide +kernel
theorem dX4_addHair_76 : decode cX4_addHair 76 = .ok (.invokevirtual 93, 3) := by decide +kernel
theorem dX4_addHair_79 : decode cX4_addHair 79 = .ok (.return_, 1) := by decide +kernel
theorem dX4_addHair_80 : decode cX4_addHair 80 = .ok (.iload_n 3, 1) := by decide +kernel
theorem dX4_addHair_81 : decode cX4_addHair 81 = .ok (.iload_n 1, 1) := by decide +kernel
theorem dX4_addHair_82 : decode cX4_addHair 82 = .ok (.isub, 1) := by decide +kernel
theorem dX4_addHair_83 : decode cX4_addHair 83 = .ok (.invokestatic 174, 3) := by decide +kernel
theorem dX4_addHair_86 : decode cX4_addHair 86 = .ok (.iload 4, 2) := by decide +kernel
theorem dX4_addHair_88 : decode cX4_addHair 88 = .ok (.iload_n 2, 1) := by decide +kernel
theorem dX4_addHair_89 : decode cX4_addHair 89 = .ok (.isub, 1) := by decide +kernel
theorem dX4_addHair_90 : decode cX4_addHair 90 = .ok (.invokestatic 174, 3) := by decide +kernel
theorem dX4_addHair_93 : decode cX4_addHair 93 = .ok (.if_icmp .lt 7, 3) := by decide +kernel
theorem dX4_addHair_96 : decode cX4_addHair 96 = .ok (.iconst 1, 1) := by decide +kernel
theorem dX4_addHair_97 : decode cX4_addHair 97 = .ok (.goto 4, 3) := by decide +kernel
theorem dX4_addHair_100 : decode cX4_addHair 100 = .ok (.iconst 0, 1) := by decide +kernel
theorem dX4_addHair_101 : decode cX4_addHair 101 = .ok (.istore 5, 2) := by decide +kernel
theorem dX4_addHair_103 : decode cX4_addHair 103 = .ok (.iload 5, 2) := by decide +kernel
theorem dX4_addHair_105 : decode cX4_addHair 105 = .ok (.ifCond .eq 7, 3) := by decide +kernel
theorem dX4_addHair_108 : decode cX4_addHair 108 = .ok (.iconst 0, 1) := by decide +kernel
theorem dX4_addHair_109 : decode cX4_addHair 109 = .ok (.goto 6, 3) := by decide +kernel
theorem dX4_addHair_112 : decode cX4_addHair 112 = .ok (.sipush 128, 3) := by decide +kernel
theorem dX4_addHair_115 : decode cX4_addHair 115 = .ok (.istore 6, 2) := by decide +kernel
theorem dX4_addHair_117 : decode cX4_addHair 117 = .ok (.iload 5, 2) := by decide +kernel
theorem dX4_addHair_119 : decode cX4_addHair 119 = .ok (.ifCond .eq 9, 3) := by decide +kernel
theorem dX4_addHair_122 : decode cX4_addHair 122 = .ok (.sipush 128, 3) := by decide +kernel
theorem dX4_addHair_125 : decode cX4_addHair 125 = .ok (.goto 4, 3) := by decide +kernel
theorem dX4_addHair_128 : decode cX4_addHair 128 = .ok (.iconst 0, 1) := by decide +kernel
theorem dX4_addHair_129 : decode cX4_addHair 129 = .ok (.istore 7, 2) := by decide +kernel
theorem dX4_addHair_131 : decode cX4_addHair 131 = .ok (.aload_n 0, 1) := by decide +kernel
theorem dX4_addHair_132 : decode cX4_addHair 132 = .ok (.getfield 37, 3) := by decide +kernel
theorem dX4_addHair_135 : decode cX4_addHair 135 = .ok (.iload_n 1, 1) := by decide +kernel
theorem dX4_addHair_136 : decode cX4_addHair 136 = .ok (.iload 6, 2) := by decide +kernel
theorem dX4_addHair_138 : decode cX4_addHair 138 = .ok (.isub, 1) := by decide +kernel
theorem dX4_addHair_139 : decode cX4_addHair 139 = .ok (.iload_n 2, 1) := by decide +kernel
theorem dX4_addHair_140 : decode cX4_addHair 140 = .ok (.iload 7, 2) := by decide +kernel
theorem dX4_addHair_142 : decode cX4_addHair 142 = .ok (.isub, 1) := by decide +kernel
theorem dX4_addHair_143 : decode cX4_addHair 143 = .ok (.invokevirtual 79, 3) := by decide +kernel
theorem dX4_addHair_146 : decode cX4_addHair 146 = .ok (.aload_n 0, 1) := by decide +kernel
theorem dX4_addHair_147 : decode cX4_addHair 147 = .ok (.getfield 37, 3) := by decide +kernel
theorem dX4_addHair_150 : decode cX4_addHair 150 = .ok (.iload_n 3, 1) := by decide +kernel
theorem dX4_addHair_151 : decode cX4_addHair 151 = .ok (.iload 6, 2) := by decide +kernel
theorem dX4_addHair_153 : decode cX4_addHair 153 = .ok (.isub, 1) := by decide +kernel
theorem dX4_addHair_154 : decode cX4_addHair 154 = .ok (.iload 4, 2) := by decide +kernel
theorem dX4_addHair_156 : decode cX4_addHair 156 = .ok (.iload 7, 2) := by decide +kernel
theorem dX4_addHair_158 : decode cX4_addHair 158 = .ok (.isub, 1) := by decide +kernel
theorem dX4_addHair_159 : decode cX4_addHair 159 = .ok (.invokevirtual 93, 3) := by decide +kernel
theorem dX4_addHair_162 : decode cX4_addHair 162 = .ok (.aload_n 0, 1) := by decide +kernel
theorem dX4_addHair_163 : decode cX4_addHair 163 = .ok (.getfield 37, 3) := by decide +kernel
theorem dX4_addHair_166 : decode cX4_addHair 166 = .ok (.iload_n 3, 1) := by decide +kernel
theorem dX4_addHair_167 : decode cX4_addHair 167 = .ok (.iload 6, 2) := by decide +kernel
theorem dX4_addHair_169 : decode cX4_addHair 169 = .ok (.iadd, 1) := by decide +kernel
theorem dX4_addHair_170 : decode cX4_addHair 170 = .ok (.iload 4, 2) := by decide +kernel
theorem dX4_addHair_172 : decode cX4_addHair 172 = .ok (.iload 7, 2) := by decide +kernel
theorem dX4_addHair_174 : decode cX4_addHair 174 = .ok (.iadd, 1) := by decide +kernel
theorem dX4_addHair_175 : decode cX4_addHair 175 = .ok (.invokevirtual 93, 3) := by decide +kernel
theorem dX4_addHair_178 : decode cX4_addHair 178 = .ok (.aload_n 0, 1) := by decide +kernel
theorem dX4_addHair_179 : decode cX4_addHair 179 = .ok (.getfield 37, 3) := by decide +kernel
theorem dX4_addHair_182 : decode cX4_addHair 182 = .ok (.iload_n 1, 1) := by decide +kernel
theorem dX4_addHair_183 : decode cX4_addHair 183 = .ok (.iload 6, 2) := by decide +kernel
theorem dX4_addHair_185 : decode cX4_addHair 185 = .ok (.iadd, 1) := by decide +kernel
theorem dX4_addHair_186 : decode cX4_addHair 186 = .ok (.iload_n 2, 1) := by decide +kernel
theorem dX4_addHair_187 : decode cX4_addHair 187 = .ok (.iload 7, 2) := by decide +kernel
theorem dX4_addHair_189 : decode cX4_addHair 189 = .ok (.iadd, 1) := by decide +kernel
theorem dX4_addHair_190 : decode cX4_addHair 190 = .ok (.invokevirtual 93, 3) := by decide +kernel
theorem dX4_addHair_193 : decode cX4_addHair 193 = .ok (.return_, 1) := by decide +kernel
set_option maxRecDepth 20000 in
theorem ggX4_paintRow_X3_at : GoodIn wsX4_paintRow wsX3_at := goodIn_ca (goodIn_r _ [7, 8, 36, 37] (by decide +kernel) (by decide +kernel)) (goodIn_sub (fun _ h => List.mem_cons_of_mem _ (List.mem_append_right _ h)) (by decide +kernel))
set_option maxRecDepth 20000 in
theorem gX4_paintRow_X3_at_n124 : GoodIn wsX4_paintRow (wsX3_at) := ggX4_paintRow_X3_at
set_option maxRecDepth 20000 in
theorem ggX4_paintRow_X4_mul : GoodIn wsX4_paintRow wsX4_mul := goodIn_r _ [12] (by decide +kernel) (by decide +kernel)
set_option maxRecDepth 20000 in
theorem gX4_paintRow_X4_mul : GoodIn wsX4_paintRow (va_wsS RX4 177 yX4_mul wsX4_mul) := goodIn_app (goodIn_of _ (by decide +kernel)) ggX4_paintRow_X4_mul
set_option maxRecDepth 20000 in
theorem ggX4_paintRow_X4_paintPoint : GoodIn wsX4_paintRow wsX4_paintPoint := goodIn_ca (goodIn_r _ [16, 17, 18, 1, 19, 20, 21, 22, 11, 23, 24, 25, 26, 27, 28, 29, 30, 31, 32, 33, 34, 35] (by decide +kernel) (by decide +kernel)) (goodIn_sub (fun _ h => List.mem_cons_of_mem _ (List.mem_append_right _ h)) (by decide +kernel))
set_option maxRecDepth 20000 in
theorem gX4_paintRow_X4_paintPoint : GoodIn wsX4_paintRow (wsV RX4 180 RX4 yX4_paintPoint wsX4_paintPoint) := goodIn_app (goodIn_of _ (by decide +kernel)) ggX4_paintRow_X4_paintPoint
theorem dX4_paintRow_0 : decode cX4_paintRow 0 = .ok (.iconst 0, 1) := by decide +kernel
theorem dX4_paintRow_1 : decode cX4_paintRow 1 = .ok (.istore 4, 2) := by decide +kernel
theorem dX4_paintRow_3 : decode cX4_paintRow 3 = .ok (.iconst 0, 1) := by decide +kernel
theorem dX4_paintRow_4 : decode cX4_paintRow 4 = .ok (.istore 5, 2) := by decide +kernel
theorem dX4_paintRow_6 : decode cX4_paintRow 6 = .ok (.iload 5, 2) := by decide +kernel
theorem dX4_paintRow_8 : decode cX4_paintRow 8 = .ok (.aload_n 0, 1) := by decide +kernel
theorem dX4_paintRow_9 : decode cX4_paintRow 9 = .ok (.getfield 13, 3) := by decide +kernel
theorem dX4_paintRow_12 : decode cX4_paintRow 12 = .ok (.if_icmp .ge 59, 3) := by decide +kernel
theorem dX4_paintRow_15 : decode cX4_paintRow 15 = .ok (.iload_n 1, 1) := by decide +kernel
theorem dX4_paintRow_16 : decode cX4_paintRow 16 = .ok (.aload_n 0, 1) := by decide +kernel
theorem dX4_paintRow_17 : decode cX4_paintRow 17 = .ok (.getfield 13, 3) := by decide +kernel
theorem dX4_paintRow_20 : decode cX4_paintRow 20 = .ok (.imul, 1) := by decide +kernel
theorem dX4_paintRow_21 : decode cX4_paintRow 21 = .ok (.iload 5, 2) := by decide +kernel
theorem dX4_paintRow_23 : decode cX4_paintRow 23 = .ok (.iadd, 1) := by decide +kernel
theorem dX4_paintRow_24 : decode cX4_paintRow 24 = .ok (.istore 6, 2) := by decide +kernel
theorem dX4_paintRow_26 : decode cX4_paintRow 26 = .ok (.aload_n 0, 1) := by decide +kernel
theorem dX4_paintRow_27 : decode cX4_paintRow 27 = .ok (.getfield 46, 3) := by decide +kernel
theorem dX4_paintRow_30 : decode cX4_paintRow 30 = .ok (.iload 5, 2) := by decide +kernel
theorem dX4_paintRow_32 : decode cX4_paintRow 32 = .ok (.invokevirtual 124, 3) := by decide +kernel
theorem dX4_paintRow_35 : decode cX4_paintRow 35 = .ok (.aload_n 0, 1) := by decide +kernel
theorem dX4_paintRow_36 : decode cX4_paintRow 36 = .ok (.getfield 27, 3) := by decide +kernel
theorem dX4_paintRow_39 : decode cX4_paintRow 39 = .ok (.iload 6, 2) := by decide +kernel
theorem dX4_paintRow_41 : decode cX4_paintRow 41 = .ok (.iaload, 1) := by decide +kernel
theorem dX4_paintRow_42 : decode cX4_paintRow 42 = .ok (.invokestatic 177, 3) := by decide +kernel
theorem dX4_paintRow_45 : decode cX4_paintRow 45 = .ok (.istore 7, 2) := by decide +kernel
theorem dX4_paintRow_47 : decode cX4_paintRow 47 = .ok (.iload 7, 2) := by decide +kernel
theorem dX4_paintRow_49 : decode cX4_paintRow 49 = .ok (.ifCond .le 16, 3) := by decide +kernel
theorem dX4_paintRow_52 : decode cX4_paintRow 52 = .ok (.aload_n 0, 1) := by decide +kernel
theorem dX4_paintRow_53 : decode cX4_paintRow 53 = .ok (.iload 6, 2) := by decide +kernel
theorem dX4_paintRow_55 : decode cX4_paintRow 55 = .ok (.iload_n 2, 1) := by decide +kernel
theorem dX4_paintRow_56 : decode cX4_paintRow 56 = .ok (.iload_n 3, 1) := by decide +kernel
theorem dX4_paintRow_57 : decode cX4_paintRow 57 = .ok (.iload 7, 2) := by decide +kernel
theorem dX4_paintRow_59 : decode cX4_paintRow 59 = .ok (.invokevirtual 180, 3) := by decide +kernel
theorem dX4_paintRow_62 : decode cX4_paintRow 62 = .ok (.iinc 4 1, 3) := by decide +kernel
theorem dX4_paintRow_65 : decode cX4_paintRow 65 = .ok (.iinc 5 1, 3) := by decide +kernel
theorem dX4_paintRow_68 : decode cX4_paintRow 68 = .ok (.goto (-62), 3) := by decide +kernel
theorem dX4_paintRow_71 : decode cX4_paintRow 71 = .ok (.iload 4, 2) := by decide +kernel
theorem dX4_paintRow_73 : decode cX4_paintRow 73 = .ok (.ireturn, 1) := by decide +kernel
set_option maxRecDepth 20000 in
theorem ggX4_paintPoint_X4_blend : GoodIn wsX4_paintPoint wsX4_blend := goodIn_r _ [9] (by decide +kernel) (by decide +kernel)
set_option maxRecDepth 20000 in
theorem gX4_paintPoint_X4_blend : GoodIn wsX4_paintPoint (va_wsS RX4 183 yX4_blend wsX4_blend) := goodIn_app (goodIn_of _ (by decide +kernel)) ggX4_paintPoint_X4_blend
theorem dX4_paintPoint_0 : decode cX4_paintPoint 0 = .ok (.iconst 0, 1) := by decide +kernel
theorem dX4_paintPoint_1 : decode cX4_paintPoint 1 = .ok (.istore 5, 2) := by decide +kernel
theorem dX4_paintPoint_3 : decode cX4_paintPoint 3 = .ok (.iload 5, 2) := by decide +kernel
theorem dX4_paintPoint_5 : decode cX4_paintPoint 5 = .ok (.aload_n 0, 1) := by decide +kernel
theorem dX4_paintPoint_6 : decode cX4_paintPoint 6 = .ok (.getfield 20, 3) := by decide +kernel
theorem dX4_paintPoint_9 : decode cX4_paintPoint 9 = .ok (.if_icmp .ge 84, 3) := by decide +kernel
theorem dX4_paintPoint_12 : decode cX4_paintPoint 12 = .ok (.iload 5, 2) := by decide +kernel
theorem dX4_paintPoint_14 : decode cX4_paintPoint 14 = .ok (.aload_n 0, 1) := by decide +kernel
theorem dX4_paintPoint_15 : decode cX4_paintPoint 15 = .ok (.getfield 17, 3) := by decide +kernel
theorem dX4_paintPoint_18 : decode cX4_paintPoint 18 = .ok (.imul, 1) := by decide +kernel
theorem dX4_paintPoint_19 : decode cX4_paintPoint 19 = .ok (.aload_n 0, 1) := by decide +kernel
theorem dX4_paintPoint_20 : decode cX4_paintPoint 20 = .ok (.getfield 13, 3) := by decide +kernel
theorem dX4_paintPoint_23 : decode cX4_paintPoint 23 = .ok (.imul, 1) := by decide +kernel
theorem dX4_paintPoint_24 : decode cX4_paintPoint 24 = .ok (.iload_n 1, 1) := by decide +kernel
theorem dX4_paintPoint_25 : decode cX4_paintPoint 25 = .ok (.iadd, 1) := by decide +kernel
theorem dX4_paintPoint_26 : decode cX4_paintPoint 26 = .ok (.istore 6, 2) := by decide +kernel
theorem dX4_paintPoint_28 : decode cX4_paintPoint 28 = .ok (.iload 5, 2) := by decide +kernel
theorem dX4_paintPoint_30 : decode cX4_paintPoint 30 = .ok (.iload_n 2, 1) := by decide +kernel
theorem dX4_paintPoint_31 : decode cX4_paintPoint 31 = .ok (.if_icmp .ne 26, 3) := by decide +kernel
theorem dX4_paintPoint_34 : decode cX4_paintPoint 34 = .ok (.aload_n 0, 1) := by decide +kernel
theorem dX4_paintPoint_35 : decode cX4_paintPoint 35 = .ok (.getfield 23, 3) := by decide +kernel
theorem dX4_paintPoint_38 : decode cX4_paintPoint 38 = .ok (.iload 6, 2) := by decide +kernel
theorem dX4_paintPoint_40 : decode cX4_paintPoint 40 = .ok (.aload_n 0, 1) := by decide +kernel
theorem dX4_paintPoint_41 : decode cX4_paintPoint 41 = .ok (.getfield 23, 3) := by decide +kernel
theorem dX4_paintPoint_44 : decode cX4_paintPoint 44 = .ok (.iload 6, 2) := by decide +kernel
theorem dX4_paintPoint_46 : decode cX4_paintPoint 46 = .ok (.iaload, 1) := by decide +kernel
theorem dX4_paintPoint_47 : decode cX4_paintPoint 47 = .ok (.iload_n 3, 1) := by decide +kernel
theorem dX4_paintPoint_48 : decode cX4_paintPoint 48 = .ok (.iload 4, 2) := by decide +kernel
theorem dX4_paintPoint_50 : decode cX4_paintPoint 50 = .ok (.invokestatic 183, 3) := by decide +kernel
theorem dX4_paintPoint_53 : decode cX4_paintPoint 53 = .ok (.iastore, 1) := by decide +kernel
theorem dX4_paintPoint_54 : decode cX4_paintPoint 54 = .ok (.goto 33, 3) := by decide +kernel
theorem dX4_paintPoint_57 : decode cX4_paintPoint 57 = .ok (.aload_n 0, 1) := by decide +kernel
theorem dX4_paintPoint_58 : decode cX4_paintPoint 58 = .ok (.getfield 30, 3) := by decide +kernel
theorem dX4_paintPoint_61 : decode cX4_paintPoint 61 = .ok (.iload 5, 2) := by decide +kernel
theorem dX4_paintPoint_63 : decode cX4_paintPoint 63 = .ok (.baload, 1) := by decide +kernel
theorem dX4_paintPoint_64 : decode cX4_paintPoint 64 = .ok (.ifCond .ne 23, 3) := by decide +kernel
theorem dX4_paintPoint_67 : decode cX4_paintPoint 67 = .ok (.aload_n 0, 1) := by decide +kernel
theorem dX4_paintPoint_68 : decode cX4_paintPoint 68 = .ok (.getfield 23, 3) := by decide +kernel
theorem dX4_paintPoint_71 : decode cX4_paintPoint 71 = .ok (.iload 6, 2) := by decide +kernel
theorem dX4_paintPoint_73 : decode cX4_paintPoint 73 = .ok (.aload_n 0, 1) := by decide +kernel
theorem dX4_paintPoint_74 : decode cX4_paintPoint 74 = .ok (.getfield 23, 3) := by decide +kernel
theorem dX4_paintPoint_77 : decode cX4_paintPoint 77 = .ok (.iload 6, 2) := by decide +kernel
theorem dX4_paintPoint_79 : decode cX4_paintPoint 79 = .ok (.iaload, 1) := by decide +kernel
theorem dX4_paintPoint_80 : decode cX4_paintPoint 80 = .ok (.iconst 0, 1) := by decide +kernel
theorem dX4_paintPoint_81 : decode cX4_paintPoint 81 = .ok (.iload 4, 2) := by decide +kernel
theorem dX4_paintPoint_83 : decode cX4_paintPoint 83 = .ok (.invokestatic 183, 3) := by decide +kernel
theorem dX4_paintPoint_86 : decode cX4_paintPoint 86 = .ok (.iastore, 1) := by decide +kernel
theorem dX4_paintPoint_87 : decode cX4_paintPoint 87 = .ok (.iinc 5 1, 3) := by decide +kernel
theorem dX4_paintPoint_90 : decode cX4_paintPoint 90 = .ok (.goto (-87), 3) := by decide +kernel
theorem dX4_paintPoint_93 : decode cX4_paintPoint 93 = .ok (.return_, 1) := by decide +kernel
set_option maxRecDepth 20000 in
theorem ggX4_clipRow_X3_at : GoodIn wsX4_clipRow wsX3_at := goodIn_ca (goodIn_r _ [7, 8, 25, 26] (by decide +kernel) (by decide +kernel)) (goodIn_sub (fun _ h => List.mem_cons_of_mem _ (List.mem_append_right _ h)) (by decide +kernel))
set_option maxRecDepth 20000 in
theorem gX4_clipRow_X3_at_n124 : GoodIn wsX4_clipRow (wsX3_at) := ggX4_clipRow_X3_at
set_option maxRecDepth 20000 in
theorem ggX4_clipRow_X4_mul : GoodIn wsX4_clipRow wsX4_mul := goodIn_r _ [12] (by decide +kernel) (by decide +kernel)
set_option maxRecDepth 20000 in
theorem gX4_clipRow_X4_mul : GoodIn wsX4_clipRow (va_wsS RX4 177 yX4_mul wsX4_mul) := goodIn_app (goodIn_of _ (by decide +kernel)) ggX4_clipRow_X4_mul
theorem dX4_clipRow_0 : decode cX4_clipRow 0 = .ok (.iconst 0, 1) := by decide +kernel
theorem dX4_clipRow_1 : decode cX4_clipRow 1 = .ok (.istore_n 2, 1) := by decide +kernel
theorem dX4_clipRow_2 : decode cX4_clipRow 2 = .ok (.iconst 0, 1) := by decide +kernel
theorem dX4_clipRow_3 : decode cX4_clipRow 3 = .ok (.istore_n 3, 1) := by decide +kernel
theorem dX4_clipRow_4 : decode cX4_clipRow 4 = .ok (.iload_n 3, 1) := by decide +kernel
theorem dX4_clipRow_5 : decode cX4_clipRow 5 = .ok (.aload_n 0, 1) := by decide +kernel
theorem dX4_clipRow_6 : decode cX4_clipRow 6 = .ok (.getfield 13, 3) := by decide +kernel
theorem dX4_clipRow_9 : decode cX4_clipRow 9 = .ok (.if_icmp .ge 57, 3) := by decide +kernel
theorem dX4_clipRow_12 : decode cX4_clipRow 12 = .ok (.iload_n 1, 1) := by decide +kernel
theorem dX4_clipRow_13 : decode cX4_clipRow 13 = .ok (.aload_n 0, 1) := by decide +kernel
theorem dX4_clipRow_14 : decode cX4_clipRow 14 = .ok (.getfield 13, 3) := by decide +kernel
theorem dX4_clipRow_17 : decode cX4_clipRow 17 = .ok (.imul, 1) := by decide +kernel
theorem dX4_clipRow_18 : decode cX4_clipRow 18 = .ok (.iload_n 3, 1) := by decide +kernel
theorem dX4_clipRow_19 : decode cX4_clipRow 19 = .ok (.iadd, 1) := by decide +kernel
theorem dX4_clipRow_20 : decode cX4_clipRow 20 = .ok (.istore 4, 2) := by decide +kernel
theorem dX4_clipRow_22 : decode cX4_clipRow 22 = .ok (.aload_n 0, 1) := by decide +kernel
theorem dX4_clipRow_23 : decode cX4_clipRow 23 = .ok (.getfield 27, 3) := by decide +kernel
theorem dX4_clipRow_26 : decode cX4_clipRow 26 = .ok (.iload 4, 2) := by decide +kernel
theorem dX4_clipRow_28 : decode cX4_clipRow 28 = .ok (.aload_n 0, 1) := by decide +kernel
theorem dX4_clipRow_29 : decode cX4_clipRow 29 = .ok (.getfield 27, 3) := by decide +kernel
theorem dX4_clipRow_32 : decode cX4_clipRow 32 = .ok (.iload 4, 2) := by decide +kernel
theorem dX4_clipRow_34 : decode cX4_clipRow 34 = .ok (.iaload, 1) := by decide +kernel
theorem dX4_clipRow_35 : decode cX4_clipRow 35 = .ok (.aload_n 0, 1) := by decide +kernel
theorem dX4_clipRow_36 : decode cX4_clipRow 36 = .ok (.getfield 46, 3) := by decide +kernel
theorem dX4_clipRow_39 : decode cX4_clipRow 39 = .ok (.iload_n 3, 1) := by decide +kernel
theorem dX4_clipRow_40 : decode cX4_clipRow 40 = .ok (.invokevirtual 124, 3) := by decide +kernel
theorem dX4_clipRow_43 : decode cX4_clipRow 43 = .ok (.invokestatic 177, 3) := by decide +kernel
theorem dX4_clipRow_46 : decode cX4_clipRow 46 = .ok (.iastore, 1) := by decide +kernel
theorem dX4_clipRow_47 : decode cX4_clipRow 47 = .ok (.aload_n 0, 1) := by decide +kernel
theorem dX4_clipRow_48 : decode cX4_clipRow 48 = .ok (.getfield 27, 3) := by decide +kernel
theorem dX4_clipRow_51 : decode cX4_clipRow 51 = .ok (.iload 4, 2) := by decide +kernel
theorem dX4_clipRow_53 : decode cX4_clipRow 53 = .ok (.iaload, 1) := by decide +kernel
theorem dX4_clipRow_54 : decode cX4_clipRow 54 = .ok (.ifCond .le 6, 3) := by decide +kernel
theorem dX4_clipRow_57 : decode cX4_clipRow 57 = .ok (.iinc 2 1, 3) := by decide +kernel
theorem dX4_clipRow_60 : decode cX4_clipRow 60 = .ok (.iinc 3 1, 3) := by decide +kernel
theorem dX4_clipRow_63 : decode cX4_clipRow 63 = .ok (.goto (-59), 3) := by decide +kernel
theorem dX4_clipRow_66 : decode cX4_clipRow 66 = .ok (.iload_n 2, 1) := by decide +kernel
theorem dX4_clipRow_67 : decode cX4_clipRow 67 = .ok (.ireturn, 1) := by decide +kernel
end
section
theorem dX5_init_0 : decode cX5_init 0 = .ok (.aload_n 0, 1) := by decide +kernel
theorem dX5_init_1 : decode cX5_init 1 = .ok (.invokespecial 1, 3) := by decide +kernel
theorem dX5_init_4 : decode cX5_init 4 = .ok (.aload_n 0, 1) := by decide +kernel
theorem dX5_init_5 : decode cX5_init 5 = .ok (.sipush 9216, 3) := by decide +kernel
theorem dX5_init_8 : decode cX5_init 8 = .ok (.newarray .int, 2) := by decide +kernel
theorem dX5_init_10 : decode cX5_init 10 = .ok (.putfield 7, 3) := by decide +kernel
theorem dX5_init_13 : decode cX5_init 13 = .ok (.aload_n 0, 1) := by decide +kernel
theorem dX5_init_14 : decode cX5_init 14 = .ok (.sipush 2304, 3) := by decide +kernel
theorem dX5_init_17 : decode cX5_init 17 = .ok (.newarray .int, 2) := by decide +kernel
theorem dX5_init_19 : decode cX5_init 19 = .ok (.putfield 13, 3) := by decide +kernel
theorem dX5_init_22 : decode cX5_init 22 = .ok (.aload_n 0, 1) := by decide +kernel
theorem dX5_init_23 : decode cX5_init 23 = .ok (.iconst 4, 1) := by decide +kernel
theorem dX5_init_24 : decode cX5_init 24 = .ok (.newarray .boolean, 2) := by decide +kernel
theorem dX5_init_26 : decode cX5_init 26 = .ok (.putfield 16, 3) := by decide +kernel
theorem dX5_init_29 : decode cX5_init 29 = .ok (.aload_n 0, 1) := by decide +kernel
theorem dX5_init_30 : decode cX5_init 30 = .ok (.bipush 100, 2) := by decide +kernel
theorem dX5_init_32 : decode cX5_init 32 = .ok (.newarray .long, 2) := by decide +kernel
theorem dX5_init_34 : decode cX5_init 34 = .ok (.putfield 20, 3) := by decide +kernel
theorem dX5_init_37 : decode cX5_init 37 = .ok (.aload_n 0, 1) := by decide +kernel
theorem dX5_init_38 : decode cX5_init 38 = .ok (.bipush 100, 2) := by decide +kernel
theorem dX5_init_40 : decode cX5_init 40 = .ok (.newarray .long, 2) := by decide +kernel
theorem dX5_init_42 : decode cX5_init 42 = .ok (.putfield 24, 3) := by decide +kernel
theorem dX5_init_45 : decode cX5_init 45 = .ok (.aload_n 0, 1) := by decide +kernel
theorem dX5_init_46 : decode cX5_init 46 = .ok (.bipush 100, 2) := by decide +kernel
theorem dX5_init_48 : decode cX5_init 48 = .ok (.newarray .boolean, 2) := by decide +kernel
theorem dX5_init_50 : decode cX5_init 50 = .ok (.putfield 27, 3) := by decide +kernel
theorem dX5_init_53 : decode cX5_init 53 = .ok (.aload_n 0, 1) := by decide +kernel
theorem dX5_init_54 : decode cX5_init 54 = .ok (.sipush 200, 3) := by decide +kernel
theorem dX5_init_57 : decode cX5_init 57 = .ok (.newarray .long, 2) := by decide +kernel
theorem dX5_init_59 : decode cX5_init 59 = .ok (.putfield 30, 3) := by decide +kernel
theorem dX5_init_62 : decode cX5_init 62 = .ok (.aload_n 0, 1) := by decide +kernel
theorem dX5_init_63 : decode cX5_init 63 = .ok (.sipush 200, 3) := by decide +kernel
theorem dX5_init_66 : decode cX5_init 66 = .ok (.newarray .int, 2) := by decide +kernel
theorem dX5_init_68 : decode cX5_init 68 = .ok (.putfield 33, 3) := by decide +kernel
theorem dX5_init_71 : decode cX5_init 71 = .ok (.aload_n 0, 1) := by decide +kernel
theorem dX5_init_72 : decode cX5_init 72 = .ok (.bipush 48, 2) := by decide +kernel
theorem dX5_init_74 : decode cX5_init 74 = .ok (.newarray .int, 2) := by decide +kernel
theorem dX5_init_76 : decode cX5_init 76 = .ok (.putfield 36, 3) := by decide +kernel
theorem dX5_init_79 : decode cX5_init 79 = .ok (.aload_n 0, 1) := by decide +kernel
theorem dX5_init_80 : decode cX5_init 80 = .ok (.sipush 18432, 3) := by decide +kernel
theorem dX5_init_83 : decode cX5_init 83 = .ok (.newarray .int, 2) := by decide +kernel
theorem dX5_init_85 : decode cX5_init 85 = .ok (.putfield 39, 3) := by decide +kernel
theorem dX5_init_88 : decode cX5_init 88 = .ok (.aload_n 0, 1) := by decide +kernel
theorem dX5_init_89 : decode cX5_init 89 = .ok (.iload_n 1, 1) := by decide +kernel
theorem dX5_init_90 : decode cX5_init 90 = .ok (.ifCond .ge 7, 3) := by decide +kernel
theorem dX5_init_93 : decode cX5_init 93 = .ok (.iconst 0, 1) := by decide +kernel
theorem dX5_init_94 : decode cX5_init 94 = .ok (.goto 15, 3) := by decide +kernel
theorem dX5_init_97 : decode cX5_init 97 = .ok (.iload_n 1, 1) := by decide +kernel
theorem dX5_init_98 : decode cX5_init 98 = .ok (.bipush 48, 2) := by decide +kernel
theorem dX5_init_100 : decode cX5_init 100 = .ok (.if_icmp .le 8, 3) := by decide +kernel
theorem dX5_init_103 : decode cX5_init 103 = .ok (.bipush 48, 2) := by decide +kernel
theorem dX5_init_105 : decode cX5_init 105 = .ok (.goto 4, 3) := by decide +kernel
theorem dX5_init_108 : decode cX5_init 108 = .ok (.iload_n 1, 1) := by decide +kernel
theorem dX5_init_109 : decode cX5_init 109 = .ok (.putfield 42, 3) := by decide +kernel
theorem dX5_init_112 : decode cX5_init 112 = .ok (.aload_n 0, 1) := by decide +kernel
theorem dX5_init_113 : decode cX5_init 113 = .ok (.iload_n 2, 1) := by decide +kernel
theorem dX5_init_114 : decode cX5_init 114 = .ok (.ifCond .ge 7, 3) := by decide +kernel
theorem dX5_init_117 : decode cX5_init 117 = .ok (.iconst 0, 1) := by decide +kernel
theorem dX5_init_118 : decode cX5_init 118 = .ok (.goto 15, 3) := by decide +kernel
theorem dX5_init_121 : decode cX5_init 121 = .ok (.iload_n 2, 1) := by decide +kernel
theorem dX5_init_122 : decode cX5_init 122 = .ok (.bipush 48, 2) := by decide +kernel
theorem dX5_init_124 : decode cX5_init 124 = .ok (.if_icmp .le 8, 3) := by decide +kernel
theorem dX5_init_127 : decode cX5_init 127 = .ok (.bipush 48, 2) := by decide +kernel
theorem dX5_init_129 : decode cX5_init 129 = .ok (.goto 4, 3) := by decide +kernel
theorem dX5_init_132 : decode cX5_init 132 = .ok (.iload_n 2, 1) := by decide +kernel
theorem dX5_init_133 : decode cX5_init 133 = .ok (.putfield 46, 3) := by decide +kernel
theorem dX5_init_136 : decode cX5_init 136 = .ok (.aload_n 0, 1) := by decide +kernel
theorem dX5_init_137 : decode cX5_init 137 = .ok (.iload_n 3, 1) := by decide +kernel
theorem dX5_init_138 : decode cX5_init 138 = .ok (.ifCond .ge 7, 3) := by decide +kernel
theorem dX5_init_141 : decode cX5_init 141 = .ok (.iconst 0, 1) := by decide +kernel
theorem dX5_init_142 : decode cX5_init 142 = .ok (.goto 13, 3) := by decide +kernel
theorem dX5_init_145 : decode cX5_init 145 = .ok (.iload_n 3, 1) := by decide +kernel
theorem dX5_init_146 : decode cX5_init 146 = .ok (.iconst 4, 1) := by decide +kernel
theorem dX5_init_147 : decode cX5_init 147 = .ok (.if_icmp .le 7, 3) := by decide +kernel
theorem dX5_init_150 : decode cX5_init 150 = .ok (.iconst 4, 1) := by decide +kernel
theorem dX5_init_151 : decode cX5_init 151 = .ok (.goto 4, 3) := by decide +kernel
theorem dX5_init_154 : decode cX5_init 154 = .ok (.iload_n 3, 1) := by decide +kernel
theorem dX5_init_155 : decode cX5_init 155 = .ok (.putfield 49, 3) := by decide +kernel
theorem dX5_init_158 : decode cX5_init 158 = .ok (.iconst 0, 1) := by decide +kernel
theorem dX5_init_159 : decode cX5_init 159 = .ok (.istore 4, 2) := by decide +kernel
theorem dX5_init_161 : decode cX5_init 161 = .ok (.iload 4, 2) := by decide +kernel
theorem dX5_init_163 : decode cX5_init 163 = .ok (.sipush 2304, 3) := by decide +kernel
theorem dX5_init_166 : decode cX5_init 166 = .ok (.if_icmp .ge 19, 3) := by decide +kernel
theorem dX5_init_169 : decode cX5_init 169 = .ok (.aload_n 0, 1) := by decide +kernel
theorem dX5_init_170 : decode cX5_init 170 = .ok (.getfield 13, 3) := by decide +kernel
theorem dX5_init_173 : decode cX5_init 173 = .ok (.iload 4, 2) := by decide +kernel
theorem dX5_init_175 : decode cX5_init 175 = .ok (.sipush 255, 3) := by decide +kernel
theorem dX5_init_178 : decode cX5_init 178 = .ok (.iastore, 1) := by decide +kernel
theorem dX5_init_179 : decode cX5_init 179 = .ok (.iinc 4 1, 3) := by decide +kernel
theorem dX5_init_182 : decode cX5_init 182 = .ok (.goto (-21), 3) := by decide +kernel
theorem dX5_init_185 : decode cX5_init 185 = .ok (.aload_n 0, 1) := by decide +kernel
theorem dX5_init_186 : decode cX5_init 186 = .ok (.aload_n 0, 1) := by decide +kernel
theorem dX5_init_187 : decode cX5_init 187 = .ok (.getfield 46, 3) := by decide +kernel
theorem dX5_init_190 : decode cX5_init 190 = .ok (.putfield 52, 3) := by decide +kernel
theorem dX5_init_193 : decode cX5_init 193 = .ok (.return_, 1) := by decide +kernel
theorem dX5_thrown_0 : decode cX5_thrown 0 = .ok (.aload_n 0, 1) := by decide +kernel
theorem dX5_thrown_1 : decode cX5_thrown 1 = .ok (.getfield 55, 3) := by decide +kernel
theorem dX5_thrown_4 : decode cX5_thrown 4 = .ok (.ireturn, 1) := by decide +kernel
theorem dX5_cut_0 : decode cX5_cut 0 = .ok (.lload_n 0, 1) := by decide +kernel
theorem dX5_cut_1 : decode cX5_cut 1 = .ok (.ldc2_w 58, 3) := by decide +kernel
theorem dX5_cut_4 : decode cX5_cut 4 = .ok (.lcmp, 1) := by decide +kernel
theorem dX5_cut_5 : decode cX5_cut 5 = .ok (.ifCond .ge 9, 3) := by decide +kernel
theorem dX5_cut_8 : decode cX5_cut 8 = .ok (.ldc2_w 58, 3) := by decide +kernel
theorem dX5_cut_11 : decode cX5_cut 11 = .ok (.goto 18, 3) := by decide +kernel
theorem dX5_cut_14 : decode cX5_cut 14 = .ok (.lload_n 0, 1) := by decide +kernel
theorem dX5_cut_15 : decode cX5_cut 15 = .ok (.ldc2_w 60, 3) := by decide +kernel
theorem dX5_cut_18 : decode cX5_cut 18 = .ok (.lcmp, 1) := by decide +kernel
theorem dX5_cut_19 : decode cX5_cut 19 = .ok (.ifCond .le 9, 3) := by decide +kernel
theorem dX5_cut_22 : decode cX5_cut 22 = .ok (.ldc2_w 60, 3) := by decide +kernel
theorem dX5_cut_25 : decode cX5_cut 25 = .ok (.goto 4, 3) := by decide +kernel
theorem dX5_cut_28 : decode cX5_cut 28 = .ok (.lload_n 0, 1) := by decide +kernel
theorem dX5_cut_29 : decode cX5_cut 29 = .ok (.lreturn, 1) := by decide +kernel
theorem dX5_add_0 : decode cX5_add 0 = .ok (.aload_n 0, 1) := by decide +kernel
theorem dX5_add_1 : decode cX5_add 1 = .ok (.getfield 20, 3) := by decide +kernel
theorem dX5_add_4 : decode cX5_add 4 = .ok (.aload_n 0, 1) := by decide +kernel
theorem dX5_add_5 : decode cX5_add 5 = .ok (.getfield 62, 3) := by decide +kernel
theorem dX5_add_8 : decode cX5_add 8 = .ok (.lload_n 1, 1) := by decide +kernel
theorem dX5_add_9 : decode cX5_add 9 = .ok (.lastore, 1) := by decide +kernel
theorem dX5_add_10 : decode cX5_add 10 = .ok (.aload_n 0, 1) := by decide +kernel
theorem dX5_add_11 : decode cX5_add 11 = .ok (.getfield 24, 3) := by decide +kernel
theorem dX5_add_14 : decode cX5_add 14 = .ok (.aload_n 0, 1) := by decide +kernel
theorem dX5_add_15 : decode cX5_add 15 = .ok (.getfield 62, 3) := by decide +kernel
theorem dX5_add_18 : decode cX5_add 18 = .ok (.lload_n 3, 1) := by decide +kernel
theorem dX5_add_19 : decode cX5_add 19 = .ok (.lastore, 1) := by decide +kernel
theorem dX5_add_20 : decode cX5_add 20 = .ok (.aload_n 0, 1) := by decide +kernel
theorem dX5_add_21 : decode cX5_add 21 = .ok (.getfield 27, 3) := by decide +kernel
theorem dX5_add_24 : decode cX5_add 24 = .ok (.aload_n 0, 1) := by decide +kernel
theorem dX5_add_25 : decode cX5_add 25 = .ok (.getfield 62, 3) := by decide +kernel
theorem dX5_add_28 : decode cX5_add 28 = .ok (.iload 5, 2) := by decide +kernel
theorem dX5_add_30 : decode cX5_add 30 = .ok (.bastore, 1) := by decide +kernel
theorem dX5_add_31 : decode cX5_add 31 = .ok (.aload_n 0, 1) := by decide +kernel
theorem dX5_add_32 : decode cX5_add 32 = .ok (.dup, 1) := by decide +kernel
theorem dX5_add_33 : decode cX5_add 33 = .ok (.getfield 62, 3) := by decide +kernel
theorem dX5_add_36 : decode cX5_add 36 = .ok (.iconst 1, 1) := by decide +kernel
theorem dX5_add_37 : decode cX5_add 37 = .ok (.iadd, 1) := by decide +kernel
theorem dX5_add_38 : decode cX5_add 38 = .ok (.putfield 62, 3) := by decide +kernel
theorem dX5_add_41 : decode cX5_add 41 = .ok (.return_, 1) := by decide +kernel
set_option maxRecDepth 20000 in
theorem ggX5_move_X5_cut : GoodIn wsX5_move wsX5_cut := goodIn_r _ [6, 7, 8] (by decide +kernel) (by decide +kernel)
set_option maxRecDepth 20000 in
theorem gX5_move_X5_cut : GoodIn wsX5_move (va_wsS RX5 65 yX5_cut wsX5_cut) := goodIn_app (goodIn_of _ (by decide +kernel)) ggX5_move_X5_cut
set_option maxRecDepth 20000 in
theorem ggX5_move_X5_add : GoodIn wsX5_move wsX5_add := goodIn_ca (goodIn_r _ [12, 13, 1, 14, 15, 16, 17, 18, 19, 20, 21, 22, 23, 24, 25, 26, 27, 28, 29, 30, 31, 32, 33, 34, 35, 36] (by decide +kernel) (by decide +kernel)) (goodIn_sub (fun _ h => List.mem_cons_of_mem _ (List.mem_append_right _ h)) (by decide +kernel))
set_option maxRecDepth 20000 in
theorem gX5_move_X5_add : GoodIn wsX5_move (wsV RX5 69 RX5 yX5_add wsX5_add) := goodIn_app (goodIn_of _ (by decide +kernel)) ggX5_move_X5_add
theorem dX5_move_0 : decode cX5_move 0 = .ok (.aload_n 0, 1) := by decide +kernel
theorem dX5_move_1 : decode cX5_move 1 = .ok (.aload_n 0, 1) := by decide +kernel
theorem dX5_move_2 : decode cX5_move 2 = .ok (.getfield 62, 3) := by decide +kernel
theorem dX5_move_5 : decode cX5_move 5 = .ok (.bipush 100, 2) := by decide +kernel
theorem dX5_move_7 : decode cX5_move 7 = .ok (.if_icmp .ne 7, 3) := by decide +kernel
theorem dX5_move_10 : decode cX5_move 10 = .ok (.iconst 1, 1) := by decide +kernel
theorem dX5_move_11 : decode cX5_move 11 = .ok (.goto 4, 3) := by decide +kernel
theorem dX5_move_14 : decode cX5_move 14 = .ok (.iconst 0, 1) := by decide +kernel
theorem dX5_move_15 : decode cX5_move 15 = .ok (.putfield 55, 3) := by decide +kernel
theorem dX5_move_18 : decode cX5_move 18 = .ok (.aload_n 0, 1) := by decide +kernel
theorem dX5_move_19 : decode cX5_move 19 = .ok (.getfield 55, 3) := by decide +kernel
theorem dX5_move_22 : decode cX5_move 22 = .ok (.ifCond .le 5, 3) := by decide +kernel
theorem dX5_move_25 : decode cX5_move 25 = .ok (.iconst 0, 1) := by decide +kernel
theorem dX5_move_26 : decode cX5_move 26 = .ok (.ireturn, 1) := by decide +kernel
theorem dX5_move_27 : decode cX5_move 27 = .ok (.aload_n 0, 1) := by decide +kernel
theorem dX5_move_28 : decode cX5_move 28 = .ok (.lload_n 1, 1) := by decide +kernel
theorem dX5_move_29 : decode cX5_move 29 = .ok (.invokestatic 65, 3) := by decide +kernel
theorem dX5_move_32 : decode cX5_move 32 = .ok (.lload_n 3, 1) := by decide +kernel
theorem dX5_move_33 : decode cX5_move 33 = .ok (.invokestatic 65, 3) := by decide +kernel
theorem dX5_move_36 : decode cX5_move 36 = .ok (.iconst 1, 1) := by decide +kernel
theorem dX5_move_37 : decode cX5_move 37 = .ok (.invokevirtual 69, 3) := by decide +kernel
theorem dX5_move_40 : decode cX5_move 40 = .ok (.aload_n 0, 1) := by decide +kernel
theorem dX5_move_41 : decode cX5_move 41 = .ok (.getfield 62, 3) := by decide +kernel
theorem dX5_move_44 : decode cX5_move 44 = .ok (.ireturn, 1) := by decide +kernel
set_option maxRecDepth 20000 in
theorem ggX5_line_X5_cut : GoodIn wsX5_line wsX5_cut := goodIn_r _ [6, 7, 8] (by decide +kernel) (by decide +kernel)
set_option maxRecDepth 20000 in
theorem gX5_line_X5_cut : GoodIn wsX5_line (va_wsS RX5 65 yX5_cut wsX5_cut) := goodIn_app (goodIn_of _ (by decide +kernel)) ggX5_line_X5_cut
set_option maxRecDepth 20000 in
theorem ggX5_line_X5_add : GoodIn wsX5_line wsX5_add := goodIn_ca (goodIn_r _ [12, 13, 1, 14, 15, 16, 17, 18, 19, 20, 21, 22, 23, 24, 25, 26, 27, 28, 29, 30, 31, 32, 33, 34, 35, 36] (by decide +kernel) (by decide +kernel)) (goodIn_sub (fun _ h => List.mem_cons_of_mem _ (List.mem_append_right _ h)) (by decide +kernel))
set_option maxRecDepth 20000 in
theorem gX5_line_X5_add : GoodIn wsX5_line (wsV RX5 69 RX5 yX5_add wsX5_add) := goodIn_app (goodIn_of _ (by decide +kernel)) ggX5_line_X5_add
theorem dX5_line_0 : decode cX5_line 0 = .ok (.aload_n 0, 1) := by decide +kernel
theorem dX5_line_1 : decode cX5_line 1 = .ok (.aload_n 0, 1) := by decide +kernel
theorem dX5_line_2 : decode cX5_line 2 = .ok (.getfield 62, 3) := by decide +kernel
theorem dX5_line_5 : decode cX5_line 5 = .ok (.ifCond .ne 7, 3) := by decide +kernel
theorem dX5_line_8 : decode cX5_line 8 = .ok (.iconst 1, 1) := by decide +kernel
theorem dX5_line_9 : decode cX5_line 9 = .ok (.goto 17, 3) := by decide +kernel
theorem dX5_line_12 : decode cX5_line 12 = .ok (.aload_n 0, 1) := by decide +kernel
theorem dX5_line_13 : decode cX5_line 13 = .ok (.getfield 62, 3) := by decide +kernel
theorem dX5_line_16 : decode cX5_line 16 = .ok (.bipush 100, 2) := by decide +kernel
theorem dX5_line_18 : decode cX5_line 18 = .ok (.if_icmp .ne 7, 3) := by decide +kernel
theorem dX5_line_21 : decode cX5_line 21 = .ok (.iconst 2, 1) := by decide +kernel
theorem dX5_line_22 : decode cX5_line 22 = .ok (.goto 4, 3) := by decide +kernel
theorem dX5_line_25 : decode cX5_line 25 = .ok (.iconst 0, 1) := by decide +kernel
theorem dX5_line_26 : decode cX5_line 26 = .ok (.putfield 55, 3) := by decide +kernel
theorem dX5_line_29 : decode cX5_line 29 = .ok (.aload_n 0, 1) := by decide +kernel
theorem dX5_line_30 : decode cX5_line 30 = .ok (.getfield 55, 3) := by decide +kernel
theorem dX5_line_33 : decode cX5_line 33 = .ok (.ifCond .le 5, 3) := by decide +kernel
theorem dX5_line_36 : decode cX5_line 36 = .ok (.iconst 0, 1) := by decide +kernel
theorem dX5_line_37 : decode cX5_line 37 = .ok (.ireturn, 1) := by decide +kernel
theorem dX5_line_38 : decode cX5_line 38 = .ok (.aload_n 0, 1) := by decide +kernel
theorem dX5_line_39 : decode cX5_line 39 = .ok (.lload_n 1, 1) := by decide +kernel
theorem dX5_line_40 : decode cX5_line 40 = .ok (.invokestatic 65, 3) := by decide +kernel
theorem dX5_line_43 : decode cX5_line 43 = .ok (.lload_n 3, 1) := by decide +kernel
theorem dX5_line_44 : decode cX5_line 44 = .ok (.invokestatic 65, 3) := by decide +kernel
theorem dX5_line_47 : decode cX5_line 47 = .ok (.iconst 0, 1) := by decide +kernel
theorem dX5_line_48 : decode cX5_line 48 = .ok (.invokevirtual 69, 3) := by decide +kernel
theorem dX5_line_51 : decode cX5_line 51 = .ok (.aload_n 0, 1) := by decide +kernel
theorem dX5_line_52 : decode cX5_line 52 = .ok (.getfield 62, 3) := by decide +kernel
theorem dX5_line_55 : decode cX5_line 55 = .ok (.ireturn, 1) := by decide +kernel
theorem dX5_size_0 : decode cX5_size 0 = .ok (.lload_n 0, 1) := by decide +kernel
theorem dX5_size_1 : decode cX5_size 1 = .ok (.lconst 0, 1) := by decide +kernel
theorem dX5_size_2 : decode cX5_size 2 = .ok (.lcmp, 1) := by decide +kernel
theorem dX5_size_3 : decode cX5_size 3 = .ok (.ifCond .ge 8, 3) := by decide +kernel
theorem dX5_size_6 : decode cX5_size 6 = .ok (.lload_n 0, 1) := by decide +kernel
theorem dX5_size_7 : decode cX5_size 7 = .ok (.lneg, 1) := by decide +kernel
theorem dX5_size_8 : decode cX5_size 8 = .ok (.goto 4, 3) := by decide +kernel
theorem dX5_size_11 : decode cX5_size 11 = .ok (.lload_n 0, 1) := by decide +kernel
theorem dX5_size_12 : decode cX5_size 12 = .ok (.lreturn, 1) := by decide +kernel
set_option maxRecDepth 20000 in
theorem ggX5_hair_X5_cut : GoodIn wsX5_hair wsX5_cut := goodIn_r _ [7, 8, 9] (by decide +kernel) (by decide +kernel)
set_option maxRecDepth 20000 in
theorem gX5_hair_X5_cut : GoodIn wsX5_hair (va_wsS RX5 65 yX5_cut wsX5_cut) := goodIn_app (goodIn_of _ (by decide +kernel)) ggX5_hair_X5_cut
set_option maxRecDepth 20000 in
theorem ggX5_hair_X5_size : GoodIn wsX5_hair wsX5_size := goodIn_r _ [12] (by decide +kernel) (by decide +kernel)
set_option maxRecDepth 20000 in
theorem gX5_hair_X5_size : GoodIn wsX5_hair (va_wsS RX5 73 yX5_size wsX5_size) := goodIn_app (goodIn_of _ (by decide +kernel)) ggX5_hair_X5_size
set_option maxRecDepth 20000 in
theorem ggX5_hair_X5_add : GoodIn wsX5_hair wsX5_add := goodIn_ca (goodIn_r _ [16, 17, 1, 18, 19, 20, 21, 22, 23, 24, 25, 26, 27, 28, 29, 30, 31, 32, 33, 34, 35, 36, 37, 38, 39, 40] (by decide +kernel) (by decide +kernel)) (goodIn_sub (fun _ h => List.mem_cons_of_mem _ (List.mem_append_right _ h)) (by decide +kernel))
set_option maxRecDepth 20000 in
theorem gX5_hair_X5_add : GoodIn wsX5_hair (wsV RX5 69 RX5 yX5_add wsX5_add) := goodIn_app (goodIn_of _ (by decide +kernel)) ggX5_hair_X5_add
theorem dX5_hair_0 : decode cX5_hair 0 = .ok (.aload_n 0, 1) := by decide +kernel
theorem dX5_hair_1 : decode cX5_hair 1 = .ok (.aload_n 0, 1) := by decide +kernel
theorem dX5_hair_2 : decode cX5_hair 2 = .ok (.getfield 62, 3) := by decide +kernel
theorem dX5_hair_5 : decode cX5_hair 5 = .ok (.bipush 96, 2) := by decide +kernel
theorem dX5_hair_7 : decode cX5_hair 7 = .ok (.if_icmp .le 7, 3) := by decide +kernel
theorem dX5_hair_10 : decode cX5_hair 10 = .ok (.iconst 1, 1) := by decide +kernel
theorem dX5_hair_11 : decode cX5_hair 11 = .ok (.goto 4, 3) := by decide +kernel
theorem dX5_hair_14 : decode cX5_hair 14 = .ok (.iconst 0, 1) := by decide +kernel
theorem dX5_hair_15 : decode cX5_hair 15 = .ok (.putfield 55, 3) := by decide +kernel
theorem dX5_hair_18 : decode cX5_hair 18 = .ok (.aload_n 0, 1) := by decide +kernel
theorem dX5_hair_19 : decode cX5_hair 19 = .ok (.getfield 55, 3) := by decide +kernel
theorem dX5_hair_22 : decode cX5_hair 22 = .ok (.ifCond .le 5, 3) := by decide +kernel
theorem dX5_hair_25 : decode cX5_hair 25 = .ok (.iconst 0, 1) := by decide +kernel
theorem dX5_hair_26 : decode cX5_hair 26 = .ok (.ireturn, 1) := by decide +kernel
theorem dX5_hair_27 : decode cX5_hair 27 = .ok (.lload_n 1, 1) := by decide +kernel
theorem dX5_hair_28 : decode cX5_hair 28 = .ok (.invokestatic 65, 3) := by decide +kernel
theorem dX5_hair_31 : decode cX5_hair 31 = .ok (.lstore 9, 2) := by decide +kernel
theorem dX5_hair_33 : decode cX5_hair 33 = .ok (.lload_n 3, 1) := by decide +kernel
theorem dX5_hair_34 : decode cX5_hair 34 = .ok (.invokestatic 65, 3) := by decide +kernel
theorem dX5_hair_37 : decode cX5_hair 37 = .ok (.lstore 11, 2) := by decide +kernel
theorem dX5_hair_39 : decode cX5_hair 39 = .ok (.lload 5, 2) := by decide +kernel
theorem dX5_hair_41 : decode cX5_hair 41 = .ok (.invokestatic 65, 3) := by decide +kernel
theorem dX5_hair_44 : decode cX5_hair 44 = .ok (.lstore 13, 2) := by decide +kernel
theorem dX5_hair_46 : decode cX5_hair 46 = .ok (.lload 7, 2) := by decide +kernel
theorem dX5_hair_48 : decode cX5_hair 48 = .ok (.invokestatic 65, 3) := by decide +kernel
theorem dX5_hair_51 : decode cX5_hair 51 = .ok (.lstore 15, 2) := by decide +kernel
theorem dX5_hair_53 : decode cX5_hair 53 = .ok (.lload 9, 2) := by decide +kernel
theorem dX5_hair_55 : decode cX5_hair 55 = .ok (.lload 13, 2) := by decide +kernel
theorem dX5_hair_57 : decode cX5_hair 57 = .ok (.lcmp, 1) := by decide +kernel
theorem dX5_hair_58 : decode cX5_hair 58 = .ok (.ifCond .ne 15, 3) := by decide +kernel
theorem dX5_hair_61 : decode cX5_hair 61 = .ok (.lload 11, 2) := by decide +kernel
theorem dX5_hair_63 : decode cX5_hair 63 = .ok (.lload 15, 2) := by decide +kernel
theorem dX5_hair_65 : decode cX5_hair 65 = .ok (.lcmp, 1) := by decide +kernel
theorem dX5_hair_66 : decode cX5_hair 66 = .ok (.ifCond .ne 7, 3) := by decide +kernel
theorem dX5_hair_69 : decode cX5_hair 69 = .ok (.iconst 1, 1) := by decide +kernel
theorem dX5_hair_70 : decode cX5_hair 70 = .ok (.goto 4, 3) := by decide +kernel
theorem dX5_hair_73 : decode cX5_hair 73 = .ok (.iconst 0, 1) := by decide +kernel
theorem dX5_hair_74 : decode cX5_hair 74 = .ok (.istore 17, 2) := by decide +kernel
theorem dX5_hair_76 : decode cX5_hair 76 = .ok (.lload 13, 2) := by decide +kernel
theorem dX5_hair_78 : decode cX5_hair 78 = .ok (.lload 9, 2) := by decide +kernel
theorem dX5_hair_80 : decode cX5_hair 80 = .ok (.lsub, 1) := by decide +kernel
theorem dX5_hair_81 : decode cX5_hair 81 = .ok (.invokestatic 73, 3) := by decide +kernel
theorem dX5_hair_84 : decode cX5_hair 84 = .ok (.lload 15, 2) := by decide +kernel
theorem dX5_hair_86 : decode cX5_hair 86 = .ok (.lload 11, 2) := by decide +kernel
theorem dX5_hair_88 : decode cX5_hair 88 = .ok (.lsub, 1) := by decide +kernel
theorem dX5_hair_89 : decode cX5_hair 89 = .ok (.invokestatic 73, 3) := by decide +kernel
theorem dX5_hair_92 : decode cX5_hair 92 = .ok (.lcmp, 1) := by decide +kernel
theorem dX5_hair_93 : decode cX5_hair 93 = .ok (.ifCond .lt 7, 3) := by decide +kernel
theorem dX5_hair_96 : decode cX5_hair 96 = .ok (.iconst 1, 1) := by decide +kernel
theorem dX5_hair_97 : decode cX5_hair 97 = .ok (.goto 4, 3) := by decide +kernel
theorem dX5_hair_100 : decode cX5_hair 100 = .ok (.iconst 0, 1) := by decide +kernel
theorem dX5_hair_101 : decode cX5_hair 101 = .ok (.istore 18, 2) := by decide +kernel
theorem dX5_hair_103 : decode cX5_hair 103 = .ok (.iload 18, 2) := by decide +kernel
theorem dX5_hair_105 : decode cX5_hair 105 = .ok (.ifCond .eq 12, 3) := by decide +kernel
theorem dX5_hair_108 : decode cX5_hair 108 = .ok (.iload 17, 2) := by decide +kernel
theorem dX5_hair_110 : decode cX5_hair 110 = .ok (.ifCond .ne 7, 3) := by decide +kernel
theorem dX5_hair_113 : decode cX5_hair 113 = .ok (.lconst 0, 1) := by decide +kernel
theorem dX5_hair_114 : decode cX5_hair 114 = .ok (.goto 6, 3) := by decide +kernel
theorem dX5_hair_117 : decode cX5_hair 117 = .ok (.ldc2_w 76, 3) := by decide +kernel
theorem dX5_hair_120 : decode cX5_hair 120 = .ok (.lstore 19, 2) := by decide +kernel
theorem dX5_hair_122 : decode cX5_hair 122 = .ok (.iload 18, 2) := by decide +kernel
theorem dX5_hair_124 : decode cX5_hair 124 = .ok (.ifCond .eq 9, 3) := by decide +kernel
theorem dX5_hair_127 : decode cX5_hair 127 = .ok (.ldc2_w 76, 3) := by decide +kernel
theorem dX5_hair_130 : decode cX5_hair 130 = .ok (.goto 4, 3) := by decide +kernel
theorem dX5_hair_133 : decode cX5_hair 133 = .ok (.lconst 0, 1) := by decide +kernel
theorem dX5_hair_134 : decode cX5_hair 134 = .ok (.lstore 21, 2) := by decide +kernel
theorem dX5_hair_136 : decode cX5_hair 136 = .ok (.iload 17, 2) := by decide +kernel
theorem dX5_hair_138 : decode cX5_hair 138 = .ok (.ifCond .eq 74, 3) := by decide +kernel
theorem dX5_hair_141 : decode cX5_hair 141 = .ok (.aload_n 0, 1) := by decide +kernel
theorem dX5_hair_142 : decode cX5_hair 142 = .ok (.lload 9, 2) := by decide +kernel
theorem dX5_hair_144 : decode cX5_hair 144 = .ok (.ldc2_w 76, 3) := by decide +kernel
theorem dX5_hair_147 : decode cX5_hair 147 = .ok (.lsub, 1) := by decide +kernel
theorem dX5_hair_148 : decode cX5_hair 148 = .ok (.lload 11, 2) := by decide +kernel
theorem dX5_hair_150 : decode cX5_hair 150 = .ok (.ldc2_w 76, 3) := by decide +kernel
theorem dX5_hair_153 : decode cX5_hair 153 = .ok (.lsub, 1) := by decide +kernel
theorem dX5_hair_154 : decode cX5_hair 154 = .ok (.iconst 1, 1) := by decide +kernel
theorem dX5_hair_155 : decode cX5_hair 155 = .ok (.invokevirtual 69, 3) := by decide +kernel
theorem dX5_hair_158 : decode cX5_hair 158 = .ok (.aload_n 0, 1) := by decide +kernel
theorem dX5_hair_159 : decode cX5_hair 159 = .ok (.lload 9, 2) := by decide +kernel
theorem dX5_hair_161 : decode cX5_hair 161 = .ok (.ldc2_w 76, 3) := by decide +kernel
theorem dX5_hair_164 : decode cX5_hair 164 = .ok (.ladd, 1) := by decide +kernel
theorem dX5_hair_165 : decode cX5_hair 165 = .ok (.lload 11, 2) := by decide +kernel
theorem dX5_hair_167 : decode cX5_hair 167 = .ok (.ldc2_w 76, 3) := by decide +kernel
theorem dX5_hair_170 : decode cX5_hair 170 = .ok (.lsub, 1) := by decide +kernel
theorem dX5_hair_171 : decode cX5_hair 171 = .ok (.iconst 0, 1) := by decide +kernel
theorem dX5_hair_172 : decode cX5_hair 172 = .ok (.invokevirtual 69, 3) := by decide +kernel
theorem dX5_hair_175 : decode cX5_hair 175 = .ok (.aload_n 0, 1) := by decide +kernel
theorem dX5_hair_176 : decode cX5_hair 176 = .ok (.lload 9, 2) := by decide +kernel
theorem dX5_hair_178 : decode cX5_hair 178 = .ok (.ldc2_w 76, 3) := by decide +kernel
theorem dX5_hair_181 : decode cX5_hair 181 = .ok (.ladd, 1) := by decide +kernel
theorem dX5_hair_182 : decode cX5_hair 182 = .ok (.lload 11, 2) := by decide +kernel
theorem dX5_hair_184 : decode cX5_hair 184 = .ok (.ldc2_w 76, 3) := by decide +kernel
theorem dX5_hair_187 : decode cX5_hair 187 = .ok (.ladd, 1) := by decide +kernel
theorem dX5_hair_188 : decode cX5_hair 188 = .ok (.iconst 0, 1) := by decide +kernel
theorem dX5_hair_189 : decode cX5_hair 189 = .ok (.invokevirtual 69, 3) := by decide +kernel
theorem dX5_hair_192 : decode cX5_hair 192 = .ok (.aload_n 0, 1) := by decide +kernel
theorem dX5_hair_193 : decode cX5_hair 193 = .ok (.lload 9, 2) := by decide +kernel
theorem dX5_hair_195 : decode cX5_hair 195 = .ok (.ldc2_w 76, 3) := by decide +kernel
theorem dX5_hair_198 : decode cX5_hair 198 = .ok (.lsub, 1) := by decide +kernel
theorem dX5_hair_199 : decode cX5_hair 199 = .ok (.lload 11, 2) := by decide +kernel
theorem dX5_hair_201 : decode cX5_hair 201 = .ok (.ldc2_w 76, 3) := by decide +kernel
theorem dX5_hair_204 : decode cX5_hair 204 = .ok (.ladd, 1) := by decide +kernel
theorem dX5_hair_205 : decode cX5_hair 205 = .ok (.iconst 0, 1) := by decide +kernel
theorem dX5_hair_206 : decode cX5_hair 206 = .ok (.invokevirtual 69, 3) := by decide +kernel
theorem dX5_hair_209 : decode cX5_hair 209 = .ok (.goto 63, 3) := by decide +kernel
theorem dX5_hair_212 : decode cX5_hair 212 = .ok (.aload_n 0, 1) := by decide +kernel
theorem dX5_hair_213 : decode cX5_hair 213 = .ok (.lload 9, 2) := by decide +kernel
theorem dX5_hair_215 : decode cX5_hair 215 = .ok (.lload 19, 2) := by decide +kernel
theorem dX5_hair_217 : decode cX5_hair 217 = .ok (.lsub, 1) := by decide +kernel
theorem dX5_hair_218 : decode cX5_hair 218 = .ok (.lload 11, 2) := by decide +kernel
theorem dX5_hair_220 : decode cX5_hair 220 = .ok (.lload 21, 2) := by decide +kernel
theorem dX5_hair_222 : decode cX5_hair 222 = .ok (.lsub, 1) := by decide +kernel
theorem dX5_hair_223 : decode cX5_hair 223 = .ok (.iconst 1, 1) := by decide +kernel
theorem dX5_hair_224 : decode cX5_hair 224 = .ok (.invokevirtual 69, 3) := by decide +kernel
theorem dX5_hair_227 : decode cX5_hair 227 = .ok (.aload_n 0, 1) := by decide +kernel
theorem dX5_hair_228 : decode cX5_hair 228 = .ok (.lload 13, 2) := by decide +kernel
theorem dX5_hair_230 : decode cX5_hair 230 = .ok (.lload 19, 2) := by decide +kernel
theorem dX5_hair_232 : decode cX5_hair 232 = .ok (.lsub, 1) := by decide +kernel
theorem dX5_hair_233 : decode cX5_hair 233 = .ok (.lload 15, 2) := by decide +kernel
theorem dX5_hair_235 : decode cX5_hair 235 = .ok (.lload 21, 2) := by decide +kernel
theorem dX5_hair_237 : decode cX5_hair 237 = .ok (.lsub, 1) := by decide +kernel
theorem dX5_hair_238 : decode cX5_hair 238 = .ok (.iconst 0, 1) := by decide +kernel
theorem dX5_hair_239 : decode cX5_hair 239 = .ok (.invokevirtual 69, 3) := by decide +kernel
theorem dX5_hair_242 : decode cX5_hair 242 = .ok (.aload_n 0, 1) := by decide +kernel
theorem dX5_hair_243 : decode cX5_hair 243 = .ok (.lload 13, 2) := by decide +kernel
theorem dX5_hair_245 : decode cX5_hair 245 = .ok (.lload 19, 2) := by decide +kernel
theorem dX5_hair_247 : decode cX5_hair 247 = .ok (.ladd, 1) := by decide +kernel
theorem dX5_hair_248 : decode cX5_hair 248 = .ok (.lload 15, 2) := by decide +kernel
theorem dX5_hair_250 : decode cX5_hair 250 = .ok (.lload 21, 2) := by decide +kernel
theorem dX5_hair_252 : decode cX5_hair 252 = .ok (.ladd, 1) := by decide +kernel
theorem dX5_hair_253 : decode cX5_hair 253 = .ok (.iconst 0, 1) := by decide +kernel
theorem dX5_hair_254 : decode cX5_hair 254 = .ok (.invokevirtual 69, 3) := by decide +kernel
theorem dX5_hair_257 : decode cX5_hair 257 = .ok (.aload_n 0, 1) := by decide +kernel
theorem dX5_hair_258 : decode cX5_hair 258 = .ok (.lload 9, 2) := by decide +kernel
theorem dX5_hair_260 : decode cX5_hair 260 = .ok (.lload 19, 2) := by decide +kernel
theorem dX5_hair_262 : decode cX5_hair 262 = .ok (.ladd, 1) := by decide +kernel
theorem dX5_hair_263 : decode cX5_hair 263 = .ok (.lload 11, 2) := by decide +kernel
theorem dX5_hair_265 : decode cX5_hair 265 = .ok (.lload 21, 2) := by decide +kernel
theorem dX5_hair_267 : decode cX5_hair 267 = .ok (.ladd, 1) := by decide +kernel
theorem dX5_hair_268 : decode cX5_hair 268 = .ok (.iconst 0, 1) := by decide +kernel
theorem dX5_hair_269 : decode cX5_hair 269 = .ok (.invokevirtual 69, 3) := by decide +kernel
theorem dX5_hair_272 : decode cX5_hair 272 = .ok (.aload_n 0, 1) := by decide +kernel
theorem dX5_hair_273 : decode cX5_hair 273 = .ok (.getfield 62, 3) := by decide +kernel
theorem dX5_hair_276 : decode cX5_hair 276 = .ok (.ireturn, 1) := by decide +kernel
theorem dX5_down_0 : decode cX5_down 0 = .ok (.lload_n 0, 1) := by decide +kernel
theorem dX5_down_1 : decode cX5_down 1 = .ok (.lload_n 2, 1) := by decide +kernel
theorem dX5_down_2 : decode cX5_down 2 = .ok (.ldiv, 1) := by decide +kernel
theorem dX5_down_3 : decode cX5_down 3 = .ok (.lstore 4, 2) := by decide +kernel
theorem dX5_down_5 : decode cX5_down 5 = .ok (.lload_n 0, 1) := by decide +kernel
theorem dX5_down_6 : decode cX5_down 6 = .ok (.lload_n 2, 1) := by decide +kernel
theorem dX5_down_7 : decode cX5_down 7 = .ok (.lrem, 1) := by decide +kernel
theorem dX5_down_8 : decode cX5_down 8 = .ok (.lconst 0, 1) := by decide +kernel
theorem dX5_down_9 : decode cX5_down 9 = .ok (.lcmp, 1) := by decide +kernel
theorem dX5_down_10 : decode cX5_down 10 = .ok (.ifCond .ge 10, 3) := by decide +kernel
theorem dX5_down_13 : decode cX5_down 13 = .ok (.lload 4, 2) := by decide +kernel
theorem dX5_down_15 : decode cX5_down 15 = .ok (.lconst 1, 1) := by decide +kernel
theorem dX5_down_16 : decode cX5_down 16 = .ok (.lsub, 1) := by decide +kernel
theorem dX5_down_17 : decode cX5_down 17 = .ok (.goto 5, 3) := by decide +kernel
theorem dX5_down_20 : decode cX5_down 20 = .ok (.lload 4, 2) := by decide +kernel
theorem dX5_down_22 : decode cX5_down 22 = .ok (.lreturn, 1) := by decide +kernel
set_option maxRecDepth 20000 in
theorem ggX5_cross_X5_down : GoodIn wsX5_cross wsX5_down := goodIn_r _ [9] (by decide +kernel) (by decide +kernel)
set_option maxRecDepth 20000 in
theorem gX5_cross_X5_down : GoodIn wsX5_cross (va_wsS RX5 81 yX5_down wsX5_down) := goodIn_app (goodIn_of _ (by decide +kernel)) ggX5_cross_X5_down
theorem dX5_cross_0 : decode cX5_cross 0 = .ok (.aload_n 0, 1) := by decide +kernel
theorem dX5_cross_1 : decode cX5_cross 1 = .ok (.getfield 24, 3) := by decide +kernel
theorem dX5_cross_4 : decode cX5_cross 4 = .ok (.iload_n 1, 1) := by decide +kernel
theorem dX5_cross_5 : decode cX5_cross 5 = .ok (.laload, 1) := by decide +kernel
theorem dX5_cross_6 : decode cX5_cross 6 = .ok (.aload_n 0, 1) := by decide +kernel
theorem dX5_cross_7 : decode cX5_cross 7 = .ok (.getfield 24, 3) := by decide +kernel
theorem dX5_cross_10 : decode cX5_cross 10 = .ok (.iload_n 2, 1) := by decide +kernel
theorem dX5_cross_11 : decode cX5_cross 11 = .ok (.laload, 1) := by decide +kernel
theorem dX5_cross_12 : decode cX5_cross 12 = .ok (.lcmp, 1) := by decide +kernel
theorem dX5_cross_13 : decode cX5_cross 13 = .ok (.ifCond .gt 7, 3) := by decide +kernel
theorem dX5_cross_16 : decode cX5_cross 16 = .ok (.iconst 1, 1) := by decide +kernel
theorem dX5_cross_17 : decode cX5_cross 17 = .ok (.goto 4, 3) := by decide +kernel
theorem dX5_cross_20 : decode cX5_cross 20 = .ok (.iconst 0, 1) := by decide +kernel
theorem dX5_cross_21 : decode cX5_cross 21 = .ok (.istore 5, 2) := by decide +kernel
theorem dX5_cross_23 : decode cX5_cross 23 = .ok (.iload 5, 2) := by decide +kernel
theorem dX5_cross_25 : decode cX5_cross 25 = .ok (.ifCond .eq 7, 3) := by decide +kernel
theorem dX5_cross_28 : decode cX5_cross 28 = .ok (.iload_n 1, 1) := by decide +kernel
theorem dX5_cross_29 : decode cX5_cross 29 = .ok (.goto 4, 3) := by decide +kernel
theorem dX5_cross_32 : decode cX5_cross 32 = .ok (.iload_n 2, 1) := by decide +kernel
theorem dX5_cross_33 : decode cX5_cross 33 = .ok (.istore 6, 2) := by decide +kernel
theorem dX5_cross_35 : decode cX5_cross 35 = .ok (.iload 5, 2) := by decide +kernel
theorem dX5_cross_37 : decode cX5_cross 37 = .ok (.ifCond .eq 7, 3) := by decide +kernel
theorem dX5_cross_40 : decode cX5_cross 40 = .ok (.iload_n 2, 1) := by decide +kernel
theorem dX5_cross_41 : decode cX5_cross 41 = .ok (.goto 4, 3) := by decide +kernel
theorem dX5_cross_44 : decode cX5_cross 44 = .ok (.iload_n 1, 1) := by decide +kernel
theorem dX5_cross_45 : decode cX5_cross 45 = .ok (.istore 7, 2) := by decide +kernel
theorem dX5_cross_47 : decode cX5_cross 47 = .ok (.aload_n 0, 1) := by decide +kernel
theorem dX5_cross_48 : decode cX5_cross 48 = .ok (.getfield 24, 3) := by decide +kernel
theorem dX5_cross_51 : decode cX5_cross 51 = .ok (.iload 6, 2) := by decide +kernel
theorem dX5_cross_53 : decode cX5_cross 53 = .ok (.laload, 1) := by decide +kernel
theorem dX5_cross_54 : decode cX5_cross 54 = .ok (.lload_n 3, 1) := by decide +kernel
theorem dX5_cross_55 : decode cX5_cross 55 = .ok (.lcmp, 1) := by decide +kernel
theorem dX5_cross_56 : decode cX5_cross 56 = .ok (.ifCond .gt 15, 3) := by decide +kernel
theorem dX5_cross_59 : decode cX5_cross 59 = .ok (.aload_n 0, 1) := by decide +kernel
theorem dX5_cross_60 : decode cX5_cross 60 = .ok (.getfield 24, 3) := by decide +kernel
theorem dX5_cross_63 : decode cX5_cross 63 = .ok (.iload 7, 2) := by decide +kernel
theorem dX5_cross_65 : decode cX5_cross 65 = .ok (.laload, 1) := by decide +kernel
theorem dX5_cross_66 : decode cX5_cross 66 = .ok (.lload_n 3, 1) := by decide +kernel
theorem dX5_cross_67 : decode cX5_cross 67 = .ok (.lcmp, 1) := by decide +kernel
theorem dX5_cross_68 : decode cX5_cross 68 = .ok (.ifCond .gt 4, 3) := by decide +kernel
theorem dX5_cross_71 : decode cX5_cross 71 = .ok (.return_, 1) := by decide +kernel
theorem dX5_cross_72 : decode cX5_cross 72 = .ok (.aload_n 0, 1) := by decide +kernel
theorem dX5_cross_73 : decode cX5_cross 73 = .ok (.getfield 30, 3) := by decide +kernel
theorem dX5_cross_76 : decode cX5_cross 76 = .ok (.aload_n 0, 1) := by decide +kernel
theorem dX5_cross_77 : decode cX5_cross 77 = .ok (.getfield 78, 3) := by decide +kernel
theorem dX5_cross_80 : decode cX5_cross 80 = .ok (.aload_n 0, 1) := by decide +kernel
theorem dX5_cross_81 : decode cX5_cross 81 = .ok (.getfield 20, 3) := by decide +kernel
theorem dX5_cross_84 : decode cX5_cross 84 = .ok (.iload 6, 2) := by decide +kernel
theorem dX5_cross_86 : decode cX5_cross 86 = .ok (.laload, 1) := by decide +kernel
theorem dX5_cross_87 : decode cX5_cross 87 = .ok (.lload_n 3, 1) := by decide +kernel
theorem dX5_cross_88 : decode cX5_cross 88 = .ok (.aload_n 0, 1) := by decide +kernel
theorem dX5_cross_89 : decode cX5_cross 89 = .ok (.getfield 24, 3) := by decide +kernel
theorem dX5_cross_92 : decode cX5_cross 92 = .ok (.iload 6, 2) := by decide +kernel
theorem dX5_cross_94 : decode cX5_cross 94 = .ok (.laload, 1) := by decide +kernel
theorem dX5_cross_95 : decode cX5_cross 95 = .ok (.lsub, 1) := by decide +kernel
theorem dX5_cross_96 : decode cX5_cross 96 = .ok (.aload_n 0, 1) := by decide +kernel
theorem dX5_cross_97 : decode cX5_cross 97 = .ok (.getfield 20, 3) := by decide +kernel
theorem dX5_cross_100 : decode cX5_cross 100 = .ok (.iload 7, 2) := by decide +kernel
theorem dX5_cross_102 : decode cX5_cross 102 = .ok (.laload, 1) := by decide +kernel
theorem dX5_cross_103 : decode cX5_cross 103 = .ok (.aload_n 0, 1) := by decide +kernel
theorem dX5_cross_104 : decode cX5_cross 104 = .ok (.getfield 20, 3) := by decide +kernel
theorem dX5_cross_107 : decode cX5_cross 107 = .ok (.iload 6, 2) := by decide +kernel
theorem dX5_cross_109 : decode cX5_cross 109 = .ok (.laload, 1) := by decide +kernel
theorem dX5_cross_110 : decode cX5_cross 110 = .ok (.lsub, 1) := by decide +kernel
theorem dX5_cross_111 : decode cX5_cross 111 = .ok (.lmul, 1) := by decide +kernel
theorem dX5_cross_112 : decode cX5_cross 112 = .ok (.aload_n 0, 1) := by decide +kernel
theorem dX5_cross_113 : decode cX5_cross 113 = .ok (.getfield 24, 3) := by decide +kernel
theorem dX5_cross_116 : decode cX5_cross 116 = .ok (.iload 7, 2) := by decide +kernel
theorem dX5_cross_118 : decode cX5_cross 118 = .ok (.laload, 1) := by decide +kernel
theorem dX5_cross_119 : decode cX5_cross 119 = .ok (.aload_n 0, 1) := by decide +kernel
theorem dX5_cross_120 : decode cX5_cross 120 = .ok (.getfield 24, 3) := by decide +kernel
theorem dX5_cross_123 : decode cX5_cross 123 = .ok (.iload 6, 2) := by decide +kernel
theorem dX5_cross_125 : decode cX5_cross 125 = .ok (.laload, 1) := by decide +kernel
theorem dX5_cross_126 : decode cX5_cross 126 = .ok (.lsub, 1) := by decide +kernel
theorem dX5_cross_127 : decode cX5_cross 127 = .ok (.invokestatic 81, 3) := by decide +kernel
theorem dX5_cross_130 : decode cX5_cross 130 = .ok (.ladd, 1) := by decide +kernel
theorem dX5_cross_131 : decode cX5_cross 131 = .ok (.lastore, 1) := by decide +kernel
theorem dX5_cross_132 : decode cX5_cross 132 = .ok (.aload_n 0, 1) := by decide +kernel
theorem dX5_cross_133 : decode cX5_cross 133 = .ok (.getfield 33, 3) := by decide +kernel
theorem dX5_cross_136 : decode cX5_cross 136 = .ok (.aload_n 0, 1) := by decide +kernel
theorem dX5_cross_137 : decode cX5_cross 137 = .ok (.getfield 78, 3) := by decide +kernel
theorem dX5_cross_140 : decode cX5_cross 140 = .ok (.iload 5, 2) := by decide +kernel
theorem dX5_cross_142 : decode cX5_cross 142 = .ok (.ifCond .eq 7, 3) := by decide +kernel
theorem dX5_cross_145 : decode cX5_cross 145 = .ok (.iconst 1, 1) := by decide +kernel
theorem dX5_cross_146 : decode cX5_cross 146 = .ok (.goto 4, 3) := by decide +kernel
theorem dX5_cross_149 : decode cX5_cross 149 = .ok (.iconst (-1), 1) := by decide +kernel
theorem dX5_cross_150 : decode cX5_cross 150 = .ok (.iastore, 1) := by decide +kernel
theorem dX5_cross_151 : decode cX5_cross 151 = .ok (.aload_n 0, 1) := by decide +kernel
theorem dX5_cross_152 : decode cX5_cross 152 = .ok (.dup, 1) := by decide +kernel
theorem dX5_cross_153 : decode cX5_cross 153 = .ok (.getfield 78, 3) := by decide +kernel
theorem dX5_cross_156 : decode cX5_cross 156 = .ok (.iconst 1, 1) := by decide +kernel
theorem dX5_cross_157 : decode cX5_cross 157 = .ok (.iadd, 1) := by decide +kernel
theorem dX5_cross_158 : decode cX5_cross 158 = .ok (.putfield 78, 3) := by decide +kernel
theorem dX5_cross_161 : decode cX5_cross 161 = .ok (.return_, 1) := by decide +kernel
set_option maxRecDepth 20000 in
theorem ggX5_crossAll_X5_cross : GoodIn wsX5_crossAll wsX5_cross := goodIn_ca (goodIn_r _ [8, 9, 10, 1, 11, 12, 13, 14, 7, 15, 16, 17, 18, 19, 20, 21, 22, 23, 24, 25, 26, 27, 28, 29, 30, 31, 32, 33, 34, 35, 36] (by decide +kernel) (by decide +kernel)) (goodIn_sub (fun _ h => List.mem_cons_of_mem _ (List.mem_append_right _ h)) (by decide +kernel))
set_option maxRecDepth 20000 in
theorem gX5_crossAll_X5_cross : GoodIn wsX5_crossAll (wsV RX5 85 RX5 yX5_cross wsX5_cross) := goodIn_app (goodIn_of _ (by decide +kernel)) ggX5_crossAll_X5_cross
theorem dX5_crossAll_0 : decode cX5_crossAll 0 = .ok (.aload_n 0, 1) := by decide +kernel
theorem dX5_crossAll_1 : decode cX5_crossAll 1 = .ok (.iconst 0, 1) := by decide +kernel
theorem dX5_crossAll_2 : decode cX5_crossAll 2 = .ok (.putfield 78, 3) := by decide +kernel
theorem dX5_crossAll_5 : decode cX5_crossAll 5 = .ok (.iconst 0, 1) := by decide +kernel
theorem dX5_crossAll_6 : decode cX5_crossAll 6 = .ok (.istore_n 3, 1) := by decide +kernel
theorem dX5_crossAll_7 : decode cX5_crossAll 7 = .ok (.iconst 0, 1) := by decide +kernel
theorem dX5_crossAll_8 : decode cX5_crossAll 8 = .ok (.istore 4, 2) := by decide +kernel
theorem dX5_crossAll_10 : decode cX5_crossAll 10 = .ok (.iload 4, 2) := by decide +kernel
theorem dX5_crossAll_12 : decode cX5_crossAll 12 = .ok (.aload_n 0, 1) := by decide +kernel
theorem dX5_crossAll_13 : decode cX5_crossAll 13 = .ok (.getfield 62, 3) := by decide +kernel
theorem dX5_crossAll_16 : decode cX5_crossAll 16 = .ok (.if_icmp .ge 76, 3) := by decide +kernel
theorem dX5_crossAll_19 : decode cX5_crossAll 19 = .ok (.aload_n 0, 1) := by decide +kernel
theorem dX5_crossAll_20 : decode cX5_crossAll 20 = .ok (.getfield 27, 3) := by decide +kernel
theorem dX5_crossAll_23 : decode cX5_crossAll 23 = .ok (.iload 4, 2) := by decide +kernel
theorem dX5_crossAll_25 : decode cX5_crossAll 25 = .ok (.baload, 1) := by decide +kernel
theorem dX5_crossAll_26 : decode cX5_crossAll 26 = .ok (.ifCond .eq 8, 3) := by decide +kernel
theorem dX5_crossAll_29 : decode cX5_crossAll 29 = .ok (.iload 4, 2) := by decide +kernel
theorem dX5_crossAll_31 : decode cX5_crossAll 31 = .ok (.goto 4, 3) := by decide +kernel
theorem dX5_crossAll_34 : decode cX5_crossAll 34 = .ok (.iload_n 3, 1) := by decide +kernel
theorem dX5_crossAll_35 : decode cX5_crossAll 35 = .ok (.istore_n 3, 1) := by decide +kernel
theorem dX5_crossAll_36 : decode cX5_crossAll 36 = .ok (.iload 4, 2) := by decide +kernel
theorem dX5_crossAll_38 : decode cX5_crossAll 38 = .ok (.iconst 1, 1) := by decide +kernel
theorem dX5_crossAll_39 : decode cX5_crossAll 39 = .ok (.iadd, 1) := by decide +kernel
theorem dX5_crossAll_40 : decode cX5_crossAll 40 = .ok (.aload_n 0, 1) := by decide +kernel
theorem dX5_crossAll_41 : decode cX5_crossAll 41 = .ok (.getfield 62, 3) := by decide +kernel
theorem dX5_crossAll_44 : decode cX5_crossAll 44 = .ok (.if_icmp .eq 15, 3) := by decide +kernel
theorem dX5_crossAll_47 : decode cX5_crossAll 47 = .ok (.aload_n 0, 1) := by decide +kernel
theorem dX5_crossAll_48 : decode cX5_crossAll 48 = .ok (.getfield 27, 3) := by decide +kernel
theorem dX5_crossAll_51 : decode cX5_crossAll 51 = .ok (.iload 4, 2) := by decide +kernel
theorem dX5_crossAll_53 : decode cX5_crossAll 53 = .ok (.iconst 1, 1) := by decide +kernel
theorem dX5_crossAll_54 : decode cX5_crossAll 54 = .ok (.iadd, 1) := by decide +kernel
theorem dX5_crossAll_55 : decode cX5_crossAll 55 = .ok (.baload, 1) := by decide +kernel
theorem dX5_crossAll_56 : decode cX5_crossAll 56 = .ok (.ifCond .eq 7, 3) := by decide +kernel
theorem dX5_crossAll_59 : decode cX5_crossAll 59 = .ok (.iconst 1, 1) := by decide +kernel
theorem dX5_crossAll_60 : decode cX5_crossAll 60 = .ok (.goto 4, 3) := by decide +kernel
theorem dX5_crossAll_63 : decode cX5_crossAll 63 = .ok (.iconst 0, 1) := by decide +kernel
theorem dX5_crossAll_64 : decode cX5_crossAll 64 = .ok (.istore 5, 2) := by decide +kernel
theorem dX5_crossAll_66 : decode cX5_crossAll 66 = .ok (.aload_n 0, 1) := by decide +kernel
theorem dX5_crossAll_67 : decode cX5_crossAll 67 = .ok (.iload 4, 2) := by decide +kernel
theorem dX5_crossAll_69 : decode cX5_crossAll 69 = .ok (.iload 5, 2) := by decide +kernel
theorem dX5_crossAll_71 : decode cX5_crossAll 71 = .ok (.ifCond .eq 7, 3) := by decide +kernel
theorem dX5_crossAll_74 : decode cX5_crossAll 74 = .ok (.iload_n 3, 1) := by decide +kernel
theorem dX5_crossAll_75 : decode cX5_crossAll 75 = .ok (.goto 7, 3) := by decide +kernel
theorem dX5_crossAll_78 : decode cX5_crossAll 78 = .ok (.iload 4, 2) := by decide +kernel
theorem dX5_crossAll_80 : decode cX5_crossAll 80 = .ok (.iconst 1, 1) := by decide +kernel
theorem dX5_crossAll_81 : decode cX5_crossAll 81 = .ok (.iadd, 1) := by decide +kernel
theorem dX5_crossAll_82 : decode cX5_crossAll 82 = .ok (.lload_n 1, 1) := by decide +kernel
theorem dX5_crossAll_83 : decode cX5_crossAll 83 = .ok (.invokevirtual 85, 3) := by decide +kernel
theorem dX5_crossAll_86 : decode cX5_crossAll 86 = .ok (.iinc 4 1, 3) := by decide +kernel
theorem dX5_crossAll_89 : decode cX5_crossAll 89 = .ok (.goto (-79), 3) := by decide +kernel
theorem dX5_crossAll_92 : decode cX5_crossAll 92 = .ok (.return_, 1) := by decide +kernel
theorem dX5_isInside_0 : decode cX5_isInside 0 = .ok (.iconst 0, 1) := by decide +kernel
theorem dX5_isInside_1 : decode cX5_isInside 1 = .ok (.istore 4, 2) := by decide +kernel
theorem dX5_isInside_3 : decode cX5_isInside 3 = .ok (.iconst 0, 1) := by decide +kernel
theorem dX5_isInside_4 : decode cX5_isInside 4 = .ok (.istore 5, 2) := by decide +kernel
theorem dX5_isInside_6 : decode cX5_isInside 6 = .ok (.iconst 0, 1) := by decide +kernel
theorem dX5_isInside_7 : decode cX5_isInside 7 = .ok (.istore 6, 2) := by decide +kernel
theorem dX5_isInside_9 : decode cX5_isInside 9 = .ok (.iload 6, 2) := by decide +kernel
theorem dX5_isInside_11 : decode cX5_isInside 11 = .ok (.aload_n 0, 1) := by decide +kernel
theorem dX5_isInside_12 : decode cX5_isInside 12 = .ok (.getfield 78, 3) := by decide +kernel
theorem dX5_isInside_15 : decode cX5_isInside 15 = .ok (.if_icmp .ge 36, 3) := by decide +kernel
theorem dX5_isInside_18 : decode cX5_isInside 18 = .ok (.aload_n 0, 1) := by decide +kernel
theorem dX5_isInside_19 : decode cX5_isInside 19 = .ok (.getfield 30, 3) := by decide +kernel
theorem dX5_isInside_22 : decode cX5_isInside 22 = .ok (.iload 6, 2) := by decide +kernel
theorem dX5_isInside_24 : decode cX5_isInside 24 = .ok (.laload, 1) := by decide +kernel
theorem dX5_isInside_25 : decode cX5_isInside 25 = .ok (.lload_n 2, 1) := by decide +kernel
theorem dX5_isInside_26 : decode cX5_isInside 26 = .ok (.lcmp, 1) := by decide +kernel
theorem dX5_isInside_27 : decode cX5_isInside 27 = .ok (.ifCond .gt 18, 3) := by decide +kernel
theorem dX5_isInside_30 : decode cX5_isInside 30 = .ok (.iload 4, 2) := by decide +kernel
theorem dX5_isInside_32 : decode cX5_isInside 32 = .ok (.aload_n 0, 1) := by decide +kernel
theorem dX5_isInside_33 : decode cX5_isInside 33 = .ok (.getfield 33, 3) := by decide +kernel
theorem dX5_isInside_36 : decode cX5_isInside 36 = .ok (.iload 6, 2) := by decide +kernel
theorem dX5_isInside_38 : decode cX5_isInside 38 = .ok (.iaload, 1) := by decide +kernel
theorem dX5_isInside_39 : decode cX5_isInside 39 = .ok (.iadd, 1) := by decide +kernel
theorem dX5_isInside_40 : decode cX5_isInside 40 = .ok (.istore 4, 2) := by decide +kernel
theorem dX5_isInside_42 : decode cX5_isInside 42 = .ok (.iinc 5 1, 3) := by decide +kernel
theorem dX5_isInside_45 : decode cX5_isInside 45 = .ok (.iinc 6 1, 3) := by decide +kernel
theorem dX5_isInside_48 : decode cX5_isInside 48 = .ok (.goto (-39), 3) := by decide +kernel
theorem dX5_isInside_51 : decode cX5_isInside 51 = .ok (.iload_n 1, 1) := by decide +kernel
theorem dX5_isInside_52 : decode cX5_isInside 52 = .ok (.ifCond .ne 16, 3) := by decide +kernel
theorem dX5_isInside_55 : decode cX5_isInside 55 = .ok (.iload 4, 2) := by decide +kernel
theorem dX5_isInside_57 : decode cX5_isInside 57 = .ok (.ifCond .eq 7, 3) := by decide +kernel
theorem dX5_isInside_60 : decode cX5_isInside 60 = .ok (.iconst 1, 1) := by decide +kernel
theorem dX5_isInside_61 : decode cX5_isInside 61 = .ok (.goto 20, 3) := by decide +kernel
theorem dX5_isInside_64 : decode cX5_isInside 64 = .ok (.iconst 0, 1) := by decide +kernel
theorem dX5_isInside_65 : decode cX5_isInside 65 = .ok (.goto 16, 3) := by decide +kernel
theorem dX5_isInside_68 : decode cX5_isInside 68 = .ok (.iload 5, 2) := by decide +kernel
theorem dX5_isInside_70 : decode cX5_isInside 70 = .ok (.iconst 2, 1) := by decide +kernel
theorem dX5_isInside_71 : decode cX5_isInside 71 = .ok (.irem, 1) := by decide +kernel
theorem dX5_isInside_72 : decode cX5_isInside 72 = .ok (.iconst 1, 1) := by decide +kernel
theorem dX5_isInside_73 : decode cX5_isInside 73 = .ok (.if_icmp .ne 7, 3) := by decide +kernel
theorem dX5_isInside_76 : decode cX5_isInside 76 = .ok (.iconst 1, 1) := by decide +kernel
theorem dX5_isInside_77 : decode cX5_isInside 77 = .ok (.goto 4, 3) := by decide +kernel
theorem dX5_isInside_80 : decode cX5_isInside 80 = .ok (.iconst 0, 1) := by decide +kernel
theorem dX5_isInside_81 : decode cX5_isInside 81 = .ok (.ireturn, 1) := by decide +kernel
theorem dX5_addUnits_0 : decode cX5_addUnits 0 = .ok (.iconst 0, 1) := by decide +kernel
theorem dX5_addUnits_1 : decode cX5_addUnits 1 = .ok (.istore 5, 2) := by decide +kernel
theorem dX5_addUnits_3 : decode cX5_addUnits 3 = .ok (.iload 5, 2) := by decide +kernel
theorem dX5_addUnits_5 : decode cX5_addUnits 5 = .ok (.aload_n 0, 1) := by decide +kernel
theorem dX5_addUnits_6 : decode cX5_addUnits 6 = .ok (.getfield 42, 3) := by decide +kernel
theorem dX5_addUnits_9 : decode cX5_addUnits 9 = .ok (.if_icmp .ge 106, 3) := by decide +kernel
theorem dX5_addUnits_12 : decode cX5_addUnits 12 = .ok (.lload_n 1, 1) := by decide +kernel
theorem dX5_addUnits_13 : decode cX5_addUnits 13 = .ok (.ldc2_w 89, 3) := by decide +kernel
theorem dX5_addUnits_16 : decode cX5_addUnits 16 = .ok (.iload 5, 2) := by decide +kernel
theorem dX5_addUnits_18 : decode cX5_addUnits 18 = .ok (.i2l, 1) := by decide +kernel
theorem dX5_addUnits_19 : decode cX5_addUnits 19 = .ok (.lmul, 1) := by decide +kernel
theorem dX5_addUnits_20 : decode cX5_addUnits 20 = .ok (.lcmp, 1) := by decide +kernel
theorem dX5_addUnits_21 : decode cX5_addUnits 21 = .ok (.ifCond .le 7, 3) := by decide +kernel
theorem dX5_addUnits_24 : decode cX5_addUnits 24 = .ok (.lload_n 1, 1) := by decide +kernel
theorem dX5_addUnits_25 : decode cX5_addUnits 25 = .ok (.goto 10, 3) := by decide +kernel
theorem dX5_addUnits_28 : decode cX5_addUnits 28 = .ok (.ldc2_w 89, 3) := by decide +kernel
theorem dX5_addUnits_31 : decode cX5_addUnits 31 = .ok (.iload 5, 2) := by decide +kernel
theorem dX5_addUnits_33 : decode cX5_addUnits 33 = .ok (.i2l, 1) := by decide +kernel
theorem dX5_addUnits_34 : decode cX5_addUnits 34 = .ok (.lmul, 1) := by decide +kernel
theorem dX5_addUnits_35 : decode cX5_addUnits 35 = .ok (.lstore 6, 2) := by decide +kernel
theorem dX5_addUnits_37 : decode cX5_addUnits 37 = .ok (.lload_n 3, 1) := by decide +kernel
theorem dX5_addUnits_38 : decode cX5_addUnits 38 = .ok (.ldc2_w 89, 3) := by decide +kernel
theorem dX5_addUnits_41 : decode cX5_addUnits 41 = .ok (.iload 5, 2) := by decide +kernel
theorem dX5_addUnits_43 : decode cX5_addUnits 43 = .ok (.i2l, 1) := by decide +kernel
theorem dX5_addUnits_44 : decode cX5_addUnits 44 = .ok (.lmul, 1) := by decide +kernel
theorem dX5_addUnits_45 : decode cX5_addUnits 45 = .ok (.ldc2_w 89, 3) := by decide +kernel
theorem dX5_addUnits_48 : decode cX5_addUnits 48 = .ok (.ladd, 1) := by decide +kernel
theorem dX5_addUnits_49 : decode cX5_addUnits 49 = .ok (.lcmp, 1) := by decide +kernel
theorem dX5_addUnits_50 : decode cX5_addUnits 50 = .ok (.ifCond .ge 7, 3) := by decide +kernel
theorem dX5_addUnits_53 : decode cX5_addUnits 53 = .ok (.lload_n 3, 1) := by decide +kernel
theorem dX5_addUnits_54 : decode cX5_addUnits 54 = .ok (.goto 14, 3) := by decide +kernel
theorem dX5_addUnits_57 : decode cX5_addUnits 57 = .ok (.ldc2_w 89, 3) := by decide +kernel
theorem dX5_addUnits_60 : decode cX5_addUnits 60 = .ok (.iload 5, 2) := by decide +kernel
theorem dX5_addUnits_62 : decode cX5_addUnits 62 = .ok (.i2l, 1) := by decide +kernel
theorem dX5_addUnits_63 : decode cX5_addUnits 63 = .ok (.lmul, 1) := by decide +kernel
theorem dX5_addUnits_64 : decode cX5_addUnits 64 = .ok (.ldc2_w 89, 3) := by decide +kernel
theorem dX5_addUnits_67 : decode cX5_addUnits 67 = .ok (.ladd, 1) := by decide +kernel
theorem dX5_addUnits_68 : decode cX5_addUnits 68 = .ok (.lstore 8, 2) := by decide +kernel
theorem dX5_addUnits_70 : decode cX5_addUnits 70 = .ok (.aload_n 0, 1) := by decide +kernel
theorem dX5_addUnits_71 : decode cX5_addUnits 71 = .ok (.getfield 36, 3) := by decide +kernel
theorem dX5_addUnits_74 : decode cX5_addUnits 74 = .ok (.iload 5, 2) := by decide +kernel
theorem dX5_addUnits_76 : decode cX5_addUnits 76 = .ok (.lload 8, 2) := by decide +kernel
theorem dX5_addUnits_78 : decode cX5_addUnits 78 = .ok (.lload 6, 2) := by decide +kernel
theorem dX5_addUnits_80 : decode cX5_addUnits 80 = .ok (.lcmp, 1) := by decide +kernel
theorem dX5_addUnits_81 : decode cX5_addUnits 81 = .ok (.ifCond .le 20, 3) := by decide +kernel
theorem dX5_addUnits_84 : decode cX5_addUnits 84 = .ok (.aload_n 0, 1) := by decide +kernel
theorem dX5_addUnits_85 : decode cX5_addUnits 85 = .ok (.getfield 36, 3) := by decide +kernel
theorem dX5_addUnits_88 : decode cX5_addUnits 88 = .ok (.iload 5, 2) := by decide +kernel
theorem dX5_addUnits_90 : decode cX5_addUnits 90 = .ok (.iaload, 1) := by decide +kernel
theorem dX5_addUnits_91 : decode cX5_addUnits 91 = .ok (.lload 8, 2) := by decide +kernel
theorem dX5_addUnits_93 : decode cX5_addUnits 93 = .ok (.lload 6, 2) := by decide +kernel
theorem dX5_addUnits_95 : decode cX5_addUnits 95 = .ok (.lsub, 1) := by decide +kernel
theorem dX5_addUnits_96 : decode cX5_addUnits 96 = .ok (.l2i, 1) := by decide +kernel
theorem dX5_addUnits_97 : decode cX5_addUnits 97 = .ok (.iadd, 1) := by decide +kernel
theorem dX5_addUnits_98 : decode cX5_addUnits 98 = .ok (.goto 10, 3) := by decide +kernel
theorem dX5_addUnits_101 : decode cX5_addUnits 101 = .ok (.aload_n 0, 1) := by decide +kernel
theorem dX5_addUnits_102 : decode cX5_addUnits 102 = .ok (.getfield 36, 3) := by decide +kernel
theorem dX5_addUnits_105 : decode cX5_addUnits 105 = .ok (.iload 5, 2) := by decide +kernel
theorem dX5_addUnits_107 : decode cX5_addUnits 107 = .ok (.iaload, 1) := by decide +kernel
theorem dX5_addUnits_108 : decode cX5_addUnits 108 = .ok (.iastore, 1) := by decide +kernel
theorem dX5_addUnits_109 : decode cX5_addUnits 109 = .ok (.iinc 5 1, 3) := by decide +kernel
theorem dX5_addUnits_112 : decode cX5_addUnits 112 = .ok (.goto (-109), 3) := by decide +kernel
theorem dX5_addUnits_115 : decode cX5_addUnits 115 = .ok (.return_, 1) := by decide +kernel
set_option maxRecDepth 20000 in
theorem ggX5_coverRow_X5_crossAll : GoodIn wsX5_coverRow wsX5_crossAll := goodIn_ca (goodIn_r _ [12, 5, 13, 14, 15, 16, 17, 11, 18, 19, 7, 20, 21, 22, 23, 24, 34, 35, 36, 37, 38, 39, 40, 41, 42, 43, 44, 45, 46, 47, 48, 49, 50, 51, 52, 53, 54] (by decide +kernel) (by decide +kernel)) (goodIn_sub (fun _ h => List.mem_cons_of_mem _ (List.mem_append_right _ h)) (by decide +kernel))
set_option maxRecDepth 20000 in
theorem gX5_coverRow_X5_crossAll : GoodIn wsX5_coverRow (wsV RX5 95 RX5 yX5_crossAll wsX5_crossAll) := goodIn_app (goodIn_of _ (by decide +kernel)) ggX5_coverRow_X5_crossAll
set_option maxRecDepth 20000 in
theorem ggX5_coverRow_X5_isInside : GoodIn wsX5_coverRow wsX5_isInside := goodIn_ca (goodIn_r _ [28, 5, 7, 21, 34, 35, 36, 37, 38, 39, 40, 41, 42, 43, 44, 45, 46, 47, 48, 49, 50, 51, 52, 53, 54] (by decide +kernel) (by decide +kernel)) (goodIn_sub (fun _ h => List.mem_cons_of_mem _ (List.mem_append_right _ h)) (by decide +kernel))
set_option maxRecDepth 20000 in
theorem gX5_coverRow_X5_isInside : GoodIn wsX5_coverRow (wsV RX5 101 RX5 yX5_isInside wsX5_isInside) := goodIn_app (goodIn_of _ (by decide +kernel)) ggX5_coverRow_X5_isInside
set_option maxRecDepth 20000 in
theorem ggX5_coverRow_X5_addUnits : GoodIn wsX5_coverRow wsX5_addUnits := goodIn_ca (goodIn_r _ [32, 1, 33, 2, 34, 35, 36, 37, 38, 39, 40, 41, 42, 43, 44, 45, 46, 47, 48, 49, 50, 51, 52, 53, 54] (by decide +kernel) (by decide +kernel)) (goodIn_sub (fun _ h => List.mem_cons_of_mem _ (List.mem_append_right _ h)) (by decide +kernel))
set_option maxRecDepth 20000 in
theorem gX5_coverRow_X5_addUnits : GoodIn wsX5_coverRow (wsV RX5 105 RX5 yX5_addUnits wsX5_addUnits) := goodIn_app (goodIn_of _ (by decide +kernel)) ggX5_coverRow_X5_addUnits
theorem dX5_coverRow_0 : decode cX5_coverRow 0 = .ok (.iconst 0, 1) := by decide +kernel
theorem dX5_coverRow_1 : decode cX5_coverRow 1 = .ok (.istore_n 3, 1) := by decide +kernel
theorem dX5_coverRow_2 : decode cX5_coverRow 2 = .ok (.iload_n 3, 1) := by decide +kernel
theorem dX5_coverRow_3 : decode cX5_coverRow 3 = .ok (.aload_n 0, 1) := by decide +kernel
theorem dX5_coverRow_4 : decode cX5_coverRow 4 = .ok (.getfield 42, 3) := by decide +kernel
theorem dX5_coverRow_7 : decode cX5_coverRow 7 = .ok (.if_icmp .ge 16, 3) := by decide +kernel
theorem dX5_coverRow_10 : decode cX5_coverRow 10 = .ok (.aload_n 0, 1) := by decide +kernel
theorem dX5_coverRow_11 : decode cX5_coverRow 11 = .ok (.getfield 36, 3) := by decide +kernel
theorem dX5_coverRow_14 : decode cX5_coverRow 14 = .ok (.iload_n 3, 1) := by decide +kernel
theorem dX5_coverRow_15 : decode cX5_coverRow 15 = .ok (.iconst 0, 1) := by decide +kernel
theorem dX5_coverRow_16 : decode cX5_coverRow 16 = .ok (.iastore, 1) := by decide +kernel
theorem dX5_coverRow_17 : decode cX5_coverRow 17 = .ok (.iinc 3 1, 3) := by decide +kernel
theorem dX5_coverRow_20 : decode cX5_coverRow 20 = .ok (.goto (-18), 3) := by decide +kernel
theorem dX5_coverRow_23 : decode cX5_coverRow 23 = .ok (.iconst 0, 1) := by decide +kernel
theorem dX5_coverRow_24 : decode cX5_coverRow 24 = .ok (.istore_n 3, 1) := by decide +kernel
theorem dX5_coverRow_25 : decode cX5_coverRow 25 = .ok (.iload_n 3, 1) := by decide +kernel
theorem dX5_coverRow_26 : decode cX5_coverRow 26 = .ok (.bipush 16, 2) := by decide +kernel
theorem dX5_coverRow_28 : decode cX5_coverRow 28 = .ok (.if_icmp .ge 198, 3) := by decide +kernel
theorem dX5_coverRow_31 : decode cX5_coverRow 31 = .ok (.aload_n 0, 1) := by decide +kernel
theorem dX5_coverRow_32 : decode cX5_coverRow 32 = .ok (.ldc2_w 91, 3) := by decide +kernel
theorem dX5_coverRow_35 : decode cX5_coverRow 35 = .ok (.ldc2_w 91, 3) := by decide +kernel
theorem dX5_coverRow_38 : decode cX5_coverRow 38 = .ok (.iload_n 2, 1) := by decide +kernel
theorem dX5_coverRow_39 : decode cX5_coverRow 39 = .ok (.i2l, 1) := by decide +kernel
theorem dX5_coverRow_40 : decode cX5_coverRow 40 = .ok (.lmul, 1) := by decide +kernel
theorem dX5_coverRow_41 : decode cX5_coverRow 41 = .ok (.iload_n 3, 1) := by decide +kernel
theorem dX5_coverRow_42 : decode cX5_coverRow 42 = .ok (.i2l, 1) := by decide +kernel
theorem dX5_coverRow_43 : decode cX5_coverRow 43 = .ok (.ladd, 1) := by decide +kernel
theorem dX5_coverRow_44 : decode cX5_coverRow 44 = .ok (.lmul, 1) := by decide +kernel
theorem dX5_coverRow_45 : decode cX5_coverRow 45 = .ok (.ldc2_w 93, 3) := by decide +kernel
theorem dX5_coverRow_48 : decode cX5_coverRow 48 = .ok (.ladd, 1) := by decide +kernel
theorem dX5_coverRow_49 : decode cX5_coverRow 49 = .ok (.invokevirtual 95, 3) := by decide +kernel
theorem dX5_coverRow_52 : decode cX5_coverRow 52 = .ok (.iconst 0, 1) := by decide +kernel
theorem dX5_coverRow_53 : decode cX5_coverRow 53 = .ok (.istore 4, 2) := by decide +kernel
theorem dX5_coverRow_55 : decode cX5_coverRow 55 = .ok (.iload 4, 2) := by decide +kernel
theorem dX5_coverRow_57 : decode cX5_coverRow 57 = .ok (.aload_n 0, 1) := by decide +kernel
theorem dX5_coverRow_58 : decode cX5_coverRow 58 = .ok (.getfield 78, 3) := by decide +kernel
theorem dX5_coverRow_61 : decode cX5_coverRow 61 = .ok (.if_icmp .ge 159, 3) := by decide +kernel
theorem dX5_coverRow_64 : decode cX5_coverRow 64 = .ok (.iconst 0, 1) := by decide +kernel
theorem dX5_coverRow_65 : decode cX5_coverRow 65 = .ok (.istore 5, 2) := by decide +kernel
theorem dX5_coverRow_67 : decode cX5_coverRow 67 = .ok (.ldc2_w 99, 3) := by decide +kernel
theorem dX5_coverRow_70 : decode cX5_coverRow 70 = .ok (.lstore 6, 2) := by decide +kernel
theorem dX5_coverRow_72 : decode cX5_coverRow 72 = .ok (.iconst 0, 1) := by decide +kernel
theorem dX5_coverRow_73 : decode cX5_coverRow 73 = .ok (.istore 8, 2) := by decide +kernel
theorem dX5_coverRow_75 : decode cX5_coverRow 75 = .ok (.iload 8, 2) := by decide +kernel
theorem dX5_coverRow_77 : decode cX5_coverRow 77 = .ok (.aload_n 0, 1) := by decide +kernel
theorem dX5_coverRow_78 : decode cX5_coverRow 78 = .ok (.getfield 78, 3) := by decide +kernel
theorem dX5_coverRow_81 : decode cX5_coverRow 81 = .ok (.if_icmp .ge 91, 3) := by decide +kernel
theorem dX5_coverRow_84 : decode cX5_coverRow 84 = .ok (.iload 5, 2) := by decide +kernel
theorem dX5_coverRow_86 : decode cX5_coverRow 86 = .ok (.ifCond .ne 28, 3) := by decide +kernel
theorem dX5_coverRow_89 : decode cX5_coverRow 89 = .ok (.iload 8, 2) := by decide +kernel
theorem dX5_coverRow_91 : decode cX5_coverRow 91 = .ok (.iload 4, 2) := by decide +kernel
theorem dX5_coverRow_93 : decode cX5_coverRow 93 = .ok (.if_icmp .ge 25, 3) := by decide +kernel
theorem dX5_coverRow_96 : decode cX5_coverRow 96 = .ok (.aload_n 0, 1) := by decide +kernel
theorem dX5_coverRow_97 : decode cX5_coverRow 97 = .ok (.getfield 30, 3) := by decide +kernel
theorem dX5_coverRow_100 : decode cX5_coverRow 100 = .ok (.iload 8, 2) := by decide +kernel
theorem dX5_coverRow_102 : decode cX5_coverRow 102 = .ok (.laload, 1) := by decide +kernel
theorem dX5_coverRow_103 : decode cX5_coverRow 103 = .ok (.aload_n 0, 1) := by decide +kernel
theorem dX5_coverRow_104 : decode cX5_coverRow 104 = .ok (.getfield 30, 3) := by decide +kernel
theorem dX5_coverRow_107 : decode cX5_coverRow 107 = .ok (.iload 4, 2) := by decide +kernel
theorem dX5_coverRow_109 : decode cX5_coverRow 109 = .ok (.laload, 1) := by decide +kernel
theorem dX5_coverRow_110 : decode cX5_coverRow 110 = .ok (.lcmp, 1) := by decide +kernel
theorem dX5_coverRow_111 : decode cX5_coverRow 111 = .ok (.ifCond .ne 7, 3) := by decide +kernel
theorem dX5_coverRow_114 : decode cX5_coverRow 114 = .ok (.iconst 1, 1) := by decide +kernel
theorem dX5_coverRow_115 : decode cX5_coverRow 115 = .ok (.goto 4, 3) := by decide +kernel
theorem dX5_coverRow_118 : decode cX5_coverRow 118 = .ok (.iconst 0, 1) := by decide +kernel
theorem dX5_coverRow_119 : decode cX5_coverRow 119 = .ok (.istore 5, 2) := by decide +kernel
theorem dX5_coverRow_121 : decode cX5_coverRow 121 = .ok (.aload_n 0, 1) := by decide +kernel
theorem dX5_coverRow_122 : decode cX5_coverRow 122 = .ok (.getfield 30, 3) := by decide +kernel
theorem dX5_coverRow_125 : decode cX5_coverRow 125 = .ok (.iload 8, 2) := by decide +kernel
theorem dX5_coverRow_127 : decode cX5_coverRow 127 = .ok (.laload, 1) := by decide +kernel
theorem dX5_coverRow_128 : decode cX5_coverRow 128 = .ok (.aload_n 0, 1) := by decide +kernel
theorem dX5_coverRow_129 : decode cX5_coverRow 129 = .ok (.getfield 30, 3) := by decide +kernel
theorem dX5_coverRow_132 : decode cX5_coverRow 132 = .ok (.iload 4, 2) := by decide +kernel
theorem dX5_coverRow_134 : decode cX5_coverRow 134 = .ok (.laload, 1) := by decide +kernel
theorem dX5_coverRow_135 : decode cX5_coverRow 135 = .ok (.lcmp, 1) := by decide +kernel
theorem dX5_coverRow_136 : decode cX5_coverRow 136 = .ok (.ifCond .le 26, 3) := by decide +kernel
theorem dX5_coverRow_139 : decode cX5_coverRow 139 = .ok (.aload_n 0, 1) := by decide +kernel
theorem dX5_coverRow_140 : decode cX5_coverRow 140 = .ok (.getfield 30, 3) := by decide +kernel
theorem dX5_coverRow_143 : decode cX5_coverRow 143 = .ok (.iload 8, 2) := by decide +kernel
theorem dX5_coverRow_145 : decode cX5_coverRow 145 = .ok (.laload, 1) := by decide +kernel
theorem dX5_coverRow_146 : decode cX5_coverRow 146 = .ok (.lload 6, 2) := by decide +kernel
theorem dX5_coverRow_148 : decode cX5_coverRow 148 = .ok (.lcmp, 1) := by decide +kernel
theorem dX5_coverRow_149 : decode cX5_coverRow 149 = .ok (.ifCond .ge 13, 3) := by decide +kernel
theorem dX5_coverRow_152 : decode cX5_coverRow 152 = .ok (.aload_n 0, 1) := by decide +kernel
theorem dX5_coverRow_153 : decode cX5_coverRow 153 = .ok (.getfield 30, 3) := by decide +kernel
theorem dX5_coverRow_156 : decode cX5_coverRow 156 = .ok (.iload 8, 2) := by decide +kernel
theorem dX5_coverRow_158 : decode cX5_coverRow 158 = .ok (.laload, 1) := by decide +kernel
theorem dX5_coverRow_159 : decode cX5_coverRow 159 = .ok (.goto 5, 3) := by decide +kernel
theorem dX5_coverRow_162 : decode cX5_coverRow 162 = .ok (.lload 6, 2) := by decide +kernel
theorem dX5_coverRow_164 : decode cX5_coverRow 164 = .ok (.lstore 6, 2) := by decide +kernel
theorem dX5_coverRow_166 : decode cX5_coverRow 166 = .ok (.iinc 8 1, 3) := by decide +kernel
theorem dX5_coverRow_169 : decode cX5_coverRow 169 = .ok (.goto (-94), 3) := by decide +kernel
theorem dX5_coverRow_172 : decode cX5_coverRow 172 = .ok (.iload 5, 2) := by decide +kernel
theorem dX5_coverRow_174 : decode cX5_coverRow 174 = .ok (.ifCond .ne 40, 3) := by decide +kernel
theorem dX5_coverRow_177 : decode cX5_coverRow 177 = .ok (.lload 6, 2) := by decide +kernel
theorem dX5_coverRow_179 : decode cX5_coverRow 179 = .ok (.ldc2_w 99, 3) := by decide +kernel
theorem dX5_coverRow_182 : decode cX5_coverRow 182 = .ok (.lcmp, 1) := by decide +kernel
theorem dX5_coverRow_183 : decode cX5_coverRow 183 = .ok (.ifCond .ge 31, 3) := by decide +kernel
theorem dX5_coverRow_186 : decode cX5_coverRow 186 = .ok (.aload_n 0, 1) := by decide +kernel
theorem dX5_coverRow_187 : decode cX5_coverRow 187 = .ok (.iload_n 1, 1) := by decide +kernel
theorem dX5_coverRow_188 : decode cX5_coverRow 188 = .ok (.aload_n 0, 1) := by decide +kernel
theorem dX5_coverRow_189 : decode cX5_coverRow 189 = .ok (.getfield 30, 3) := by decide +kernel
theorem dX5_coverRow_192 : decode cX5_coverRow 192 = .ok (.iload 4, 2) := by decide +kernel
theorem dX5_coverRow_194 : decode cX5_coverRow 194 = .ok (.laload, 1) := by decide +kernel
theorem dX5_coverRow_195 : decode cX5_coverRow 195 = .ok (.invokevirtual 101, 3) := by decide +kernel
theorem dX5_coverRow_198 : decode cX5_coverRow 198 = .ok (.ifCond .eq 16, 3) := by decide +kernel
theorem dX5_coverRow_201 : decode cX5_coverRow 201 = .ok (.aload_n 0, 1) := by decide +kernel
theorem dX5_coverRow_202 : decode cX5_coverRow 202 = .ok (.aload_n 0, 1) := by decide +kernel
theorem dX5_coverRow_203 : decode cX5_coverRow 203 = .ok (.getfield 30, 3) := by decide +kernel
theorem dX5_coverRow_206 : decode cX5_coverRow 206 = .ok (.iload 4, 2) := by decide +kernel
theorem dX5_coverRow_208 : decode cX5_coverRow 208 = .ok (.laload, 1) := by decide +kernel
theorem dX5_coverRow_209 : decode cX5_coverRow 209 = .ok (.lload 6, 2) := by decide +kernel
theorem dX5_coverRow_211 : decode cX5_coverRow 211 = .ok (.invokevirtual 105, 3) := by decide +kernel
theorem dX5_coverRow_214 : decode cX5_coverRow 214 = .ok (.iinc 4 1, 3) := by decide +kernel
theorem dX5_coverRow_217 : decode cX5_coverRow 217 = .ok (.goto (-162), 3) := by decide +kernel
theorem dX5_coverRow_220 : decode cX5_coverRow 220 = .ok (.iinc 3 1, 3) := by decide +kernel
theorem dX5_coverRow_223 : decode cX5_coverRow 223 = .ok (.goto (-198), 3) := by decide +kernel
theorem dX5_coverRow_226 : decode cX5_coverRow 226 = .ok (.return_, 1) := by decide +kernel
theorem dX5_coverAt_0 : decode cX5_coverAt 0 = .ok (.aload_n 0, 1) := by decide +kernel
theorem dX5_coverAt_1 : decode cX5_coverAt 1 = .ok (.getfield 36, 3) := by decide +kernel
theorem dX5_coverAt_4 : decode cX5_coverAt 4 = .ok (.iload_n 1, 1) := by decide +kernel
theorem dX5_coverAt_5 : decode cX5_coverAt 5 = .ok (.iaload, 1) := by decide +kernel
theorem dX5_coverAt_6 : decode cX5_coverAt 6 = .ok (.sipush 255, 3) := by decide +kernel
theorem dX5_coverAt_9 : decode cX5_coverAt 9 = .ok (.imul, 1) := by decide +kernel
theorem dX5_coverAt_10 : decode cX5_coverAt 10 = .ok (.sipush 2048, 3) := by decide +kernel
theorem dX5_coverAt_13 : decode cX5_coverAt 13 = .ok (.iadd, 1) := by decide +kernel
theorem dX5_coverAt_14 : decode cX5_coverAt 14 = .ok (.sipush 4096, 3) := by decide +kernel
theorem dX5_coverAt_17 : decode cX5_coverAt 17 = .ok (.idiv, 1) := by decide +kernel
theorem dX5_coverAt_18 : decode cX5_coverAt 18 = .ok (.ireturn, 1) := by decide +kernel
theorem dX5_mul_0 : decode cX5_mul 0 = .ok (.iload_n 0, 1) := by decide +kernel
theorem dX5_mul_1 : decode cX5_mul 1 = .ok (.iload_n 1, 1) := by decide +kernel
theorem dX5_mul_2 : decode cX5_mul 2 = .ok (.imul, 1) := by decide +kernel
theorem dX5_mul_3 : decode cX5_mul 3 = .ok (.bipush 127, 2) := by decide +kernel
theorem dX5_mul_5 : decode cX5_mul 5 = .ok (.iadd, 1) := by decide +kernel
theorem dX5_mul_6 : decode cX5_mul 6 = .ok (.sipush 255, 3) := by decide +kernel
theorem dX5_mul_9 : decode cX5_mul 9 = .ok (.idiv, 1) := by decide +kernel
theorem dX5_mul_10 : decode cX5_mul 10 = .ok (.ireturn, 1) := by decide +kernel
set_option maxRecDepth 20000 in
theorem ggX5_fill_X5_coverRow : GoodIn wsX5_fill wsX5_coverRow := goodIn_ca (goodIn_r _ [16, 5, 17, 18, 19, 20, 21, 22, 23, 24, 25, 15, 26, 9, 27, 28, 29, 30, 31, 32, 33, 34, 35, 36, 37, 38, 39, 40, 41, 42, 43, 44, 45, 46, 54, 55, 56, 57, 58, 59, 60, 61, 62, 63, 64, 65, 66, 67, 68, 69, 70, 71, 72, 73, 74] (by decide +kernel) (by decide +kernel)) (goodIn_sub (fun _ h => List.mem_cons_of_mem _ (List.mem_append_right _ h)) (by decide +kernel))
set_option maxRecDepth 20000 in
theorem gX5_fill_X5_coverRow : GoodIn wsX5_fill (wsV RX5 112 RX5 yX5_coverRow wsX5_coverRow) := goodIn_app (goodIn_of _ (by decide +kernel)) ggX5_fill_X5_coverRow
set_option maxRecDepth 20000 in
theorem ggX5_fill_X5_coverAt : GoodIn wsX5_fill wsX5_coverAt := goodIn_ca (goodIn_r _ [50, 17, 54, 55, 56, 57, 58, 59, 60, 61, 62, 63, 64, 65, 66, 67, 68, 69, 70, 71, 72, 73, 74] (by decide +kernel) (by decide +kernel)) (goodIn_sub (fun _ h => List.mem_cons_of_mem _ (List.mem_append_right _ h)) (by decide +kernel))
set_option maxRecDepth 20000 in
theorem gX5_fill_X5_coverAt : GoodIn wsX5_fill (wsV RX5 116 RX5 yX5_coverAt wsX5_coverAt) := goodIn_app (goodIn_of _ (by decide +kernel)) ggX5_fill_X5_coverAt
set_option maxRecDepth 20000 in
theorem ggX5_fill_X5_mul : GoodIn wsX5_fill wsX5_mul := goodIn_r _ [53] (by decide +kernel) (by decide +kernel)
set_option maxRecDepth 20000 in
theorem gX5_fill_X5_mul : GoodIn wsX5_fill (va_wsS RX5 120 yX5_mul wsX5_mul) := goodIn_app (goodIn_of _ (by decide +kernel)) ggX5_fill_X5_mul
theorem dX5_fill_0 : decode cX5_fill 0 = .ok (.aload_n 0, 1) := by decide +kernel
theorem dX5_fill_1 : decode cX5_fill 1 = .ok (.iload_n 1, 1) := by decide +kernel
theorem dX5_fill_2 : decode cX5_fill 2 = .ok (.ifCond .lt 8, 3) := by decide +kernel
theorem dX5_fill_5 : decode cX5_fill 5 = .ok (.iload_n 1, 1) := by decide +kernel
theorem dX5_fill_6 : decode cX5_fill 6 = .ok (.iconst 1, 1) := by decide +kernel
theorem dX5_fill_7 : decode cX5_fill 7 = .ok (.if_icmp .le 7, 3) := by decide +kernel
theorem dX5_fill_10 : decode cX5_fill 10 = .ok (.iconst 1, 1) := by decide +kernel
theorem dX5_fill_11 : decode cX5_fill 11 = .ok (.goto 20, 3) := by decide +kernel
theorem dX5_fill_14 : decode cX5_fill 14 = .ok (.iload_n 2, 1) := by decide +kernel
theorem dX5_fill_15 : decode cX5_fill 15 = .ok (.ifCond .lt 11, 3) := by decide +kernel
theorem dX5_fill_18 : decode cX5_fill 18 = .ok (.iload_n 2, 1) := by decide +kernel
theorem dX5_fill_19 : decode cX5_fill 19 = .ok (.aload_n 0, 1) := by decide +kernel
theorem dX5_fill_20 : decode cX5_fill 20 = .ok (.getfield 49, 3) := by decide +kernel
theorem dX5_fill_23 : decode cX5_fill 23 = .ok (.if_icmp .lt 7, 3) := by decide +kernel
theorem dX5_fill_26 : decode cX5_fill 26 = .ok (.iconst 2, 1) := by decide +kernel
theorem dX5_fill_27 : decode cX5_fill 27 = .ok (.goto 4, 3) := by decide +kernel
theorem dX5_fill_30 : decode cX5_fill 30 = .ok (.iconst 0, 1) := by decide +kernel
theorem dX5_fill_31 : decode cX5_fill 31 = .ok (.putfield 55, 3) := by decide +kernel
theorem dX5_fill_34 : decode cX5_fill 34 = .ok (.aload_n 0, 1) := by decide +kernel
theorem dX5_fill_35 : decode cX5_fill 35 = .ok (.getfield 55, 3) := by decide +kernel
theorem dX5_fill_38 : decode cX5_fill 38 = .ok (.ifCond .le 5, 3) := by decide +kernel
theorem dX5_fill_41 : decode cX5_fill 41 = .ok (.iconst 0, 1) := by decide +kernel
theorem dX5_fill_42 : decode cX5_fill 42 = .ok (.ireturn, 1) := by decide +kernel
theorem dX5_fill_43 : decode cX5_fill 43 = .ok (.iconst 0, 1) := by decide +kernel
theorem dX5_fill_44 : decode cX5_fill 44 = .ok (.istore 4, 2) := by decide +kernel
theorem dX5_fill_46 : decode cX5_fill 46 = .ok (.aload_n 0, 1) := by decide +kernel
theorem dX5_fill_47 : decode cX5_fill 47 = .ok (.getfield 109, 3) := by decide +kernel
theorem dX5_fill_50 : decode cX5_fill 50 = .ok (.istore 5, 2) := by decide +kernel
theorem dX5_fill_52 : decode cX5_fill 52 = .ok (.iload 5, 2) := by decide +kernel
theorem dX5_fill_54 : decode cX5_fill 54 = .ok (.aload_n 0, 1) := by decide +kernel
theorem dX5_fill_55 : decode cX5_fill 55 = .ok (.getfield 52, 3) := by decide +kernel
theorem dX5_fill_58 : decode cX5_fill 58 = .ok (.if_icmp .ge 191, 3) := by decide +kernel
theorem dX5_fill_61 : decode cX5_fill 61 = .ok (.aload_n 0, 1) := by decide +kernel
theorem dX5_fill_62 : decode cX5_fill 62 = .ok (.iload_n 1, 1) := by decide +kernel
theorem dX5_fill_63 : decode cX5_fill 63 = .ok (.iload 5, 2) := by decide +kernel
theorem dX5_fill_65 : decode cX5_fill 65 = .ok (.invokevirtual 112, 3) := by decide +kernel
theorem dX5_fill_68 : decode cX5_fill 68 = .ok (.iconst 0, 1) := by decide +kernel
theorem dX5_fill_69 : decode cX5_fill 69 = .ok (.istore 6, 2) := by decide +kernel
theorem dX5_fill_71 : decode cX5_fill 71 = .ok (.iload 6, 2) := by decide +kernel
theorem dX5_fill_73 : decode cX5_fill 73 = .ok (.aload_n 0, 1) := by decide +kernel
theorem dX5_fill_74 : decode cX5_fill 74 = .ok (.getfield 42, 3) := by decide +kernel
theorem dX5_fill_77 : decode cX5_fill 77 = .ok (.if_icmp .ge 166, 3) := by decide +kernel
theorem dX5_fill_80 : decode cX5_fill 80 = .ok (.aload_n 0, 1) := by decide +kernel
theorem dX5_fill_81 : decode cX5_fill 81 = .ok (.iload 6, 2) := by decide +kernel
theorem dX5_fill_83 : decode cX5_fill 83 = .ok (.invokevirtual 116, 3) := by decide +kernel
theorem dX5_fill_86 : decode cX5_fill 86 = .ok (.aload_n 0, 1) := by decide +kernel
theorem dX5_fill_87 : decode cX5_fill 87 = .ok (.getfield 13, 3) := by decide +kernel
theorem dX5_fill_90 : decode cX5_fill 90 = .ok (.bipush 48, 2) := by decide +kernel
theorem dX5_fill_92 : decode cX5_fill 92 = .ok (.iload 5, 2) := by decide +kernel
theorem dX5_fill_94 : decode cX5_fill 94 = .ok (.imul, 1) := by decide +kernel
theorem dX5_fill_95 : decode cX5_fill 95 = .ok (.iload 6, 2) := by decide +kernel
theorem dX5_fill_97 : decode cX5_fill 97 = .ok (.iadd, 1) := by decide +kernel
theorem dX5_fill_98 : decode cX5_fill 98 = .ok (.iaload, 1) := by decide +kernel
theorem dX5_fill_99 : decode cX5_fill 99 = .ok (.invokestatic 120, 3) := by decide +kernel
theorem dX5_fill_102 : decode cX5_fill 102 = .ok (.istore 7, 2) := by decide +kernel
theorem dX5_fill_104 : decode cX5_fill 104 = .ok (.iload 7, 2) := by decide +kernel
theorem dX5_fill_106 : decode cX5_fill 106 = .ok (.ifCond .le 10, 3) := by decide +kernel
theorem dX5_fill_109 : decode cX5_fill 109 = .ok (.iload 4, 2) := by decide +kernel
theorem dX5_fill_111 : decode cX5_fill 111 = .ok (.iconst 1, 1) := by decide +kernel
theorem dX5_fill_112 : decode cX5_fill 112 = .ok (.iadd, 1) := by decide +kernel
theorem dX5_fill_113 : decode cX5_fill 113 = .ok (.goto 5, 3) := by decide +kernel
theorem dX5_fill_116 : decode cX5_fill 116 = .ok (.iload 4, 2) := by decide +kernel
theorem dX5_fill_118 : decode cX5_fill 118 = .ok (.istore 4, 2) := by decide +kernel
theorem dX5_fill_120 : decode cX5_fill 120 = .ok (.iconst 0, 1) := by decide +kernel
theorem dX5_fill_121 : decode cX5_fill 121 = .ok (.istore 8, 2) := by decide +kernel
theorem dX5_fill_123 : decode cX5_fill 123 = .ok (.iload 8, 2) := by decide +kernel
theorem dX5_fill_125 : decode cX5_fill 125 = .ok (.aload_n 0, 1) := by decide +kernel
theorem dX5_fill_126 : decode cX5_fill 126 = .ok (.getfield 49, 3) := by decide +kernel
theorem dX5_fill_129 : decode cX5_fill 129 = .ok (.if_icmp .ge 108, 3) := by decide +kernel
theorem dX5_fill_132 : decode cX5_fill 132 = .ok (.iload 7, 2) := by decide +kernel
theorem dX5_fill_134 : decode cX5_fill 134 = .ok (.ifCond .le 103, 3) := by decide +kernel
theorem dX5_fill_137 : decode cX5_fill 137 = .ok (.sipush 2304, 3) := by decide +kernel
theorem dX5_fill_140 : decode cX5_fill 140 = .ok (.iload 8, 2) := by decide +kernel
theorem dX5_fill_142 : decode cX5_fill 142 = .ok (.imul, 1) := by decide +kernel
theorem dX5_fill_143 : decode cX5_fill 143 = .ok (.bipush 48, 2) := by decide +kernel
theorem dX5_fill_145 : decode cX5_fill 145 = .ok (.iload 5, 2) := by decide +kernel
theorem dX5_fill_147 : decode cX5_fill 147 = .ok (.imul, 1) := by decide +kernel
theorem dX5_fill_148 : decode cX5_fill 148 = .ok (.iadd, 1) := by decide +kernel
theorem dX5_fill_149 : decode cX5_fill 149 = .ok (.iload 6, 2) := by decide +kernel
theorem dX5_fill_151 : decode cX5_fill 151 = .ok (.iadd, 1) := by decide +kernel
theorem dX5_fill_152 : decode cX5_fill 152 = .ok (.istore 9, 2) := by decide +kernel
theorem dX5_fill_154 : decode cX5_fill 154 = .ok (.iload 8, 2) := by decide +kernel
theorem dX5_fill_156 : decode cX5_fill 156 = .ok (.iload_n 2, 1) := by decide +kernel
theorem dX5_fill_157 : decode cX5_fill 157 = .ok (.if_icmp .ne 11, 3) := by decide +kernel
theorem dX5_fill_160 : decode cX5_fill 160 = .ok (.iload_n 3, 1) := by decide +kernel
theorem dX5_fill_161 : decode cX5_fill 161 = .ok (.sipush 255, 3) := by decide +kernel
theorem dX5_fill_164 : decode cX5_fill 164 = .ok (.iand, 1) := by decide +kernel
theorem dX5_fill_165 : decode cX5_fill 165 = .ok (.goto 4, 3) := by decide +kernel
theorem dX5_fill_168 : decode cX5_fill 168 = .ok (.iconst 0, 1) := by decide +kernel
theorem dX5_fill_169 : decode cX5_fill 169 = .ok (.istore 10, 2) := by decide +kernel
theorem dX5_fill_171 : decode cX5_fill 171 = .ok (.aload_n 0, 1) := by decide +kernel
theorem dX5_fill_172 : decode cX5_fill 172 = .ok (.getfield 7, 3) := by decide +kernel
theorem dX5_fill_175 : decode cX5_fill 175 = .ok (.iload 9, 2) := by decide +kernel
theorem dX5_fill_177 : decode cX5_fill 177 = .ok (.iload 8, 2) := by decide +kernel
theorem dX5_fill_179 : decode cX5_fill 179 = .ok (.iload_n 2, 1) := by decide +kernel
theorem dX5_fill_180 : decode cX5_fill 180 = .ok (.if_icmp .eq 13, 3) := by decide +kernel
theorem dX5_fill_183 : decode cX5_fill 183 = .ok (.aload_n 0, 1) := by decide +kernel
theorem dX5_fill_184 : decode cX5_fill 184 = .ok (.getfield 16, 3) := by decide +kernel
theorem dX5_fill_187 : decode cX5_fill 187 = .ok (.iload 8, 2) := by decide +kernel
theorem dX5_fill_189 : decode cX5_fill 189 = .ok (.baload, 1) := by decide +kernel
theorem dX5_fill_190 : decode cX5_fill 190 = .ok (.ifCond .ne 33, 3) := by decide +kernel
theorem dX5_fill_193 : decode cX5_fill 193 = .ok (.aload_n 0, 1) := by decide +kernel
theorem dX5_fill_194 : decode cX5_fill 194 = .ok (.getfield 7, 3) := by decide +kernel
theorem dX5_fill_197 : decode cX5_fill 197 = .ok (.iload 9, 2) := by decide +kernel
theorem dX5_fill_199 : decode cX5_fill 199 = .ok (.iaload, 1) := by decide +kernel
theorem dX5_fill_200 : decode cX5_fill 200 = .ok (.sipush 255, 3) := by decide +kernel
theorem dX5_fill_203 : decode cX5_fill 203 = .ok (.iload 7, 2) := by decide +kernel
theorem dX5_fill_205 : decode cX5_fill 205 = .ok (.isub, 1) := by decide +kernel
theorem dX5_fill_206 : decode cX5_fill 206 = .ok (.imul, 1) := by decide +kernel
theorem dX5_fill_207 : decode cX5_fill 207 = .ok (.iload 10, 2) := by decide +kernel
theorem dX5_fill_209 : decode cX5_fill 209 = .ok (.iload 7, 2) := by decide +kernel
theorem dX5_fill_211 : decode cX5_fill 211 = .ok (.imul, 1) := by decide +kernel
theorem dX5_fill_212 : decode cX5_fill 212 = .ok (.iadd, 1) := by decide +kernel
theorem dX5_fill_213 : decode cX5_fill 213 = .ok (.bipush 127, 2) := by decide +kernel
theorem dX5_fill_215 : decode cX5_fill 215 = .ok (.iadd, 1) := by decide +kernel
theorem dX5_fill_216 : decode cX5_fill 216 = .ok (.sipush 255, 3) := by decide +kernel
theorem dX5_fill_219 : decode cX5_fill 219 = .ok (.idiv, 1) := by decide +kernel
theorem dX5_fill_220 : decode cX5_fill 220 = .ok (.goto 10, 3) := by decide +kernel
theorem dX5_fill_223 : decode cX5_fill 223 = .ok (.aload_n 0, 1) := by decide +kernel
theorem dX5_fill_224 : decode cX5_fill 224 = .ok (.getfield 7, 3) := by decide +kernel
theorem dX5_fill_227 : decode cX5_fill 227 = .ok (.iload 9, 2) := by decide +kernel
theorem dX5_fill_229 : decode cX5_fill 229 = .ok (.iaload, 1) := by decide +kernel
theorem dX5_fill_230 : decode cX5_fill 230 = .ok (.iastore, 1) := by decide +kernel
theorem dX5_fill_231 : decode cX5_fill 231 = .ok (.iinc 8 1, 3) := by decide +kernel
theorem dX5_fill_234 : decode cX5_fill 234 = .ok (.goto (-111), 3) := by decide +kernel
theorem dX5_fill_237 : decode cX5_fill 237 = .ok (.iinc 6 1, 3) := by decide +kernel
theorem dX5_fill_240 : decode cX5_fill 240 = .ok (.goto (-169), 3) := by decide +kernel
theorem dX5_fill_243 : decode cX5_fill 243 = .ok (.iinc 5 1, 3) := by decide +kernel
theorem dX5_fill_246 : decode cX5_fill 246 = .ok (.goto (-194), 3) := by decide +kernel
theorem dX5_fill_249 : decode cX5_fill 249 = .ok (.aload_n 0, 1) := by decide +kernel
theorem dX5_fill_250 : decode cX5_fill 250 = .ok (.iconst 0, 1) := by decide +kernel
theorem dX5_fill_251 : decode cX5_fill 251 = .ok (.putfield 62, 3) := by decide +kernel
theorem dX5_fill_254 : decode cX5_fill 254 = .ok (.aload_n 0, 1) := by decide +kernel
theorem dX5_fill_255 : decode cX5_fill 255 = .ok (.dup, 1) := by decide +kernel
theorem dX5_fill_256 : decode cX5_fill 256 = .ok (.getfield 124, 3) := by decide +kernel
theorem dX5_fill_259 : decode cX5_fill 259 = .ok (.iconst 1, 1) := by decide +kernel
theorem dX5_fill_260 : decode cX5_fill 260 = .ok (.iadd, 1) := by decide +kernel
theorem dX5_fill_261 : decode cX5_fill 261 = .ok (.putfield 124, 3) := by decide +kernel
theorem dX5_fill_264 : decode cX5_fill 264 = .ok (.aload_n 0, 1) := by decide +kernel
theorem dX5_fill_265 : decode cX5_fill 265 = .ok (.iconst 0, 1) := by decide +kernel
theorem dX5_fill_266 : decode cX5_fill 266 = .ok (.putfield 127, 3) := by decide +kernel
theorem dX5_fill_269 : decode cX5_fill 269 = .ok (.iload 4, 2) := by decide +kernel
theorem dX5_fill_271 : decode cX5_fill 271 = .ok (.ireturn, 1) := by decide +kernel
set_option maxRecDepth 20000 in
theorem ggX5_clip_X5_coverRow : GoodIn wsX5_clip wsX5_coverRow := goodIn_ca (goodIn_r _ [10, 3, 11, 12, 13, 14, 15, 16, 17, 18, 19, 9, 20, 5, 21, 22, 23, 24, 25, 26, 27, 28, 29, 30, 31, 32, 33, 34, 35, 36, 37, 38, 39, 40, 48, 49, 50, 51, 52, 53, 54, 55, 56, 57, 58, 59, 60, 61, 62, 63, 64, 65, 66, 67, 68] (by decide +kernel) (by decide +kernel)) (goodIn_sub (fun _ h => List.mem_cons_of_mem _ (List.mem_append_right _ h)) (by decide +kernel))
set_option maxRecDepth 20000 in
theorem gX5_clip_X5_coverRow : GoodIn wsX5_clip (wsV RX5 112 RX5 yX5_coverRow wsX5_coverRow) := goodIn_app (goodIn_of _ (by decide +kernel)) ggX5_clip_X5_coverRow
set_option maxRecDepth 20000 in
theorem ggX5_clip_X5_coverAt : GoodIn wsX5_clip wsX5_coverAt := goodIn_ca (goodIn_r _ [44, 11, 48, 49, 50, 51, 52, 53, 54, 55, 56, 57, 58, 59, 60, 61, 62, 63, 64, 65, 66, 67, 68] (by decide +kernel) (by decide +kernel)) (goodIn_sub (fun _ h => List.mem_cons_of_mem _ (List.mem_append_right _ h)) (by decide +kernel))
set_option maxRecDepth 20000 in
theorem gX5_clip_X5_coverAt : GoodIn wsX5_clip (wsV RX5 116 RX5 yX5_coverAt wsX5_coverAt) := goodIn_app (goodIn_of _ (by decide +kernel)) ggX5_clip_X5_coverAt
set_option maxRecDepth 20000 in
theorem ggX5_clip_X5_mul : GoodIn wsX5_clip wsX5_mul := goodIn_r _ [47] (by decide +kernel) (by decide +kernel)
set_option maxRecDepth 20000 in
theorem gX5_clip_X5_mul : GoodIn wsX5_clip (va_wsS RX5 120 yX5_mul wsX5_mul) := goodIn_app (goodIn_of _ (by decide +kernel)) ggX5_clip_X5_mul
theorem dX5_clip_0 : decode cX5_clip 0 = .ok (.aload_n 0, 1) := by decide +kernel
theorem dX5_clip_1 : decode cX5_clip 1 = .ok (.iload_n 1, 1) := by decide +kernel
theorem dX5_clip_2 : decode cX5_clip 2 = .ok (.ifCond .lt 8, 3) := by decide +kernel
theorem dX5_clip_5 : decode cX5_clip 5 = .ok (.iload_n 1, 1) := by decide +kernel
theorem dX5_clip_6 : decode cX5_clip 6 = .ok (.iconst 1, 1) := by decide +kernel
theorem dX5_clip_7 : decode cX5_clip 7 = .ok (.if_icmp .le 7, 3) := by decide +kernel
theorem dX5_clip_10 : decode cX5_clip 10 = .ok (.iconst 1, 1) := by decide +kernel
theorem dX5_clip_11 : decode cX5_clip 11 = .ok (.goto 4, 3) := by decide +kernel
theorem dX5_clip_14 : decode cX5_clip 14 = .ok (.iconst 0, 1) := by decide +kernel
theorem dX5_clip_15 : decode cX5_clip 15 = .ok (.putfield 55, 3) := by decide +kernel
theorem dX5_clip_18 : decode cX5_clip 18 = .ok (.aload_n 0, 1) := by decide +kernel
theorem dX5_clip_19 : decode cX5_clip 19 = .ok (.getfield 55, 3) := by decide +kernel
theorem dX5_clip_22 : decode cX5_clip 22 = .ok (.ifCond .le 5, 3) := by decide +kernel
theorem dX5_clip_25 : decode cX5_clip 25 = .ok (.iconst 0, 1) := by decide +kernel
theorem dX5_clip_26 : decode cX5_clip 26 = .ok (.ireturn, 1) := by decide +kernel
theorem dX5_clip_27 : decode cX5_clip 27 = .ok (.iconst 0, 1) := by decide +kernel
theorem dX5_clip_28 : decode cX5_clip 28 = .ok (.istore_n 2, 1) := by decide +kernel
theorem dX5_clip_29 : decode cX5_clip 29 = .ok (.iconst 0, 1) := by decide +kernel
theorem dX5_clip_30 : decode cX5_clip 30 = .ok (.istore_n 3, 1) := by decide +kernel
theorem dX5_clip_31 : decode cX5_clip 31 = .ok (.iload_n 3, 1) := by decide +kernel
theorem dX5_clip_32 : decode cX5_clip 32 = .ok (.aload_n 0, 1) := by decide +kernel
theorem dX5_clip_33 : decode cX5_clip 33 = .ok (.getfield 46, 3) := by decide +kernel
theorem dX5_clip_36 : decode cX5_clip 36 = .ok (.if_icmp .ge 89, 3) := by decide +kernel
theorem dX5_clip_39 : decode cX5_clip 39 = .ok (.aload_n 0, 1) := by decide +kernel
theorem dX5_clip_40 : decode cX5_clip 40 = .ok (.iload_n 1, 1) := by decide +kernel
theorem dX5_clip_41 : decode cX5_clip 41 = .ok (.iload_n 3, 1) := by decide +kernel
theorem dX5_clip_42 : decode cX5_clip 42 = .ok (.invokevirtual 112, 3) := by decide +kernel
theorem dX5_clip_45 : decode cX5_clip 45 = .ok (.iconst 0, 1) := by decide +kernel
theorem dX5_clip_46 : decode cX5_clip 46 = .ok (.istore 4, 2) := by decide +kernel
theorem dX5_clip_48 : decode cX5_clip 48 = .ok (.iload 4, 2) := by decide +kernel
theorem dX5_clip_50 : decode cX5_clip 50 = .ok (.aload_n 0, 1) := by decide +kernel
theorem dX5_clip_51 : decode cX5_clip 51 = .ok (.getfield 42, 3) := by decide +kernel
theorem dX5_clip_54 : decode cX5_clip 54 = .ok (.if_icmp .ge 65, 3) := by decide +kernel
theorem dX5_clip_57 : decode cX5_clip 57 = .ok (.aload_n 0, 1) := by decide +kernel
theorem dX5_clip_58 : decode cX5_clip 58 = .ok (.getfield 13, 3) := by decide +kernel
theorem dX5_clip_61 : decode cX5_clip 61 = .ok (.bipush 48, 2) := by decide +kernel
theorem dX5_clip_63 : decode cX5_clip 63 = .ok (.iload_n 3, 1) := by decide +kernel
theorem dX5_clip_64 : decode cX5_clip 64 = .ok (.imul, 1) := by decide +kernel
theorem dX5_clip_65 : decode cX5_clip 65 = .ok (.iload 4, 2) := by decide +kernel
theorem dX5_clip_67 : decode cX5_clip 67 = .ok (.iadd, 1) := by decide +kernel
theorem dX5_clip_68 : decode cX5_clip 68 = .ok (.aload_n 0, 1) := by decide +kernel
theorem dX5_clip_69 : decode cX5_clip 69 = .ok (.getfield 13, 3) := by decide +kernel
theorem dX5_clip_72 : decode cX5_clip 72 = .ok (.bipush 48, 2) := by decide +kernel
theorem dX5_clip_74 : decode cX5_clip 74 = .ok (.iload_n 3, 1) := by decide +kernel
theorem dX5_clip_75 : decode cX5_clip 75 = .ok (.imul, 1) := by decide +kernel
theorem dX5_clip_76 : decode cX5_clip 76 = .ok (.iload 4, 2) := by decide +kernel
theorem dX5_clip_78 : decode cX5_clip 78 = .ok (.iadd, 1) := by decide +kernel
theorem dX5_clip_79 : decode cX5_clip 79 = .ok (.iaload, 1) := by decide +kernel
theorem dX5_clip_80 : decode cX5_clip 80 = .ok (.aload_n 0, 1) := by decide +kernel
theorem dX5_clip_81 : decode cX5_clip 81 = .ok (.iload 4, 2) := by decide +kernel
theorem dX5_clip_83 : decode cX5_clip 83 = .ok (.invokevirtual 116, 3) := by decide +kernel
theorem dX5_clip_86 : decode cX5_clip 86 = .ok (.invokestatic 120, 3) := by decide +kernel
theorem dX5_clip_89 : decode cX5_clip 89 = .ok (.iastore, 1) := by decide +kernel
theorem dX5_clip_90 : decode cX5_clip 90 = .ok (.aload_n 0, 1) := by decide +kernel
theorem dX5_clip_91 : decode cX5_clip 91 = .ok (.getfield 13, 3) := by decide +kernel
theorem dX5_clip_94 : decode cX5_clip 94 = .ok (.bipush 48, 2) := by decide +kernel
theorem dX5_clip_96 : decode cX5_clip 96 = .ok (.iload_n 3, 1) := by decide +kernel
theorem dX5_clip_97 : decode cX5_clip 97 = .ok (.imul, 1) := by decide +kernel
theorem dX5_clip_98 : decode cX5_clip 98 = .ok (.iload 4, 2) := by decide +kernel
theorem dX5_clip_100 : decode cX5_clip 100 = .ok (.iadd, 1) := by decide +kernel
theorem dX5_clip_101 : decode cX5_clip 101 = .ok (.iaload, 1) := by decide +kernel
theorem dX5_clip_102 : decode cX5_clip 102 = .ok (.ifCond .le 9, 3) := by decide +kernel
theorem dX5_clip_105 : decode cX5_clip 105 = .ok (.iload_n 2, 1) := by decide +kernel
theorem dX5_clip_106 : decode cX5_clip 106 = .ok (.iconst 1, 1) := by decide +kernel
theorem dX5_clip_107 : decode cX5_clip 107 = .ok (.iadd, 1) := by decide +kernel
theorem dX5_clip_108 : decode cX5_clip 108 = .ok (.goto 4, 3) := by decide +kernel
theorem dX5_clip_111 : decode cX5_clip 111 = .ok (.iload_n 2, 1) := by decide +kernel
theorem dX5_clip_112 : decode cX5_clip 112 = .ok (.istore_n 2, 1) := by decide +kernel
theorem dX5_clip_113 : decode cX5_clip 113 = .ok (.iinc 4 1, 3) := by decide +kernel
theorem dX5_clip_116 : decode cX5_clip 116 = .ok (.goto (-68), 3) := by decide +kernel
theorem dX5_clip_119 : decode cX5_clip 119 = .ok (.iinc 3 1, 3) := by decide +kernel
theorem dX5_clip_122 : decode cX5_clip 122 = .ok (.goto (-91), 3) := by decide +kernel
theorem dX5_clip_125 : decode cX5_clip 125 = .ok (.aload_n 0, 1) := by decide +kernel
theorem dX5_clip_126 : decode cX5_clip 126 = .ok (.iconst 0, 1) := by decide +kernel
theorem dX5_clip_127 : decode cX5_clip 127 = .ok (.putfield 62, 3) := by decide +kernel
theorem dX5_clip_130 : decode cX5_clip 130 = .ok (.iload_n 2, 1) := by decide +kernel
theorem dX5_clip_131 : decode cX5_clip 131 = .ok (.ireturn, 1) := by decide +kernel
theorem dX5_end_0 : decode cX5_end 0 = .ok (.aload_n 0, 1) := by decide +kernel
theorem dX5_end_1 : decode cX5_end 1 = .ok (.iconst 0, 1) := by decide +kernel
theorem dX5_end_2 : decode cX5_end 2 = .ok (.putfield 55, 3) := by decide +kernel
theorem dX5_end_5 : decode cX5_end 5 = .ok (.aload_n 0, 1) := by decide +kernel
theorem dX5_end_6 : decode cX5_end 6 = .ok (.getfield 124, 3) := by decide +kernel
theorem dX5_end_9 : decode cX5_end 9 = .ok (.istore_n 1, 1) := by decide +kernel
theorem dX5_end_10 : decode cX5_end 10 = .ok (.aload_n 0, 1) := by decide +kernel
theorem dX5_end_11 : decode cX5_end 11 = .ok (.iconst 0, 1) := by decide +kernel
theorem dX5_end_12 : decode cX5_end 12 = .ok (.putfield 124, 3) := by decide +kernel
theorem dX5_end_15 : decode cX5_end 15 = .ok (.aload_n 0, 1) := by decide +kernel
theorem dX5_end_16 : decode cX5_end 16 = .ok (.iconst 0, 1) := by decide +kernel
theorem dX5_end_17 : decode cX5_end 17 = .ok (.putfield 62, 3) := by decide +kernel
theorem dX5_end_20 : decode cX5_end 20 = .ok (.iconst 0, 1) := by decide +kernel
theorem dX5_end_21 : decode cX5_end 21 = .ok (.istore_n 2, 1) := by decide +kernel
theorem dX5_end_22 : decode cX5_end 22 = .ok (.iload_n 2, 1) := by decide +kernel
theorem dX5_end_23 : decode cX5_end 23 = .ok (.sipush 2304, 3) := by decide +kernel
theorem dX5_end_26 : decode cX5_end 26 = .ok (.if_icmp .ge 18, 3) := by decide +kernel
theorem dX5_end_29 : decode cX5_end 29 = .ok (.aload_n 0, 1) := by decide +kernel
theorem dX5_end_30 : decode cX5_end 30 = .ok (.getfield 13, 3) := by decide +kernel
theorem dX5_end_33 : decode cX5_end 33 = .ok (.iload_n 2, 1) := by decide +kernel
theorem dX5_end_34 : decode cX5_end 34 = .ok (.sipush 255, 3) := by decide +kernel
theorem dX5_end_37 : decode cX5_end 37 = .ok (.iastore, 1) := by decide +kernel
theorem dX5_end_38 : decode cX5_end 38 = .ok (.iinc 2 1, 3) := by decide +kernel
theorem dX5_end_41 : decode cX5_end 41 = .ok (.goto (-19), 3) := by decide +kernel
theorem dX5_end_44 : decode cX5_end 44 = .ok (.iload_n 1, 1) := by decide +kernel
theorem dX5_end_45 : decode cX5_end 45 = .ok (.ireturn, 1) := by decide +kernel
theorem dX5_isPoint_0 : decode cX5_isPoint 0 = .ok (.iload_n 1, 1) := by decide +kernel
theorem dX5_isPoint_1 : decode cX5_isPoint 1 = .ok (.ifCond .lt 27, 3) := by decide +kernel
theorem dX5_isPoint_4 : decode cX5_isPoint 4 = .ok (.iload_n 1, 1) := by decide +kernel
theorem dX5_isPoint_5 : decode cX5_isPoint 5 = .ok (.aload_n 0, 1) := by decide +kernel
theorem dX5_isPoint_6 : decode cX5_isPoint 6 = .ok (.getfield 42, 3) := by decide +kernel
theorem dX5_isPoint_9 : decode cX5_isPoint 9 = .ok (.if_icmp .ge 19, 3) := by decide +kernel
theorem dX5_isPoint_12 : decode cX5_isPoint 12 = .ok (.iload_n 2, 1) := by decide +kernel
theorem dX5_isPoint_13 : decode cX5_isPoint 13 = .ok (.ifCond .lt 15, 3) := by decide +kernel
theorem dX5_isPoint_16 : decode cX5_isPoint 16 = .ok (.iload_n 2, 1) := by decide +kernel
theorem dX5_isPoint_17 : decode cX5_isPoint 17 = .ok (.aload_n 0, 1) := by decide +kernel
theorem dX5_isPoint_18 : decode cX5_isPoint 18 = .ok (.getfield 46, 3) := by decide +kernel
theorem dX5_isPoint_21 : decode cX5_isPoint 21 = .ok (.if_icmp .ge 7, 3) := by decide +kernel
theorem dX5_isPoint_24 : decode cX5_isPoint 24 = .ok (.iconst 1, 1) := by decide +kernel
theorem dX5_isPoint_25 : decode cX5_isPoint 25 = .ok (.goto 4, 3) := by decide +kernel
theorem dX5_isPoint_28 : decode cX5_isPoint 28 = .ok (.iconst 0, 1) := by decide +kernel
theorem dX5_isPoint_29 : decode cX5_isPoint 29 = .ok (.ireturn, 1) := by decide +kernel
set_option maxRecDepth 20000 in
theorem ggX5_point_X5_isPoint : GoodIn wsX5_point wsX5_isPoint := goodIn_r _ [8, 9, 10, 11, 12, 13, 14, 15, 16, 17, 18, 19, 20, 21, 22, 23, 24, 25, 26, 27, 28, 29, 30, 31] (by decide +kernel) (by decide +kernel)
set_option maxRecDepth 20000 in
theorem gX5_point_X5_isPoint : GoodIn wsX5_point (wsV RX5 131 RX5 yX5_isPoint wsX5_isPoint) := goodIn_app (goodIn_of _ (by decide +kernel)) ggX5_point_X5_isPoint
theorem dX5_point_0 : decode cX5_point 0 = .ok (.aload_n 0, 1) := by decide +kernel
theorem dX5_point_1 : decode cX5_point 1 = .ok (.aload_n 0, 1) := by decide +kernel
theorem dX5_point_2 : decode cX5_point 2 = .ok (.iload_n 1, 1) := by decide +kernel
theorem dX5_point_3 : decode cX5_point 3 = .ok (.iload_n 2, 1) := by decide +kernel
theorem dX5_point_4 : decode cX5_point 4 = .ok (.invokevirtual 131, 3) := by decide +kernel
theorem dX5_point_7 : decode cX5_point 7 = .ok (.ifCond .eq 19, 3) := by decide +kernel
theorem dX5_point_10 : decode cX5_point 10 = .ok (.iload_n 3, 1) := by decide +kernel
theorem dX5_point_11 : decode cX5_point 11 = .ok (.ifCond .lt 15, 3) := by decide +kernel
theorem dX5_point_14 : decode cX5_point 14 = .ok (.iload_n 3, 1) := by decide +kernel
theorem dX5_point_15 : decode cX5_point 15 = .ok (.aload_n 0, 1) := by decide +kernel
theorem dX5_point_16 : decode cX5_point 16 = .ok (.getfield 49, 3) := by decide +kernel
theorem dX5_point_19 : decode cX5_point 19 = .ok (.if_icmp .ge 7, 3) := by decide +kernel
theorem dX5_point_22 : decode cX5_point 22 = .ok (.iconst 0, 1) := by decide +kernel
theorem dX5_point_23 : decode cX5_point 23 = .ok (.goto 4, 3) := by decide +kernel
theorem dX5_point_26 : decode cX5_point 26 = .ok (.iconst 1, 1) := by decide +kernel
theorem dX5_point_27 : decode cX5_point 27 = .ok (.putfield 55, 3) := by decide +kernel
theorem dX5_point_30 : decode cX5_point 30 = .ok (.aload_n 0, 1) := by decide +kernel
theorem dX5_point_31 : decode cX5_point 31 = .ok (.getfield 55, 3) := by decide +kernel
theorem dX5_point_34 : decode cX5_point 34 = .ok (.ifCond .le 7, 3) := by decide +kernel
theorem dX5_point_37 : decode cX5_point 37 = .ok (.iconst 0, 1) := by decide +kernel
theorem dX5_point_38 : decode cX5_point 38 = .ok (.goto 20, 3) := by decide +kernel
theorem dX5_point_41 : decode cX5_point 41 = .ok (.aload_n 0, 1) := by decide +kernel
theorem dX5_point_42 : decode cX5_point 42 = .ok (.getfield 7, 3) := by decide +kernel
theorem dX5_point_45 : decode cX5_point 45 = .ok (.sipush 2304, 3) := by decide +kernel
theorem dX5_point_48 : decode cX5_point 48 = .ok (.iload_n 3, 1) := by decide +kernel
theorem dX5_point_49 : decode cX5_point 49 = .ok (.imul, 1) := by decide +kernel
theorem dX5_point_50 : decode cX5_point 50 = .ok (.bipush 48, 2) := by decide +kernel
theorem dX5_point_52 : decode cX5_point 52 = .ok (.iload_n 2, 1) := by decide +kernel
theorem dX5_point_53 : decode cX5_point 53 = .ok (.imul, 1) := by decide +kernel
theorem dX5_point_54 : decode cX5_point 54 = .ok (.iadd, 1) := by decide +kernel
theorem dX5_point_55 : decode cX5_point 55 = .ok (.iload_n 1, 1) := by decide +kernel
theorem dX5_point_56 : decode cX5_point 56 = .ok (.iadd, 1) := by decide +kernel
theorem dX5_point_57 : decode cX5_point 57 = .ok (.iaload, 1) := by decide +kernel
theorem dX5_point_58 : decode cX5_point 58 = .ok (.ireturn, 1) := by decide +kernel
set_option maxRecDepth 20000 in
theorem ggX5_cover_X5_isPoint : GoodIn wsX5_cover wsX5_isPoint := goodIn_r _ [6, 7, 8, 48, 49, 50, 51, 52, 53, 54, 55, 56, 57, 58, 59, 60, 61, 62, 63, 64, 65, 66, 67, 68] (by decide +kernel) (by decide +kernel)
set_option maxRecDepth 20000 in
theorem gX5_cover_X5_isPoint : GoodIn wsX5_cover (wsV RX5 131 RX5 yX5_isPoint wsX5_isPoint) := goodIn_app (goodIn_of _ (by decide +kernel)) ggX5_cover_X5_isPoint
set_option maxRecDepth 20000 in
theorem ggX5_cover_X5_coverRow : GoodIn wsX5_cover wsX5_coverRow := goodIn_ca (goodIn_r _ [12, 7, 13, 14, 15, 16, 17, 18, 19, 20, 21, 5, 22, 23, 24, 25, 26, 27, 28, 29, 30, 31, 32, 33, 34, 35, 36, 37, 38, 39, 40, 41, 42, 43, 48, 49, 50, 51, 52, 53, 54, 55, 56, 57, 58, 59, 60, 61, 62, 63, 64, 65, 66, 67, 68] (by decide +kernel) (by decide +kernel)) (goodIn_sub (fun _ h => List.mem_cons_of_mem _ (List.mem_append_right _ h)) (by decide +kernel))
set_option maxRecDepth 20000 in
theorem gX5_cover_X5_coverRow : GoodIn wsX5_cover (wsV RX5 112 RX5 yX5_coverRow wsX5_coverRow) := goodIn_app (goodIn_of _ (by decide +kernel)) ggX5_cover_X5_coverRow
set_option maxRecDepth 20000 in
theorem ggX5_cover_X5_coverAt : GoodIn wsX5_cover wsX5_coverAt := goodIn_ca (goodIn_r _ [47, 13, 48, 49, 50, 51, 52, 53, 54, 55, 56, 57, 58, 59, 60, 61, 62, 63, 64, 65, 66, 67, 68] (by decide +kernel) (by decide +kernel)) (goodIn_sub (fun _ h => List.mem_cons_of_mem _ (List.mem_append_right _ h)) (by decide +kernel))
set_option maxRecDepth 20000 in
theorem gX5_cover_X5_coverAt : GoodIn wsX5_cover (wsV RX5 116 RX5 yX5_coverAt wsX5_coverAt) := goodIn_app (goodIn_of _ (by decide +kernel)) ggX5_cover_X5_coverAt
theorem dX5_cover_0 : decode cX5_cover 0 = .ok (.aload_n 0, 1) := by decide +kernel
theorem dX5_cover_1 : decode cX5_cover 1 = .ok (.aload_n 0, 1) := by decide +kernel
theorem dX5_cover_2 : decode cX5_cover 2 = .ok (.iload_n 1, 1) := by decide +kernel
theorem dX5_cover_3 : decode cX5_cover 3 = .ok (.iload_n 2, 1) := by decide +kernel
theorem dX5_cover_4 : decode cX5_cover 4 = .ok (.invokevirtual 131, 3) := by decide +kernel
theorem dX5_cover_7 : decode cX5_cover 7 = .ok (.ifCond .eq 7, 3) := by decide +kernel
theorem dX5_cover_10 : decode cX5_cover 10 = .ok (.iconst 0, 1) := by decide +kernel
theorem dX5_cover_11 : decode cX5_cover 11 = .ok (.goto 4, 3) := by decide +kernel
theorem dX5_cover_14 : decode cX5_cover 14 = .ok (.iconst 1, 1) := by decide +kernel
theorem dX5_cover_15 : decode cX5_cover 15 = .ok (.putfield 55, 3) := by decide +kernel
theorem dX5_cover_18 : decode cX5_cover 18 = .ok (.aload_n 0, 1) := by decide +kernel
theorem dX5_cover_19 : decode cX5_cover 19 = .ok (.getfield 55, 3) := by decide +kernel
theorem dX5_cover_22 : decode cX5_cover 22 = .ok (.ifCond .le 5, 3) := by decide +kernel
theorem dX5_cover_25 : decode cX5_cover 25 = .ok (.iconst 0, 1) := by decide +kernel
theorem dX5_cover_26 : decode cX5_cover 26 = .ok (.ireturn, 1) := by decide +kernel
theorem dX5_cover_27 : decode cX5_cover 27 = .ok (.aload_n 0, 1) := by decide +kernel
theorem dX5_cover_28 : decode cX5_cover 28 = .ok (.iconst 0, 1) := by decide +kernel
theorem dX5_cover_29 : decode cX5_cover 29 = .ok (.iload_n 2, 1) := by decide +kernel
theorem dX5_cover_30 : decode cX5_cover 30 = .ok (.invokevirtual 112, 3) := by decide +kernel
theorem dX5_cover_33 : decode cX5_cover 33 = .ok (.aload_n 0, 1) := by decide +kernel
theorem dX5_cover_34 : decode cX5_cover 34 = .ok (.iload_n 1, 1) := by decide +kernel
theorem dX5_cover_35 : decode cX5_cover 35 = .ok (.invokevirtual 116, 3) := by decide +kernel
theorem dX5_cover_38 : decode cX5_cover 38 = .ok (.ireturn, 1) := by decide +kernel
theorem dX5_band_0 : decode cX5_band 0 = .ok (.aload_n 0, 1) := by decide +kernel
theorem dX5_band_1 : decode cX5_band 1 = .ok (.iconst 0, 1) := by decide +kernel
theorem dX5_band_2 : decode cX5_band 2 = .ok (.putfield 55, 3) := by decide +kernel
theorem dX5_band_5 : decode cX5_band 5 = .ok (.aload_n 0, 1) := by decide +kernel
theorem dX5_band_6 : decode cX5_band 6 = .ok (.iload_n 1, 1) := by decide +kernel
theorem dX5_band_7 : decode cX5_band 7 = .ok (.ifCond .ge 7, 3) := by decide +kernel
theorem dX5_band_10 : decode cX5_band 10 = .ok (.iconst 0, 1) := by decide +kernel
theorem dX5_band_11 : decode cX5_band 11 = .ok (.goto 19, 3) := by decide +kernel
theorem dX5_band_14 : decode cX5_band 14 = .ok (.iload_n 1, 1) := by decide +kernel
theorem dX5_band_15 : decode cX5_band 15 = .ok (.aload_n 0, 1) := by decide +kernel
theorem dX5_band_16 : decode cX5_band 16 = .ok (.getfield 46, 3) := by decide +kernel
theorem dX5_band_19 : decode cX5_band 19 = .ok (.if_icmp .le 10, 3) := by decide +kernel
theorem dX5_band_22 : decode cX5_band 22 = .ok (.aload_n 0, 1) := by decide +kernel
theorem dX5_band_23 : decode cX5_band 23 = .ok (.getfield 46, 3) := by decide +kernel
theorem dX5_band_26 : decode cX5_band 26 = .ok (.goto 4, 3) := by decide +kernel
theorem dX5_band_29 : decode cX5_band 29 = .ok (.iload_n 1, 1) := by decide +kernel
theorem dX5_band_30 : decode cX5_band 30 = .ok (.putfield 109, 3) := by decide +kernel
theorem dX5_band_33 : decode cX5_band 33 = .ok (.aload_n 0, 1) := by decide +kernel
theorem dX5_band_34 : decode cX5_band 34 = .ok (.iload_n 2, 1) := by decide +kernel
theorem dX5_band_35 : decode cX5_band 35 = .ok (.aload_n 0, 1) := by decide +kernel
theorem dX5_band_36 : decode cX5_band 36 = .ok (.getfield 109, 3) := by decide +kernel
theorem dX5_band_39 : decode cX5_band 39 = .ok (.if_icmp .ge 10, 3) := by decide +kernel
theorem dX5_band_42 : decode cX5_band 42 = .ok (.aload_n 0, 1) := by decide +kernel
theorem dX5_band_43 : decode cX5_band 43 = .ok (.getfield 109, 3) := by decide +kernel
theorem dX5_band_46 : decode cX5_band 46 = .ok (.goto 19, 3) := by decide +kernel
theorem dX5_band_49 : decode cX5_band 49 = .ok (.iload_n 2, 1) := by decide +kernel
theorem dX5_band_50 : decode cX5_band 50 = .ok (.aload_n 0, 1) := by decide +kernel
theorem dX5_band_51 : decode cX5_band 51 = .ok (.getfield 46, 3) := by decide +kernel
theorem dX5_band_54 : decode cX5_band 54 = .ok (.if_icmp .le 10, 3) := by decide +kernel
theorem dX5_band_57 : decode cX5_band 57 = .ok (.aload_n 0, 1) := by decide +kernel
theorem dX5_band_58 : decode cX5_band 58 = .ok (.getfield 46, 3) := by decide +kernel
theorem dX5_band_61 : decode cX5_band 61 = .ok (.goto 4, 3) := by decide +kernel
theorem dX5_band_64 : decode cX5_band 64 = .ok (.iload_n 2, 1) := by decide +kernel
theorem dX5_band_65 : decode cX5_band 65 = .ok (.putfield 52, 3) := by decide +kernel
theorem dX5_band_68 : decode cX5_band 68 = .ok (.aload_n 0, 1) := by decide +kernel
theorem dX5_band_69 : decode cX5_band 69 = .ok (.getfield 52, 3) := by decide +kernel
theorem dX5_band_72 : decode cX5_band 72 = .ok (.aload_n 0, 1) := by decide +kernel
theorem dX5_band_73 : decode cX5_band 73 = .ok (.getfield 109, 3) := by decide +kernel
theorem dX5_band_76 : decode cX5_band 76 = .ok (.isub, 1) := by decide +kernel
theorem dX5_band_77 : decode cX5_band 77 = .ok (.ireturn, 1) := by decide +kernel
theorem dX5_same_0 : decode cX5_same 0 = .ok (.aload_n 0, 1) := by decide +kernel
theorem dX5_same_1 : decode cX5_same 1 = .ok (.iconst 0, 1) := by decide +kernel
theorem dX5_same_2 : decode cX5_same 2 = .ok (.putfield 55, 3) := by decide +kernel
theorem dX5_same_5 : decode cX5_same 5 = .ok (.iload_n 1, 1) := by decide +kernel
theorem dX5_same_6 : decode cX5_same 6 = .ok (.iconst 1, 1) := by decide +kernel
theorem dX5_same_7 : decode cX5_same 7 = .ok (.if_icmp .lt 15, 3) := by decide +kernel
theorem dX5_same_10 : decode cX5_same 10 = .ok (.iload_n 1, 1) := by decide +kernel
theorem dX5_same_11 : decode cX5_same 11 = .ok (.aload_n 0, 1) := by decide +kernel
theorem dX5_same_12 : decode cX5_same 12 = .ok (.getfield 46, 3) := by decide +kernel
theorem dX5_same_15 : decode cX5_same 15 = .ok (.if_icmp .gt 7, 3) := by decide +kernel
theorem dX5_same_18 : decode cX5_same 18 = .ok (.iconst 1, 1) := by decide +kernel
theorem dX5_same_19 : decode cX5_same 19 = .ok (.goto 4, 3) := by decide +kernel
theorem dX5_same_22 : decode cX5_same 22 = .ok (.iconst 0, 1) := by decide +kernel
theorem dX5_same_23 : decode cX5_same 23 = .ok (.ireturn, 1) := by decide +kernel
theorem dX5_put_0 : decode cX5_put 0 = .ok (.aload_n 0, 1) := by decide +kernel
theorem dX5_put_1 : decode cX5_put 1 = .ok (.getfield 39, 3) := by decide +kernel
theorem dX5_put_4 : decode cX5_put 4 = .ok (.aload_n 0, 1) := by decide +kernel
theorem dX5_put_5 : decode cX5_put 5 = .ok (.getfield 135, 3) := by decide +kernel
theorem dX5_put_8 : decode cX5_put 8 = .ok (.iload_n 1, 1) := by decide +kernel
theorem dX5_put_9 : decode cX5_put 9 = .ok (.sipush 255, 3) := by decide +kernel
theorem dX5_put_12 : decode cX5_put 12 = .ok (.iand, 1) := by decide +kernel
theorem dX5_put_13 : decode cX5_put 13 = .ok (.iastore, 1) := by decide +kernel
theorem dX5_put_14 : decode cX5_put 14 = .ok (.aload_n 0, 1) := by decide +kernel
theorem dX5_put_15 : decode cX5_put 15 = .ok (.dup, 1) := by decide +kernel
theorem dX5_put_16 : decode cX5_put 16 = .ok (.getfield 135, 3) := by decide +kernel
theorem dX5_put_19 : decode cX5_put 19 = .ok (.iconst 1, 1) := by decide +kernel
theorem dX5_put_20 : decode cX5_put 20 = .ok (.iadd, 1) := by decide +kernel
theorem dX5_put_21 : decode cX5_put 21 = .ok (.putfield 135, 3) := by decide +kernel
theorem dX5_put_24 : decode cX5_put 24 = .ok (.return_, 1) := by decide +kernel
theorem dX5_runAt_0 : decode cX5_runAt 0 = .ok (.iconst 1, 1) := by decide +kernel
theorem dX5_runAt_1 : decode cX5_runAt 1 = .ok (.istore_n 3, 1) := by decide +kernel
theorem dX5_runAt_2 : decode cX5_runAt 2 = .ok (.iload_n 3, 1) := by decide +kernel
theorem dX5_runAt_3 : decode cX5_runAt 3 = .ok (.iload_n 2, 1) := by decide +kernel
theorem dX5_runAt_4 : decode cX5_runAt 4 = .ok (.if_icmp .ge 32, 3) := by decide +kernel
theorem dX5_runAt_7 : decode cX5_runAt 7 = .ok (.iload_n 3, 1) := by decide +kernel
theorem dX5_runAt_8 : decode cX5_runAt 8 = .ok (.bipush 64, 2) := by decide +kernel
theorem dX5_runAt_10 : decode cX5_runAt 10 = .ok (.if_icmp .ge 26, 3) := by decide +kernel
theorem dX5_runAt_13 : decode cX5_runAt 13 = .ok (.aload_n 0, 1) := by decide +kernel
theorem dX5_runAt_14 : decode cX5_runAt 14 = .ok (.getfield 7, 3) := by decide +kernel
theorem dX5_runAt_17 : decode cX5_runAt 17 = .ok (.iload_n 1, 1) := by decide +kernel
theorem dX5_runAt_18 : decode cX5_runAt 18 = .ok (.iload_n 3, 1) := by decide +kernel
theorem dX5_runAt_19 : decode cX5_runAt 19 = .ok (.iadd, 1) := by decide +kernel
theorem dX5_runAt_20 : decode cX5_runAt 20 = .ok (.iaload, 1) := by decide +kernel
theorem dX5_runAt_21 : decode cX5_runAt 21 = .ok (.aload_n 0, 1) := by decide +kernel
theorem dX5_runAt_22 : decode cX5_runAt 22 = .ok (.getfield 7, 3) := by decide +kernel
theorem dX5_runAt_25 : decode cX5_runAt 25 = .ok (.iload_n 1, 1) := by decide +kernel
theorem dX5_runAt_26 : decode cX5_runAt 26 = .ok (.iaload, 1) := by decide +kernel
theorem dX5_runAt_27 : decode cX5_runAt 27 = .ok (.if_icmp .ne 9, 3) := by decide +kernel
theorem dX5_runAt_30 : decode cX5_runAt 30 = .ok (.iinc 3 1, 3) := by decide +kernel
theorem dX5_runAt_33 : decode cX5_runAt 33 = .ok (.goto (-31), 3) := by decide +kernel
theorem dX5_runAt_36 : decode cX5_runAt 36 = .ok (.iload_n 3, 1) := by decide +kernel
theorem dX5_runAt_37 : decode cX5_runAt 37 = .ok (.ireturn, 1) := by decide +kernel
set_option maxRecDepth 20000 in
theorem ggX5_packAll_X5_runAt : GoodIn wsX5_packAll wsX5_runAt := goodIn_ca (goodIn_r _ [11, 5, 17, 18, 19, 20, 21, 22, 23, 24, 25, 26, 27, 28, 29, 30, 31, 32, 33, 34, 35, 36, 37] (by decide +kernel) (by decide +kernel)) (goodIn_sub (fun _ h => List.mem_cons_of_mem _ (List.mem_append_right _ h)) (by decide +kernel))
set_option maxRecDepth 20000 in
theorem gX5_packAll_X5_runAt : GoodIn wsX5_packAll (wsV RX5 137 RX5 yX5_runAt wsX5_runAt) := goodIn_app (goodIn_of _ (by decide +kernel)) ggX5_packAll_X5_runAt
set_option maxRecDepth 20000 in
theorem ggX5_packAll_X5_put : GoodIn wsX5_packAll wsX5_put := goodIn_ca (goodIn_r _ [15, 16, 1, 17, 18, 19, 20, 21, 22, 23, 24, 25, 26, 27, 28, 29, 30, 31, 32, 33, 34, 35, 36, 37] (by decide +kernel) (by decide +kernel)) (goodIn_sub (fun _ h => List.mem_cons_of_mem _ (List.mem_append_right _ h)) (by decide +kernel))
set_option maxRecDepth 20000 in
theorem gX5_packAll_X5_put : GoodIn wsX5_packAll (wsV RX5 140 RX5 yX5_put wsX5_put) := goodIn_app (goodIn_of _ (by decide +kernel)) ggX5_packAll_X5_put
theorem dX5_packAll_0 : decode cX5_packAll 0 = .ok (.aload_n 0, 1) := by decide +kernel
theorem dX5_packAll_1 : decode cX5_packAll 1 = .ok (.iconst 0, 1) := by decide +kernel
theorem dX5_packAll_2 : decode cX5_packAll 2 = .ok (.putfield 135, 3) := by decide +kernel
theorem dX5_packAll_5 : decode cX5_packAll 5 = .ok (.iconst 0, 1) := by decide +kernel
theorem dX5_packAll_6 : decode cX5_packAll 6 = .ok (.istore_n 1, 1) := by decide +kernel
theorem dX5_packAll_7 : decode cX5_packAll 7 = .ok (.iload_n 1, 1) := by decide +kernel
theorem dX5_packAll_8 : decode cX5_packAll 8 = .ok (.aload_n 0, 1) := by decide +kernel
theorem dX5_packAll_9 : decode cX5_packAll 9 = .ok (.getfield 49, 3) := by decide +kernel
theorem dX5_packAll_12 : decode cX5_packAll 12 = .ok (.if_icmp .ge 183, 3) := by decide +kernel
theorem dX5_packAll_15 : decode cX5_packAll 15 = .ok (.iconst 0, 1) := by decide +kernel
theorem dX5_packAll_16 : decode cX5_packAll 16 = .ok (.istore_n 2, 1) := by decide +kernel
theorem dX5_packAll_17 : decode cX5_packAll 17 = .ok (.iload_n 2, 1) := by decide +kernel
theorem dX5_packAll_18 : decode cX5_packAll 18 = .ok (.aload_n 0, 1) := by decide +kernel
theorem dX5_packAll_19 : decode cX5_packAll 19 = .ok (.getfield 46, 3) := by decide +kernel
theorem dX5_packAll_22 : decode cX5_packAll 22 = .ok (.if_icmp .ge 167, 3) := by decide +kernel
theorem dX5_packAll_25 : decode cX5_packAll 25 = .ok (.iconst 0, 1) := by decide +kernel
theorem dX5_packAll_26 : decode cX5_packAll 26 = .ok (.istore_n 3, 1) := by decide +kernel
theorem dX5_packAll_27 : decode cX5_packAll 27 = .ok (.iload_n 3, 1) := by decide +kernel
theorem dX5_packAll_28 : decode cX5_packAll 28 = .ok (.aload_n 0, 1) := by decide +kernel
theorem dX5_packAll_29 : decode cX5_packAll 29 = .ok (.getfield 42, 3) := by decide +kernel
theorem dX5_packAll_32 : decode cX5_packAll 32 = .ok (.if_icmp .ge 151, 3) := by decide +kernel
theorem dX5_packAll_35 : decode cX5_packAll 35 = .ok (.sipush 2304, 3) := by decide +kernel
theorem dX5_packAll_38 : decode cX5_packAll 38 = .ok (.iload_n 1, 1) := by decide +kernel
theorem dX5_packAll_39 : decode cX5_packAll 39 = .ok (.imul, 1) := by decide +kernel
theorem dX5_packAll_40 : decode cX5_packAll 40 = .ok (.bipush 48, 2) := by decide +kernel
theorem dX5_packAll_42 : decode cX5_packAll 42 = .ok (.iload_n 2, 1) := by decide +kernel
theorem dX5_packAll_43 : decode cX5_packAll 43 = .ok (.imul, 1) := by decide +kernel
theorem dX5_packAll_44 : decode cX5_packAll 44 = .ok (.iadd, 1) := by decide +kernel
theorem dX5_packAll_45 : decode cX5_packAll 45 = .ok (.iload_n 3, 1) := by decide +kernel
theorem dX5_packAll_46 : decode cX5_packAll 46 = .ok (.iadd, 1) := by decide +kernel
theorem dX5_packAll_47 : decode cX5_packAll 47 = .ok (.istore 4, 2) := by decide +kernel
theorem dX5_packAll_49 : decode cX5_packAll 49 = .ok (.aload_n 0, 1) := by decide +kernel
theorem dX5_packAll_50 : decode cX5_packAll 50 = .ok (.iload 4, 2) := by decide +kernel
theorem dX5_packAll_52 : decode cX5_packAll 52 = .ok (.aload_n 0, 1) := by decide +kernel
theorem dX5_packAll_53 : decode cX5_packAll 53 = .ok (.getfield 42, 3) := by decide +kernel
theorem dX5_packAll_56 : decode cX5_packAll 56 = .ok (.iload_n 3, 1) := by decide +kernel
theorem dX5_packAll_57 : decode cX5_packAll 57 = .ok (.isub, 1) := by decide +kernel
theorem dX5_packAll_58 : decode cX5_packAll 58 = .ok (.invokevirtual 137, 3) := by decide +kernel
theorem dX5_packAll_61 : decode cX5_packAll 61 = .ok (.istore 5, 2) := by decide +kernel
theorem dX5_packAll_63 : decode cX5_packAll 63 = .ok (.iload 5, 2) := by decide +kernel
theorem dX5_packAll_65 : decode cX5_packAll 65 = .ok (.iconst 1, 1) := by decide +kernel
theorem dX5_packAll_66 : decode cX5_packAll 66 = .ok (.if_icmp .le 27, 3) := by decide +kernel
theorem dX5_packAll_69 : decode cX5_packAll 69 = .ok (.aload_n 0, 1) := by decide +kernel
theorem dX5_packAll_70 : decode cX5_packAll 70 = .ok (.sipush 128, 3) := by decide +kernel
theorem dX5_packAll_73 : decode cX5_packAll 73 = .ok (.iload 5, 2) := by decide +kernel
theorem dX5_packAll_75 : decode cX5_packAll 75 = .ok (.isub, 1) := by decide +kernel
theorem dX5_packAll_76 : decode cX5_packAll 76 = .ok (.invokevirtual 140, 3) := by decide +kernel
theorem dX5_packAll_79 : decode cX5_packAll 79 = .ok (.aload_n 0, 1) := by decide +kernel
theorem dX5_packAll_80 : decode cX5_packAll 80 = .ok (.aload_n 0, 1) := by decide +kernel
theorem dX5_packAll_81 : decode cX5_packAll 81 = .ok (.getfield 7, 3) := by decide +kernel
theorem dX5_packAll_84 : decode cX5_packAll 84 = .ok (.iload 4, 2) := by decide +kernel
theorem dX5_packAll_86 : decode cX5_packAll 86 = .ok (.iaload, 1) := by decide +kernel
theorem dX5_packAll_87 : decode cX5_packAll 87 = .ok (.invokevirtual 140, 3) := by decide +kernel
theorem dX5_packAll_90 : decode cX5_packAll 90 = .ok (.goto 85, 3) := by decide +kernel
theorem dX5_packAll_93 : decode cX5_packAll 93 = .ok (.iload_n 3, 1) := by decide +kernel
theorem dX5_packAll_94 : decode cX5_packAll 94 = .ok (.iload 5, 2) := by decide +kernel
theorem dX5_packAll_96 : decode cX5_packAll 96 = .ok (.iadd, 1) := by decide +kernel
theorem dX5_packAll_97 : decode cX5_packAll 97 = .ok (.aload_n 0, 1) := by decide +kernel
theorem dX5_packAll_98 : decode cX5_packAll 98 = .ok (.getfield 42, 3) := by decide +kernel
theorem dX5_packAll_101 : decode cX5_packAll 101 = .ok (.if_icmp .ge 38, 3) := by decide +kernel
theorem dX5_packAll_104 : decode cX5_packAll 104 = .ok (.iload 5, 2) := by decide +kernel
theorem dX5_packAll_106 : decode cX5_packAll 106 = .ok (.bipush 64, 2) := by decide +kernel
theorem dX5_packAll_108 : decode cX5_packAll 108 = .ok (.if_icmp .ge 31, 3) := by decide +kernel
theorem dX5_packAll_111 : decode cX5_packAll 111 = .ok (.aload_n 0, 1) := by decide +kernel
theorem dX5_packAll_112 : decode cX5_packAll 112 = .ok (.iload 4, 2) := by decide +kernel
theorem dX5_packAll_114 : decode cX5_packAll 114 = .ok (.iload 5, 2) := by decide +kernel
theorem dX5_packAll_116 : decode cX5_packAll 116 = .ok (.iadd, 1) := by decide +kernel
theorem dX5_packAll_117 : decode cX5_packAll 117 = .ok (.aload_n 0, 1) := by decide +kernel
theorem dX5_packAll_118 : decode cX5_packAll 118 = .ok (.getfield 42, 3) := by decide +kernel
theorem dX5_packAll_121 : decode cX5_packAll 121 = .ok (.iload_n 3, 1) := by decide +kernel
theorem dX5_packAll_122 : decode cX5_packAll 122 = .ok (.isub, 1) := by decide +kernel
theorem dX5_packAll_123 : decode cX5_packAll 123 = .ok (.iload 5, 2) := by decide +kernel
theorem dX5_packAll_125 : decode cX5_packAll 125 = .ok (.isub, 1) := by decide +kernel
theorem dX5_packAll_126 : decode cX5_packAll 126 = .ok (.invokevirtual 137, 3) := by decide +kernel
theorem dX5_packAll_129 : decode cX5_packAll 129 = .ok (.iconst 1, 1) := by decide +kernel
theorem dX5_packAll_130 : decode cX5_packAll 130 = .ok (.if_icmp .ne 9, 3) := by decide +kernel
theorem dX5_packAll_133 : decode cX5_packAll 133 = .ok (.iinc 5 1, 3) := by decide +kernel
theorem dX5_packAll_136 : decode cX5_packAll 136 = .ok (.goto (-43), 3) := by decide +kernel
theorem dX5_packAll_139 : decode cX5_packAll 139 = .ok (.aload_n 0, 1) := by decide +kernel
theorem dX5_packAll_140 : decode cX5_packAll 140 = .ok (.iload 5, 2) := by decide +kernel
theorem dX5_packAll_142 : decode cX5_packAll 142 = .ok (.invokevirtual 140, 3) := by decide +kernel
theorem dX5_packAll_145 : decode cX5_packAll 145 = .ok (.iconst 0, 1) := by decide +kernel
theorem dX5_packAll_146 : decode cX5_packAll 146 = .ok (.istore 6, 2) := by decide +kernel
theorem dX5_packAll_148 : decode cX5_packAll 148 = .ok (.iload 6, 2) := by decide +kernel
theorem dX5_packAll_150 : decode cX5_packAll 150 = .ok (.iload 5, 2) := by decide +kernel
theorem dX5_packAll_152 : decode cX5_packAll 152 = .ok (.if_icmp .ge 23, 3) := by decide +kernel
theorem dX5_packAll_155 : decode cX5_packAll 155 = .ok (.aload_n 0, 1) := by decide +kernel
theorem dX5_packAll_156 : decode cX5_packAll 156 = .ok (.aload_n 0, 1) := by decide +kernel
theorem dX5_packAll_157 : decode cX5_packAll 157 = .ok (.getfield 7, 3) := by decide +kernel
theorem dX5_packAll_160 : decode cX5_packAll 160 = .ok (.iload 4, 2) := by decide +kernel
theorem dX5_packAll_162 : decode cX5_packAll 162 = .ok (.iload 6, 2) := by decide +kernel
theorem dX5_packAll_164 : decode cX5_packAll 164 = .ok (.iadd, 1) := by decide +kernel
theorem dX5_packAll_165 : decode cX5_packAll 165 = .ok (.iaload, 1) := by decide +kernel
theorem dX5_packAll_166 : decode cX5_packAll 166 = .ok (.invokevirtual 140, 3) := by decide +kernel
theorem dX5_packAll_169 : decode cX5_packAll 169 = .ok (.iinc 6 1, 3) := by decide +kernel
theorem dX5_packAll_172 : decode cX5_packAll 172 = .ok (.goto (-24), 3) := by decide +kernel
theorem dX5_packAll_175 : decode cX5_packAll 175 = .ok (.iload_n 3, 1) := by decide +kernel
theorem dX5_packAll_176 : decode cX5_packAll 176 = .ok (.iload 5, 2) := by decide +kernel
theorem dX5_packAll_178 : decode cX5_packAll 178 = .ok (.iadd, 1) := by decide +kernel
theorem dX5_packAll_179 : decode cX5_packAll 179 = .ok (.istore_n 3, 1) := by decide +kernel
theorem dX5_packAll_180 : decode cX5_packAll 180 = .ok (.goto (-153), 3) := by decide +kernel
theorem dX5_packAll_183 : decode cX5_packAll 183 = .ok (.iinc 2 1, 3) := by decide +kernel
theorem dX5_packAll_186 : decode cX5_packAll 186 = .ok (.goto (-169), 3) := by decide +kernel
theorem dX5_packAll_189 : decode cX5_packAll 189 = .ok (.iinc 1 1, 3) := by decide +kernel
theorem dX5_packAll_192 : decode cX5_packAll 192 = .ok (.goto (-185), 3) := by decide +kernel
theorem dX5_packAll_195 : decode cX5_packAll 195 = .ok (.aload_n 0, 1) := by decide +kernel
theorem dX5_packAll_196 : decode cX5_packAll 196 = .ok (.iconst 1, 1) := by decide +kernel
theorem dX5_packAll_197 : decode cX5_packAll 197 = .ok (.putfield 127, 3) := by decide +kernel
theorem dX5_packAll_200 : decode cX5_packAll 200 = .ok (.return_, 1) := by decide +kernel
set_option maxRecDepth 20000 in
theorem ggX5_packed_X5_packAll : GoodIn wsX5_packed wsX5_packAll := goodIn_ca (goodIn_r _ [9, 2, 10, 11, 12, 13, 1, 14, 15, 16, 8, 17, 18, 19, 20, 21, 4, 22, 23, 24, 25, 26, 27, 28, 29, 30, 31, 32, 33, 34, 35, 36, 37, 38, 39, 40, 41, 42] (by decide +kernel) (by decide +kernel)) (goodIn_sub (fun _ h => List.mem_cons_of_mem _ (List.mem_append_right _ h)) (by decide +kernel))
set_option maxRecDepth 20000 in
theorem gX5_packed_X5_packAll : GoodIn wsX5_packed (wsV RX5 144 RX5 yX5_packAll wsX5_packAll) := goodIn_app (goodIn_of _ (by decide +kernel)) ggX5_packed_X5_packAll
theorem dX5_packed_0 : decode cX5_packed 0 = .ok (.aload_n 0, 1) := by decide +kernel
theorem dX5_packed_1 : decode cX5_packed 1 = .ok (.getfield 127, 3) := by decide +kernel
theorem dX5_packed_4 : decode cX5_packed 4 = .ok (.ifCond .ne 7, 3) := by decide +kernel
theorem dX5_packed_7 : decode cX5_packed 7 = .ok (.aload_n 0, 1) := by decide +kernel
theorem dX5_packed_8 : decode cX5_packed 8 = .ok (.invokevirtual 144, 3) := by decide +kernel
theorem dX5_packed_11 : decode cX5_packed 11 = .ok (.aload_n 0, 1) := by decide +kernel
theorem dX5_packed_12 : decode cX5_packed 12 = .ok (.iload_n 1, 1) := by decide +kernel
theorem dX5_packed_13 : decode cX5_packed 13 = .ok (.ifCond .lt 11, 3) := by decide +kernel
theorem dX5_packed_16 : decode cX5_packed 16 = .ok (.iload_n 1, 1) := by decide +kernel
theorem dX5_packed_17 : decode cX5_packed 17 = .ok (.aload_n 0, 1) := by decide +kernel
theorem dX5_packed_18 : decode cX5_packed 18 = .ok (.getfield 135, 3) := by decide +kernel
theorem dX5_packed_21 : decode cX5_packed 21 = .ok (.if_icmp .lt 7, 3) := by decide +kernel
theorem dX5_packed_24 : decode cX5_packed 24 = .ok (.iconst 1, 1) := by decide +kernel
theorem dX5_packed_25 : decode cX5_packed 25 = .ok (.goto 4, 3) := by decide +kernel
theorem dX5_packed_28 : decode cX5_packed 28 = .ok (.iconst 0, 1) := by decide +kernel
theorem dX5_packed_29 : decode cX5_packed 29 = .ok (.putfield 55, 3) := by decide +kernel
theorem dX5_packed_32 : decode cX5_packed 32 = .ok (.aload_n 0, 1) := by decide +kernel
theorem dX5_packed_33 : decode cX5_packed 33 = .ok (.getfield 55, 3) := by decide +kernel
theorem dX5_packed_36 : decode cX5_packed 36 = .ok (.ifCond .le 7, 3) := by decide +kernel
theorem dX5_packed_39 : decode cX5_packed 39 = .ok (.iconst 0, 1) := by decide +kernel
theorem dX5_packed_40 : decode cX5_packed 40 = .ok (.goto 10, 3) := by decide +kernel
theorem dX5_packed_43 : decode cX5_packed 43 = .ok (.aload_n 0, 1) := by decide +kernel
theorem dX5_packed_44 : decode cX5_packed 44 = .ok (.getfield 39, 3) := by decide +kernel
theorem dX5_packed_47 : decode cX5_packed 47 = .ok (.iload_n 1, 1) := by decide +kernel
theorem dX5_packed_48 : decode cX5_packed 48 = .ok (.iaload, 1) := by decide +kernel
theorem dX5_packed_49 : decode cX5_packed 49 = .ok (.i2b, 1) := by decide +kernel
theorem dX5_packed_50 : decode cX5_packed 50 = .ok (.ireturn, 1) := by decide +kernel
theorem dX5_over_0 : decode cX5_over 0 = .ok (.aload_n 0, 1) := by decide +kernel
theorem dX5_over_1 : decode cX5_over 1 = .ok (.iload_n 1, 1) := by decide +kernel
theorem dX5_over_2 : decode cX5_over 2 = .ok (.ifCond .lt 11, 3) := by decide +kernel
theorem dX5_over_5 : decode cX5_over 5 = .ok (.iload_n 1, 1) := by decide +kernel
theorem dX5_over_6 : decode cX5_over 6 = .ok (.aload_n 0, 1) := by decide +kernel
theorem dX5_over_7 : decode cX5_over 7 = .ok (.getfield 49, 3) := by decide +kernel
theorem dX5_over_10 : decode cX5_over 10 = .ok (.if_icmp .lt 7, 3) := by decide +kernel
theorem dX5_over_13 : decode cX5_over 13 = .ok (.iconst 1, 1) := by decide +kernel
theorem dX5_over_14 : decode cX5_over 14 = .ok (.goto 4, 3) := by decide +kernel
theorem dX5_over_17 : decode cX5_over 17 = .ok (.iconst 0, 1) := by decide +kernel
theorem dX5_over_18 : decode cX5_over 18 = .ok (.putfield 55, 3) := by decide +kernel
theorem dX5_over_21 : decode cX5_over 21 = .ok (.aload_n 0, 1) := by decide +kernel
theorem dX5_over_22 : decode cX5_over 22 = .ok (.getfield 55, 3) := by decide +kernel
theorem dX5_over_25 : decode cX5_over 25 = .ok (.ifCond .le 5, 3) := by decide +kernel
theorem dX5_over_28 : decode cX5_over 28 = .ok (.iconst 0, 1) := by decide +kernel
theorem dX5_over_29 : decode cX5_over 29 = .ok (.ireturn, 1) := by decide +kernel
theorem dX5_over_30 : decode cX5_over 30 = .ok (.aload_n 0, 1) := by decide +kernel
theorem dX5_over_31 : decode cX5_over 31 = .ok (.getfield 16, 3) := by decide +kernel
theorem dX5_over_34 : decode cX5_over 34 = .ok (.iload_n 1, 1) := by decide +kernel
theorem dX5_over_35 : decode cX5_over 35 = .ok (.baload, 1) := by decide +kernel
theorem dX5_over_36 : decode cX5_over 36 = .ok (.ifCond .eq 7, 3) := by decide +kernel
theorem dX5_over_39 : decode cX5_over 39 = .ok (.iconst 1, 1) := by decide +kernel
theorem dX5_over_40 : decode cX5_over 40 = .ok (.goto 4, 3) := by decide +kernel
theorem dX5_over_43 : decode cX5_over 43 = .ok (.iconst 0, 1) := by decide +kernel
theorem dX5_over_44 : decode cX5_over 44 = .ok (.istore_n 3, 1) := by decide +kernel
theorem dX5_over_45 : decode cX5_over 45 = .ok (.aload_n 0, 1) := by decide +kernel
theorem dX5_over_46 : decode cX5_over 46 = .ok (.getfield 16, 3) := by decide +kernel
theorem dX5_over_49 : decode cX5_over 49 = .ok (.iload_n 1, 1) := by decide +kernel
theorem dX5_over_50 : decode cX5_over 50 = .ok (.iload_n 2, 1) := by decide +kernel
theorem dX5_over_51 : decode cX5_over 51 = .ok (.bastore, 1) := by decide +kernel
theorem dX5_over_52 : decode cX5_over 52 = .ok (.iload_n 3, 1) := by decide +kernel
theorem dX5_over_53 : decode cX5_over 53 = .ok (.ireturn, 1) := by decide +kernel
theorem dJx00060_init_a7421_0 : decode cJx00060_init_a7421 0 = .ok (.aload_n 0, 1) := by decide +kernel
theorem dJx00060_init_a7421_1 : decode cJx00060_init_a7421 1 = .ok (.aload_n 1, 1) := by decide +kernel
theorem dJx00060_init_a7421_2 : decode cJx00060_init_a7421 2 = .ok (.invokespecial 7, 3) := by decide +kernel
theorem dJx00060_init_a7421_5 : decode cJx00060_init_a7421 5 = .ok (.return_, 1) := by decide +kernel
theorem dJ9_floorDiv_f86c9_0 : decode cJ9_floorDiv_f86c9 0 = .ok (.lload_n 0, 1) := by decide +kernel
theorem dJ9_floorDiv_f86c9_1 : decode cJ9_floorDiv_f86c9 1 = .ok (.lload_n 2, 1) := by decide +kernel
theorem dJ9_floorDiv_f86c9_2 : decode cJ9_floorDiv_f86c9 2 = .ok (.ldiv, 1) := by decide +kernel
theorem dJ9_floorDiv_f86c9_3 : decode cJ9_floorDiv_f86c9 3 = .ok (.lstore 4, 2) := by decide +kernel
theorem dJ9_floorDiv_f86c9_5 : decode cJ9_floorDiv_f86c9 5 = .ok (.lload_n 0, 1) := by decide +kernel
theorem dJ9_floorDiv_f86c9_6 : decode cJ9_floorDiv_f86c9 6 = .ok (.lload_n 2, 1) := by decide +kernel
theorem dJ9_floorDiv_f86c9_7 : decode cJ9_floorDiv_f86c9 7 = .ok (.lxor, 1) := by decide +kernel
theorem dJ9_floorDiv_f86c9_8 : decode cJ9_floorDiv_f86c9 8 = .ok (.lconst 0, 1) := by decide +kernel
theorem dJ9_floorDiv_f86c9_9 : decode cJ9_floorDiv_f86c9 9 = .ok (.lcmp, 1) := by decide +kernel
theorem dJ9_floorDiv_f86c9_10 : decode cJ9_floorDiv_f86c9 10 = .ok (.ifCond .ge 17, 3) := by decide +kernel
theorem dJ9_floorDiv_f86c9_13 : decode cJ9_floorDiv_f86c9 13 = .ok (.lload 4, 2) := by decide +kernel
theorem dJ9_floorDiv_f86c9_15 : decode cJ9_floorDiv_f86c9 15 = .ok (.lload_n 2, 1) := by decide +kernel
theorem dJ9_floorDiv_f86c9_16 : decode cJ9_floorDiv_f86c9 16 = .ok (.lmul, 1) := by decide +kernel
theorem dJ9_floorDiv_f86c9_17 : decode cJ9_floorDiv_f86c9 17 = .ok (.lload_n 0, 1) := by decide +kernel
theorem dJ9_floorDiv_f86c9_18 : decode cJ9_floorDiv_f86c9 18 = .ok (.lcmp, 1) := by decide +kernel
theorem dJ9_floorDiv_f86c9_19 : decode cJ9_floorDiv_f86c9 19 = .ok (.ifCond .eq 8, 3) := by decide +kernel
theorem dJ9_floorDiv_f86c9_22 : decode cJ9_floorDiv_f86c9 22 = .ok (.lload 4, 2) := by decide +kernel
theorem dJ9_floorDiv_f86c9_24 : decode cJ9_floorDiv_f86c9 24 = .ok (.lconst 1, 1) := by decide +kernel
theorem dJ9_floorDiv_f86c9_25 : decode cJ9_floorDiv_f86c9 25 = .ok (.lsub, 1) := by decide +kernel
theorem dJ9_floorDiv_f86c9_26 : decode cJ9_floorDiv_f86c9 26 = .ok (.lreturn, 1) := by decide +kernel
theorem dJ9_floorDiv_f86c9_27 : decode cJ9_floorDiv_f86c9 27 = .ok (.lload 4, 2) := by decide +kernel
theorem dJ9_floorDiv_f86c9_29 : decode cJ9_floorDiv_f86c9 29 = .ok (.lreturn, 1) := by decide +kernel
theorem dJ9_abs_0f7a4_0 : decode cJ9_abs_0f7a4 0 = .ok (.iload_n 0, 1) := by decide +kernel
theorem dJ9_abs_0f7a4_1 : decode cJ9_abs_0f7a4 1 = .ok (.ifCond .ge 8, 3) := by decide +kernel
theorem dJ9_abs_0f7a4_4 : decode cJ9_abs_0f7a4 4 = .ok (.iload_n 0, 1) := by decide +kernel
theorem dJ9_abs_0f7a4_5 : decode cJ9_abs_0f7a4 5 = .ok (.ineg, 1) := by decide +kernel
theorem dJ9_abs_0f7a4_6 : decode cJ9_abs_0f7a4 6 = .ok (.goto 4, 3) := by decide +kernel
theorem dJ9_abs_0f7a4_9 : decode cJ9_abs_0f7a4 9 = .ok (.iload_n 0, 1) := by decide +kernel
theorem dJ9_abs_0f7a4_10 : decode cJ9_abs_0f7a4 10 = .ok (.ireturn, 1) := by decide +kernel
theorem dJ9_max_7cf53_0 : decode cJ9_max_7cf53 0 = .ok (.iload_n 0, 1) := by decide +kernel
theorem dJ9_max_7cf53_1 : decode cJ9_max_7cf53 1 = .ok (.iload_n 1, 1) := by decide +kernel
theorem dJ9_max_7cf53_2 : decode cJ9_max_7cf53 2 = .ok (.if_icmp .lt 7, 3) := by decide +kernel
theorem dJ9_max_7cf53_5 : decode cJ9_max_7cf53 5 = .ok (.iload_n 0, 1) := by decide +kernel
theorem dJ9_max_7cf53_6 : decode cJ9_max_7cf53 6 = .ok (.goto 4, 3) := by decide +kernel
theorem dJ9_max_7cf53_9 : decode cJ9_max_7cf53 9 = .ok (.iload_n 1, 1) := by decide +kernel
theorem dJ9_max_7cf53_10 : decode cJ9_max_7cf53 10 = .ok (.ireturn, 1) := by decide +kernel
theorem dJ9_max_f86c9_0 : decode cJ9_max_f86c9 0 = .ok (.lload_n 0, 1) := by decide +kernel
theorem dJ9_max_f86c9_1 : decode cJ9_max_f86c9 1 = .ok (.lload_n 2, 1) := by decide +kernel
theorem dJ9_max_f86c9_2 : decode cJ9_max_f86c9 2 = .ok (.lcmp, 1) := by decide +kernel
theorem dJ9_max_f86c9_3 : decode cJ9_max_f86c9 3 = .ok (.ifCond .lt 7, 3) := by decide +kernel
theorem dJ9_max_f86c9_6 : decode cJ9_max_f86c9 6 = .ok (.lload_n 0, 1) := by decide +kernel
theorem dJ9_max_f86c9_7 : decode cJ9_max_f86c9 7 = .ok (.goto 4, 3) := by decide +kernel
theorem dJ9_max_f86c9_10 : decode cJ9_max_f86c9 10 = .ok (.lload_n 2, 1) := by decide +kernel
theorem dJ9_max_f86c9_11 : decode cJ9_max_f86c9 11 = .ok (.lreturn, 1) := by decide +kernel
theorem dJ9_min_7cf53_0 : decode cJ9_min_7cf53 0 = .ok (.iload_n 0, 1) := by decide +kernel
theorem dJ9_min_7cf53_1 : decode cJ9_min_7cf53 1 = .ok (.iload_n 1, 1) := by decide +kernel
theorem dJ9_min_7cf53_2 : decode cJ9_min_7cf53 2 = .ok (.if_icmp .gt 7, 3) := by decide +kernel
theorem dJ9_min_7cf53_5 : decode cJ9_min_7cf53 5 = .ok (.iload_n 0, 1) := by decide +kernel
theorem dJ9_min_7cf53_6 : decode cJ9_min_7cf53 6 = .ok (.goto 4, 3) := by decide +kernel
theorem dJ9_min_7cf53_9 : decode cJ9_min_7cf53 9 = .ok (.iload_n 1, 1) := by decide +kernel
theorem dJ9_min_7cf53_10 : decode cJ9_min_7cf53 10 = .ok (.ireturn, 1) := by decide +kernel
theorem dJ9_min_f86c9_0 : decode cJ9_min_f86c9 0 = .ok (.lload_n 0, 1) := by decide +kernel
theorem dJ9_min_f86c9_1 : decode cJ9_min_f86c9 1 = .ok (.lload_n 2, 1) := by decide +kernel
theorem dJ9_min_f86c9_2 : decode cJ9_min_f86c9 2 = .ok (.lcmp, 1) := by decide +kernel
theorem dJ9_min_f86c9_3 : decode cJ9_min_f86c9 3 = .ok (.ifCond .gt 7, 3) := by decide +kernel
theorem dJ9_min_f86c9_6 : decode cJ9_min_f86c9 6 = .ok (.lload_n 0, 1) := by decide +kernel
theorem dJ9_min_f86c9_7 : decode cJ9_min_f86c9 7 = .ok (.goto 4, 3) := by decide +kernel
theorem dJ9_min_f86c9_10 : decode cJ9_min_f86c9 10 = .ok (.lload_n 2, 1) := by decide +kernel
theorem dJ9_min_f86c9_11 : decode cJ9_min_f86c9 11 = .ok (.lreturn, 1) := by decide +kernel
theorem dJ7_fill_53178_0 : decode cJ7_fill_53178 0 = .ok (.iconst 0, 1) := by decide +kernel
theorem dJ7_fill_53178_1 : decode cJ7_fill_53178 1 = .ok (.istore_n 2, 1) := by decide +kernel
theorem dJ7_fill_53178_2 : decode cJ7_fill_53178 2 = .ok (.aload_n 0, 1) := by decide +kernel
theorem dJ7_fill_53178_3 : decode cJ7_fill_53178 3 = .ok (.arraylength, 1) := by decide +kernel
theorem dJ7_fill_53178_4 : decode cJ7_fill_53178 4 = .ok (.istore_n 3, 1) := by decide +kernel
theorem dJ7_fill_53178_5 : decode cJ7_fill_53178 5 = .ok (.iload_n 2, 1) := by decide +kernel
theorem dJ7_fill_53178_6 : decode cJ7_fill_53178 6 = .ok (.iload_n 3, 1) := by decide +kernel
theorem dJ7_fill_53178_7 : decode cJ7_fill_53178 7 = .ok (.if_icmp .ge 13, 3) := by decide +kernel
theorem dJ7_fill_53178_10 : decode cJ7_fill_53178 10 = .ok (.aload_n 0, 1) := by decide +kernel
theorem dJ7_fill_53178_11 : decode cJ7_fill_53178 11 = .ok (.iload_n 2, 1) := by decide +kernel
theorem dJ7_fill_53178_12 : decode cJ7_fill_53178 12 = .ok (.iload_n 1, 1) := by decide +kernel
theorem dJ7_fill_53178_13 : decode cJ7_fill_53178 13 = .ok (.iastore, 1) := by decide +kernel
theorem dJ7_fill_53178_14 : decode cJ7_fill_53178 14 = .ok (.iinc 2 1, 3) := by decide +kernel
theorem dJ7_fill_53178_17 : decode cJ7_fill_53178 17 = .ok (.goto (-12), 3) := by decide +kernel
theorem dJ7_fill_53178_20 : decode cJ7_fill_53178 20 = .ok (.return_, 1) := by decide +kernel
end
section
/-! my own rows: one world, one list of array classes, the words beside the tables -/
abbrev qCl : List vw_C := [(RX0, TX0, 3), (RX1, TX1, 2), (RX2, TX2, 4), (RX3, TX3, 2), (RX4, TX4, 12), (RX5, TX5, 21)]
abbrev qT (cI cZ cB cJ : ClassId) : List (ClassId × FieldType) := [(cI, .int), (cZ, .boolean), (cB, .byte), (cJ, .long)]
abbrev qUOE : String := "java/lang/UnsupportedOperationException"
abbrev qISE : String := "java/lang/IllegalStateException"
abbrev qIAE : String := "java/lang/IllegalArgumentException"
abbrev qAIO : String := "java/lang/ArrayIndexOutOfBoundsException"
/-- words that warm up with the machine: private members of nest mates, and what a throw asks -/
def nwL : List Cond := [
  .fieldLinkNest RX0 34 "RasterCover$Path" "xs" "[I" "RasterCover", .fieldLinkNest RX0 27 "RasterCover$Path" "ys" "[I" "RasterCover", .fieldLinkNest RX0 23 "RasterCover$Path" "begins" "[Z" "RasterCover", .fieldLinkNest RX0 22 "RasterCover$Path" "count" "I" "RasterCover",
  .fieldLinkNest RX4 83 "RasterCover$Path" "count" "I" "RasterCover", .fieldLinkNest RX3 43 "RasterCover$Crossings" "xs" "[I" "RasterCover", .fieldLinkNest RX3 40 "RasterCover$Crossings" "turns" "[I" "RasterCover", .fieldLinkNest RX3 36 "RasterCover$Crossings" "count" "I" "RasterCover",
  .fieldLinkNest RX4 139 "RasterCover$PackedRow" "signs" "[B" "RasterCover", .fieldLinkNest RX4 136 "RasterCover$PackedRow" "size" "I" "RasterCover",
  .methodLinkNest RX4 36 yX2_init "RasterCover", .methodLinkNest RX4 43 yX3_init "RasterCover", .methodLinkNest RX3 11 yX0_init "RasterCover", .methodLinkNest RX4 52 yX1_init "RasterCover", .methodLinkNest RX4 114 yX2_clear "RasterCover", .methodLinkNest RX4 79 yX2_begin "RasterCover", .methodLinkNest RX4 93 yX2_join "RasterCover",
  .methodLinkNest RX4 106 yX3_measure "RasterCover", .methodLinkNest RX3 28 yX0_collect "RasterCover", .methodLinkNest RX4 124 yX3_at "RasterCover", .methodLinkNest RX4 132 yX1_pack "RasterCover",
  .declares (Bundle.initS "java/lang/RuntimeException"), .declares (Bundle.initS "java/lang/Exception"), .declares (Bundle.initS "java/lang/IndexOutOfBoundsException"), .declares (Bundle.initS Bundle.tN),
  .castable qUOE qUOE, .castable qISE qISE, .castable qIAE qIAE, .castable qAIO qAIO]
def nwOk : Cond → Bool
  | .fieldLinkNest .. => true
  | .methodLinkNest .. => true
  | .declares _ => true
  | .castable .. => true
  | _ => false
theorem nwL_ok : ∀ w ∈ nwL, nwOk w = true := by decide +kernel
theorem nwOk_warm {w : Cond} (h : nwOk w = true) {s U : State} (hW : s.WarmedH U.vm) (hZ : va_Nw w s) : va_Nw w U := by
  cases w <;> first | exact va_Nw.warmF hW hZ | exact va_Nw.warmM hW hZ | exact va_Nw.warmD hW hZ | exact va_Nw.warmC hW hZ | cases h
theorem nwOk_tab {w : Cond} (h : nwOk w = true) : w.onTables = true := by
  cases w <;> first | rfl | cases h
abbrev nmRE : List String := ["java/lang/RuntimeException", "java/lang/Exception"]
abbrev nmIO : List String := ["java/lang/IndexOutOfBoundsException", "java/lang/RuntimeException", "java/lang/Exception"]
theorem at147_ok : ∀ w ∈ vx_atS RX4 147 qAIO nmIO, (nwOk w || goodWord w) = true := by decide +kernel
theorem nwG_warm {w : Cond} (h : (nwOk w || goodWord w) = true) {args : Array Value} {s U : State} (hW : s.WarmedH U.vm) (hZ : va_Nw w s) : w.before args U = true := by
  rcases (Bool.or_eq_true _ _).mp h with h | h
  · exact va_Nw.use (nwOk_tab h) (nwOk_warm h hW hZ)
  · exact word_at hW (good_of_word h) hZ
def NW (U : State) : Prop := (∀ w ∈ nwL, va_Nw w U) ∧ ((∃ a, vk_R RX4 150 "the path is full" a U) ∧ (∃ a, vk_R RX4 88 "no point to draw a line from" a U) ∧ (∃ a, vk_R RX4 155 "no such rule" a U) ∧ (∃ a, vk_R RX4 158 "no such plane" a U) ∧ (∃ a, vk_R RX4 160 "no such point" a U) ∧ (∃ a, vk_R RX4 145 "no such byte" a U)) ∧ va_Nc qUOE qISE U ∧ va_Nc qAIO qIAE U ∧ (∀ w ∈ vx_atS RX4 147 qAIO nmIO, va_Nw w U)
theorem NW.warm {s U : State} (hW : s.WarmedH U.vm) (h : NW s) : NW U := by
  obtain ⟨h1, ⟨⟨a1, g1⟩, ⟨a2, g2⟩, ⟨a3, g3⟩, ⟨a4, g4⟩, ⟨a5, g5⟩, ⟨a6, g6⟩⟩, h3, h4, h5⟩ := h
  exact ⟨fun w hw => nwOk_warm (nwL_ok w hw) hW (h1 w hw), ⟨⟨a1, vk_R.warm hW g1⟩, ⟨a2, vk_R.warm hW g2⟩, ⟨a3, vk_R.warm hW g3⟩, ⟨a4, vk_R.warm hW g4⟩, ⟨a5, vk_R.warm hW g5⟩, ⟨a6, vk_R.warm hW g6⟩⟩, va_Nc.moved hW.alike h3, va_Nc.moved hW.alike h4, fun w hw => nwG_warm (at147_ok w hw) hW (h5 w hw)⟩
theorem NW.same {u U : State} (hv : u.vm = U.vm) (h : NW u) : NW U := NW.warm (by rw [← hv]; exact State.WarmedH.refl u) h
theorem NW.at147 {s : State} {args : Array Value} (h : NW s) : ∀ w ∈ vx_atS RX4 147 qAIO nmIO, w.before args s = true := fun w hw => nwG_warm (at147_ok w hw) (State.WarmedH.refl s) (h.2.2.2.2 w hw)
theorem NW.w {s : State} (h : NW s) (i : Nat) {w : Cond} (hi : nwL[i]? = some w) : va_Nw w s := h.1 w (List.mem_of_getElem? hi)
theorem NW.u {s : State} {args : Array Value} (h : NW s) (i : Nat) {w : Cond} (hi : nwL[i]? = some w) : w.before args s = true := va_Nw.use (nwOk_tab (nwL_ok w (List.mem_of_getElem? hi))) (NW.w h i hi)
/-- a contract's start, and its end -/
def PC (D : va_G) (tys : List (ClassId × FieldType)) (w0 : va_W) (sz : Nat) (U : State) : Prop := U.heap.size = sz ∧ va_P D qCl w0 U.heap ∧ va_K D qCl tys U ∧ va_D (fun _ => True) w0 ∧ NW U
def PO (D : va_G) (tys : List (ClassId × FieldType)) (A : Nat → Prop) (w1 : va_W) (t : State) : Prop := va_P D qCl w1 t.heap ∧ va_K D qCl tys t ∧ va_D A w1
theorem PC.fb {D : va_G} {tys : List (ClassId × FieldType)} {w0 : va_W} {sz : Nat} {av : List Value} : FrameBlind (va_Pc av (PC D tys w0 sz)) := fun a U g mk q => by
  obtain ⟨q0, q1, qP, qK, qD, qN⟩ := q
  exact ⟨q0, q1, qP, va_K.moved (u := U) (U := U.calling g mk a) (Vm.Alike.refl U.vm) qK, qD, NW.same (u := U) (U := U.calling g mk a) rfl qN⟩
/-- the statics of Throwable that a throw reads -/
def ZZ (A : Nat → Prop) (U : State) (H : Heap) : Prop := vx_Zq Bundle.tN "UNASSIGNED_STACK" Bundle.steD A U H ∧ vx_Zq Bundle.tN "SUPPRESSED_SENTINEL" Bundle.listD A U H
theorem ZZ.moved {A : Nat → Prop} {u U : State} {H : Heap} (hvm : u.vm.Alike U.vm) (h : ZZ A u H) : ZZ A U H := ⟨vx_Zq.moved hvm h.1, vx_Zq.moved hvm h.2⟩
theorem ZZ.kept {A : Nat → Prop} {U : State} {H H1 : Heap} (h : ZZ A U H) (hq : ∀ a : Nat, a < H.size → ¬ A a → H1[a]? = H[a]?) : ZZ A U H1 := ⟨vx_Zq.kept h.1 hq, vx_Zq.kept h.2 hq⟩
theorem ZZ.narrow {A B : Nat → Prop} {U : State} {H : Heap} (h : ZZ A U H) (hAB : ∀ q, B q → A q) : ZZ B U H := ⟨vx_Zq.narrow h.1 hAB, vx_Zq.narrow h.2 hAB⟩
def PZ (D : va_G) (tys : List (ClassId × FieldType)) (w0 : va_W) (sz : Nat) (U : State) : Prop := PC D tys w0 sz U ∧ ZZ (va_A w0 sz) U U.heap
theorem PZ.fb {D : va_G} {tys : List (ClassId × FieldType)} {w0 : va_W} {sz : Nat} {av : List Value} : FrameBlind (va_Pc av (PZ D tys w0 sz)) := fun a U g mk q => by
  obtain ⟨q0, ⟨q1, qP, qK, qD, qN⟩, qZ⟩ := q
  exact ⟨q0, ⟨q1, qP, va_K.moved (u := U) (U := U.calling g mk a) (Vm.Alike.refl U.vm) qK, qD, NW.same (u := U) (U := U.calling g mk a) rfl qN⟩, ZZ.moved (u := U) (U := U.calling g mk a) (Vm.Alike.refl U.vm) qZ⟩
section QE
variable {l : Launch} {y : MethodName} {ws ws' : List Cond} {rm : Room} {D : va_G} {tys : List (ClassId × FieldType)} {w0 : va_W} {sz mc ms : Nat} {av : List Value} {cc : ByteArray} {maxL : Nat} {ret : Option FieldType} {S : Type}
/-- what a method's body has at its entry -/
def QAt (p : Program) (y : MethodName) (ws : List Cond) (D : va_G) (tys : List (ClassId × FieldType)) (w0 : va_W) (sz : Nat) (av : List Value) (cc : ByteArray) (maxL : Nat) (s : State) (m : MethodId) (meth : Method) (c : Code) (A : Nat → Prop) : Prop :=
  p.tables.exec = Jvm.exec ∧ c.code = cc ∧ c.maxLocals = maxL ∧ (∀ w ∈ ws, w.before av.toArray s = true) ∧ s.vm.findClass y.cls = some m.cls ∧ meth.name = y.name ∧ NW s ∧ va_K D qCl tys s ∧ s.heap.size = sz ∧ (∀ q : Nat, s.heap.size ≤ q → A q) ∧ va_P D qCl w0 s.heap ∧ va_D A w0 ∧ va_S A s.heap s.heap []
theorem q_at {p : Program} {e : Env} {s s₁ : State} {m : MethodId} {args : Array Value} {below : List Frame} {meth : Method} {c : Code} (B : BodyLoose p l y (headSpec ws rm) cc maxL ret e s m args below meth c s₁) (hml : c.maxLocals = maxL) (hv : va_Pc av (PC D tys w0 sz) args s) : args = av.toArray ∧ QAt p y ws D tys w0 sz av cc maxL s m meth c (va_A w0 sz) := by
  obtain ⟨rfl, hsz, hP, hK, hD0, hN⟩ := hv
  exact ⟨rfl, B.exec, B.bytes, hml, atoms_spec (ws := ws) B.pre, findClass_of_methodNamed B.named, (name_of_methodNamed B.named B.method).1, hN, hK, hsz, fun q h => Or.inr (by rw [← hsz]; exact h), hP, hD0.self, va_S.rf⟩
theorem q_ls (h : (lg_sl av).length ≤ maxL) {Pr : Array Slot → Prop} (k : ∀ ls, lv_has ls maxL (lv_args 0 av) → Pr ls) : Pr ((lg_sl av ++ List.replicate (maxL - (lg_sl av).length) Slot.unset).toArray) := k _ (lv_entry av h)
/-- entry of a method that returns an int (or boolean, byte: 'q_entZ') -/
theorem q_entI (hy : plainName y.cls = true) (hw : ws = Cond.code y cc maxL (some .int) :: ws') (hlen : (lg_sl av).length ≤ maxL) {post : Int32 → S → Prop} {w1 : S → va_W} {tys1 : List (ClassId × FieldType)}
    (body : ∀ (p : Program) (e : Env) (s : State) (m : MethodId) (below : List Frame) (meth : Method) (c : Code) (A : Nat → Prop) (Q : State → Prop) (ls : Array Slot), QAt p y ws D tys w0 sz av cc maxL s m meth c A → lv_has ls maxL (lv_args 0 av) →
      (∀ (H : Heap) (locs : List Loc) (pc : Nat) (ls : Array Slot) (r : Int32) (u : S) (k n : Nat), decode cc pc = .ok (.ireturn, 1) → k ≤ mc → n ≤ ms → post r u → va_P D qCl (w1 u) H → va_K D qCl tys1 s → va_D A (w1 u) → va_S A s.heap H locs → W p l e rm s m av.toArray below meth c H locs k n Q (F0 m pc ls [.int r])) →
      W p l e rm s m av.toArray below meth c s.heap [] 0 0 Q (F0 m 0 ls [])) :
    Met l y ws rm (va_Pc av (PC D tys w0 sz)) (va_Qi post (fun u => PO D tys1 (va_A w0 sz) (w1 u)) (va_A w0 sz)) mc ms (va_A w0 sz) := by
  refine Met.ofW (cc := cc) (maxL := maxL) (ret := some .int) hy hw ?_
  intro p e s m args below meth c s₁ B hml hv
  obtain ⟨rfl, hq⟩ := q_at B hml hv
  rw [lg_entry_eq]
  refine q_ls hlen (Pr := fun ls => W p l e rm s m av.toArray below meth c s.heap [] 0 0 (MQ below (va_Qi post (fun u => PO D tys1 (va_A w0 sz) (w1 u)) (va_A w0 sz)) av.toArray s mc ms (va_A w0 sz)) (F0 m 0 ls [])) (fun ls hl => ?_)
  refine body p e s m below meth c (va_A w0 sz) _ ls hq hl ?_
  intro H locs pc ls r u k n hd hk hn hp hP hK hD hS
  refine W.widen hk hn ?_
  exact W.iret (v := r) hq.1 hq.2.1 B.returns (fun t ht hW => ⟨⟨r, u, rfl, hp, by rw [ht]; exact hP, va_K.moved hW.alike hK, hD⟩, hS.F ht⟩) hS.2.2 hd B.notSynchronized
theorem q_entZ {ty : FieldType} (hy : plainName y.cls = true) (hw : ws = Cond.code y cc maxL (some ty) :: ws') (hlen : (lg_sl av).length ≤ maxL) {post : Int32 → S → Prop} {w1 : S → va_W} {tys1 : List (ClassId × FieldType)}
    (body : ∀ (p : Program) (e : Env) (s : State) (m : MethodId) (below : List Frame) (meth : Method) (c : Code) (A : Nat → Prop) (Q : State → Prop) (ls : Array Slot), QAt p y ws D tys w0 sz av cc maxL s m meth c A → lv_has ls maxL (lv_args 0 av) →
      (∀ (H : Heap) (locs : List Loc) (pc : Nat) (ls : Array Slot) (r : Int32) (u : S) (k n : Nat), narrow ty (.int r) = .int r → decode cc pc = .ok (.ireturn, 1) → k ≤ mc → n ≤ ms → post r u → va_P D qCl (w1 u) H → va_K D qCl tys1 s → va_D A (w1 u) → va_S A s.heap H locs → W p l e rm s m av.toArray below meth c H locs k n Q (F0 m pc ls [.int r])) →
      W p l e rm s m av.toArray below meth c s.heap [] 0 0 Q (F0 m 0 ls [])) :
    Met l y ws rm (va_Pc av (PC D tys w0 sz)) (va_Qi post (fun u => PO D tys1 (va_A w0 sz) (w1 u)) (va_A w0 sz)) mc ms (va_A w0 sz) := by
  refine Met.ofW (cc := cc) (maxL := maxL) (ret := some ty) hy hw ?_
  intro p e s m args below meth c s₁ B hml hv
  obtain ⟨rfl, hq⟩ := q_at B hml hv
  rw [lg_entry_eq]
  refine q_ls hlen (Pr := fun ls => W p l e rm s m av.toArray below meth c s.heap [] 0 0 (MQ below (va_Qi post (fun u => PO D tys1 (va_A w0 sz) (w1 u)) (va_A w0 sz)) av.toArray s mc ms (va_A w0 sz)) (F0 m 0 ls [])) (fun ls hl => ?_)
  refine body p e s m below meth c (va_A w0 sz) _ ls hq hl ?_
  intro H locs pc ls r u k n hnr hd hk hn hp hP hK hD hS
  refine W.widen hk hn ?_
  exact W.zret (v := r) hq.1 hq.2.1 B.returns hnr (fun t ht hW => ⟨⟨r, u, rfl, hp, by rw [ht]; exact hP, va_K.moved hW.alike hK, hD⟩, hS.F ht⟩) hS.2.2 hd B.notSynchronized
theorem q_entL (hy : plainName y.cls = true) (hw : ws = Cond.code y cc maxL (some .long) :: ws') (hlen : (lg_sl av).length ≤ maxL) {post : Int64 → S → Prop} {w1 : S → va_W} {tys1 : List (ClassId × FieldType)}
    (body : ∀ (p : Program) (e : Env) (s : State) (m : MethodId) (below : List Frame) (meth : Method) (c : Code) (A : Nat → Prop) (Q : State → Prop) (ls : Array Slot), QAt p y ws D tys w0 sz av cc maxL s m meth c A → lv_has ls maxL (lv_args 0 av) →
      (∀ (H : Heap) (locs : List Loc) (pc : Nat) (ls : Array Slot) (r : Int64) (u : S) (k n : Nat), decode cc pc = .ok (.lreturn, 1) → k ≤ mc → n ≤ ms → post r u → va_P D qCl (w1 u) H → va_K D qCl tys1 s → va_D A (w1 u) → va_S A s.heap H locs → W p l e rm s m av.toArray below meth c H locs k n Q (F0 m pc ls [.long r])) →
      W p l e rm s m av.toArray below meth c s.heap [] 0 0 Q (F0 m 0 ls [])) :
    Met l y ws rm (va_Pc av (PC D tys w0 sz)) (va_Ql post (fun u => PO D tys1 (va_A w0 sz) (w1 u)) (va_A w0 sz)) mc ms (va_A w0 sz) := by
  refine Met.ofW (cc := cc) (maxL := maxL) (ret := some .long) hy hw ?_
  intro p e s m args below meth c s₁ B hml hv
  obtain ⟨rfl, hq⟩ := q_at B hml hv
  rw [lg_entry_eq]
  refine q_ls hlen (Pr := fun ls => W p l e rm s m av.toArray below meth c s.heap [] 0 0 (MQ below (va_Ql post (fun u => PO D tys1 (va_A w0 sz) (w1 u)) (va_A w0 sz)) av.toArray s mc ms (va_A w0 sz)) (F0 m 0 ls [])) (fun ls hl => ?_)
  refine body p e s m below meth c (va_A w0 sz) _ ls hq hl ?_
  intro H locs pc ls r u k n hd hk hn hp hP hK hD hS
  refine W.widen hk hn ?_
  exact W.lret (v := r) hq.1 hq.2.1 B.returns (fun t ht hW => ⟨⟨r, u, rfl, hp, by rw [ht]; exact hP, va_K.moved hW.alike hK, hD⟩, hS.F ht⟩) hS.2.2 hd B.notSynchronized
theorem q_entLF (hy : plainFor y = true) (hw : ws = Cond.code y cc maxL (some .long) :: ws') (hlen : (lg_sl av).length ≤ maxL) {post : Int64 → S → Prop} {w1 : S → va_W} {tys1 : List (ClassId × FieldType)}
    (body : ∀ (p : Program) (e : Env) (s : State) (m : MethodId) (below : List Frame) (meth : Method) (c : Code) (A : Nat → Prop) (Q : State → Prop) (ls : Array Slot), QAt p y ws D tys w0 sz av cc maxL s m meth c A → lv_has ls maxL (lv_args 0 av) →
      (∀ (H : Heap) (locs : List Loc) (pc : Nat) (ls : Array Slot) (r : Int64) (u : S) (k n : Nat), decode cc pc = .ok (.lreturn, 1) → k ≤ mc → n ≤ ms → post r u → va_P D qCl (w1 u) H → va_K D qCl tys1 s → va_D A (w1 u) → va_S A s.heap H locs → W p l e rm s m av.toArray below meth c H locs k n Q (F0 m pc ls [.long r])) →
      W p l e rm s m av.toArray below meth c s.heap [] 0 0 Q (F0 m 0 ls [])) :
    Met l y ws rm (va_Pc av (PC D tys w0 sz)) (va_Ql post (fun u => PO D tys1 (va_A w0 sz) (w1 u)) (va_A w0 sz)) mc ms (va_A w0 sz) := by
  refine va_MetF (cc := cc) (maxL := maxL) (ret := some .long) hy hw ?_
  intro p e s m args below meth c s₁ B hml hv
  obtain ⟨rfl, hq⟩ := q_at B hml hv
  rw [lg_entry_eq]
  refine q_ls hlen (Pr := fun ls => W p l e rm s m av.toArray below meth c s.heap [] 0 0 (MQ below (va_Ql post (fun u => PO D tys1 (va_A w0 sz) (w1 u)) (va_A w0 sz)) av.toArray s mc ms (va_A w0 sz)) (F0 m 0 ls [])) (fun ls hl => ?_)
  refine body p e s m below meth c (va_A w0 sz) _ ls hq hl ?_
  intro H locs pc ls r u k n hd hk hn hp hP hK hD hS
  refine W.widen hk hn ?_
  exact W.lret (v := r) hq.1 hq.2.1 B.returns (fun t ht hW => ⟨⟨r, u, rfl, hp, by rw [ht]; exact hP, va_K.moved hW.alike hK, hD⟩, hS.F ht⟩) hS.2.2 hd B.notSynchronized
theorem q_entV (hy : plainName y.cls = true) (hw : ws = Cond.code y cc maxL none :: ws') (hlen : (lg_sl av).length ≤ maxL) {post : S → Prop} {w1 : S → va_W} {tys1 : List (ClassId × FieldType)}
    (body : ∀ (p : Program) (e : Env) (s : State) (m : MethodId) (below : List Frame) (meth : Method) (c : Code) (A : Nat → Prop) (Q : State → Prop) (ls : Array Slot), QAt p y ws D tys w0 sz av cc maxL s m meth c A → lv_has ls maxL (lv_args 0 av) →
      (∀ (H : Heap) (locs : List Loc) (pc : Nat) (ls : Array Slot) (u : S) (k n : Nat), decode cc pc = .ok (.return_, 1) → k ≤ mc → n ≤ ms → post u → va_P D qCl (w1 u) H → va_K D qCl tys1 s → va_D A (w1 u) → va_S A s.heap H locs → W p l e rm s m av.toArray below meth c H locs k n Q (F0 m pc ls [])) →
      W p l e rm s m av.toArray below meth c s.heap [] 0 0 Q (F0 m 0 ls [])) :
    Met l y ws rm (va_Pc av (PC D tys w0 sz)) (va_Qv post (fun u => PO D tys1 (va_A w0 sz) (w1 u)) (va_A w0 sz)) mc ms (va_A w0 sz) := by
  refine Met.ofW (cc := cc) (maxL := maxL) (ret := none) hy hw ?_
  intro p e s m args below meth c s₁ B hml hv
  obtain ⟨rfl, hq⟩ := q_at B hml hv
  rw [lg_entry_eq]
  refine q_ls hlen (Pr := fun ls => W p l e rm s m av.toArray below meth c s.heap [] 0 0 (MQ below (va_Qv post (fun u => PO D tys1 (va_A w0 sz) (w1 u)) (va_A w0 sz)) av.toArray s mc ms (va_A w0 sz)) (F0 m 0 ls [])) (fun ls hl => ?_)
  refine body p e s m below meth c (va_A w0 sz) _ ls hq hl ?_
  intro H locs pc ls u k n hd hk hn hp hP hK hD hS
  refine W.widen hk hn ?_
  exact W.vret hq.1 hq.2.1 B.returns (fun t ht hW => ⟨⟨u, rfl, hp, by rw [ht]; exact hP, va_K.moved hW.alike hK, hD⟩, hS.F ht⟩) hS.2.2 hd B.notSynchronized
end QE
section QC
variable {p : Program} {l : Launch} {e : Env} {R : Room} {s : State} {m : MethodId} {args : Array Value} {below : List Frame} {meth : Method} {c : Code} {H : Heap} {locs : List Loc} {cells slots : Nat} {Q : State → Prop}
variable {cc : ByteArray} {pc : Nat} {ls : Array Slot} {rest st0 : List Value} {D : va_G} {A A0 : Nat → Prop} {a : Nat} {tys : List (ClassId × FieldType)} {ws wc wr : va_W} {H0 : Heap} {cl : List vw_C}
theorem q_eqi {x y : Int32} (h : x = y) (k : W p l e R s m args below meth c H locs cells slots Q (F0 m pc ls (.int y :: rest))) : W p l e R s m args below meth c H locs cells slots Q (F0 m pc ls (.int x :: rest)) := by rw [h]; exact k
theorem q_eql {x y : Int64} (h : x = y) (k : W p l e R s m args below meth c H locs cells slots Q (F0 m pc ls (.long y :: rest))) : W p l e R s m args below meth c H locs cells slots Q (F0 m pc ls (.long x :: rest)) := by rw [h]; exact k
/-- a callee's start -/
theorem q_pre (hP : va_P D qCl ws H) (hD : va_D A ws) (hK : va_K D qCl tys s) (hN : NW s) (isC : List Nat) (hn : va_nd isC = true) (hC : isC.map (fun i => ws[i]?) = wc.map some) {av : List Value} : PreS s H (va_Pc av (PC D tys wc H.size)) av := by
  have hD' := hD.sub isC hn hC
  have hP' : va_P D qCl wc H := by
    intro k q hq
    have h1 : (isC.map (fun i => ws[i]?))[k]? = some (some q) := by rw [hC, List.getElem?_map, hq]; rfl
    rw [List.getElem?_map] at h1
    cases hi : isC[k]? with
    | none => rw [hi] at h1; cases h1
    | some i => rw [hi] at h1; exact hP i q (Option.some.inj h1)
  exact ⟨PC.fb, fun U hU hW => ⟨rfl, by rw [hU], by rw [hU]; exact hP', va_K.moved hW.alike hK, hD'.weaken (fun _ _ _ _ => trivial), NW.warm hW hN⟩⟩
theorem q_preZ (hP : va_P D qCl ws H) (hD : va_D A ws) (hK : va_K D qCl tys s) (hN : NW s) (hS : va_S A H0 H locs) (hA : ∀ q, H0.size ≤ q → A q) (hZ : ZZ A s H0) (isC : List Nat) (hn : va_nd isC = true) (hC : isC.map (fun i => ws[i]?) = wc.map some) {av : List Value} : PreS s H (va_Pc av (PZ D tys wc H.size)) av := by
  have h := q_pre (av := av) hP hD hK hN isC hn hC
  have hF := va_free hD hS hA isC hC
  refine ⟨PZ.fb, fun U hU hW => ⟨rfl, (h.2 U hU hW).2, ?_⟩⟩
  rw [hU]
  exact ZZ.moved hW.alike ((hZ.kept hS.2.1).narrow hF)
theorem q_preV {C : String} {b : Addr} {As : List Value} {Pc : Array Value → State → Prop} (h : PreS s H Pc (.ref b :: As)) (hr : ∃ cell : Cell, H[b]? = some cell ∧ cell.vm.isStatics = false ∧ s.vm.findClass C = some cell.cls) : PreV s H C b Pc As := ⟨h.1, hr, h.2⟩
/-- behind a call of no making: the caller's other cells, and what the callee left -/
theorem q_i0 {S : Type} {post : Int32 → S → Prop} {w1 : S → va_W} {va : Array Value} (hr : va_Run p l e R s m args below meth c H locs cells slots 0 0 (F0 m pc ls st0) rest (va_Qi post (fun u => PO D tys (va_A wc H.size) (w1 u)) (va_A wc H.size) va) (va_A wc H.size)) (hS : va_S A H0 H locs) (hA : ∀ q, H0.size ≤ q → A q) (hP : va_P D qCl ws H) (hD : va_D A ws) (isC isR : List Nat) (hC : isC.map (fun i => ws[i]?) = wc.map some) (hR : isR.map (fun i => ws[i]?) = wr.map some) (hn : va_nd isR = true) (hdis : ∀ i ∈ isR, i ∉ isC)
    (kk : ∀ (r : Int32) (u : S) (H1 : Heap) (locs1 : List Loc), post r u → va_P D qCl (wr ++ w1 u) H1 → va_D A (wr ++ w1 u) → va_S A H0 H1 locs1 → W p l e R s m args below meth c H1 locs1 cells slots Q (F0 m (pc + 3) ls (.int r :: rest))) : W p l e R s m args below meth c H locs cells slots Q (F0 m pc ls st0) := by
  have hF := va_free hD hS hA isC hC
  refine va_calli hr hS (fun q _ h => hF q h) hF (fun r u t H1 locs1 ht hvm hp hB hz hk hS1 => ?_)
  obtain ⟨hP1, hK1, hD1⟩ := hB
  rw [ht] at hP1
  obtain ⟨hP2, hD2⟩ := va_join hP hD isC isR hC hR hn hdis hk hF hP1 hD1
  exact kk r u H1 locs1 hp hP2 hD2 hS1
theorem q_l0 {S : Type} {post : Int64 → S → Prop} {w1 : S → va_W} {va : Array Value} (hr : va_Run p l e R s m args below meth c H locs cells slots 0 0 (F0 m pc ls st0) rest (va_Ql post (fun u => PO D tys (va_A wc H.size) (w1 u)) (va_A wc H.size) va) (va_A wc H.size)) (hS : va_S A H0 H locs) (hA : ∀ q, H0.size ≤ q → A q) (hP : va_P D qCl ws H) (hD : va_D A ws) (isC isR : List Nat) (hC : isC.map (fun i => ws[i]?) = wc.map some) (hR : isR.map (fun i => ws[i]?) = wr.map some) (hn : va_nd isR = true) (hdis : ∀ i ∈ isR, i ∉ isC)
    (kk : ∀ (r : Int64) (u : S) (H1 : Heap) (locs1 : List Loc), post r u → va_P D qCl (wr ++ w1 u) H1 → va_D A (wr ++ w1 u) → va_S A H0 H1 locs1 → W p l e R s m args below meth c H1 locs1 cells slots Q (F0 m (pc + 3) ls (.long r :: rest))) : W p l e R s m args below meth c H locs cells slots Q (F0 m pc ls st0) := by
  have hF := va_free hD hS hA isC hC
  refine va_calll hr hS (fun q _ h => hF q h) hF (fun r u t H1 locs1 ht hvm hp hB hz hk hS1 => ?_)
  obtain ⟨hP1, hK1, hD1⟩ := hB
  rw [ht] at hP1
  obtain ⟨hP2, hD2⟩ := va_join hP hD isC isR hC hR hn hdis hk hF hP1 hD1
  exact kk r u H1 locs1 hp hP2 hD2 hS1
theorem q_v {S : Type} {post : S → Prop} {w1 : S → va_W} {va : Array Value} {mc ms : Nat} (hr : va_Run p l e R s m args below meth c H locs cells slots mc ms (F0 m pc ls st0) rest (va_Qv post (fun u => PO D tys (va_A wc H.size) (w1 u)) (va_A wc H.size) va) (va_A wc H.size)) (hS : va_S A H0 H locs) (hA : ∀ q, H0.size ≤ q → A q) (hP : va_P D qCl ws H) (hD : va_D A ws) (isC isR : List Nat) (hC : isC.map (fun i => ws[i]?) = wc.map some) (hR : isR.map (fun i => ws[i]?) = wr.map some) (hn : va_nd isR = true) (hdis : ∀ i ∈ isR, i ∉ isC)
    (kk : ∀ (u : S) (H1 : Heap) (locs1 : List Loc), post u → va_P D qCl (wr ++ w1 u) H1 → va_D A (wr ++ w1 u) → va_S A H0 H1 locs1 → W p l e R s m args below meth c H1 locs1 (cells + mc) (slots + ms) Q (F0 m (pc + 3) ls rest)) : W p l e R s m args below meth c H locs cells slots Q (F0 m pc ls st0) := by
  have hF := va_free hD hS hA isC hC
  refine va_callv hr hS (fun q _ h => hF q h) hF (fun u t H1 locs1 ht hvm hp hB hz hk hS1 => ?_)
  obtain ⟨hP1, hK1, hD1⟩ := hB
  rw [ht] at hP1
  obtain ⟨hP2, hD2⟩ := va_join hP hD isC isR hC hR hn hdis hk hF hP1 hD1
  exact kk u H1 locs1 hp hP2 hD2 hS1
theorem q_v0 {S : Type} {post : S → Prop} {w1 : S → va_W} {va : Array Value} (hr : va_Run p l e R s m args below meth c H locs cells slots 0 0 (F0 m pc ls st0) rest (va_Qv post (fun u => PO D tys (va_A wc H.size) (w1 u)) (va_A wc H.size) va) (va_A wc H.size)) (hS : va_S A H0 H locs) (hA : ∀ q, H0.size ≤ q → A q) (hP : va_P D qCl ws H) (hD : va_D A ws) (isC isR : List Nat) (hC : isC.map (fun i => ws[i]?) = wc.map some) (hR : isR.map (fun i => ws[i]?) = wr.map some) (hn : va_nd isR = true) (hdis : ∀ i ∈ isR, i ∉ isC)
    (kk : ∀ (u : S) (H1 : Heap) (locs1 : List Loc), post u → va_P D qCl (wr ++ w1 u) H1 → va_D A (wr ++ w1 u) → va_S A H0 H1 locs1 → W p l e R s m args below meth c H1 locs1 cells slots Q (F0 m (pc + 3) ls rest)) : W p l e R s m args below meth c H locs cells slots Q (F0 m pc ls st0) := q_v hr hS hA hP hD isC isR hC hR hn hdis kk
/-- array places by a number -/
theorem q_iald (hexec : p.tables.exec = Jvm.exec) (hb : c.code = cc) (hK : va_K D cl tys s) (hP : va_P D cl ws H) (q0 t0 : Nat) {cA : ClassId} {n : Nat} {f : Nat → Int32} (ha : ws[q0]? = some (a, .inl (cA, n, .inl f))) (ht : tys[t0]? = some (cA, .int)) {k : Nat} (hk : k < n) (h31 : n < 2 ^ 31) (hdg : decode cc pc = .ok (.iaload, 1))
    (kk : W p l e R s m args below meth c H locs cells slots Q (F0 m (pc + 1) ls (.int (f k) :: rest))) : W p l e R s m args below meth c H locs cells slots Q (F0 m pc ls (.int (nI k) :: .ref a :: rest)) := by
  refine va_iald hexec hb hK hP q0 t0 ha ht (vp_in_nI hk h31) hdg ?_
  rw [nI_clamp (Nat.lt_trans hk h31)]; exact kk
theorem q_zald (hexec : p.tables.exec = Jvm.exec) (hb : c.code = cc) (hK : va_K D cl tys s) (hP : va_P D cl ws H) (q0 t0 : Nat) {cA : ClassId} {n : Nat} {f : Nat → Int32} (ha : ws[q0]? = some (a, .inl (cA, n, .inl f))) (ht : tys[t0]? = some (cA, .boolean)) {k : Nat} (hk : k < n) (h31 : n < 2 ^ 31) (hdg : decode cc pc = .ok (.baload, 1))
    (kk : W p l e R s m args below meth c H locs cells slots Q (F0 m (pc + 1) ls (.int (f k) :: rest))) : W p l e R s m args below meth c H locs cells slots Q (F0 m pc ls (.int (nI k) :: .ref a :: rest)) := by
  refine va_zald hexec hb hK hP q0 t0 ha ht (vp_in_nI hk h31) hdg ?_
  rw [nI_clamp (Nat.lt_trans hk h31)]; exact kk
theorem q_bald (hexec : p.tables.exec = Jvm.exec) (hb : c.code = cc) (hK : va_K D cl tys s) (hP : va_P D cl ws H) (q0 t0 : Nat) {cA : ClassId} {n : Nat} {f : Nat → Int32} (ha : ws[q0]? = some (a, .inl (cA, n, .inl f))) (ht : tys[t0]? = some (cA, .byte)) {k : Nat} (hk : k < n) (h31 : n < 2 ^ 31) (hdg : decode cc pc = .ok (.baload, 1))
    (kk : W p l e R s m args below meth c H locs cells slots Q (F0 m (pc + 1) ls (.int (f k) :: rest))) : W p l e R s m args below meth c H locs cells slots Q (F0 m pc ls (.int (nI k) :: .ref a :: rest)) := by
  refine va_bald hexec hb hK hP q0 t0 ha ht (vp_in_nI hk h31) hdg ?_
  rw [nI_clamp (Nat.lt_trans hk h31)]; exact kk
theorem q_lald (hexec : p.tables.exec = Jvm.exec) (hb : c.code = cc) (hK : va_K D cl tys s) (hP : va_P D cl ws H) (q0 t0 : Nat) {cA : ClassId} {n : Nat} {f : Nat → Int64} (ha : ws[q0]? = some (a, .inl (cA, n, .inr (.inl f)))) (ht : tys[t0]? = some (cA, .long)) {k : Nat} (hk : k < n) (h31 : n < 2 ^ 31) (hdg : decode cc pc = .ok (.laload, 1))
    (kk : W p l e R s m args below meth c H locs cells slots Q (F0 m (pc + 1) ls (.long (f k) :: rest))) : W p l e R s m args below meth c H locs cells slots Q (F0 m pc ls (.int (nI k) :: .ref a :: rest)) := by
  refine va_lald hexec hb hK hP q0 t0 ha ht (vp_in_nI hk h31) hdg ?_
  rw [nI_clamp (Nat.lt_trans hk h31)]; exact kk
theorem q_iast (hexec : p.tables.exec = Jvm.exec) (hb : c.code = cc) (hK : va_K D cl tys s) (hP : va_P D cl ws H) (hD : va_D A ws) (hS : va_S A H0 H locs) (q0 t0 : Nat) {cA : ClassId} {n : Nat} {f : Nat → Int32} (ha : ws[q0]? = some (a, .inl (cA, n, .inl f))) (ht : tys[t0]? = some (cA, .int)) {k : Nat} {x : Int32} (hk : k < n) (h31 : n < 2 ^ 31) (hdg : decode cc pc = .ok (.iastore, 1))
    (kk : ∀ (H1 : Heap) (locs1 : List Loc), va_P D cl (ws.set q0 (a, .inl (cA, n, .inl (upd f k x)))) H1 → va_D A (ws.set q0 (a, .inl (cA, n, .inl (upd f k x)))) → va_S A H0 H1 locs1 → W p l e R s m args below meth c H1 locs1 cells slots Q (F0 m (pc + 1) ls rest)) : W p l e R s m args below meth c H locs cells slots Q (F0 m pc ls (.int x :: .int (nI k) :: .ref a :: rest)) := by
  refine va_iast hexec hb hK hP hD hS q0 t0 ha ht (vp_in_nI hk h31) hdg ?_
  rw [nI_clamp (Nat.lt_trans hk h31)]; exact kk
theorem q_zast (hexec : p.tables.exec = Jvm.exec) (hb : c.code = cc) (hK : va_K D cl tys s) (hP : va_P D cl ws H) (hD : va_D A ws) (hS : va_S A H0 H locs) (q0 t0 : Nat) {cA : ClassId} {n : Nat} {f : Nat → Int32} (ha : ws[q0]? = some (a, .inl (cA, n, .inl f))) (ht : tys[t0]? = some (cA, .boolean)) {k : Nat} {x : Int32} (hx : vp_nar .boolean x = x) (hk : k < n) (h31 : n < 2 ^ 31) (hdg : decode cc pc = .ok (.bastore, 1))
    (kk : ∀ (H1 : Heap) (locs1 : List Loc), va_P D cl (ws.set q0 (a, .inl (cA, n, .inl (upd f k x)))) H1 → va_D A (ws.set q0 (a, .inl (cA, n, .inl (upd f k x)))) → va_S A H0 H1 locs1 → W p l e R s m args below meth c H1 locs1 cells slots Q (F0 m (pc + 1) ls rest)) : W p l e R s m args below meth c H locs cells slots Q (F0 m pc ls (.int x :: .int (nI k) :: .ref a :: rest)) := by
  refine va_zast hexec hb hK hP hD hS q0 t0 ha ht (vp_in_nI hk h31) hdg ?_
  rw [nI_clamp (Nat.lt_trans hk h31), hx]; exact kk
theorem q_bast (hexec : p.tables.exec = Jvm.exec) (hb : c.code = cc) (hK : va_K D cl tys s) (hP : va_P D cl ws H) (hD : va_D A ws) (hS : va_S A H0 H locs) (q0 t0 : Nat) {cA : ClassId} {n : Nat} {f : Nat → Int32} (ha : ws[q0]? = some (a, .inl (cA, n, .inl f))) (ht : tys[t0]? = some (cA, .byte)) {k : Nat} {x : Int32} (hk : k < n) (h31 : n < 2 ^ 31) (hdg : decode cc pc = .ok (.bastore, 1))
    (kk : ∀ (H1 : Heap) (locs1 : List Loc), va_P D cl (ws.set q0 (a, .inl (cA, n, .inl (upd f k x.toInt8.toInt32)))) H1 → va_D A (ws.set q0 (a, .inl (cA, n, .inl (upd f k x.toInt8.toInt32)))) → va_S A H0 H1 locs1 → W p l e R s m args below meth c H1 locs1 cells slots Q (F0 m (pc + 1) ls rest)) : W p l e R s m args below meth c H locs cells slots Q (F0 m pc ls (.int x :: .int (nI k) :: .ref a :: rest)) := by
  refine va_bast hexec hb hK hP hD hS q0 t0 ha ht (vp_in_nI hk h31) hdg ?_
  rw [nI_clamp (Nat.lt_trans hk h31), vp_nar_byte]; exact kk
theorem q_last (hexec : p.tables.exec = Jvm.exec) (hb : c.code = cc) (hK : va_K D cl tys s) (hP : va_P D cl ws H) (hD : va_D A ws) (hS : va_S A H0 H locs) (q0 t0 : Nat) {cA : ClassId} {n : Nat} {f : Nat → Int64} (ha : ws[q0]? = some (a, .inl (cA, n, .inr (.inl f)))) (ht : tys[t0]? = some (cA, .long)) {k : Nat} {x : Int64} (hk : k < n) (h31 : n < 2 ^ 31) (hdg : decode cc pc = .ok (.lastore, 1))
    (kk : ∀ (H1 : Heap) (locs1 : List Loc), va_P D cl (ws.set q0 (a, .inl (cA, n, .inr (.inl (vp_updL f k x))))) H1 → va_D A (ws.set q0 (a, .inl (cA, n, .inr (.inl (vp_updL f k x))))) → va_S A H0 H1 locs1 → W p l e R s m args below meth c H1 locs1 cells slots Q (F0 m (pc + 1) ls rest)) : W p l e R s m args below meth c H locs cells slots Q (F0 m pc ls (.long x :: .int (nI k) :: .ref a :: rest)) := by
  refine va_last hexec hb hK hP hD hS q0 t0 ha ht (vp_in_nI hk h31) hdg ?_
  rw [nI_clamp (Nat.lt_trans hk h31)]; exact kk
/-- compares of numbers -/
theorem q_ge (hexec : p.tables.exec = Jvm.exec) (hb : c.code = cc) {x y : Nat} (h1 : x < 2 ^ 31) (h2 : y < 2 ^ 31) {off : Int} {tgt : Nat} (hdg : decode cc pc = .ok (.if_icmp .ge off, 3)) (ht : (pc : Int) + off = (tgt : Int)) (kt : y ≤ x → W p l e R s m args below meth c H locs cells slots Q (F0 m tgt ls rest)) (kf : x < y → W p l e R s m args below meth c H locs cells slots Q (F0 m (pc + 3) ls rest)) : W p l e R s m args below meth c H locs cells slots Q (F0 m pc ls (.int (nI y) :: .int (nI x) :: rest)) :=
  lv_icmp_ge hexec hb hdg ht (fun h => kt ((nI_leI h2 h1).mp h)) (fun h => kf (Nat.lt_of_not_le fun z => h ((nI_leI h2 h1).mpr z)))
theorem q_lt (hexec : p.tables.exec = Jvm.exec) (hb : c.code = cc) {x y : Nat} (h1 : x < 2 ^ 31) (h2 : y < 2 ^ 31) {off : Int} {tgt : Nat} (hdg : decode cc pc = .ok (.if_icmp .lt off, 3)) (ht : (pc : Int) + off = (tgt : Int)) (kt : x < y → W p l e R s m args below meth c H locs cells slots Q (F0 m tgt ls rest)) (kf : y ≤ x → W p l e R s m args below meth c H locs cells slots Q (F0 m (pc + 3) ls rest)) : W p l e R s m args below meth c H locs cells slots Q (F0 m pc ls (.int (nI y) :: .int (nI x) :: rest)) :=
  lv_icmp_lt hexec hb hdg ht (fun h => kt ((nI_ltI h1 h2).mp h)) (fun h => kf (Nat.le_of_not_lt fun z => h ((nI_ltI h1 h2).mpr z)))
theorem q_gt (hexec : p.tables.exec = Jvm.exec) (hb : c.code = cc) {x y : Nat} (h1 : x < 2 ^ 31) (h2 : y < 2 ^ 31) {off : Int} {tgt : Nat} (hdg : decode cc pc = .ok (.if_icmp .gt off, 3)) (ht : (pc : Int) + off = (tgt : Int)) (kt : y < x → W p l e R s m args below meth c H locs cells slots Q (F0 m tgt ls rest)) (kf : x ≤ y → W p l e R s m args below meth c H locs cells slots Q (F0 m (pc + 3) ls rest)) : W p l e R s m args below meth c H locs cells slots Q (F0 m pc ls (.int (nI y) :: .int (nI x) :: rest)) :=
  lv_icmp_gt hexec hb hdg ht (fun h => kt ((nI_ltI h2 h1).mp h)) (fun h => kf (Nat.le_of_not_lt fun z => h ((nI_ltI h2 h1).mpr z)))
theorem q_le (hexec : p.tables.exec = Jvm.exec) (hb : c.code = cc) {x y : Nat} (h1 : x < 2 ^ 31) (h2 : y < 2 ^ 31) {off : Int} {tgt : Nat} (hdg : decode cc pc = .ok (.if_icmp .le off, 3)) (ht : (pc : Int) + off = (tgt : Int)) (kt : x ≤ y → W p l e R s m args below meth c H locs cells slots Q (F0 m tgt ls rest)) (kf : y < x → W p l e R s m args below meth c H locs cells slots Q (F0 m (pc + 3) ls rest)) : W p l e R s m args below meth c H locs cells slots Q (F0 m pc ls (.int (nI y) :: .int (nI x) :: rest)) :=
  lv_icmp_le hexec hb hdg ht (fun h => kt ((nI_leI h1 h2).mp h)) (fun h => kf (Nat.lt_of_not_le fun z => h ((nI_leI h1 h2).mpr z)))
theorem q_eq (hexec : p.tables.exec = Jvm.exec) (hb : c.code = cc) {x y : Nat} (h1 : x < 2 ^ 31) (h2 : y < 2 ^ 31) {off : Int} {tgt : Nat} (hdg : decode cc pc = .ok (.if_icmp .eq off, 3)) (ht : (pc : Int) + off = (tgt : Int)) (kt : x = y → W p l e R s m args below meth c H locs cells slots Q (F0 m tgt ls rest)) (kf : x ≠ y → W p l e R s m args below meth c H locs cells slots Q (F0 m (pc + 3) ls rest)) : W p l e R s m args below meth c H locs cells slots Q (F0 m pc ls (.int (nI y) :: .int (nI x) :: rest)) :=
  lv_icmp_eq hexec hb hdg ht (fun h => kt ((nI_eq h1 h2).mp h)) (fun h => kf (fun z => h ((nI_eq h1 h2).mpr z)))
theorem q_ne (hexec : p.tables.exec = Jvm.exec) (hb : c.code = cc) {x y : Nat} (h1 : x < 2 ^ 31) (h2 : y < 2 ^ 31) {off : Int} {tgt : Nat} (hdg : decode cc pc = .ok (.if_icmp .ne off, 3)) (ht : (pc : Int) + off = (tgt : Int)) (kt : x ≠ y → W p l e R s m args below meth c H locs cells slots Q (F0 m tgt ls rest)) (kf : x = y → W p l e R s m args below meth c H locs cells slots Q (F0 m (pc + 3) ls rest)) : W p l e R s m args below meth c H locs cells slots Q (F0 m pc ls (.int (nI y) :: .int (nI x) :: rest)) :=
  lv_icmp_ne hexec hb hdg ht (fun h => kt (fun z => h ((nI_eq h1 h2).mpr z))) (fun h => kf ((nI_eq h1 h2).mp h))
end QC
theorem nw_0 {s : State} {args : Array Value} (h : NW s) : (Cond.fieldLinkNest RX0 34 "RasterCover$Path" "xs" "[I" "RasterCover").before args s = true := NW.u h 0 rfl
theorem nw_1 {s : State} {args : Array Value} (h : NW s) : (Cond.fieldLinkNest RX0 27 "RasterCover$Path" "ys" "[I" "RasterCover").before args s = true := NW.u h 1 rfl
theorem nw_2 {s : State} {args : Array Value} (h : NW s) : (Cond.fieldLinkNest RX0 23 "RasterCover$Path" "begins" "[Z" "RasterCover").before args s = true := NW.u h 2 rfl
theorem nw_3 {s : State} {args : Array Value} (h : NW s) : (Cond.fieldLinkNest RX0 22 "RasterCover$Path" "count" "I" "RasterCover").before args s = true := NW.u h 3 rfl
theorem nw_4 {s : State} {args : Array Value} (h : NW s) : (Cond.fieldLinkNest RX4 83 "RasterCover$Path" "count" "I" "RasterCover").before args s = true := NW.u h 4 rfl
theorem nw_5 {s : State} {args : Array Value} (h : NW s) : (Cond.fieldLinkNest RX3 43 "RasterCover$Crossings" "xs" "[I" "RasterCover").before args s = true := NW.u h 5 rfl
theorem nw_6 {s : State} {args : Array Value} (h : NW s) : (Cond.fieldLinkNest RX3 40 "RasterCover$Crossings" "turns" "[I" "RasterCover").before args s = true := NW.u h 6 rfl
theorem nw_7 {s : State} {args : Array Value} (h : NW s) : (Cond.fieldLinkNest RX3 36 "RasterCover$Crossings" "count" "I" "RasterCover").before args s = true := NW.u h 7 rfl
theorem nw_8 {s : State} {args : Array Value} (h : NW s) : (Cond.fieldLinkNest RX4 139 "RasterCover$PackedRow" "signs" "[B" "RasterCover").before args s = true := NW.u h 8 rfl
theorem nw_9 {s : State} {args : Array Value} (h : NW s) : (Cond.fieldLinkNest RX4 136 "RasterCover$PackedRow" "size" "I" "RasterCover").before args s = true := NW.u h 9 rfl
theorem q_inc (k : Nat) : nI k + Int32.ofInt 1 = nI (k + 1) := by
  rw [show Int32.ofInt 1 = 1 from by decide]
  exact nI_1 k
theorem q_pred (k : Nat) : nI (k + 1) - nI 1 = nI k := (pk_sub (Nat.le_add_left 1 k)).trans (by rw [Nat.add_sub_cancel])
theorem q_dec (k : Nat) : nI (k + 1) + Int32.ofInt (-1) = nI k := by
  rw [show Int32.ofInt (-1) = -1 from by decide]
  exact pk_m1 k
section QC2
variable {p : Program} {l : Launch} {e : Env} {R : Room} {s : State} {m : MethodId} {args : Array Value} {below : List Frame} {meth : Method} {c : Code} {H : Heap} {locs : List Loc} {cells slots : Nat} {Q : State → Prop}
variable {cc : ByteArray} {pc : Nat} {ls : Array Slot} {rest : List Value}
theorem q_if_le (hexec : p.tables.exec = Jvm.exec) (hb : c.code = cc) {x : Nat} (h1 : x < 2 ^ 31) {off : Int} {tgt : Nat} (hdg : decode cc pc = .ok (.ifCond .le off, 3)) (ht : (pc : Int) + off = (tgt : Int)) (kt : x = 0 → W p l e R s m args below meth c H locs cells slots Q (F0 m tgt ls rest)) (kf : 0 < x → W p l e R s m args below meth c H locs cells slots Q (F0 m (pc + 3) ls rest)) : W p l e R s m args below meth c H locs cells slots Q (F0 m pc ls (.int (nI x) :: rest)) :=
  lv_if_le hexec hb hdg ht (fun h => kt (Nat.eq_zero_of_not_pos fun z => nI_nle z h1 h)) (fun h => kf (Nat.pos_of_ne_zero fun z => h (by rw [z, nI_0]; decide)))
theorem q_if_gt (hexec : p.tables.exec = Jvm.exec) (hb : c.code = cc) {x : Nat} (h1 : x < 2 ^ 31) {off : Int} {tgt : Nat} (hdg : decode cc pc = .ok (.ifCond .gt off, 3)) (ht : (pc : Int) + off = (tgt : Int)) (kt : 0 < x → W p l e R s m args below meth c H locs cells slots Q (F0 m tgt ls rest)) (kf : x = 0 → W p l e R s m args below meth c H locs cells slots Q (F0 m (pc + 3) ls rest)) : W p l e R s m args below meth c H locs cells slots Q (F0 m pc ls (.int (nI x) :: rest)) :=
  lv_if_gt hexec hb hdg ht (fun h => kt (Nat.pos_of_ne_zero fun z => by rw [z, nI_0] at h; exact absurd h (by decide))) (fun h => kf (Nat.eq_zero_of_not_pos fun z => h (by rw [← nI_0]; exact nI_lt z h1)))
theorem q_if_eq (hexec : p.tables.exec = Jvm.exec) (hb : c.code = cc) {x : Nat} (h1 : x < 2 ^ 31) {off : Int} {tgt : Nat} (hdg : decode cc pc = .ok (.ifCond .eq off, 3)) (ht : (pc : Int) + off = (tgt : Int)) (kt : x = 0 → W p l e R s m args below meth c H locs cells slots Q (F0 m tgt ls rest)) (kf : 0 < x → W p l e R s m args below meth c H locs cells slots Q (F0 m (pc + 3) ls rest)) : W p l e R s m args below meth c H locs cells slots Q (F0 m pc ls (.int (nI x) :: rest)) :=
  lv_if_eq hexec hb hdg ht (fun h => kt (Nat.eq_zero_of_not_pos fun z => nI_ne0 z h1 h)) (fun h => kf (Nat.pos_of_ne_zero fun z => h (by rw [z, nI_0])))
theorem q_if_ne (hexec : p.tables.exec = Jvm.exec) (hb : c.code = cc) {x : Nat} (h1 : x < 2 ^ 31) {off : Int} {tgt : Nat} (hdg : decode cc pc = .ok (.ifCond .ne off, 3)) (ht : (pc : Int) + off = (tgt : Int)) (kt : 0 < x → W p l e R s m args below meth c H locs cells slots Q (F0 m tgt ls rest)) (kf : x = 0 → W p l e R s m args below meth c H locs cells slots Q (F0 m (pc + 3) ls rest)) : W p l e R s m args below meth c H locs cells slots Q (F0 m pc ls (.int (nI x) :: rest)) :=
  lv_if_ne hexec hb hdg ht (fun h => kt (Nat.pos_of_ne_zero fun z => h (by rw [z, nI_0]))) (fun h => kf (Nat.eq_zero_of_not_pos fun z => nI_ne0 z h1 h))
end QC2
end
section
abbrev rm_X2_add : Room := { frames := 0, cells := 0, slots := 0, locals := 0 }
set_option maxHeartbeats 4000000 in
set_option maxRecDepth 100000 in
/-- Path.add: room is there -/
theorem c_X2_add (l : Launch) (D : va_G) (cI cZ cB cJ : ClassId) (sz : Nat) (h0 : Nat) (h1 : Nat) (h2 : Nat) (h3 : Nat) (n : Nat) (fx : Nat → Int32) (fy : Nat → Int32) (fb : Nat → Int32) (x : Int32) (y : Int32) (b : Int32) (hn : n < 100) (hb01 : b = 0 ∨ b = 1) : Met l yX2_add wsX2_add rm_X2_add (va_Pc [.ref h0, .int x, .int y, .int b] (PC D (qT cI cZ cB cJ) [(h0, .inr (2, [.ref h1, .ref h2, .ref h3, .int (nI n)])), (h1, .inl (cI, 100, .inl fx)), (h2, .inl (cI, 100, .inl fy)), (h3, .inl (cZ, 100, .inl fb))] sz)) (va_Qv (fun (u : Unit) => True) (fun (u : Unit) => PO D (qT cI cZ cB cJ) (va_A [(h0, .inr (2, [.ref h1, .ref h2, .ref h3, .int (nI n)])), (h1, .inl (cI, 100, .inl fx)), (h2, .inl (cI, 100, .inl fy)), (h3, .inl (cZ, 100, .inl fb))] sz) [(h0, .inr (2, [.ref h1, .ref h2, .ref h3, .int (nI (n + 1))])), (h1, .inl (cI, 100, .inl (upd fx n x))), (h2, .inl (cI, 100, .inl (upd fy n y))), (h3, .inl (cZ, 100, .inl (upd fb n b)))]) (va_A [(h0, .inr (2, [.ref h1, .ref h2, .ref h3, .int (nI n)])), (h1, .inl (cI, 100, .inl fx)), (h2, .inl (cI, 100, .inl fy)), (h3, .inl (cZ, 100, .inl fb))] sz)) 0 0 (va_A [(h0, .inr (2, [.ref h1, .ref h2, .ref h3, .int (nI n)])), (h1, .inl (cI, 100, .inl fx)), (h2, .inl (cI, 100, .inl fy)), (h3, .inl (cZ, 100, .inl fb))] sz) := by
  refine q_entV (cc := cX2_add) (maxL := 4) (by decide +kernel) rfl (Nat.le_of_ble_eq_true rfl) ?_
  intro p e s m below meth c A Q ls hq hl hQ
  obtain ⟨hx, hb, hml, hts, hown, hin, hN, hK, hsz, hA, hP, hD, hS⟩ := hq
  have hown : s.vm.findClass RX2 = some m.cls := hown
  obtain ⟨H, hH⟩ : ∃ H, H = s.heap := ⟨_, rfl⟩
  rw [← hH] at hP ⊢
  have hS : va_S A s.heap H [] := by rw [hH]; exact va_S.rf
  clear hH
  have hl : lv_has ls 4 [(0, .ref h0), (1, .int x), (2, .int y), (3, .int b)] := hl
  have iX2 : ∀ w ∈ wsX20, w ∈ wsX2_add := by decide +kernel
  have f_20 := hts (.fieldLink RX2 20 "RasterCover$Path" "count" "I") (by decide +kernel)
  have f_9 := hts (.fieldLink RX2 9 "RasterCover$Path" "xs" "[I") (by decide +kernel)
  have f_13 := hts (.fieldLink RX2 13 "RasterCover$Path" "ys" "[I") (by decide +kernel)
  have f_16 := hts (.fieldLink RX2 16 "RasterCover$Path" "begins" "[Z") (by decide +kernel)
  refine lv_aload_n hx hb dX2_add_0 rfl (lv_at hl 0 rfl) ?_
  refine va_get (D := D) (ci := 2) (v := .int (nI n)) (C := RX2) (T := TX2) (N := 4) hx hb hts iX2 hown hK hP 0 rfl rfl 3 (by decide) f_20 (fun _ h9 => h9) rfl dX2_add_1 ?_
  refine lv_bipush (v := nI 100) hx hb dX2_add_4 (by decide) ?_
  refine q_ge (tgt := 49) hx hb (by omega) (by omega) dX2_add_6 (by decide) (fun h_6 => by omega) (fun h_6 => ?_)
  refine lv_aload_n hx hb dX2_add_9 rfl (lv_at hl 0 rfl) ?_
  refine va_get (D := D) (ci := 2) (v := .ref h1) (C := RX2) (T := TX2) (N := 4) hx hb hts iX2 hown hK hP 0 rfl rfl 0 (by decide) f_9 (fun _ h9 => h9) rfl dX2_add_10 ?_
  refine lv_aload_n hx hb dX2_add_13 rfl (lv_at hl 0 rfl) ?_
  refine va_get (D := D) (ci := 2) (v := .int (nI n)) (C := RX2) (T := TX2) (N := 4) hx hb hts iX2 hown hK hP 0 rfl rfl 3 (by decide) f_20 (fun _ h9 => h9) rfl dX2_add_14 ?_
  refine lv_iload_n hx hb dX2_add_17 rfl (lv_at hl 1 rfl) ?_
  refine q_iast hx hb hK hP hD hS 1 0 rfl rfl (k := n) (by omega) (by omega) dX2_add_18 (fun H locs hP hD hS => ?_)
  have hP : va_P D qCl [(h0, .inr (2, [.ref h1, .ref h2, .ref h3, .int (nI n)])), (h1, .inl (cI, 100, .inl (upd fx n x))), (h2, .inl (cI, 100, .inl fy)), (h3, .inl (cZ, 100, .inl fb))] H := hP
  have hD : va_D A [(h0, .inr (2, [.ref h1, .ref h2, .ref h3, .int (nI n)])), (h1, .inl (cI, 100, .inl (upd fx n x))), (h2, .inl (cI, 100, .inl fy)), (h3, .inl (cZ, 100, .inl fb))] := hD
  refine lv_aload_n hx hb dX2_add_19 rfl (lv_at hl 0 rfl) ?_
  refine va_get (D := D) (ci := 2) (v := .ref h2) (C := RX2) (T := TX2) (N := 4) hx hb hts iX2 hown hK hP 0 rfl rfl 1 (by decide) f_13 (fun _ h9 => h9) rfl dX2_add_20 ?_
  refine lv_aload_n hx hb dX2_add_23 rfl (lv_at hl 0 rfl) ?_
  refine va_get (D := D) (ci := 2) (v := .int (nI n)) (C := RX2) (T := TX2) (N := 4) hx hb hts iX2 hown hK hP 0 rfl rfl 3 (by decide) f_20 (fun _ h9 => h9) rfl dX2_add_24 ?_
  refine lv_iload_n hx hb dX2_add_27 rfl (lv_at hl 2 rfl) ?_
  refine q_iast hx hb hK hP hD hS 2 0 rfl rfl (k := n) (by omega) (by omega) dX2_add_28 (fun H locs hP hD hS => ?_)
  have hP : va_P D qCl [(h0, .inr (2, [.ref h1, .ref h2, .ref h3, .int (nI n)])), (h1, .inl (cI, 100, .inl (upd fx n x))), (h2, .inl (cI, 100, .inl (upd fy n y))), (h3, .inl (cZ, 100, .inl fb))] H := hP
  have hD : va_D A [(h0, .inr (2, [.ref h1, .ref h2, .ref h3, .int (nI n)])), (h1, .inl (cI, 100, .inl (upd fx n x))), (h2, .inl (cI, 100, .inl (upd fy n y))), (h3, .inl (cZ, 100, .inl fb))] := hD
  refine lv_aload_n hx hb dX2_add_29 rfl (lv_at hl 0 rfl) ?_
  refine va_get (D := D) (ci := 2) (v := .ref h3) (C := RX2) (T := TX2) (N := 4) hx hb hts iX2 hown hK hP 0 rfl rfl 2 (by decide) f_16 (fun _ h9 => h9) rfl dX2_add_30 ?_
  refine lv_aload_n hx hb dX2_add_33 rfl (lv_at hl 0 rfl) ?_
  refine va_get (D := D) (ci := 2) (v := .int (nI n)) (C := RX2) (T := TX2) (N := 4) hx hb hts iX2 hown hK hP 0 rfl rfl 3 (by decide) f_20 (fun _ h9 => h9) rfl dX2_add_34 ?_
  refine lv_iload_n hx hb dX2_add_37 rfl (lv_at hl 3 rfl) ?_
  refine q_zast hx hb hK hP hD hS 3 1 rfl rfl (k := n) (by rcases hb01 with rfl | rfl <;> decide) (by omega) (by omega) dX2_add_38 (fun H locs hP hD hS => ?_)
  have hP : va_P D qCl [(h0, .inr (2, [.ref h1, .ref h2, .ref h3, .int (nI n)])), (h1, .inl (cI, 100, .inl (upd fx n x))), (h2, .inl (cI, 100, .inl (upd fy n y))), (h3, .inl (cZ, 100, .inl (upd fb n b)))] H := hP
  have hD : va_D A [(h0, .inr (2, [.ref h1, .ref h2, .ref h3, .int (nI n)])), (h1, .inl (cI, 100, .inl (upd fx n x))), (h2, .inl (cI, 100, .inl (upd fy n y))), (h3, .inl (cZ, 100, .inl (upd fb n b)))] := hD
  refine lv_aload_n hx hb dX2_add_39 rfl (lv_at hl 0 rfl) ?_
  refine lv_dup hx hb dX2_add_40 rfl ?_
  refine va_get (D := D) (ci := 2) (v := .int (nI n)) (C := RX2) (T := TX2) (N := 4) hx hb hts iX2 hown hK hP 0 rfl rfl 3 (by decide) f_20 (fun _ h9 => h9) rfl dX2_add_41 ?_
  refine lv_iconst (v := nI 1) hx hb dX2_add_44 (by decide) ?_
  refine lv_iadd hx hb dX2_add_45 ?_
  refine q_eqi (nI_add _ _) ?_
  refine va_put (D := D) (ci := 2) (v := .int (nI (n + 1))) (ty := .int) (C := RX2) (T := TX2) (N := 4) hx hb hts iX2 tyX2 tyX2_ok nmX2 hown hK hP hD hS 0 rfl rfl 3 (by decide) f_20 (fun _ h9 => h9) rfl (by decide +kernel) rfl rfl (Nat.le_of_ble_eq_true rfl) dX2_add_46 (fun H locs hP hD hS => ?_)
  have hP : va_P D qCl [(h0, .inr (2, [.ref h1, .ref h2, .ref h3, .int (nI (n + 1))])), (h1, .inl (cI, 100, .inl (upd fx n x))), (h2, .inl (cI, 100, .inl (upd fy n y))), (h3, .inl (cZ, 100, .inl (upd fb n b)))] H := hP
  have hD : va_D A [(h0, .inr (2, [.ref h1, .ref h2, .ref h3, .int (nI (n + 1))])), (h1, .inl (cI, 100, .inl (upd fx n x))), (h2, .inl (cI, 100, .inl (upd fy n y))), (h3, .inl (cZ, 100, .inl (upd fb n b)))] := hD
  exact hQ _ _ _ _ () _ _ dX2_add_49 (Nat.le_refl _) (Nat.le_refl _) trivial (hP.sub [0, 1, 2, 3] rfl) hK (hD.sub [0, 1, 2, 3] (by decide) rfl) hS

abbrev rm_X2_begin : Room := { frames := 1, cells := 0, slots := 0, locals := 23 }
set_option maxHeartbeats 4000000 in
set_option maxRecDepth 100000 in
theorem c_X2_begin (l : Launch) (D : va_G) (cI cZ cB cJ : ClassId) (sz : Nat) (h0 : Nat) (h1 : Nat) (h2 : Nat) (h3 : Nat) (n : Nat) (fx : Nat → Int32) (fy : Nat → Int32) (fb : Nat → Int32) (x : Int32) (y : Int32) (hn : n < 100) : Met l yX2_begin wsX2_begin rm_X2_begin (va_Pc [.ref h0, .int x, .int y] (PC D (qT cI cZ cB cJ) [(h0, .inr (2, [.ref h1, .ref h2, .ref h3, .int (nI n)])), (h1, .inl (cI, 100, .inl fx)), (h2, .inl (cI, 100, .inl fy)), (h3, .inl (cZ, 100, .inl fb))] sz)) (va_Qv (fun (u : Unit) => True) (fun (u : Unit) => PO D (qT cI cZ cB cJ) (va_A [(h0, .inr (2, [.ref h1, .ref h2, .ref h3, .int (nI n)])), (h1, .inl (cI, 100, .inl fx)), (h2, .inl (cI, 100, .inl fy)), (h3, .inl (cZ, 100, .inl fb))] sz) [(h0, .inr (2, [.ref h1, .ref h2, .ref h3, .int (nI (n + 1))])), (h1, .inl (cI, 100, .inl (upd fx n x))), (h2, .inl (cI, 100, .inl (upd fy n y))), (h3, .inl (cZ, 100, .inl (upd fb n 1)))]) (va_A [(h0, .inr (2, [.ref h1, .ref h2, .ref h3, .int (nI n)])), (h1, .inl (cI, 100, .inl fx)), (h2, .inl (cI, 100, .inl fy)), (h3, .inl (cZ, 100, .inl fb))] sz)) 0 0 (va_A [(h0, .inr (2, [.ref h1, .ref h2, .ref h3, .int (nI n)])), (h1, .inl (cI, 100, .inl fx)), (h2, .inl (cI, 100, .inl fy)), (h3, .inl (cZ, 100, .inl fb))] sz) := by
  refine q_entV (cc := cX2_begin) (maxL := 3) (by decide +kernel) rfl (Nat.le_of_ble_eq_true rfl) ?_
  intro p e s m below meth c A Q ls hq hl hQ
  obtain ⟨hx, hb, hml, hts, hown, hin, hN, hK, hsz, hA, hP, hD, hS⟩ := hq
  have hown : s.vm.findClass RX2 = some m.cls := hown
  obtain ⟨H, hH⟩ : ∃ H, H = s.heap := ⟨_, rfl⟩
  rw [← hH] at hP ⊢
  have hS : va_S A s.heap H [] := by rw [hH]; exact va_S.rf
  clear hH
  have hl : lv_has ls 3 [(0, .ref h0), (1, .int x), (2, .int y)] := hl
  refine lv_aload_n hx hb dX2_begin_0 rfl (lv_at hl 0 rfl) ?_
  refine lv_iload_n hx hb dX2_begin_1 rfl (lv_at hl 1 rfl) ?_
  refine lv_iload_n hx hb dX2_begin_2 rfl (lv_at hl 2 rfl) ?_
  refine lv_iconst (v := nI 1) hx hb dX2_begin_3 (by decide) ?_
  refine q_eqi (y := 1) (by decide) ?_
  refine q_v0 (wr := []) (va_runV (As := [.int x, .int y, .int 1]) (rest := []) ⟨hx, hb, hml, hown, hts⟩ (c_X2_add l D cI cZ cB cJ H.size h0 h1 h2 h3 n fx fy fb x y 1 hn (Or.inr rfl)) (cwV 3 hts gX2_begin_X2_add rfl rfl rfl (by decide +kernel) ⟨Nat.le_of_ble_eq_true rfl, Nat.le_of_ble_eq_true rfl⟩) (q_preV (q_pre (wc := [(h0, .inr (2, [.ref h1, .ref h2, .ref h3, .int (nI n)])), (h1, .inl (cI, 100, .inl fx)), (h2, .inl (cI, 100, .inl fy)), (h3, .inl (cZ, 100, .inl fb))]) hP hD hK hN [0, 1, 2, 3] (by decide) rfl) (va_recv hK hP (ci := 2) (q0 := 0) rfl rfl)) rfl rfl hl.1 rfl (lv_room (Nat.le_of_ble_eq_true rfl)) dX2_begin_4 ⟨Nat.zero_le _, Nat.zero_le _⟩) hS hA hP hD [0, 1, 2, 3] [] rfl rfl (by decide) (by decide) (fun u H locs hp_4 hP hD hS => ?_)
  have hP : va_P D qCl [(h0, .inr (2, [.ref h1, .ref h2, .ref h3, .int (nI (n + 1))])), (h1, .inl (cI, 100, .inl (upd fx n x))), (h2, .inl (cI, 100, .inl (upd fy n y))), (h3, .inl (cZ, 100, .inl (upd fb n 1)))] H := hP
  have hD : va_D A [(h0, .inr (2, [.ref h1, .ref h2, .ref h3, .int (nI (n + 1))])), (h1, .inl (cI, 100, .inl (upd fx n x))), (h2, .inl (cI, 100, .inl (upd fy n y))), (h3, .inl (cZ, 100, .inl (upd fb n 1)))] := hD
  exact hQ _ _ _ _ () _ _ dX2_begin_7 (Nat.le_refl _) (Nat.le_refl _) trivial (hP.sub [0, 1, 2, 3] rfl) hK (hD.sub [0, 1, 2, 3] (by decide) rfl) hS

abbrev rm_X2_join : Room := { frames := 1, cells := 0, slots := 0, locals := 23 }
set_option maxHeartbeats 4000000 in
set_option maxRecDepth 100000 in
theorem c_X2_join (l : Launch) (D : va_G) (cI cZ cB cJ : ClassId) (sz : Nat) (h0 : Nat) (h1 : Nat) (h2 : Nat) (h3 : Nat) (n : Nat) (fx : Nat → Int32) (fy : Nat → Int32) (fb : Nat → Int32) (x : Int32) (y : Int32) (hn : n < 100) : Met l yX2_join wsX2_join rm_X2_join (va_Pc [.ref h0, .int x, .int y] (PC D (qT cI cZ cB cJ) [(h0, .inr (2, [.ref h1, .ref h2, .ref h3, .int (nI n)])), (h1, .inl (cI, 100, .inl fx)), (h2, .inl (cI, 100, .inl fy)), (h3, .inl (cZ, 100, .inl fb))] sz)) (va_Qv (fun (u : Unit) => True) (fun (u : Unit) => PO D (qT cI cZ cB cJ) (va_A [(h0, .inr (2, [.ref h1, .ref h2, .ref h3, .int (nI n)])), (h1, .inl (cI, 100, .inl fx)), (h2, .inl (cI, 100, .inl fy)), (h3, .inl (cZ, 100, .inl fb))] sz) [(h0, .inr (2, [.ref h1, .ref h2, .ref h3, .int (nI (n + 1))])), (h1, .inl (cI, 100, .inl (upd fx n x))), (h2, .inl (cI, 100, .inl (upd fy n y))), (h3, .inl (cZ, 100, .inl (upd fb n 0)))]) (va_A [(h0, .inr (2, [.ref h1, .ref h2, .ref h3, .int (nI n)])), (h1, .inl (cI, 100, .inl fx)), (h2, .inl (cI, 100, .inl fy)), (h3, .inl (cZ, 100, .inl fb))] sz)) 0 0 (va_A [(h0, .inr (2, [.ref h1, .ref h2, .ref h3, .int (nI n)])), (h1, .inl (cI, 100, .inl fx)), (h2, .inl (cI, 100, .inl fy)), (h3, .inl (cZ, 100, .inl fb))] sz) := by
  refine q_entV (cc := cX2_join) (maxL := 3) (by decide +kernel) rfl (Nat.le_of_ble_eq_true rfl) ?_
  intro p e s m below meth c A Q ls hq hl hQ
  obtain ⟨hx, hb, hml, hts, hown, hin, hN, hK, hsz, hA, hP, hD, hS⟩ := hq
  have hown : s.vm.findClass RX2 = some m.cls := hown
  obtain ⟨H, hH⟩ : ∃ H, H = s.heap := ⟨_, rfl⟩
  rw [← hH] at hP ⊢
  have hS : va_S A s.heap H [] := by rw [hH]; exact va_S.rf
  clear hH
  have hl : lv_has ls 3 [(0, .ref h0), (1, .int x), (2, .int y)] := hl
  refine lv_aload_n hx hb dX2_join_0 rfl (lv_at hl 0 rfl) ?_
  refine lv_iload_n hx hb dX2_join_1 rfl (lv_at hl 1 rfl) ?_
  refine lv_iload_n hx hb dX2_join_2 rfl (lv_at hl 2 rfl) ?_
  refine lv_iconst (v := nI 0) hx hb dX2_join_3 (by decide) ?_
  refine q_eqi (y := 0) (by decide) ?_
  refine q_v0 (wr := []) (va_runV (As := [.int x, .int y, .int 0]) (rest := []) ⟨hx, hb, hml, hown, hts⟩ (c_X2_add l D cI cZ cB cJ H.size h0 h1 h2 h3 n fx fy fb x y 0 hn (Or.inl rfl)) (cwV 3 hts gX2_join_X2_add rfl rfl rfl (by decide +kernel) ⟨Nat.le_of_ble_eq_true rfl, Nat.le_of_ble_eq_true rfl⟩) (q_preV (q_pre (wc := [(h0, .inr (2, [.ref h1, .ref h2, .ref h3, .int (nI n)])), (h1, .inl (cI, 100, .inl fx)), (h2, .inl (cI, 100, .inl fy)), (h3, .inl (cZ, 100, .inl fb))]) hP hD hK hN [0, 1, 2, 3] (by decide) rfl) (va_recv hK hP (ci := 2) (q0 := 0) rfl rfl)) rfl rfl hl.1 rfl (lv_room (Nat.le_of_ble_eq_true rfl)) dX2_join_4 ⟨Nat.zero_le _, Nat.zero_le _⟩) hS hA hP hD [0, 1, 2, 3] [] rfl rfl (by decide) (by decide) (fun u H locs hp_4 hP hD hS => ?_)
  have hP : va_P D qCl [(h0, .inr (2, [.ref h1, .ref h2, .ref h3, .int (nI (n + 1))])), (h1, .inl (cI, 100, .inl (upd fx n x))), (h2, .inl (cI, 100, .inl (upd fy n y))), (h3, .inl (cZ, 100, .inl (upd fb n 0)))] H := hP
  have hD : va_D A [(h0, .inr (2, [.ref h1, .ref h2, .ref h3, .int (nI (n + 1))])), (h1, .inl (cI, 100, .inl (upd fx n x))), (h2, .inl (cI, 100, .inl (upd fy n y))), (h3, .inl (cZ, 100, .inl (upd fb n 0)))] := hD
  exact hQ _ _ _ _ () _ _ dX2_join_7 (Nat.le_refl _) (Nat.le_refl _) trivial (hP.sub [0, 1, 2, 3] rfl) hK (hD.sub [0, 1, 2, 3] (by decide) rfl) hS

abbrev rm_X2_clear : Room := { frames := 0, cells := 0, slots := 0, locals := 0 }
set_option maxHeartbeats 4000000 in
set_option maxRecDepth 100000 in
theorem c_X2_clear (l : Launch) (D : va_G) (cI cZ cB cJ : ClassId) (sz : Nat) (h0 : Nat) (h1 : Nat) (h2 : Nat) (h3 : Nat) (n : Nat) (fx : Nat → Int32) (fy : Nat → Int32) (fb : Nat → Int32) : Met l yX2_clear wsX2_clear rm_X2_clear (va_Pc [.ref h0] (PC D (qT cI cZ cB cJ) [(h0, .inr (2, [.ref h1, .ref h2, .ref h3, .int (nI n)])), (h1, .inl (cI, 100, .inl fx)), (h2, .inl (cI, 100, .inl fy)), (h3, .inl (cZ, 100, .inl fb))] sz)) (va_Qv (fun (u : Unit) => True) (fun (u : Unit) => PO D (qT cI cZ cB cJ) (va_A [(h0, .inr (2, [.ref h1, .ref h2, .ref h3, .int (nI n)])), (h1, .inl (cI, 100, .inl fx)), (h2, .inl (cI, 100, .inl fy)), (h3, .inl (cZ, 100, .inl fb))] sz) [(h0, .inr (2, [.ref h1, .ref h2, .ref h3, .int (nI 0)])), (h1, .inl (cI, 100, .inl fx)), (h2, .inl (cI, 100, .inl fy)), (h3, .inl (cZ, 100, .inl fb))]) (va_A [(h0, .inr (2, [.ref h1, .ref h2, .ref h3, .int (nI n)])), (h1, .inl (cI, 100, .inl fx)), (h2, .inl (cI, 100, .inl fy)), (h3, .inl (cZ, 100, .inl fb))] sz)) 0 0 (va_A [(h0, .inr (2, [.ref h1, .ref h2, .ref h3, .int (nI n)])), (h1, .inl (cI, 100, .inl fx)), (h2, .inl (cI, 100, .inl fy)), (h3, .inl (cZ, 100, .inl fb))] sz) := by
  refine q_entV (cc := cX2_clear) (maxL := 1) (by decide +kernel) rfl (Nat.le_of_ble_eq_true rfl) ?_
  intro p e s m below meth c A Q ls hq hl hQ
  obtain ⟨hx, hb, hml, hts, hown, hin, hN, hK, hsz, hA, hP, hD, hS⟩ := hq
  have hown : s.vm.findClass RX2 = some m.cls := hown
  obtain ⟨H, hH⟩ : ∃ H, H = s.heap := ⟨_, rfl⟩
  rw [← hH] at hP ⊢
  have hS : va_S A s.heap H [] := by rw [hH]; exact va_S.rf
  clear hH
  have hl : lv_has ls 1 [(0, .ref h0)] := hl
  have iX2 : ∀ w ∈ wsX20, w ∈ wsX2_clear := by decide +kernel
  have f_20 := hts (.fieldLink RX2 20 "RasterCover$Path" "count" "I") (by decide +kernel)
  refine lv_aload_n hx hb dX2_clear_0 rfl (lv_at hl 0 rfl) ?_
  refine lv_iconst (v := nI 0) hx hb dX2_clear_1 (by decide) ?_
  refine va_put (D := D) (ci := 2) (v := .int (nI 0)) (ty := .int) (C := RX2) (T := TX2) (N := 4) hx hb hts iX2 tyX2 tyX2_ok nmX2 hown hK hP hD hS 0 rfl rfl 3 (by decide) f_20 (fun _ h9 => h9) rfl (by decide +kernel) rfl rfl (Nat.le_of_ble_eq_true rfl) dX2_clear_2 (fun H locs hP hD hS => ?_)
  have hP : va_P D qCl [(h0, .inr (2, [.ref h1, .ref h2, .ref h3, .int (nI 0)])), (h1, .inl (cI, 100, .inl fx)), (h2, .inl (cI, 100, .inl fy)), (h3, .inl (cZ, 100, .inl fb))] H := hP
  have hD : va_D A [(h0, .inr (2, [.ref h1, .ref h2, .ref h3, .int (nI 0)])), (h1, .inl (cI, 100, .inl fx)), (h2, .inl (cI, 100, .inl fy)), (h3, .inl (cZ, 100, .inl fb))] := hD
  exact hQ _ _ _ _ () _ _ dX2_clear_5 (Nat.le_refl _) (Nat.le_refl _) trivial (hP.sub [0, 1, 2, 3] rfl) hK (hD.sub [0, 1, 2, 3] (by decide) rfl) hS
end
section
/-! numbers, sums, crossings: the mathematics that both sides are held against -/
theorem j_lt {x y : Int64} : x < y ↔ x.toInt < y.toInt := Int64.lt_iff_toInt_lt
theorem j_le {x y : Int64} : x ≤ y ↔ x.toInt ≤ y.toInt := Int64.le_iff_toInt_le
theorem j_eq {x y : Int64} : x = y ↔ x.toInt = y.toInt := Int64.toInt_inj.symm
theorem i_lt {x y : Int32} : x < y ↔ x.toInt < y.toInt := Int32.lt_iff_toInt_lt
theorem i_le {x y : Int32} : x ≤ y ↔ x.toInt ≤ y.toInt := Int32.le_iff_toInt_le
theorem i_eq {x y : Int32} : x = y ↔ x.toInt = y.toInt := Int32.toInt_inj.symm
theorem z_t {z : Int} (h1 : -2147483648 ≤ z) (h2 : z < 2147483648) : (Int32.ofInt z).toInt = z := Int32.toInt_ofInt_of_le (by omega) (by omega)
theorem w_t {z : Int} (h1 : -9223372036854775808 ≤ z) (h2 : z < 9223372036854775808) : (Int64.ofInt z).toInt = z := Int64.toInt_ofInt_of_le (by omega) (by omega)
theorem z_l {z : Int} (h1 : -2147483648 ≤ z) (h2 : z < 2147483648) : (Int32.ofInt z).toInt64 = Int64.ofInt z := by
  rw [j_eq, Int32.toInt_toInt64, z_t h1 h2, w_t (by omega) (by omega)]
theorem nI_z (n : Nat) : nI n = Int32.ofInt (n : Int) := Int32.ofInt_eq_ofNat.symm
theorem z_lt {a b : Int} (h1 : -2147483648 ≤ a) (h2 : a < 2147483648) (h3 : -2147483648 ≤ b) (h4 : b < 2147483648) : Int32.ofInt a < Int32.ofInt b ↔ a < b := by
  rw [i_lt, z_t h1 h2, z_t h3 h4]
theorem z_le {a b : Int} (h1 : -2147483648 ≤ a) (h2 : a < 2147483648) (h3 : -2147483648 ≤ b) (h4 : b < 2147483648) : Int32.ofInt a ≤ Int32.ofInt b ↔ a ≤ b := by
  rw [i_le, z_t h1 h2, z_t h3 h4]
theorem z_add (a b : Int) : Int32.ofInt a + Int32.ofInt b = Int32.ofInt (a + b) := (Int32.ofInt_add a b).symm
theorem z_sub (a b : Int) : Int32.ofInt a - Int32.ofInt b = Int32.ofInt (a - b) := (Int32.ofInt_sub a b).symm
theorem z_mul (a b : Int) : Int32.ofInt a * Int32.ofInt b = Int32.ofInt (a * b) := (Int32.ofInt_mul a b).symm
theorem w_add (a b : Int) : Int64.ofInt a + Int64.ofInt b = Int64.ofInt (a + b) := (Int64.ofInt_add a b).symm
theorem w_sub (a b : Int) : Int64.ofInt a - Int64.ofInt b = Int64.ofInt (a - b) := (Int64.ofInt_sub a b).symm
theorem w_mul (a b : Int) : Int64.ofInt a * Int64.ofInt b = Int64.ofInt (a * b) := (Int64.ofInt_mul a b).symm
theorem lgc_cases (x y : Int64) : (x < y ∧ lg_cmp x y = -1) ∨ (x = y ∧ lg_cmp x y = 0) ∨ (y < x ∧ lg_cmp x y = 1) := by
  unfold lg_cmp
  by_cases h1 : x > y
  · rw [if_pos h1]; exact Or.inr (Or.inr ⟨h1, rfl⟩)
  · rw [if_neg h1]
    by_cases h2 : x = y
    · rw [if_pos h2]; exact Or.inr (Or.inl ⟨h2, rfl⟩)
    · rw [if_neg h2]
      refine Or.inl ⟨?_, rfl⟩
      rw [gt_iff_lt, j_lt] at h1
      rw [j_eq] at h2
      rw [j_lt]
      omega
theorem lgc_ge (x y : Int64) : 0 ≤ lg_cmp x y ↔ y ≤ x := by
  rcases lgc_cases x y with ⟨h, e⟩ | ⟨h, e⟩ | ⟨h, e⟩ <;> rw [e]
  · exact ⟨fun q => absurd q (by decide), fun q => by rw [j_le] at q; rw [j_lt] at h; omega⟩
  · exact ⟨fun _ => by rw [h, j_le]; omega, fun _ => by decide⟩
  · exact ⟨fun _ => by rw [j_le]; rw [j_lt] at h; omega, fun _ => by decide⟩
theorem lgc_le (x y : Int64) : lg_cmp x y ≤ 0 ↔ x ≤ y := by
  rcases lgc_cases x y with ⟨h, e⟩ | ⟨h, e⟩ | ⟨h, e⟩ <;> rw [e]
  · exact ⟨fun _ => by rw [j_le]; rw [j_lt] at h; omega, fun _ => by decide⟩
  · exact ⟨fun _ => by rw [h, j_le]; omega, fun _ => by decide⟩
  · exact ⟨fun q => absurd q (by decide), fun q => by rw [j_le] at q; rw [j_lt] at h; omega⟩
theorem lgc_lt (x y : Int64) : lg_cmp x y < 0 ↔ x < y := by
  rcases lgc_cases x y with ⟨h, e⟩ | ⟨h, e⟩ | ⟨h, e⟩ <;> rw [e]
  · exact ⟨fun _ => h, fun _ => by decide⟩
  · exact ⟨fun q => absurd q (by decide), fun q => by rw [h, j_lt] at q; omega⟩
  · exact ⟨fun q => absurd q (by decide), fun q => by rw [j_lt] at q; rw [j_lt] at h; omega⟩
theorem lgc_gt (x y : Int64) : 0 < lg_cmp x y ↔ y < x := by
  rcases lgc_cases x y with ⟨h, e⟩ | ⟨h, e⟩ | ⟨h, e⟩ <;> rw [e]
  · exact ⟨fun q => absurd q (by decide), fun q => by rw [j_lt] at q; rw [j_lt] at h; omega⟩
  · exact ⟨fun q => absurd q (by decide), fun q => by rw [h, j_lt] at q; omega⟩
  · exact ⟨fun _ => h, fun _ => by decide⟩
theorem lgc_eq (x y : Int64) : lg_cmp x y = 0 ↔ x = y := by
  rcases lgc_cases x y with ⟨h, e⟩ | ⟨h, e⟩ | ⟨h, e⟩ <;> rw [e]
  · exact ⟨fun q => absurd q (by decide), fun q => by rw [q, j_lt] at h; omega⟩
  · exact ⟨fun _ => h, fun _ => rfl⟩
  · exact ⟨fun q => absurd q (by decide), fun q => by rw [q, j_lt] at h; omega⟩
theorem xor_neg {a b : Int64} (hb : 0 ≤ b.toInt) : (a ^^^ b).toInt < 0 ↔ a.toInt < 0 := by
  have h1 : ∀ z : Int64, z.toInt < 0 ↔ z.toBitVec.msb = true := fun z => by
    rw [BitVec.msb_eq_toInt, decide_eq_true_iff]
    exact Iff.rfl
  rw [h1, h1, Int64.toBitVec_xor, BitVec.msb_xor]
  have h2 : b.toBitVec.msb = false := by
    cases hm : b.toBitVec.msb with
    | false => rfl
    | true => have := (h1 b).mpr hm; omega
  rw [h2]
  simp
/-- Math.floorDiv, as its bytecode says -/
def fdJ (a b : Int64) : Int64 := if (a ^^^ b) < 0 ∧ ¬ a / b * b = a then a / b - 1 else a / b
/-- the reference's own -/
def dnJ (a b : Int64) : Int64 := if a - a / b * b < 0 then a / b - 1 else a / b
theorem tdiv_floor {A B : Int} (hB : 0 < B) : A / B = if A < 0 ∧ ¬ A.tdiv B * B = A then A.tdiv B - 1 else A.tdiv B := by
  have e1 : A.tdiv B * B + A.tmod B = A := by
    have := Int.mul_tdiv_add_tmod A B
    rw [Int.mul_comm] at this
    exact this
  have t := tmod_bounds (a := A) hB
  have g1 := Int.ediv_mul_le A (b := B) (by omega)
  have g2 := Int.lt_ediv_add_one_mul_self A hB
  rcases Int.lt_or_le A 0 with h | h
  · have s0 : A.tmod B ≤ 0 := by
      have := Int.tmod_nonneg B (a := -A) (by omega)
      rw [Int.neg_tmod] at this
      omega
    by_cases hz : A.tdiv B * B = A
    · rw [if_neg (fun q => q.2 hz)]
      have h3 : A / B = A.tdiv B := by
        apply Int.ediv_eq_of_eq_mul_left (by omega) hz.symm
      exact h3
    · rw [if_pos ⟨h, hz⟩]
      have lo : A.tdiv B - 1 ≤ A / B := by
        rw [Int.le_ediv_iff_mul_le hB, Int.sub_mul]
        omega
      have hi : A / B < A.tdiv B := by
        rw [Int.ediv_lt_iff_lt_mul hB]
        omega
      omega
  · rw [if_neg (fun q => by omega), Int.tdiv_eq_ediv_of_nonneg h]
theorem dv_t {A B : Int} (hA1 : -4611686018427387904 ≤ A) (hA2 : A ≤ 4611686018427387904) (hB : 0 < B) (hB2 : B ≤ 2305843009213693952) : (Int64.ofInt A / Int64.ofInt B).toInt = A.tdiv B ∧ -4611686018427387904 ≤ A.tdiv B ∧ A.tdiv B ≤ 4611686018427387904 ∧ -4611686018427387904 - B ≤ A.tdiv B * B ∧ A.tdiv B * B ≤ 4611686018427387904 + B := by
  have e1 : A.tdiv B * B + A.tmod B = A := by
    have := Int.mul_tdiv_add_tmod A B
    rw [Int.mul_comm] at this
    exact this
  have t := tmod_bounds (a := A) hB
  have h0 : (Int64.ofInt A / Int64.ofInt B).toInt = A.tdiv B := by
    rw [Int64.toInt_div_of_ne_right _ _ (fun q => by
      have := congrArg Int64.toInt q
      rw [w_t (by omega) (by omega)] at this
      rw [show (-1 : Int64).toInt = -1 from by decide] at this
      omega), w_t (by omega) (by omega), w_t (by omega) (by omega)]
  have hb : (A.tdiv B).natAbs ≤ A.natAbs := by
    rw [Int.natAbs_tdiv]
    exact Nat.div_le_self _ _
  refine ⟨h0, by omega, by omega, by omega, by omega⟩
theorem dv_mul {A B : Int} (hA1 : -4611686018427387904 ≤ A) (hA2 : A ≤ 4611686018427387904) (hB : 0 < B) (hB2 : B ≤ 2305843009213693952) : Int64.ofInt A / Int64.ofInt B = Int64.ofInt (A.tdiv B) := by
  obtain ⟨h0, h1, h2, -, -⟩ := dv_t hA1 hA2 hB hB2
  rw [j_eq, h0, w_t (by omega) (by omega)]
theorem fdJ_eq {A B : Int} (hA1 : -4611686018427387904 ≤ A) (hA2 : A ≤ 4611686018427387904) (hB : 0 < B) (hB2 : B ≤ 2305843009213693952) : fdJ (Int64.ofInt A) (Int64.ofInt B) = Int64.ofInt (A / B) := by
  obtain ⟨h0, h1, h2, h3, h4⟩ := dv_t hA1 hA2 hB hB2
  unfold fdJ
  rw [dv_mul hA1 hA2 hB hB2, w_mul, tdiv_floor hB]
  have c1 : (Int64.ofInt A ^^^ Int64.ofInt B) < 0 ↔ A < 0 := by
    rw [j_lt, show (0 : Int64).toInt = 0 from by decide, xor_neg (by rw [w_t (by omega) (by omega)]; omega), w_t (by omega) (by omega)]
  have c2 : Int64.ofInt (A.tdiv B * B) = Int64.ofInt A ↔ A.tdiv B * B = A := by
    rw [j_eq, w_t (by omega) (by omega), w_t (by omega) (by omega)]
  by_cases hc : A < 0 ∧ ¬ A.tdiv B * B = A
  · rw [if_pos hc, if_pos ⟨c1.mpr hc.1, fun q => hc.2 (c2.mp q)⟩]
    exact w_sub _ 1
  · rw [if_neg hc, if_neg (fun q => hc ⟨c1.mp q.1, fun z => q.2 (c2.mpr z)⟩)]
theorem dnJ_eq {A B : Int} (hA1 : -4611686018427387904 ≤ A) (hA2 : A ≤ 4611686018427387904) (hB : 0 < B) (hB2 : B ≤ 2305843009213693952) : dnJ (Int64.ofInt A) (Int64.ofInt B) = Int64.ofInt (A / B) := by
  obtain ⟨h0, h1, h2, h3, h4⟩ := dv_t hA1 hA2 hB hB2
  have e1 : A.tdiv B * B + A.tmod B = A := by
    have := Int.mul_tdiv_add_tmod A B
    rw [Int.mul_comm] at this
    exact this
  have t := tmod_bounds (a := A) hB
  unfold dnJ
  rw [dv_mul hA1 hA2 hB hB2, w_mul, w_sub, tdiv_floor hB]
  have c1 : Int64.ofInt (A - A.tdiv B * B) < 0 ↔ A - A.tdiv B * B < 0 := by
    rw [j_lt, show (0 : Int64).toInt = 0 from by decide, w_t (by omega) (by omega)]
  have c2 : A - A.tdiv B * B < 0 ↔ A < 0 ∧ ¬ A.tdiv B * B = A := by
    constructor
    · intro q
      refine ⟨?_, by omega⟩
      rcases Int.lt_or_le A 0 with h | h
      · exact h
      · have := Int.tmod_nonneg B h
        omega
    · intro q
      have := Int.tmod_nonneg B (a := -A) (by omega)
      rw [Int.neg_tmod] at this
      omega
  by_cases hc : A < 0 ∧ ¬ A.tdiv B * B = A
  · rw [if_pos hc, if_pos (c1.mpr (c2.mpr hc))]
    exact w_sub _ 1
  · rw [if_neg hc, if_neg (fun q => hc (c2.mp (c1.mp q)))]
/-! sums -/
def sumN : Nat → (Nat → Int) → Int
  | 0, _ => 0
  | n + 1, g => sumN n g + g n
theorem sumN_congr {n : Nat} {f g : Nat → Int} (h : ∀ i, i < n → f i = g i) : sumN n f = sumN n g := by
  induction n with
  | zero => rfl
  | succ n ih =>
    show sumN n f + f n = sumN n g + g n
    rw [ih (fun i hi => h i (by omega)), h n (by omega)]
theorem sumN_add (n : Nat) (f g : Nat → Int) : sumN n (fun i => f i + g i) = sumN n f + sumN n g := by
  induction n with
  | zero => rfl
  | succ n ih =>
    show sumN n (fun i => f i + g i) + (f n + g n) = sumN n f + f n + (sumN n g + g n)
    rw [ih]; omega
theorem sumN_zero (n : Nat) : sumN n (fun _ => 0) = 0 := by
  induction n with
  | zero => rfl
  | succ n ih =>
    show sumN n (fun _ => 0) + 0 = 0
    rw [ih]; rfl
theorem sumN_swap (n m : Nat) (f : Nat → Nat → Int) : sumN n (fun i => sumN m (fun j => f i j)) = sumN m (fun j => sumN n (fun i => f i j)) := by
  induction n with
  | zero => exact (sumN_zero m).symm
  | succ n ih =>
    show sumN n (fun i => sumN m (fun j => f i j)) + sumN m (fun j => f n j) = sumN m (fun j => sumN n (fun i => f i j) + f n j)
    rw [ih, sumN_add]
theorem sumN_nonneg {n : Nat} {f : Nat → Int} (h : ∀ i, i < n → 0 ≤ f i) : 0 ≤ sumN n f := by
  induction n with
  | zero => exact Int.le_refl 0
  | succ n ih =>
    have h1 := ih (fun i hi => h i (by omega))
    have h2 := h n (by omega)
    show 0 ≤ sumN n f + f n
    omega
/-- a row with one more in the midst -/
theorem sumN_ins {n k : Nat} (hk : k ≤ n) {g g' : Nat → Int} {a : Int} (h1 : ∀ j, j < k → g' j = g j) (h2 : g' k = a) (h3 : ∀ j, k < j → j ≤ n → g' j = g (j - 1)) : sumN (n + 1) g' = sumN n g + a := by
  induction n with
  | zero =>
    have : k = 0 := by omega
    subst this
    show (0 : Int) + g' 0 = 0 + a
    rw [h2]
  | succ n ih =>
    by_cases hkn : k = n + 1
    · subst hkn
      show sumN (n + 1) g' + g' (n + 1) = sumN (n + 1) g + a
      rw [h2, sumN_congr h1]
    · have h4 := ih (by omega) (fun j hj hj2 => h3 j hj (by omega))
      show sumN (n + 1) g' + g' (n + 1) = sumN n g + g n + a
      rw [h4, h3 (n + 1) (by omega) (by omega), show n + 1 - 1 = n from rfl]
      omega
/-! crossings -/
def bd (z : Int) : Prop := -1048704 ≤ z ∧ z ≤ 1048704
def PathR (fx fy fb : Nat → Int32) (X Y : Nat → Int) (bg : Nat → Int32) (n : Nat) : Prop := n ≤ 100 ∧ ∀ k, k < n → fx k = Int32.ofInt (X k) ∧ fy k = Int32.ofInt (Y k) ∧ fb k = bg k ∧ bd (X k) ∧ bd (Y k)
/-- the place where an edge crosses a line -/
def plc (X Y : Nat → Int) (L : Int) (u d : Nat) : Int := X u + (L - Y u) * (X d - X u) / (Y d - Y u)
def crs (X Y : Nat → Int) (L : Int) (u d : Nat) (t : Int) (f : Int → Int → Int) : Int := if Y u ≤ L ∧ L < Y d then f (plc X Y L u d) t else 0
/-- where the subpath of a point begins: the last beginning up to k - 1 -/
def fiP (bg : Nat → Int32) : Nat → Nat
  | 0 => 0
  | k + 1 => if bg k = 0 then fiP bg k else k
theorem fiP_lt (bg : Nat → Int32) : ∀ k, fiP bg (k + 1) ≤ k
  | 0 => by
    show (if bg 0 = 0 then 0 else 0) ≤ 0
    split <;> omega
  | k + 1 => by
    show (if bg (k + 1) = 0 then fiP bg (k + 1) else k + 1) ≤ k + 1
    have := fiP_lt bg k
    split <;> omega
def nxP (bg : Nat → Int32) (n k : Nat) : Nat := if k + 1 = n ∨ ¬ bg (k + 1) = 0 then fiP bg (k + 1) else k + 1
theorem nxP_lt {bg : Nat → Int32} {n k : Nat} (h : k < n) : nxP bg n k < n := by
  unfold nxP
  have := fiP_lt bg k
  by_cases hc : k + 1 = n ∨ ¬ bg (k + 1) = 0
  · rw [if_pos hc]; omega
  · rw [if_neg hc]
    have : ¬ k + 1 = n := fun q => hc (Or.inl q)
    omega
def edg (X Y : Nat → Int) (bg : Nat → Int32) (n : Nat) (L : Int) (k : Nat) (f : Int → Int → Int) : Int := if Y k ≤ Y (nxP bg n k) then crs X Y L k (nxP bg n k) 1 f else crs X Y L (nxP bg n k) k (-1) f
/-- the crossings of a path with a line, as what sums over them are -/
def muL (X Y : Nat → Int) (bg : Nat → Int32) (n : Nat) (L : Int) (m : Nat) (f : Int → Int → Int) : Int := sumN m (fun k => edg X Y bg n L k f)
theorem plc_bd {X Y : Nat → Int} {L : Int} {u d : Nat} (h1 : Y u ≤ L) (h2 : L < Y d) (hu : bd (X u)) (hd : bd (X d)) : bd (plc X Y L u d) := by
  obtain ⟨a1, a2⟩ := hu
  obtain ⟨b1, b2⟩ := hd
  unfold plc bd
  generalize hn : L - Y u = n
  generalize hdd : Y d - Y u = w
  generalize hD : X d - X u = D
  have n0 : 0 ≤ n := by omega
  have nw : n < w := by omega
  have w0 : 0 < w := by omega
  rcases Int.le_total 0 D with h | h
  · have q1 : 0 ≤ n * D / w := by
      rw [Int.le_ediv_iff_mul_le w0, Int.zero_mul]
      exact Int.mul_nonneg n0 h
    have q2 : n * D / w < D + 1 := by
      rw [Int.ediv_lt_iff_lt_mul w0]
      have := Int.mul_le_mul_of_nonneg_right (show n ≤ w by omega) h
      rw [Int.add_mul, Int.mul_comm D w]
      omega
    omega
  · have q1 : D ≤ n * D / w := by
      rw [Int.le_ediv_iff_mul_le w0]
      have := Int.mul_le_mul_of_nonneg_right (show n ≤ w by omega) (show 0 ≤ -D by omega)
      rw [Int.mul_neg, Int.mul_neg] at this
      rw [Int.mul_comm D w]
      omega
    have q2 : n * D / w < 1 := by
      rw [Int.ediv_lt_iff_lt_mul w0]
      have := Int.mul_nonneg n0 (show 0 ≤ -D by omega)
      rw [Int.mul_neg] at this
      omega
    omega
/-- the class's crossings: in order from the left -/
def CR (zx zt : Nat → Int32) (n : Nat) (mu : (Int → Int → Int) → Int) : Prop := ∃ P T : Nat → Int, (∀ j, j < n → zx j = Int32.ofInt (P j) ∧ zt j = Int32.ofInt (T j) ∧ bd (P j)) ∧ (∀ i j, i < j → j < n → P i ≤ P j) ∧ ∀ f : Int → Int → Int, sumN n (fun j => f (P j) (T j)) = mu f
theorem CR_0 {zx zt : Nat → Int32} {mu : (Int → Int → Int) → Int} (h : ∀ f, mu f = 0) : CR zx zt 0 mu := ⟨fun _ => 0, fun _ => 0, fun _ h => absurd h (Nat.not_lt_zero _), fun _ _ _ h => absurd h (Nat.not_lt_zero _), fun f => (h f).symm⟩
theorem CR_congr {zx zt : Nat → Int32} {n : Nat} {mu nu : (Int → Int → Int) → Int} (h : CR zx zt n mu) (e : ∀ f, mu f = nu f) : CR zx zt n nu := by
  obtain ⟨P, T, h1, h2, h3⟩ := h
  exact ⟨P, T, h1, h2, fun f => (h3 f).trans (e f)⟩
theorem ins_fin {zx zt gx gt : Nat → Int32} {n k : Nat} {mu : (Int → Int → Int) → Int} {a t : Int} (h : CR zx zt n mu) (ha : bd a) (hk : k ≤ n) (g1 : ∀ j, j < k → gx j = zx j ∧ gt j = zt j) (g2 : ∀ j, k < j → j ≤ n → gx j = zx (j - 1) ∧ gt j = zt (j - 1)) (g3 : ∀ j, k ≤ j → j < n → Int32.ofInt a < zx j) (g4 : k = 0 ∨ zx (k - 1) ≤ Int32.ofInt a) :
    CR (upd gx k (Int32.ofInt a)) (upd gt k (Int32.ofInt t)) (n + 1) (fun f => mu f + f a t) := by
  obtain ⟨P, T, h1, h2, h3⟩ := h
  obtain ⟨a1, a2⟩ := ha
  have lo : ∀ j, j < k → P j ≤ a := by
    intro j hj
    rcases g4 with g4 | g4
    · omega
    · obtain ⟨e1, -, b1, b2⟩ := h1 (k - 1) (by omega)
      rw [e1, z_le (by omega) (by omega) (by omega) (by omega)] at g4
      rcases Nat.lt_or_ge j (k - 1) with q | q
      · have := h2 j (k - 1) q (by omega); omega
      · have : j = k - 1 := by omega
        rw [this]; exact g4
  have hi : ∀ j, k ≤ j → j < n → a < P j := by
    intro j hj hjn
    obtain ⟨e1, -, b1, b2⟩ := h1 j hjn
    have := g3 j hj hjn
    rw [e1, z_lt (by omega) (by omega) (by omega) (by omega)] at this
    exact this
  refine ⟨fun j => if j < k then P j else if j = k then a else P (j - 1), fun j => if j < k then T j else if j = k then t else T (j - 1), ?_, ?_, ?_⟩
  · intro j hj
    by_cases c1 : j < k
    · obtain ⟨e1, e2, b⟩ := h1 j (by omega)
      obtain ⟨q1, q2⟩ := g1 j c1
      have hne : j ≠ k := by omega
      simp only [if_pos c1, upd, if_neg hne]
      exact ⟨q1.trans e1, q2.trans e2, b⟩
    · by_cases c2 : j = k
      · subst c2
        simp only [upd, Nat.lt_irrefl, if_false, if_true]
        exact ⟨trivial, trivial, a1, a2⟩
      · obtain ⟨e1, e2, b⟩ := h1 (j - 1) (by omega)
        obtain ⟨q1, q2⟩ := g2 j (by omega) (by omega)
        simp only [if_neg c1, upd, if_neg c2]
        exact ⟨q1.trans e1, q2.trans e2, b⟩
  · intro i j hij hj
    dsimp only
    by_cases c1 : j < k
    · rw [if_pos c1, if_pos (show i < k by omega)]
      exact h2 i j hij (by omega)
    · rw [if_neg c1]
      by_cases c2 : j = k
      · rw [if_pos c2, if_pos (show i < k by omega)]
        exact lo i (by omega)
      · rw [if_neg c2]
        by_cases c3 : i < k
        · rw [if_pos c3]
          have h5 := lo i c3
          have h6 := hi (j - 1) (by omega) (by omega)
          omega
        · rw [if_neg c3]
          by_cases c4 : i = k
          · rw [if_pos c4]
            have := hi (j - 1) (by omega) (by omega)
            omega
          · rw [if_neg c4]
            exact h2 (i - 1) (j - 1) (by omega) (by omega)
  · intro f
    have := sumN_ins hk (g := fun j => f (P j) (T j)) (g' := fun j => f (if j < k then P j else if j = k then a else P (j - 1)) (if j < k then T j else if j = k then t else T (j - 1))) (a := f a t) (fun j hj => by simp only [if_pos hj]) (by simp only [Nat.lt_irrefl, if_false, if_true]) (fun j hj hj2 => by
      have c1 : ¬ j < k := by omega
      have c2 : ¬ j = k := by omega
      simp only [if_neg c1, if_neg c2])
    rw [this, h3]
theorem mul_bd {a b : Int} (h1 : -4000000 ≤ a) (h2 : a ≤ 4000000) (h3 : -4000000 ≤ b) (h4 : b ≤ 4000000) : -16000000000000 ≤ a * b ∧ a * b ≤ 16000000000000 := by
  have h := Nat.mul_le_mul (show a.natAbs ≤ 4000000 by omega) (show b.natAbs ≤ 4000000 by omega)
  rw [← Int.natAbs_mul] at h
  omega
end
section
abbrev rm_J9_floorDiv : Room := { frames := 0, cells := 0, slots := 0, locals := 0 }
set_option maxHeartbeats 4000000 in
set_option maxRecDepth 100000 in
theorem c_J9_floorDiv (l : Launch) (D : va_G) (cI cZ cB cJ : ClassId) (sz : Nat) (a : Int64) (b : Int64) (hb0 : ¬ b = 0) : Met l yJ9_floorDiv_f86c9 wsJ9_floorDiv_f86c9 rm_J9_floorDiv (va_Pc [.long a, .long b] (PC D (qT cI cZ cB cJ) [] sz)) (va_Ql (fun (r : Int64) (u : Unit) => r = fdJ a b) (fun (u : Unit) => PO D (qT cI cZ cB cJ) (va_A [] sz) []) (va_A [] sz)) 0 0 (va_A [] sz) := by
  refine q_entLF (cc := cJ9_floorDiv_f86c9) (maxL := 6) (by decide +kernel) rfl (Nat.le_of_ble_eq_true rfl) ?_
  intro p e s m below meth c A Q ls hq hl hQ
  obtain ⟨hx, hb, hml, hts, hown, hin, hN, hK, hsz, hA, hP, hD, hS⟩ := hq
  have hown : s.vm.findClass RJ9 = some m.cls := hown
  obtain ⟨H, hH⟩ : ∃ H, H = s.heap := ⟨_, rfl⟩
  rw [← hH] at hP ⊢
  have hS : va_S A s.heap H [] := by rw [hH]; exact va_S.rf
  clear hH
  have hl : lv_has ls 6 [(0, .long a), (2, .long b)] := hl
  refine lv_lload_n hx hb dJ9_floorDiv_f86c9_0 rfl (lv_at hl 0 rfl) ?_
  refine lv_lload_n hx hb dJ9_floorDiv_f86c9_1 rfl (lv_at hl 1 rfl) ?_
  refine lv_ldiv hx hb dJ9_floorDiv_f86c9_2 hb0 ?_
  refine lv_lstore (lv' := [(4, .long (a / b)), (0, .long a), (2, .long b)]) hx hb dJ9_floorDiv_f86c9_3 hl (by decide) rfl (fun ls hl => ?_)
  refine lv_lload_n hx hb dJ9_floorDiv_f86c9_5 rfl (lv_at hl 1 rfl) ?_
  refine lv_lload_n hx hb dJ9_floorDiv_f86c9_6 rfl (lv_at hl 2 rfl) ?_
  refine lv_lxor hx hb dJ9_floorDiv_f86c9_7 ?_
  refine lv_lconst (v := 0) hx hb dJ9_floorDiv_f86c9_8 (by decide) ?_
  refine W.lcmp hx hb dJ9_floorDiv_f86c9_9 ?_
  refine lv_if_ge (tgt := 27) hx hb dJ9_floorDiv_f86c9_10 (by decide) (fun h_10 => ?_) (fun h_10 => ?_)
  · refine lv_lload hx hb dJ9_floorDiv_f86c9_27 (lv_at hl 0 rfl) ?_
    have e9 : a / b = fdJ a b := by
      unfold fdJ
      rw [if_neg (fun z => by first | (rw [lgc_ge, j_le] at h_10; rw [j_lt] at z; omega) | exact z.2 ((lgc_eq _ _).mp h_19))]
    have hr9 : (a / b) = fdJ a b := e9
    exact hQ _ _ _ _ (a / b) () _ _ dJ9_floorDiv_f86c9_29 (Nat.le_refl _) (Nat.le_refl _) hr9 (hP.sub [] rfl) hK (hD.sub [] (by decide) rfl) hS
  refine lv_lload hx hb dJ9_floorDiv_f86c9_13 (lv_at hl 0 rfl) ?_
  refine lv_lload_n hx hb dJ9_floorDiv_f86c9_15 rfl (lv_at hl 2 rfl) ?_
  refine lv_lmul hx hb dJ9_floorDiv_f86c9_16 ?_
  refine lv_lload_n hx hb dJ9_floorDiv_f86c9_17 rfl (lv_at hl 1 rfl) ?_
  refine W.lcmp hx hb dJ9_floorDiv_f86c9_18 ?_
  refine lv_if_eq (tgt := 27) hx hb dJ9_floorDiv_f86c9_19 (by decide) (fun h_19 => ?_) (fun h_19 => ?_)
  · refine lv_lload hx hb dJ9_floorDiv_f86c9_27 (lv_at hl 0 rfl) ?_
    have e9 : a / b = fdJ a b := by
      unfold fdJ
      rw [if_neg (fun z => by first | (rw [lgc_ge, j_le] at h_10; rw [j_lt] at z; omega) | exact z.2 ((lgc_eq _ _).mp h_19))]
    have hr9 : (a / b) = fdJ a b := e9
    exact hQ _ _ _ _ (a / b) () _ _ dJ9_floorDiv_f86c9_29 (Nat.le_refl _) (Nat.le_refl _) hr9 (hP.sub [] rfl) hK (hD.sub [] (by decide) rfl) hS
  refine lv_lload hx hb dJ9_floorDiv_f86c9_22 (lv_at hl 0 rfl) ?_
  refine lv_lconst (v := 1) hx hb dJ9_floorDiv_f86c9_24 (by decide) ?_
  refine lv_lsub hx hb dJ9_floorDiv_f86c9_25 ?_
  have e9 : a / b - 1 = fdJ a b := by
    unfold fdJ
    rw [if_pos ⟨by
      rw [lgc_ge] at h_10
      rw [j_lt]
      rw [j_le] at h_10
      omega, fun z => h_19 ((lgc_eq _ _).mpr z)⟩]
  have hr9 : ((a / b) - 1) = fdJ a b := e9
  exact hQ _ _ _ _ ((a / b) - 1) () _ _ dJ9_floorDiv_f86c9_26 (Nat.le_refl _) (Nat.le_refl _) hr9 (hP.sub [] rfl) hK (hD.sub [] (by decide) rfl) hS

abbrev rm_J7_fill : Room := { frames := 0, cells := 0, slots := 0, locals := 0 }
set_option maxHeartbeats 4000000 in
set_option maxRecDepth 100000 in
theorem c_J7_fill (l : Launch) (D : va_G) (cI cZ cB cJ : ClassId) (sz : Nat) (h0 : Nat) (k : Nat) (f : Nat → Int32) (v : Int32) (hk : k < 2 ^ 31) : Met l yJ7_fill_53178 wsJ7_fill_53178 rm_J7_fill (va_Pc [.ref h0, .int v] (PC D (qT cI cZ cB cJ) [(h0, .inl (cI, k, .inl f))] sz)) (va_Qv (fun (u : (Nat → Int32)) => ∀ j, j < k → u j = v) (fun (u : (Nat → Int32)) => PO D (qT cI cZ cB cJ) (va_A [(h0, .inl (cI, k, .inl f))] sz) [(h0, .inl (cI, k, .inl u))]) (va_A [(h0, .inl (cI, k, .inl f))] sz)) 0 0 (va_A [(h0, .inl (cI, k, .inl f))] sz) := by
  refine q_entV (cc := cJ7_fill_53178) (maxL := 4) (by decide +kernel) rfl (Nat.le_of_ble_eq_true rfl) ?_
  intro p e s m below meth c A Q ls hq hl hQ
  obtain ⟨hx, hb, hml, hts, hown, hin, hN, hK, hsz, hA, hP, hD, hS⟩ := hq
  have hown : s.vm.findClass RJ7 = some m.cls := hown
  obtain ⟨H, hH⟩ : ∃ H, H = s.heap := ⟨_, rfl⟩
  rw [← hH] at hP ⊢
  have hS : va_S A s.heap H [] := by rw [hH]; exact va_S.rf
  clear hH
  have hl : lv_has ls 4 [(0, .ref h0), (1, .int v)] := hl
  refine lv_iconst (v := nI 0) hx hb dJ7_fill_53178_0 (by decide) ?_
  refine lv_istore_n (lv' := [(2, .int (nI 0)), (0, .ref h0), (1, .int v)]) hx hb dJ7_fill_53178_1 rfl hl (by decide) rfl (fun ls hl => ?_)
  refine lv_aload_n hx hb dJ7_fill_53178_2 rfl (lv_at hl 1 rfl) ?_
  refine va_alen hx hb hK hP 0 0 rfl rfl (v := nI k) rfl dJ7_fill_53178_3 ?_
  refine lv_istore_n (lv' := [(3, .int (nI k)), (2, .int (nI 0)), (0, .ref h0), (1, .int v)]) hx hb dJ7_fill_53178_4 rfl hl (by decide) rfl (fun ls hl => ?_)
  have L_5 : ∀ (fuel : Nat) (i : Nat) (g : Nat → Int32), k - i < fuel → (i ≤ k) → (∀ j, j < i → g j = v) → ∀ (H : Heap) (locs : List Loc) (ls : Array Slot), va_P D qCl [(h0, .inl (cI, k, .inl g))] H → va_D A [(h0, .inl (cI, k, .inl g))] → va_S A s.heap H locs → lv_has ls 4 [(3, .int (nI k)), (2, .int (nI i)), (0, .ref h0), (1, .int v)] → W p l e rm_J7_fill s m ([.ref h0, .int v] : List Value).toArray below meth c H locs 0 0 Q (F0 m 5 ls []) := by
    intro fuel
    induction fuel with
    | zero =>
      intro i g hm
      exact absurd hm (Nat.not_lt_zero _)
    | succ fuel ih_5 =>
      intro i g hm_5 hi hg H locs ls hP hD hS hl
      refine lv_iload_n hx hb dJ7_fill_53178_5 rfl (lv_at hl 1 rfl) ?_
      refine lv_iload_n hx hb dJ7_fill_53178_6 rfl (lv_at hl 0 rfl) ?_
      refine q_ge (tgt := 20) hx hb (by omega) (by omega) dJ7_fill_53178_7 (by decide) (fun h_7 => ?_) (fun h_7 => ?_)
      · have hr9 : ∀ j, j < k → g j = v := (fun j hj => hg j (by omega))
        exact hQ _ _ _ _ g _ _ dJ7_fill_53178_20 (Nat.le_refl _) (Nat.le_refl _) hr9 (hP.sub [0] rfl) hK (hD.sub [0] (by decide) rfl) hS
      refine lv_aload_n hx hb dJ7_fill_53178_10 rfl (lv_at hl 2 rfl) ?_
      refine lv_iload_n hx hb dJ7_fill_53178_11 rfl (lv_at hl 1 rfl) ?_
      refine lv_iload_n hx hb dJ7_fill_53178_12 rfl (lv_at hl 3 rfl) ?_
      refine q_iast hx hb hK hP hD hS 0 0 rfl rfl (k := i) (by omega) (by omega) dJ7_fill_53178_13 (fun H locs hP hD hS => ?_)
      have hP : va_P D qCl [(h0, .inl (cI, k, .inl (upd g i v)))] H := hP
      have hD : va_D A [(h0, .inl (cI, k, .inl (upd g i v)))] := hD
      refine lv_iinc (v := nI (i + 1)) (lv' := [(2, .int (nI (i + 1))), (3, .int (nI k)), (0, .ref h0), (1, .int v)]) hx hb dJ7_fill_53178_14 hl (k := 1) rfl (q_inc _) (by decide) rfl (fun ls hl => ?_)
      refine lv_goto (tgt := 5) hx hb dJ7_fill_53178_17 (by decide) ?_
      exact ih_5 (i + 1) (upd g i v) (by omega) (by omega) (fun j hj => by unfold upd; by_cases hj2 : j = i; (· rw [if_pos hj2]); (· rw [if_neg hj2]; exact hg j (by omega))) _ _ _ (hP.sub [0] rfl) (hD.sub [0] (by decide) rfl) hS (lv_sub hl [1, 0, 2, 3] rfl)
  exact L_5 _ 0 f (Nat.lt_succ_self _) (Nat.zero_le _) (fun j hj => absurd hj (Nat.not_lt_zero _)) _ _ _ (hP.sub [0] rfl) (hD.sub [0] (by decide) rfl) hS (lv_sub hl [0, 1, 2, 3] rfl)
end
section
abbrev rm_X0_insert : Room := { frames := 0, cells := 0, slots := 0, locals := 0 }
set_option maxHeartbeats 4000000 in
set_option maxRecDepth 100000 in
/-- Crossings.insert -/
theorem c_X0_insert (l : Launch) (D : va_G) (cI cZ cB cJ : ClassId) (sz : Nat) (z0 : Nat) (z1 : Nat) (z2 : Nat) (n : Nat) (zx : Nat → Int32) (zt : Nat → Int32) (mu : (Int → Int → Int) → Int) (a : Int) (t : Int) (hn : n < 100) (hC : CR zx zt n mu) (ha : bd a) : Met l yX0_insert wsX0_insert rm_X0_insert (va_Pc [.ref z0, .int (Int32.ofInt a), .int (Int32.ofInt t)] (PC D (qT cI cZ cB cJ) [(z0, .inr (0, [.ref z1, .ref z2, .int (nI n)])), (z1, .inl (cI, 100, .inl zx)), (z2, .inl (cI, 100, .inl zt))] sz)) (va_Qv (fun (u : (Nat → Int32) × (Nat → Int32)) => CR u.1 u.2 (n + 1) (fun f => mu f + f a t)) (fun (u : (Nat → Int32) × (Nat → Int32)) => PO D (qT cI cZ cB cJ) (va_A [(z0, .inr (0, [.ref z1, .ref z2, .int (nI n)])), (z1, .inl (cI, 100, .inl zx)), (z2, .inl (cI, 100, .inl zt))] sz) [(z0, .inr (0, [.ref z1, .ref z2, .int (nI (n + 1))])), (z1, .inl (cI, 100, .inl u.1)), (z2, .inl (cI, 100, .inl u.2))]) (va_A [(z0, .inr (0, [.ref z1, .ref z2, .int (nI n)])), (z1, .inl (cI, 100, .inl zx)), (z2, .inl (cI, 100, .inl zt))] sz)) 0 0 (va_A [(z0, .inr (0, [.ref z1, .ref z2, .int (nI n)])), (z1, .inl (cI, 100, .inl zx)), (z2, .inl (cI, 100, .inl zt))] sz) := by
  refine q_entV (cc := cX0_insert) (maxL := 4) (by decide +kernel) rfl (Nat.le_of_ble_eq_true rfl) ?_
  intro p e s m below meth c A Q ls hq hl hQ
  obtain ⟨hx, hb, hml, hts, hown, hin, hN, hK, hsz, hA, hP, hD, hS⟩ := hq
  have hown : s.vm.findClass RX0 = some m.cls := hown
  obtain ⟨H, hH⟩ : ∃ H, H = s.heap := ⟨_, rfl⟩
  rw [← hH] at hP ⊢
  have hS : va_S A s.heap H [] := by rw [hH]; exact va_S.rf
  clear hH
  have hl : lv_has ls 4 [(0, .ref z0), (1, .int (Int32.ofInt a)), (2, .int (Int32.ofInt t))] := hl
  have iX0 : ∀ w ∈ wsX00, w ∈ wsX0_insert := by decide +kernel
  have f_18 := hts (.fieldLink RX0 18 "RasterCover$Crossings" "count" "I") (by decide +kernel)
  have f_9 := hts (.fieldLink RX0 9 "RasterCover$Crossings" "xs" "[I") (by decide +kernel)
  have f_15 := hts (.fieldLink RX0 15 "RasterCover$Crossings" "turns" "[I") (by decide +kernel)
  refine lv_aload_n hx hb dX0_insert_0 rfl (lv_at hl 0 rfl) ?_
  refine va_get (D := D) (ci := 0) (v := .int (nI n)) (C := RX0) (T := TX0) (N := 3) hx hb hts iX0 hown hK hP 0 rfl rfl 2 (by decide) f_18 (fun _ h9 => h9) rfl dX0_insert_1 ?_
  refine lv_bipush (v := nI 100) hx hb dX0_insert_4 (by decide) ?_
  refine q_lt (tgt := 10) hx hb (by omega) (by omega) dX0_insert_6 (by decide) (fun h_6 => ?_) (fun h_6 => by omega)
  refine lv_aload_n hx hb dX0_insert_10 rfl (lv_at hl 0 rfl) ?_
  refine va_get (D := D) (ci := 0) (v := .int (nI n)) (C := RX0) (T := TX0) (N := 3) hx hb hts iX0 hown hK hP 0 rfl rfl 2 (by decide) f_18 (fun _ h9 => h9) rfl dX0_insert_11 ?_
  refine lv_istore_n (lv' := [(3, .int (nI n)), (0, .ref z0), (1, .int (Int32.ofInt a)), (2, .int (Int32.ofInt t))]) hx hb dX0_insert_14 rfl hl (by decide) rfl (fun ls hl => ?_)
  have L_15 : ∀ (fuel : Nat) (k : Nat) (gx : Nat → Int32) (gt : Nat → Int32), k < fuel → (k ≤ n) → (∀ j, j < k → gx j = zx j ∧ gt j = zt j) → (∀ j, k < j → j ≤ n → gx j = zx (j - 1) ∧ gt j = zt (j - 1)) → (∀ j, k ≤ j → j < n → Int32.ofInt a < zx j) → ∀ (H : Heap) (locs : List Loc) (ls : Array Slot), va_P D qCl [(z0, .inr (0, [.ref z1, .ref z2, .int (nI n)])), (z1, .inl (cI, 100, .inl gx)), (z2, .inl (cI, 100, .inl gt))] H → va_D A [(z0, .inr (0, [.ref z1, .ref z2, .int (nI n)])), (z1, .inl (cI, 100, .inl gx)), (z2, .inl (cI, 100, .inl gt))] → va_S A s.heap H locs → lv_has ls 4 [(3, .int (nI k)), (0, .ref z0), (1, .int (Int32.ofInt a)), (2, .int (Int32.ofInt t))] → W p l e rm_X0_insert s m ([.ref z0, .int (Int32.ofInt a), .int (Int32.ofInt t)] : List Value).toArray below meth c H locs 0 0 Q (F0 m 15 ls []) := by
    intro fuel
    induction fuel with
    | zero =>
      intro k gx gt hm
      exact absurd hm (Nat.not_lt_zero _)
    | succ fuel ih_15 =>
      intro k gx gt hm_15 hk g1 g2 g3 H locs ls hP hD hS hl
      have J_65 : ∀ (k : Nat) (gx : Nat → Int32) (gt : Nat → Int32), (k ≤ n) → (∀ j, j < k → gx j = zx j ∧ gt j = zt j) → (∀ j, k < j → j ≤ n → gx j = zx (j - 1) ∧ gt j = zt (j - 1)) → (∀ j, k ≤ j → j < n → Int32.ofInt a < zx j) → (k = 0 ∨ zx (k - 1) ≤ Int32.ofInt a) → ∀ (H : Heap) (locs : List Loc) (ls : Array Slot), va_P D qCl [(z0, .inr (0, [.ref z1, .ref z2, .int (nI n)])), (z1, .inl (cI, 100, .inl gx)), (z2, .inl (cI, 100, .inl gt))] H → va_D A [(z0, .inr (0, [.ref z1, .ref z2, .int (nI n)])), (z1, .inl (cI, 100, .inl gx)), (z2, .inl (cI, 100, .inl gt))] → va_S A s.heap H locs → lv_has ls 4 [(3, .int (nI k)), (0, .ref z0), (1, .int (Int32.ofInt a)), (2, .int (Int32.ofInt t))] → W p l e rm_X0_insert s m ([.ref z0, .int (Int32.ofInt a), .int (Int32.ofInt t)] : List Value).toArray below meth c H locs 0 0 Q (F0 m 65 ls []) := by
        intro k gx gt hk g1 g2 g3 g4 H locs ls hP hD hS hl
        refine lv_aload_n hx hb dX0_insert_65 rfl (lv_at hl 1 rfl) ?_
        refine va_get (D := D) (ci := 0) (v := .ref z1) (C := RX0) (T := TX0) (N := 3) hx hb hts iX0 hown hK hP 0 rfl rfl 0 (by decide) f_9 (fun _ h9 => h9) rfl dX0_insert_66 ?_
        refine lv_iload_n hx hb dX0_insert_69 rfl (lv_at hl 0 rfl) ?_
        refine lv_iload_n hx hb dX0_insert_70 rfl (lv_at hl 2 rfl) ?_
        refine q_iast hx hb hK hP hD hS 1 0 rfl rfl (k := k) (by omega) (by omega) dX0_insert_71 (fun H locs hP hD hS => ?_)
        have hP : va_P D qCl [(z0, .inr (0, [.ref z1, .ref z2, .int (nI n)])), (z1, .inl (cI, 100, .inl (upd gx k (Int32.ofInt a)))), (z2, .inl (cI, 100, .inl gt))] H := hP
        have hD : va_D A [(z0, .inr (0, [.ref z1, .ref z2, .int (nI n)])), (z1, .inl (cI, 100, .inl (upd gx k (Int32.ofInt a)))), (z2, .inl (cI, 100, .inl gt))] := hD
        refine lv_aload_n hx hb dX0_insert_72 rfl (lv_at hl 1 rfl) ?_
        refine va_get (D := D) (ci := 0) (v := .ref z2) (C := RX0) (T := TX0) (N := 3) hx hb hts iX0 hown hK hP 0 rfl rfl 1 (by decide) f_15 (fun _ h9 => h9) rfl dX0_insert_73 ?_
        refine lv_iload_n hx hb dX0_insert_76 rfl (lv_at hl 0 rfl) ?_
        refine lv_iload_n hx hb dX0_insert_77 rfl (lv_at hl 3 rfl) ?_
        refine q_iast hx hb hK hP hD hS 2 0 rfl rfl (k := k) (by omega) (by omega) dX0_insert_78 (fun H locs hP hD hS => ?_)
        have hP : va_P D qCl [(z0, .inr (0, [.ref z1, .ref z2, .int (nI n)])), (z1, .inl (cI, 100, .inl (upd gx k (Int32.ofInt a)))), (z2, .inl (cI, 100, .inl (upd gt k (Int32.ofInt t))))] H := hP
        have hD : va_D A [(z0, .inr (0, [.ref z1, .ref z2, .int (nI n)])), (z1, .inl (cI, 100, .inl (upd gx k (Int32.ofInt a)))), (z2, .inl (cI, 100, .inl (upd gt k (Int32.ofInt t))))] := hD
        refine lv_aload_n hx hb dX0_insert_79 rfl (lv_at hl 1 rfl) ?_
        refine lv_dup hx hb dX0_insert_80 rfl ?_
        refine va_get (D := D) (ci := 0) (v := .int (nI n)) (C := RX0) (T := TX0) (N := 3) hx hb hts iX0 hown hK hP 0 rfl rfl 2 (by decide) f_18 (fun _ h9 => h9) rfl dX0_insert_81 ?_
        refine lv_iconst (v := nI 1) hx hb dX0_insert_84 (by decide) ?_
        refine lv_iadd hx hb dX0_insert_85 ?_
        refine q_eqi (nI_add _ _) ?_
        refine va_put (D := D) (ci := 0) (v := .int (nI (n + 1))) (ty := .int) (C := RX0) (T := TX0) (N := 3) hx hb hts iX0 tyX0 tyX0_ok nmX0 hown hK hP hD hS 0 rfl rfl 2 (by decide) f_18 (fun _ h9 => h9) rfl (by decide +kernel) rfl rfl (Nat.le_of_ble_eq_true rfl) dX0_insert_86 (fun H locs hP hD hS => ?_)
        have hP : va_P D qCl [(z0, .inr (0, [.ref z1, .ref z2, .int (nI (n + 1))])), (z1, .inl (cI, 100, .inl (upd gx k (Int32.ofInt a)))), (z2, .inl (cI, 100, .inl (upd gt k (Int32.ofInt t))))] H := hP
        have hD : va_D A [(z0, .inr (0, [.ref z1, .ref z2, .int (nI (n + 1))])), (z1, .inl (cI, 100, .inl (upd gx k (Int32.ofInt a)))), (z2, .inl (cI, 100, .inl (upd gt k (Int32.ofInt t))))] := hD
        have hr9 : CR (upd gx k (Int32.ofInt a)) (upd gt k (Int32.ofInt t)) (n + 1) (fun f => mu f + f a t) := ins_fin hC ha hk g1 g2 g3 g4
        exact hQ _ _ _ _ (upd gx k (Int32.ofInt a), upd gt k (Int32.ofInt t)) _ _ dX0_insert_89 (Nat.le_refl _) (Nat.le_refl _) hr9 (hP.sub [0, 1, 2] rfl) hK (hD.sub [0, 1, 2] (by decide) rfl) hS
      refine lv_iload_n hx hb dX0_insert_15 rfl (lv_at hl 0 rfl) ?_
      refine q_if_le (tgt := 65) hx hb (by omega) dX0_insert_16 (by decide) (fun h_16 => ?_) (fun h_16 => ?_)
      · exact J_65 k gx gt hk g1 g2 g3 (Or.inl h_16) _ _ _ (hP.sub [0, 1, 2] rfl) (hD.sub [0, 1, 2] (by decide) rfl) hS (lv_sub hl [0, 1, 2, 3] rfl)
      obtain ⟨k, rfl⟩ : ∃ j, k = j + 1 := ⟨k - 1, by omega⟩
      refine lv_aload_n hx hb dX0_insert_19 rfl (lv_at hl 1 rfl) ?_
      refine va_get (D := D) (ci := 0) (v := .ref z1) (C := RX0) (T := TX0) (N := 3) hx hb hts iX0 hown hK hP 0 rfl rfl 0 (by decide) f_9 (fun _ h9 => h9) rfl dX0_insert_20 ?_
      refine lv_iload_n hx hb dX0_insert_23 rfl (lv_at hl 0 rfl) ?_
      refine lv_iconst (v := nI 1) hx hb dX0_insert_24 (by decide) ?_
      refine lv_isub hx hb dX0_insert_25 ?_
      refine q_eqi (y := nI k) (q_pred k) ?_
      refine q_iald hx hb hK hP 1 0 rfl rfl (k := k) (by omega) (by omega) dX0_insert_26 ?_
      refine lv_iload_n hx hb dX0_insert_27 rfl (lv_at hl 2 rfl) ?_
      refine lv_icmp_le (tgt := 65) hx hb dX0_insert_28 (by decide) (fun h_28 => ?_) (fun h_28 => ?_)
      · exact J_65 (k + 1) gx gt hk g1 g2 g3 (Or.inr (by rw [Nat.add_sub_cancel, ← (g1 k (Nat.lt_succ_self k)).1]; exact h_28)) _ _ _ (hP.sub [0, 1, 2] rfl) (hD.sub [0, 1, 2] (by decide) rfl) hS (lv_sub hl [0, 1, 2, 3] rfl)
      refine lv_aload_n hx hb dX0_insert_31 rfl (lv_at hl 1 rfl) ?_
      refine va_get (D := D) (ci := 0) (v := .ref z1) (C := RX0) (T := TX0) (N := 3) hx hb hts iX0 hown hK hP 0 rfl rfl 0 (by decide) f_9 (fun _ h9 => h9) rfl dX0_insert_32 ?_
      refine lv_iload_n hx hb dX0_insert_35 rfl (lv_at hl 0 rfl) ?_
      refine lv_aload_n hx hb dX0_insert_36 rfl (lv_at hl 1 rfl) ?_
      refine va_get (D := D) (ci := 0) (v := .ref z1) (C := RX0) (T := TX0) (N := 3) hx hb hts iX0 hown hK hP 0 rfl rfl 0 (by decide) f_9 (fun _ h9 => h9) rfl dX0_insert_37 ?_
      refine lv_iload_n hx hb dX0_insert_40 rfl (lv_at hl 0 rfl) ?_
      refine lv_iconst (v := nI 1) hx hb dX0_insert_41 (by decide) ?_
      refine lv_isub hx hb dX0_insert_42 ?_
      refine q_eqi (y := nI k) (q_pred k) ?_
      refine q_iald hx hb hK hP 1 0 rfl rfl (k := k) (by omega) (by omega) dX0_insert_43 ?_
      refine q_iast hx hb hK hP hD hS 1 0 rfl rfl (k := (k + 1)) (by omega) (by omega) dX0_insert_44 (fun H locs hP hD hS => ?_)
      have hP : va_P D qCl [(z0, .inr (0, [.ref z1, .ref z2, .int (nI n)])), (z1, .inl (cI, 100, .inl (upd gx (k + 1) (gx k)))), (z2, .inl (cI, 100, .inl gt))] H := hP
      have hD : va_D A [(z0, .inr (0, [.ref z1, .ref z2, .int (nI n)])), (z1, .inl (cI, 100, .inl (upd gx (k + 1) (gx k)))), (z2, .inl (cI, 100, .inl gt))] := hD
      refine lv_aload_n hx hb dX0_insert_45 rfl (lv_at hl 1 rfl) ?_
      refine va_get (D := D) (ci := 0) (v := .ref z2) (C := RX0) (T := TX0) (N := 3) hx hb hts iX0 hown hK hP 0 rfl rfl 1 (by decide) f_15 (fun _ h9 => h9) rfl dX0_insert_46 ?_
      refine lv_iload_n hx hb dX0_insert_49 rfl (lv_at hl 0 rfl) ?_
      refine lv_aload_n hx hb dX0_insert_50 rfl (lv_at hl 1 rfl) ?_
      refine va_get (D := D) (ci := 0) (v := .ref z2) (C := RX0) (T := TX0) (N := 3) hx hb hts iX0 hown hK hP 0 rfl rfl 1 (by decide) f_15 (fun _ h9 => h9) rfl dX0_insert_51 ?_
      refine lv_iload_n hx hb dX0_insert_54 rfl (lv_at hl 0 rfl) ?_
      refine lv_iconst (v := nI 1) hx hb dX0_insert_55 (by decide) ?_
      refine lv_isub hx hb dX0_insert_56 ?_
      refine q_eqi (y := nI k) (q_pred k) ?_
      refine q_iald hx hb hK hP 2 0 rfl rfl (k := k) (by omega) (by omega) dX0_insert_57 ?_
      refine q_iast hx hb hK hP hD hS 2 0 rfl rfl (k := (k + 1)) (by omega) (by omega) dX0_insert_58 (fun H locs hP hD hS => ?_)
      have hP : va_P D qCl [(z0, .inr (0, [.ref z1, .ref z2, .int (nI n)])), (z1, .inl (cI, 100, .inl (upd gx (k + 1) (gx k)))), (z2, .inl (cI, 100, .inl (upd gt (k + 1) (gt k))))] H := hP
      have hD : va_D A [(z0, .inr (0, [.ref z1, .ref z2, .int (nI n)])), (z1, .inl (cI, 100, .inl (upd gx (k + 1) (gx k)))), (z2, .inl (cI, 100, .inl (upd gt (k + 1) (gt k))))] := hD
      refine lv_iinc (v := nI k) (lv' := [(3, .int (nI k)), (0, .ref z0), (1, .int (Int32.ofInt a)), (2, .int (Int32.ofInt t))]) hx hb dX0_insert_59 hl (k := 0) rfl (q_dec _) (by decide) rfl (fun ls hl => ?_)
      refine lv_goto (tgt := 15) hx hb dX0_insert_62 (by decide) ?_
      exact ih_15 k (upd gx (k + 1) (gx k)) (upd gt (k + 1) (gt k)) (by omega) (by omega) (fun j hj => by unfold upd; rw [if_neg (show ¬ j = k + 1 by omega), if_neg (show ¬ j = k + 1 by omega)]; exact g1 j (by omega)) (fun j hj hj2 => by unfold upd; by_cases c9 : j = k + 1; (· rw [if_pos c9, if_pos c9, c9]; exact g1 k (by omega)); (· rw [if_neg c9, if_neg c9]; exact g2 j (by omega) hj2)) (fun j hj hj2 => by rcases Nat.lt_or_ge j (k + 1) with c9 | c9; (· rw [show j = k by omega, ← (g1 k (by omega)).1]; exact i_lt.mpr (Int.lt_of_not_ge fun z => h_28 (i_le.mpr z))); (· exact g3 j c9 hj2)) _ _ _ (hP.sub [0, 1, 2] rfl) (hD.sub [0, 1, 2] (by decide) rfl) hS (lv_sub hl [0, 1, 2, 3] rfl)
  exact L_15 _ n zx zt (Nat.lt_succ_self _) (Nat.le_refl _) (fun j hj => ⟨rfl, rfl⟩) (fun j hj hj2 => by omega) (fun j hj hj2 => by omega) _ _ _ (hP.sub [0, 1, 2] rfl) (hD.sub [0, 1, 2] (by decide) rfl) hS (lv_sub hl [0, 1, 2, 3] rfl)

abbrev rm_X0_cross : Room := { frames := 1, cells := 0, slots := 0, locals := 25 }
set_option maxHeartbeats 4000000 in
set_option maxRecDepth 100000 in
/-- Crossings.cross -/
theorem c_X0_cross (l : Launch) (D : va_G) (cI cZ cB cJ : ClassId) (sz : Nat) (z0 : Nat) (z1 : Nat) (z2 : Nat) (n : Nat) (zx : Nat → Int32) (zt : Nat → Int32) (h0 : Nat) (h1 : Nat) (h2 : Nat) (h3 : Nat) (cn : Nat) (fx : Nat → Int32) (fy : Nat → Int32) (fb : Nat → Int32) (X : Nat → Int) (Y : Nat → Int) (bg : Nat → Int32) (mu : (Int → Int → Int) → Int) (ku : Nat) (kd : Nat) (L : Int) (t : Int) (hn : n < 100) (hC : CR zx zt n mu) (hR : PathR fx fy fb X Y bg cn) (hu : ku < cn) (hd : kd < cn) (hL : 0 ≤ L ∧ L ≤ 100000) : Met l yX0_cross wsX0_cross rm_X0_cross (va_Pc [.ref z0, .ref h0, .int (nI ku), .int (nI kd), .int (Int32.ofInt L), .int (Int32.ofInt t)] (PC D (qT cI cZ cB cJ) [(z0, .inr (0, [.ref z1, .ref z2, .int (nI n)])), (z1, .inl (cI, 100, .inl zx)), (z2, .inl (cI, 100, .inl zt)), (h0, .inr (2, [.ref h1, .ref h2, .ref h3, .int (nI cn)])), (h1, .inl (cI, 100, .inl fx)), (h2, .inl (cI, 100, .inl fy)), (h3, .inl (cZ, 100, .inl fb))] sz)) (va_Qv (fun (u : (Nat → Int32) × (Nat → Int32) × Nat) => CR u.1 u.2.1 u.2.2 (fun f => mu f + crs X Y L ku kd t f) ∧ u.2.2 ≤ n + 1) (fun (u : (Nat → Int32) × (Nat → Int32) × Nat) => PO D (qT cI cZ cB cJ) (va_A [(z0, .inr (0, [.ref z1, .ref z2, .int (nI n)])), (z1, .inl (cI, 100, .inl zx)), (z2, .inl (cI, 100, .inl zt)), (h0, .inr (2, [.ref h1, .ref h2, .ref h3, .int (nI cn)])), (h1, .inl (cI, 100, .inl fx)), (h2, .inl (cI, 100, .inl fy)), (h3, .inl (cZ, 100, .inl fb))] sz) [(z0, .inr (0, [.ref z1, .ref z2, .int (nI u.2.2)])), (z1, .inl (cI, 100, .inl u.1)), (z2, .inl (cI, 100, .inl u.2.1)), (h0, .inr (2, [.ref h1, .ref h2, .ref h3, .int (nI cn)])), (h1, .inl (cI, 100, .inl fx)), (h2, .inl (cI, 100, .inl fy)), (h3, .inl (cZ, 100, .inl fb))]) (va_A [(z0, .inr (0, [.ref z1, .ref z2, .int (nI n)])), (z1, .inl (cI, 100, .inl zx)), (z2, .inl (cI, 100, .inl zt)), (h0, .inr (2, [.ref h1, .ref h2, .ref h3, .int (nI cn)])), (h1, .inl (cI, 100, .inl fx)), (h2, .inl (cI, 100, .inl fy)), (h3, .inl (cZ, 100, .inl fb))] sz)) 0 0 (va_A [(z0, .inr (0, [.ref z1, .ref z2, .int (nI n)])), (z1, .inl (cI, 100, .inl zx)), (z2, .inl (cI, 100, .inl zt)), (h0, .inr (2, [.ref h1, .ref h2, .ref h3, .int (nI cn)])), (h1, .inl (cI, 100, .inl fx)), (h2, .inl (cI, 100, .inl fy)), (h3, .inl (cZ, 100, .inl fb))] sz) := by
  refine q_entV (cc := cX0_cross) (maxL := 10) (by decide +kernel) rfl (Nat.le_of_ble_eq_true rfl) ?_
  intro p e s m below meth c A Q ls hq hl hQ
  obtain ⟨hx, hb, hml, hts, hown, hin, hN, hK, hsz, hA, hP, hD, hS⟩ := hq
  have hown : s.vm.findClass RX0 = some m.cls := hown
  obtain ⟨H, hH⟩ : ∃ H, H = s.heap := ⟨_, rfl⟩
  rw [← hH] at hP ⊢
  have hS : va_S A s.heap H [] := by rw [hH]; exact va_S.rf
  clear hH
  have hl : lv_has ls 10 [(0, .ref z0), (1, .ref h0), (2, .int (nI ku)), (3, .int (nI kd)), (4, .int (Int32.ofInt L)), (5, .int (Int32.ofInt t))] := hl
  have iX2 : ∀ w ∈ wsX20, w ∈ wsX0_cross := by decide +kernel
  obtain ⟨exu, eyu, -, ⟨bxu1, bxu2⟩, byu1, byu2⟩ := hR.2 ku hu
  obtain ⟨exd, eyd, -, ⟨bxd1, bxd2⟩, byd1, byd2⟩ := hR.2 kd hd
  have hcn := hR.1
  refine lv_aload_n hx hb dX0_cross_0 rfl (lv_at hl 1 rfl) ?_
  refine va_getN (D := D) (ci := 2) (v := .ref h2) (C := RX2) (T := TX2) (N := 4) hx hb hts iX2 hown hK hP 3 rfl rfl 1 (by decide) (nw_1 hN) (fun _ h9 => h9) rfl dX0_cross_1 ?_
  refine lv_iload_n hx hb dX0_cross_4 rfl (lv_at hl 2 rfl) ?_
  refine q_iald hx hb hK hP 5 0 rfl rfl (k := ku) (by omega) (by omega) dX0_cross_5 ?_
  refine q_eqi (y := Int32.ofInt (Y ku)) eyu ?_
  refine lv_istore (lv' := [(6, .int (Int32.ofInt (Y ku))), (0, .ref z0), (1, .ref h0), (2, .int (nI ku)), (3, .int (nI kd)), (4, .int (Int32.ofInt L)), (5, .int (Int32.ofInt t))]) hx hb dX0_cross_6 hl (by decide) rfl (fun ls hl => ?_)
  refine lv_aload_n hx hb dX0_cross_8 rfl (lv_at hl 2 rfl) ?_
  refine va_getN (D := D) (ci := 2) (v := .ref h2) (C := RX2) (T := TX2) (N := 4) hx hb hts iX2 hown hK hP 3 rfl rfl 1 (by decide) (nw_1 hN) (fun _ h9 => h9) rfl dX0_cross_9 ?_
  refine lv_iload_n hx hb dX0_cross_12 rfl (lv_at hl 4 rfl) ?_
  refine q_iald hx hb hK hP 5 0 rfl rfl (k := kd) (by omega) (by omega) dX0_cross_13 ?_
  refine q_eqi (y := Int32.ofInt (Y kd)) eyd ?_
  refine lv_istore (lv' := [(7, .int (Int32.ofInt (Y kd))), (6, .int (Int32.ofInt (Y ku))), (0, .ref z0), (1, .ref h0), (2, .int (nI ku)), (3, .int (nI kd)), (4, .int (Int32.ofInt L)), (5, .int (Int32.ofInt t))]) hx hb dX0_cross_14 hl (by decide) rfl (fun ls hl => ?_)
  refine lv_iload hx hb dX0_cross_16 (lv_at hl 1 rfl) ?_
  refine lv_iload hx hb dX0_cross_18 (lv_at hl 6 rfl) ?_
  refine lv_icmp_gt (tgt := 78) hx hb dX0_cross_20 (by decide) (fun h_20 => ?_) (fun h_20 => ?_)
  · rw [z_lt (by omega) (by omega) (by omega) (by omega)] at h_20
    have hr9 : CR zx zt n (fun f => mu f + crs X Y L ku kd t f) ∧ n ≤ n + 1 := ⟨CR_congr hC (fun f => by unfold crs; rw [if_neg (by omega)]; omega), by omega⟩
    exact hQ _ _ _ _ (zx, zt, n) _ _ dX0_cross_78 (Nat.le_refl _) (Nat.le_refl _) hr9 (hP.sub [0, 1, 2, 3, 4, 5, 6] rfl) hK (hD.sub [0, 1, 2, 3, 4, 5, 6] (by decide) rfl) hS
  rw [z_lt (by omega) (by omega) (by omega) (by omega)] at h_20
  refine lv_iload hx hb dX0_cross_23 (lv_at hl 6 rfl) ?_
  refine lv_iload hx hb dX0_cross_25 (lv_at hl 0 rfl) ?_
  refine lv_icmp_ge (tgt := 78) hx hb dX0_cross_27 (by decide) (fun h_27 => ?_) (fun h_27 => ?_)
  · rw [z_le (by omega) (by omega) (by omega) (by omega)] at h_27
    have hr9 : CR zx zt n (fun f => mu f + crs X Y L ku kd t f) ∧ n ≤ n + 1 := ⟨CR_congr hC (fun f => by unfold crs; rw [if_neg (by omega)]; omega), by omega⟩
    exact hQ _ _ _ _ (zx, zt, n) _ _ dX0_cross_78 (Nat.le_refl _) (Nat.le_refl _) hr9 (hP.sub [0, 1, 2, 3, 4, 5, 6] rfl) hK (hD.sub [0, 1, 2, 3, 4, 5, 6] (by decide) rfl) hS
  rw [z_le (by omega) (by omega) (by omega) (by omega)] at h_27
  refine lv_iload hx hb dX0_cross_30 (lv_at hl 6 rfl) ?_
  refine lv_iload hx hb dX0_cross_32 (lv_at hl 1 rfl) ?_
  refine lv_isub hx hb dX0_cross_34 ?_
  refine q_eqi (y := Int32.ofInt (L - Y ku)) (z_sub _ _) ?_
  refine lv_i2l hx hb dX0_cross_35 rfl ?_
  refine q_eql (y := Int64.ofInt (L - Y ku)) (z_l (by omega) (by omega)) ?_
  refine lv_aload_n hx hb dX0_cross_36 rfl (lv_at hl 3 rfl) ?_
  refine va_getN (D := D) (ci := 2) (v := .ref h1) (C := RX2) (T := TX2) (N := 4) hx hb hts iX2 hown hK hP 3 rfl rfl 0 (by decide) (nw_0 hN) (fun _ h9 => h9) rfl dX0_cross_37 ?_
  refine lv_iload_n hx hb dX0_cross_40 rfl (lv_at hl 5 rfl) ?_
  refine q_iald hx hb hK hP 4 0 rfl rfl (k := kd) (by omega) (by omega) dX0_cross_41 ?_
  refine q_eqi (y := Int32.ofInt (X kd)) exd ?_
  refine lv_aload_n hx hb dX0_cross_42 rfl (lv_at hl 3 rfl) ?_
  refine va_getN (D := D) (ci := 2) (v := .ref h1) (C := RX2) (T := TX2) (N := 4) hx hb hts iX2 hown hK hP 3 rfl rfl 0 (by decide) (nw_0 hN) (fun _ h9 => h9) rfl dX0_cross_43 ?_
  refine lv_iload_n hx hb dX0_cross_46 rfl (lv_at hl 4 rfl) ?_
  refine q_iald hx hb hK hP 4 0 rfl rfl (k := ku) (by omega) (by omega) dX0_cross_47 ?_
  refine q_eqi (y := Int32.ofInt (X ku)) exu ?_
  refine lv_isub hx hb dX0_cross_48 ?_
  refine q_eqi (y := Int32.ofInt (X kd - X ku)) (z_sub _ _) ?_
  refine lv_i2l hx hb dX0_cross_49 rfl ?_
  refine q_eql (y := Int64.ofInt (X kd - X ku)) (z_l (by omega) (by omega)) ?_
  refine lv_lmul hx hb dX0_cross_50 ?_
  refine q_eql (y := Int64.ofInt ((L - Y ku) * (X kd - X ku))) (w_mul _ _) ?_
  refine lv_lstore (lv' := [(8, .long (Int64.ofInt ((L - Y ku) * (X kd - X ku)))), (7, .int (Int32.ofInt (Y kd))), (6, .int (Int32.ofInt (Y ku))), (0, .ref z0), (1, .ref h0), (2, .int (nI ku)), (3, .int (nI kd)), (4, .int (Int32.ofInt L)), (5, .int (Int32.ofInt t))]) hx hb dX0_cross_51 hl (by decide) rfl (fun ls hl => ?_)
  refine lv_aload_n hx hb dX0_cross_53 rfl (lv_at hl 3 rfl) ?_
  refine lv_aload_n hx hb dX0_cross_54 rfl (lv_at hl 4 rfl) ?_
  refine va_getN (D := D) (ci := 2) (v := .ref h1) (C := RX2) (T := TX2) (N := 4) hx hb hts iX2 hown hK hP 3 rfl rfl 0 (by decide) (nw_0 hN) (fun _ h9 => h9) rfl dX0_cross_55 ?_
  refine lv_iload_n hx hb dX0_cross_58 rfl (lv_at hl 5 rfl) ?_
  refine q_iald hx hb hK hP 4 0 rfl rfl (k := ku) (by omega) (by omega) dX0_cross_59 ?_
  refine q_eqi (y := Int32.ofInt (X ku)) exu ?_
  refine lv_lload hx hb dX0_cross_60 (lv_at hl 0 rfl) ?_
  refine lv_iload hx hb dX0_cross_62 (lv_at hl 1 rfl) ?_
  refine lv_iload hx hb dX0_cross_64 (lv_at hl 2 rfl) ?_
  refine lv_isub hx hb dX0_cross_66 ?_
  refine q_eqi (y := Int32.ofInt (Y kd - Y ku)) (z_sub _ _) ?_
  refine lv_i2l hx hb dX0_cross_67 rfl ?_
  refine q_eql (y := Int64.ofInt (Y kd - Y ku)) (z_l (by omega) (by omega)) ?_
  refine q_l0 (wr := [(z0, .inr (0, [.ref z1, .ref z2, .int (nI n)])), (z1, .inl (cI, 100, .inl zx)), (z2, .inl (cI, 100, .inl zt)), (h0, .inr (2, [.ref h1, .ref h2, .ref h3, .int (nI cn)])), (h1, .inl (cI, 100, .inl fx)), (h2, .inl (cI, 100, .inl fy)), (h3, .inl (cZ, 100, .inl fb))]) (va_runS (As := [.long (Int64.ofInt ((L - Y ku) * (X kd - X ku))), .long (Int64.ofInt (Y kd - Y ku))]) (rest := [.int (Int32.ofInt (X ku)), .ref z0]) ⟨hx, hb, hml, hown, hts⟩ (c_J9_floorDiv l D cI cZ cB cJ H.size (Int64.ofInt ((L - Y ku) * (X kd - X ku))) (Int64.ofInt (Y kd - Y ku)) (fun z => by rw [j_eq, w_t (by omega) (by omega), show (0 : Int64).toInt = 0 from by decide] at z; omega)) (va_cwS 2 hts gX0_cross_J9_floorDiv_f86c9 rfl rfl rfl (by decide +kernel) ⟨Nat.le_of_ble_eq_true rfl, Nat.le_of_ble_eq_true rfl⟩) (q_pre (wc := []) hP hD hK hN [] (by decide) rfl) rfl rfl hl.1 rfl (lv_room (Nat.le_of_ble_eq_true rfl)) dX0_cross_68 ⟨Nat.zero_le _, Nat.zero_le _⟩) hS hA hP hD [] [0, 1, 2, 3, 4, 5, 6] rfl rfl (by decide) (by decide) (fun r_68 u H locs hp_68 hP hD hS => ?_)
  have hP : va_P D qCl [(z0, .inr (0, [.ref z1, .ref z2, .int (nI n)])), (z1, .inl (cI, 100, .inl zx)), (z2, .inl (cI, 100, .inl zt)), (h0, .inr (2, [.ref h1, .ref h2, .ref h3, .int (nI cn)])), (h1, .inl (cI, 100, .inl fx)), (h2, .inl (cI, 100, .inl fy)), (h3, .inl (cZ, 100, .inl fb))] H := hP
  have hD : va_D A [(z0, .inr (0, [.ref z1, .ref z2, .int (nI n)])), (z1, .inl (cI, 100, .inl zx)), (z2, .inl (cI, 100, .inl zt)), (h0, .inr (2, [.ref h1, .ref h2, .ref h3, .int (nI cn)])), (h1, .inl (cI, 100, .inl fx)), (h2, .inl (cI, 100, .inl fy)), (h3, .inl (cZ, 100, .inl fb))] := hD
  have hp_68 : r_68 = fdJ (Int64.ofInt ((L - Y ku) * (X kd - X ku))) (Int64.ofInt (Y kd - Y ku)) := hp_68
  subst hp_68
  have hm9 := mul_bd (a := L - Y ku) (b := X kd - X ku) (by omega) (by omega) (by omega) (by omega)
  refine q_eql (y := Int64.ofInt ((L - Y ku) * (X kd - X ku) / (Y kd - Y ku))) (fdJ_eq (by omega) (by omega) (by omega) (by omega)) ?_
  refine lv_l2i hx hb dX0_cross_71 rfl ?_
  refine q_eqi (y := Int32.ofInt ((L - Y ku) * (X kd - X ku) / (Y kd - Y ku))) Int64.toInt32_ofInt ?_
  refine lv_iadd hx hb dX0_cross_72 ?_
  refine q_eqi (y := Int32.ofInt (X ku + (L - Y ku) * (X kd - X ku) / (Y kd - Y ku))) (z_add _ _) ?_
  refine q_eqi (y := Int32.ofInt (plc X Y L ku kd)) rfl ?_
  refine lv_iload hx hb dX0_cross_73 (lv_at hl 8 rfl) ?_
  refine q_v0 (wr := [(h0, .inr (2, [.ref h1, .ref h2, .ref h3, .int (nI cn)])), (h1, .inl (cI, 100, .inl fx)), (h2, .inl (cI, 100, .inl fy)), (h3, .inl (cZ, 100, .inl fb))]) (va_runV (As := [.int (Int32.ofInt (plc X Y L ku kd)), .int (Int32.ofInt t)]) (rest := []) ⟨hx, hb, hml, hown, hts⟩ (c_X0_insert l D cI cZ cB cJ H.size z0 z1 z2 n zx zt mu (plc X Y L ku kd) t hn hC (plc_bd (by omega) (by omega) ⟨bxu1, bxu2⟩ ⟨bxd1, bxd2⟩)) (cwV 2 hts gX0_cross_X0_insert rfl rfl rfl (by decide +kernel) ⟨Nat.le_of_ble_eq_true rfl, Nat.le_of_ble_eq_true rfl⟩) (q_preV (q_pre (wc := [(z0, .inr (0, [.ref z1, .ref z2, .int (nI n)])), (z1, .inl (cI, 100, .inl zx)), (z2, .inl (cI, 100, .inl zt))]) hP hD hK hN [0, 1, 2] (by decide) rfl) (va_recv hK hP (ci := 0) (q0 := 0) rfl rfl)) rfl rfl hl.1 rfl (lv_room (Nat.le_of_ble_eq_true rfl)) dX0_cross_75 ⟨Nat.zero_le _, Nat.zero_le _⟩) hS hA hP hD [0, 1, 2] [3, 4, 5, 6] rfl rfl (by decide) (by decide) (fun u H locs hp_75 hP hD hS => ?_)
  obtain ⟨zx2_75, zt2_75⟩ := u
  have hP : va_P D qCl [(h0, .inr (2, [.ref h1, .ref h2, .ref h3, .int (nI cn)])), (h1, .inl (cI, 100, .inl fx)), (h2, .inl (cI, 100, .inl fy)), (h3, .inl (cZ, 100, .inl fb)), (z0, .inr (0, [.ref z1, .ref z2, .int (nI (n + 1))])), (z1, .inl (cI, 100, .inl zx2_75)), (z2, .inl (cI, 100, .inl zt2_75))] H := hP
  have hD : va_D A [(h0, .inr (2, [.ref h1, .ref h2, .ref h3, .int (nI cn)])), (h1, .inl (cI, 100, .inl fx)), (h2, .inl (cI, 100, .inl fy)), (h3, .inl (cZ, 100, .inl fb)), (z0, .inr (0, [.ref z1, .ref z2, .int (nI (n + 1))])), (z1, .inl (cI, 100, .inl zx2_75)), (z2, .inl (cI, 100, .inl zt2_75))] := hD
  have hp_75 : CR zx2_75 zt2_75 (n + 1) (fun f => mu f + f (plc X Y L ku kd) t) := hp_75
  have hr9 : CR zx2_75 zt2_75 (n + 1) (fun f => mu f + crs X Y L ku kd t f) ∧ (n + 1) ≤ n + 1 := ⟨CR_congr hp_75 (fun f => by unfold crs; rw [if_pos ⟨by omega, by omega⟩]), Nat.le_refl _⟩
  exact hQ _ _ _ _ (zx2_75, zt2_75, n + 1) _ _ dX0_cross_78 (Nat.le_refl _) (Nat.le_refl _) hr9 (hP.sub [4, 5, 6, 0, 1, 2, 3] rfl) hK (hD.sub [4, 5, 6, 0, 1, 2, 3] (by decide) rfl) hS

abbrev rm_X0_collect : Room := { frames := 2, cells := 0, slots := 0, locals := 54 }
set_option maxHeartbeats 4000000 in
set_option maxRecDepth 100000 in
/-- Crossings.collect -/
theorem c_X0_collect (l : Launch) (D : va_G) (cI cZ cB cJ : ClassId) (sz : Nat) (z0 : Nat) (z1 : Nat) (z2 : Nat) (n : Nat) (zx : Nat → Int32) (zt : Nat → Int32) (h0 : Nat) (h1 : Nat) (h2 : Nat) (h3 : Nat) (cn : Nat) (fx : Nat → Int32) (fy : Nat → Int32) (fb : Nat → Int32) (X : Nat → Int) (Y : Nat → Int) (bg : Nat → Int32) (L : Int) (hR : PathR fx fy fb X Y bg cn) (hL : 0 ≤ L ∧ L ≤ 100000) : Met l yX0_collect wsX0_collect rm_X0_collect (va_Pc [.ref z0, .ref h0, .int (Int32.ofInt L)] (PC D (qT cI cZ cB cJ) [(z0, .inr (0, [.ref z1, .ref z2, .int (nI n)])), (z1, .inl (cI, 100, .inl zx)), (z2, .inl (cI, 100, .inl zt)), (h0, .inr (2, [.ref h1, .ref h2, .ref h3, .int (nI cn)])), (h1, .inl (cI, 100, .inl fx)), (h2, .inl (cI, 100, .inl fy)), (h3, .inl (cZ, 100, .inl fb))] sz)) (va_Qv (fun (u : (Nat → Int32) × (Nat → Int32) × Nat) => CR u.1 u.2.1 u.2.2 (fun f => muL X Y bg cn L cn f) ∧ u.2.2 ≤ cn) (fun (u : (Nat → Int32) × (Nat → Int32) × Nat) => PO D (qT cI cZ cB cJ) (va_A [(z0, .inr (0, [.ref z1, .ref z2, .int (nI n)])), (z1, .inl (cI, 100, .inl zx)), (z2, .inl (cI, 100, .inl zt)), (h0, .inr (2, [.ref h1, .ref h2, .ref h3, .int (nI cn)])), (h1, .inl (cI, 100, .inl fx)), (h2, .inl (cI, 100, .inl fy)), (h3, .inl (cZ, 100, .inl fb))] sz) [(z0, .inr (0, [.ref z1, .ref z2, .int (nI u.2.2)])), (z1, .inl (cI, 100, .inl u.1)), (z2, .inl (cI, 100, .inl u.2.1)), (h0, .inr (2, [.ref h1, .ref h2, .ref h3, .int (nI cn)])), (h1, .inl (cI, 100, .inl fx)), (h2, .inl (cI, 100, .inl fy)), (h3, .inl (cZ, 100, .inl fb))]) (va_A [(z0, .inr (0, [.ref z1, .ref z2, .int (nI n)])), (z1, .inl (cI, 100, .inl zx)), (z2, .inl (cI, 100, .inl zt)), (h0, .inr (2, [.ref h1, .ref h2, .ref h3, .int (nI cn)])), (h1, .inl (cI, 100, .inl fx)), (h2, .inl (cI, 100, .inl fy)), (h3, .inl (cZ, 100, .inl fb))] sz)) 0 0 (va_A [(z0, .inr (0, [.ref z1, .ref z2, .int (nI n)])), (z1, .inl (cI, 100, .inl zx)), (z2, .inl (cI, 100, .inl zt)), (h0, .inr (2, [.ref h1, .ref h2, .ref h3, .int (nI cn)])), (h1, .inl (cI, 100, .inl fx)), (h2, .inl (cI, 100, .inl fy)), (h3, .inl (cZ, 100, .inl fb))] sz) := by
  refine q_entV (cc := cX0_collect) (maxL := 7) (by decide +kernel) rfl (Nat.le_of_ble_eq_true rfl) ?_
  intro p e s m below meth c A Q ls hq hl hQ
  obtain ⟨hx, hb, hml, hts, hown, hin, hN, hK, hsz, hA, hP, hD, hS⟩ := hq
  have hown : s.vm.findClass RX0 = some m.cls := hown
  obtain ⟨H, hH⟩ : ∃ H, H = s.heap := ⟨_, rfl⟩
  rw [← hH] at hP ⊢
  have hS : va_S A s.heap H [] := by rw [hH]; exact va_S.rf
  clear hH
  have hl : lv_has ls 7 [(0, .ref z0), (1, .ref h0), (2, .int (Int32.ofInt L))] := hl
  have iX0 : ∀ w ∈ wsX00, w ∈ wsX0_collect := by decide +kernel
  have iX2 : ∀ w ∈ wsX20, w ∈ wsX0_collect := by decide +kernel
  have f_18 := hts (.fieldLink RX0 18 "RasterCover$Crossings" "count" "I") (by decide +kernel)
  have hcn := hR.1
  refine lv_aload_n hx hb dX0_collect_0 rfl (lv_at hl 0 rfl) ?_
  refine lv_iconst (v := nI 0) hx hb dX0_collect_1 (by decide) ?_
  refine va_put (D := D) (ci := 0) (v := .int (nI 0)) (ty := .int) (C := RX0) (T := TX0) (N := 3) hx hb hts iX0 tyX0 tyX0_ok nmX0 hown hK hP hD hS 0 rfl rfl 2 (by decide) f_18 (fun _ h9 => h9) rfl (by decide +kernel) rfl rfl (Nat.le_of_ble_eq_true rfl) dX0_collect_2 (fun H locs hP hD hS => ?_)
  have hP : va_P D qCl [(z0, .inr (0, [.ref z1, .ref z2, .int (nI 0)])), (z1, .inl (cI, 100, .inl zx)), (z2, .inl (cI, 100, .inl zt)), (h0, .inr (2, [.ref h1, .ref h2, .ref h3, .int (nI cn)])), (h1, .inl (cI, 100, .inl fx)), (h2, .inl (cI, 100, .inl fy)), (h3, .inl (cZ, 100, .inl fb))] H := hP
  have hD : va_D A [(z0, .inr (0, [.ref z1, .ref z2, .int (nI 0)])), (z1, .inl (cI, 100, .inl zx)), (z2, .inl (cI, 100, .inl zt)), (h0, .inr (2, [.ref h1, .ref h2, .ref h3, .int (nI cn)])), (h1, .inl (cI, 100, .inl fx)), (h2, .inl (cI, 100, .inl fy)), (h3, .inl (cZ, 100, .inl fb))] := hD
  refine lv_iconst (v := nI 0) hx hb dX0_collect_5 (by decide) ?_
  refine lv_istore_n (lv' := [(3, .int (nI 0)), (0, .ref z0), (1, .ref h0), (2, .int (Int32.ofInt L))]) hx hb dX0_collect_6 rfl hl (by decide) rfl (fun ls hl => ?_)
  refine lv_iconst (v := nI 0) hx hb dX0_collect_7 (by decide) ?_
  refine lv_istore (lv' := [(4, .int (nI 0)), (3, .int (nI 0)), (0, .ref z0), (1, .ref h0), (2, .int (Int32.ofInt L))]) hx hb dX0_collect_8 hl (by decide) rfl (fun ls hl => ?_)
  have L_10 : ∀ (fuel : Nat) (i : Nat) (nn : Nat) (fv : Nat) (zx2 : Nat → Int32) (zt2 : Nat → Int32), cn - i < fuel → (fv = fiP bg i) → (i ≤ cn) → (nn ≤ i) → (CR zx2 zt2 nn (fun f => muL X Y bg cn L i f)) → ∀ (H : Heap) (locs : List Loc) (ls : Array Slot), va_P D qCl [(z0, .inr (0, [.ref z1, .ref z2, .int (nI nn)])), (z1, .inl (cI, 100, .inl zx2)), (z2, .inl (cI, 100, .inl zt2)), (h0, .inr (2, [.ref h1, .ref h2, .ref h3, .int (nI cn)])), (h1, .inl (cI, 100, .inl fx)), (h2, .inl (cI, 100, .inl fy)), (h3, .inl (cZ, 100, .inl fb))] H → va_D A [(z0, .inr (0, [.ref z1, .ref z2, .int (nI nn)])), (z1, .inl (cI, 100, .inl zx2)), (z2, .inl (cI, 100, .inl zt2)), (h0, .inr (2, [.ref h1, .ref h2, .ref h3, .int (nI cn)])), (h1, .inl (cI, 100, .inl fx)), (h2, .inl (cI, 100, .inl fy)), (h3, .inl (cZ, 100, .inl fb))] → va_S A s.heap H locs → lv_has ls 7 [(4, .int (nI i)), (3, .int (nI fv)), (0, .ref z0), (1, .ref h0), (2, .int (Int32.ofInt L))] → W p l e rm_X0_collect s m ([.ref z0, .ref h0, .int (Int32.ofInt L)] : List Value).toArray below meth c H locs 0 0 Q (F0 m 10 ls []) := by
    intro fuel
    induction fuel with
    | zero =>
      intro i nn fv zx2 zt2 hm
      exact absurd hm (Nat.not_lt_zero _)
    | succ fuel ih_10 =>
      intro i nn fv zx2 zt2 hm_10 hfv hi hnn hC H locs ls hP hD hS hl
      refine lv_iload hx hb dX0_collect_10 (lv_at hl 0 rfl) ?_
      refine lv_aload_n hx hb dX0_collect_12 rfl (lv_at hl 3 rfl) ?_
      refine va_getN (D := D) (ci := 2) (v := .int (nI cn)) (C := RX2) (T := TX2) (N := 4) hx hb hts iX2 hown hK hP 3 rfl rfl 3 (by decide) (nw_3 hN) (fun _ h9 => h9) rfl dX0_collect_13 ?_
      refine q_ge (tgt := 125) hx hb (by omega) (by omega) dX0_collect_16 (by decide) (fun h_16 => ?_) (fun h_16 => ?_)
      · have e9 : i = cn := by omega
        rw [e9] at hC hnn
        have hr9 : CR zx2 zt2 nn (fun f => muL X Y bg cn L cn f) ∧ nn ≤ cn := ⟨hC, hnn⟩
        exact hQ _ _ _ _ (zx2, zt2, nn) _ _ dX0_collect_125 (Nat.le_refl _) (Nat.le_refl _) hr9 (hP.sub [0, 1, 2, 3, 4, 5, 6] rfl) hK (hD.sub [0, 1, 2, 3, 4, 5, 6] (by decide) rfl) hS
      have J_32 : ∀ (w : Nat), (w = fiP bg (i + 1)) → ∀ (H : Heap) (locs : List Loc) (ls : Array Slot), va_P D qCl [(z0, .inr (0, [.ref z1, .ref z2, .int (nI nn)])), (z1, .inl (cI, 100, .inl zx2)), (z2, .inl (cI, 100, .inl zt2)), (h0, .inr (2, [.ref h1, .ref h2, .ref h3, .int (nI cn)])), (h1, .inl (cI, 100, .inl fx)), (h2, .inl (cI, 100, .inl fy)), (h3, .inl (cZ, 100, .inl fb))] H → va_D A [(z0, .inr (0, [.ref z1, .ref z2, .int (nI nn)])), (z1, .inl (cI, 100, .inl zx2)), (z2, .inl (cI, 100, .inl zt2)), (h0, .inr (2, [.ref h1, .ref h2, .ref h3, .int (nI cn)])), (h1, .inl (cI, 100, .inl fx)), (h2, .inl (cI, 100, .inl fy)), (h3, .inl (cZ, 100, .inl fb))] → va_S A s.heap H locs → lv_has ls 7 [(4, .int (nI i)), (3, .int (nI w)), (0, .ref z0), (1, .ref h0), (2, .int (Int32.ofInt L))] → W p l e rm_X0_collect s m ([.ref z0, .ref h0, .int (Int32.ofInt L)] : List Value).toArray below meth c H locs 0 0 Q (F0 m 32 ls []) := by
        intro w hw H locs ls hP hD hS hl
        have J_75 : ∀ (j : Nat), (j = nxP bg cn i) → ∀ (H : Heap) (locs : List Loc) (ls : Array Slot), va_P D qCl [(z0, .inr (0, [.ref z1, .ref z2, .int (nI nn)])), (z1, .inl (cI, 100, .inl zx2)), (z2, .inl (cI, 100, .inl zt2)), (h0, .inr (2, [.ref h1, .ref h2, .ref h3, .int (nI cn)])), (h1, .inl (cI, 100, .inl fx)), (h2, .inl (cI, 100, .inl fy)), (h3, .inl (cZ, 100, .inl fb))] H → va_D A [(z0, .inr (0, [.ref z1, .ref z2, .int (nI nn)])), (z1, .inl (cI, 100, .inl zx2)), (z2, .inl (cI, 100, .inl zt2)), (h0, .inr (2, [.ref h1, .ref h2, .ref h3, .int (nI cn)])), (h1, .inl (cI, 100, .inl fx)), (h2, .inl (cI, 100, .inl fy)), (h3, .inl (cZ, 100, .inl fb))] → va_S A s.heap H locs → lv_has ls 7 [(4, .int (nI i)), (3, .int (nI w)), (0, .ref z0), (1, .ref h0), (2, .int (Int32.ofInt L))] → W p l e rm_X0_collect s m ([.ref z0, .ref h0, .int (Int32.ofInt L)] : List Value).toArray below meth c H locs 0 0 Q (F0 m 75 ls [.int (nI j)]) := by
          intro j hj H locs ls hP hD hS hl
          refine lv_istore (lv' := [(6, .int (nI j)), (4, .int (nI i)), (3, .int (nI w)), (0, .ref z0), (1, .ref h0), (2, .int (Int32.ofInt L))]) hx hb dX0_collect_75 hl (by decide) rfl (fun ls hl => ?_)
          have hjl : j < cn := by rw [hj]; exact nxP_lt (by omega)
          obtain ⟨-, -, -, -, byi1, byi2⟩ := hR.2 i (by omega)
          obtain ⟨-, -, -, -, byj1, byj2⟩ := hR.2 j hjl
          refine lv_aload_n hx hb dX0_collect_77 rfl (lv_at hl 4 rfl) ?_
          refine va_getN (D := D) (ci := 2) (v := .ref h2) (C := RX2) (T := TX2) (N := 4) hx hb hts iX2 hown hK hP 3 rfl rfl 1 (by decide) (nw_1 hN) (fun _ h9 => h9) rfl dX0_collect_78 ?_
          refine lv_iload hx hb dX0_collect_81 (lv_at hl 1 rfl) ?_
          refine q_iald hx hb hK hP 5 0 rfl rfl (k := i) (by omega) (by omega) dX0_collect_83 ?_
          refine q_eqi (y := Int32.ofInt (Y i)) (hR.2 i (by omega)).2.1 ?_
          refine lv_aload_n hx hb dX0_collect_84 rfl (lv_at hl 4 rfl) ?_
          refine va_getN (D := D) (ci := 2) (v := .ref h2) (C := RX2) (T := TX2) (N := 4) hx hb hts iX2 hown hK hP 3 rfl rfl 1 (by decide) (nw_1 hN) (fun _ h9 => h9) rfl dX0_collect_85 ?_
          refine lv_iload hx hb dX0_collect_88 (lv_at hl 0 rfl) ?_
          refine q_iald hx hb hK hP 5 0 rfl rfl (k := j) (by omega) (by omega) dX0_collect_90 ?_
          refine q_eqi (y := Int32.ofInt (Y j)) (hR.2 j hjl).2.1 ?_
          refine lv_icmp_gt (tgt := 108) hx hb dX0_collect_91 (by decide) (fun h_91 => ?_) (fun h_91 => ?_)
          · rw [z_lt (by omega) (by omega) (by omega) (by omega)] at h_91
            refine lv_aload_n hx hb dX0_collect_108 rfl (lv_at hl 3 rfl) ?_
            refine lv_aload_n hx hb dX0_collect_109 rfl (lv_at hl 4 rfl) ?_
            refine lv_iload hx hb dX0_collect_110 (lv_at hl 0 rfl) ?_
            refine lv_iload hx hb dX0_collect_112 (lv_at hl 1 rfl) ?_
            refine lv_iload_n hx hb dX0_collect_114 rfl (lv_at hl 5 rfl) ?_
            refine lv_iconst (v := (-1)) hx hb dX0_collect_115 (by decide) ?_
            refine q_eqi (y := Int32.ofInt (-1)) (by decide) ?_
            refine q_v0 (wr := []) (va_runV (As := [.ref h0, .int (nI j), .int (nI i), .int (Int32.ofInt L), .int (Int32.ofInt (-1))]) (rest := []) ⟨hx, hb, hml, hown, hts⟩ (c_X0_cross l D cI cZ cB cJ H.size z0 z1 z2 nn zx2 zt2 h0 h1 h2 h3 cn fx fy fb X Y bg (fun f => muL X Y bg cn L i f) j i L (-1) (by omega) hC hR hjl (by omega) hL) (cwV 5 hts gX0_collect_X0_cross rfl rfl rfl (by decide +kernel) ⟨Nat.le_of_ble_eq_true rfl, Nat.le_of_ble_eq_true rfl⟩) (q_preV (q_pre (wc := [(z0, .inr (0, [.ref z1, .ref z2, .int (nI nn)])), (z1, .inl (cI, 100, .inl zx2)), (z2, .inl (cI, 100, .inl zt2)), (h0, .inr (2, [.ref h1, .ref h2, .ref h3, .int (nI cn)])), (h1, .inl (cI, 100, .inl fx)), (h2, .inl (cI, 100, .inl fy)), (h3, .inl (cZ, 100, .inl fb))]) hP hD hK hN [0, 1, 2, 3, 4, 5, 6] (by decide) rfl) (va_recv hK hP (ci := 0) (q0 := 0) rfl rfl)) rfl rfl hl.1 rfl (lv_room (Nat.le_of_ble_eq_true rfl)) dX0_collect_116 ⟨Nat.zero_le _, Nat.zero_le _⟩) hS hA hP hD [0, 1, 2, 3, 4, 5, 6] [] rfl rfl (by decide) (by decide) (fun u H locs hp_116 hP hD hS => ?_)
            obtain ⟨zx3, zt3, n3⟩ := u
            have hP : va_P D qCl [(z0, .inr (0, [.ref z1, .ref z2, .int (nI n3)])), (z1, .inl (cI, 100, .inl zx3)), (z2, .inl (cI, 100, .inl zt3)), (h0, .inr (2, [.ref h1, .ref h2, .ref h3, .int (nI cn)])), (h1, .inl (cI, 100, .inl fx)), (h2, .inl (cI, 100, .inl fy)), (h3, .inl (cZ, 100, .inl fb))] H := hP
            have hD : va_D A [(z0, .inr (0, [.ref z1, .ref z2, .int (nI n3)])), (z1, .inl (cI, 100, .inl zx3)), (z2, .inl (cI, 100, .inl zt3)), (h0, .inr (2, [.ref h1, .ref h2, .ref h3, .int (nI cn)])), (h1, .inl (cI, 100, .inl fx)), (h2, .inl (cI, 100, .inl fy)), (h3, .inl (cZ, 100, .inl fb))] := hD
            have hp_116 : CR zx3 zt3 n3 (fun f => (fun f => muL X Y bg cn L i f) f + crs X Y L j i (-1) f) ∧ n3 ≤ nn + 1 := hp_116
            refine lv_iinc (v := nI (i + 1)) (lv' := [(4, .int (nI (i + 1))), (6, .int (nI j)), (3, .int (nI w)), (0, .ref z0), (1, .ref h0), (2, .int (Int32.ofInt L))]) hx hb dX0_collect_119 hl (k := 1) rfl (q_inc _) (by decide) rfl (fun ls hl => ?_)
            refine lv_goto (tgt := 10) hx hb dX0_collect_122 (by decide) ?_
            exact ih_10 (i + 1) n3 w zx3 zt3 (by omega) hw (by omega) (by omega) (CR_congr hp_116.1 (fun f => by show muL X Y bg cn L i f + crs X Y L j i (-1) f = muL X Y bg cn L i f + edg X Y bg cn L i f; unfold edg; rw [if_neg (by rw [← hj]; omega), ← hj])) _ _ _ (hP.sub [0, 1, 2, 3, 4, 5, 6] rfl) (hD.sub [0, 1, 2, 3, 4, 5, 6] (by decide) rfl) hS (lv_sub hl [0, 2, 3, 4, 5] rfl)
          rw [z_lt (by omega) (by omega) (by omega) (by omega)] at h_91
          refine lv_aload_n hx hb dX0_collect_94 rfl (lv_at hl 3 rfl) ?_
          refine lv_aload_n hx hb dX0_collect_95 rfl (lv_at hl 4 rfl) ?_
          refine lv_iload hx hb dX0_collect_96 (lv_at hl 1 rfl) ?_
          refine lv_iload hx hb dX0_collect_98 (lv_at hl 0 rfl) ?_
          refine lv_iload_n hx hb dX0_collect_100 rfl (lv_at hl 5 rfl) ?_
          refine lv_iconst (v := nI 1) hx hb dX0_collect_101 (by decide) ?_
          refine q_eqi (y := Int32.ofInt 1) (by decide) ?_
          refine q_v0 (wr := []) (va_runV (As := [.ref h0, .int (nI i), .int (nI j), .int (Int32.ofInt L), .int (Int32.ofInt 1)]) (rest := []) ⟨hx, hb, hml, hown, hts⟩ (c_X0_cross l D cI cZ cB cJ H.size z0 z1 z2 nn zx2 zt2 h0 h1 h2 h3 cn fx fy fb X Y bg (fun f => muL X Y bg cn L i f) i j L 1 (by omega) hC hR (by omega) hjl hL) (cwV 5 hts gX0_collect_X0_cross rfl rfl rfl (by decide +kernel) ⟨Nat.le_of_ble_eq_true rfl, Nat.le_of_ble_eq_true rfl⟩) (q_preV (q_pre (wc := [(z0, .inr (0, [.ref z1, .ref z2, .int (nI nn)])), (z1, .inl (cI, 100, .inl zx2)), (z2, .inl (cI, 100, .inl zt2)), (h0, .inr (2, [.ref h1, .ref h2, .ref h3, .int (nI cn)])), (h1, .inl (cI, 100, .inl fx)), (h2, .inl (cI, 100, .inl fy)), (h3, .inl (cZ, 100, .inl fb))]) hP hD hK hN [0, 1, 2, 3, 4, 5, 6] (by decide) rfl) (va_recv hK hP (ci := 0) (q0 := 0) rfl rfl)) rfl rfl hl.1 rfl (lv_room (Nat.le_of_ble_eq_true rfl)) dX0_collect_102 ⟨Nat.zero_le _, Nat.zero_le _⟩) hS hA hP hD [0, 1, 2, 3, 4, 5, 6] [] rfl rfl (by decide) (by decide) (fun u H locs hp_102 hP hD hS => ?_)
          obtain ⟨zx3, zt3, n3⟩ := u
          have hP : va_P D qCl [(z0, .inr (0, [.ref z1, .ref z2, .int (nI n3)])), (z1, .inl (cI, 100, .inl zx3)), (z2, .inl (cI, 100, .inl zt3)), (h0, .inr (2, [.ref h1, .ref h2, .ref h3, .int (nI cn)])), (h1, .inl (cI, 100, .inl fx)), (h2, .inl (cI, 100, .inl fy)), (h3, .inl (cZ, 100, .inl fb))] H := hP
          have hD : va_D A [(z0, .inr (0, [.ref z1, .ref z2, .int (nI n3)])), (z1, .inl (cI, 100, .inl zx3)), (z2, .inl (cI, 100, .inl zt3)), (h0, .inr (2, [.ref h1, .ref h2, .ref h3, .int (nI cn)])), (h1, .inl (cI, 100, .inl fx)), (h2, .inl (cI, 100, .inl fy)), (h3, .inl (cZ, 100, .inl fb))] := hD
          have hp_102 : CR zx3 zt3 n3 (fun f => (fun f => muL X Y bg cn L i f) f + crs X Y L i j 1 f) ∧ n3 ≤ nn + 1 := hp_102
          refine lv_goto (tgt := 119) hx hb dX0_collect_105 (by decide) ?_
          refine lv_iinc (v := nI (i + 1)) (lv' := [(4, .int (nI (i + 1))), (6, .int (nI j)), (3, .int (nI w)), (0, .ref z0), (1, .ref h0), (2, .int (Int32.ofInt L))]) hx hb dX0_collect_119 hl (k := 1) rfl (q_inc _) (by decide) rfl (fun ls hl => ?_)
          refine lv_goto (tgt := 10) hx hb dX0_collect_122 (by decide) ?_
          exact ih_10 (i + 1) n3 w zx3 zt3 (by omega) hw (by omega) (by omega) (CR_congr hp_102.1 (fun f => by show muL X Y bg cn L i f + crs X Y L i j 1 f = muL X Y bg cn L i f + edg X Y bg cn L i f; unfold edg; rw [if_pos (by rw [← hj]; omega), ← hj])) _ _ _ (hP.sub [0, 1, 2, 3, 4, 5, 6] rfl) (hD.sub [0, 1, 2, 3, 4, 5, 6] (by decide) rfl) hS (lv_sub hl [0, 2, 3, 4, 5] rfl)
        refine lv_iload hx hb dX0_collect_32 (lv_at hl 0 rfl) ?_
        refine lv_iconst (v := nI 1) hx hb dX0_collect_34 (by decide) ?_
        refine lv_iadd hx hb dX0_collect_35 ?_
        refine q_eqi (nI_add _ _) ?_
        refine lv_aload_n hx hb dX0_collect_36 rfl (lv_at hl 3 rfl) ?_
        refine va_getN (D := D) (ci := 2) (v := .int (nI cn)) (C := RX2) (T := TX2) (N := 4) hx hb hts iX2 hown hK hP 3 rfl rfl 3 (by decide) (nw_3 hN) (fun _ h9 => h9) rfl dX0_collect_37 ?_
        refine q_eq (tgt := 55) hx hb (by omega) (by omega) dX0_collect_40 (by decide) (fun h_40 => ?_) (fun h_40 => ?_)
        · refine lv_iconst (v := nI 1) hx hb dX0_collect_55 (by decide) ?_
          refine lv_goto (tgt := 60) hx hb dX0_collect_56 (by decide) ?_
          refine lv_istore (lv' := [(5, .int (nI 1)), (4, .int (nI i)), (3, .int (nI w)), (0, .ref z0), (1, .ref h0), (2, .int (Int32.ofInt L))]) hx hb dX0_collect_60 hl (by decide) rfl (fun ls hl => ?_)
          refine lv_iload hx hb dX0_collect_62 (lv_at hl 0 rfl) ?_
          refine q_if_eq (tgt := 71) hx hb (by omega) dX0_collect_64 (by decide) (fun h_64 => by omega) (fun h_64 => ?_)
          refine lv_iload_n hx hb dX0_collect_67 rfl (lv_at hl 2 rfl) ?_
          refine lv_goto (tgt := 75) hx hb dX0_collect_68 (by decide) ?_
          exact J_75 w (by unfold nxP; rw [if_pos (Or.inl h_40)]; exact hw) _ _ _ (hP.sub [0, 1, 2, 3, 4, 5, 6] rfl) (hD.sub [0, 1, 2, 3, 4, 5, 6] (by decide) rfl) hS (lv_sub hl [1, 2, 3, 4, 5] rfl)
        refine lv_aload_n hx hb dX0_collect_43 rfl (lv_at hl 3 rfl) ?_
        refine va_getN (D := D) (ci := 2) (v := .ref h3) (C := RX2) (T := TX2) (N := 4) hx hb hts iX2 hown hK hP 3 rfl rfl 2 (by decide) (nw_2 hN) (fun _ h9 => h9) rfl dX0_collect_44 ?_
        refine lv_iload hx hb dX0_collect_47 (lv_at hl 0 rfl) ?_
        refine lv_iconst (v := nI 1) hx hb dX0_collect_49 (by decide) ?_
        refine lv_iadd hx hb dX0_collect_50 ?_
        refine q_eqi (nI_add _ _) ?_
        refine q_zald hx hb hK hP 6 1 rfl rfl (k := (i + 1)) (by omega) (by omega) dX0_collect_51 ?_
        refine q_eqi (y := bg (i + 1)) (hR.2 (i + 1) (by omega)).2.2.1 ?_
        refine lv_if_eq (tgt := 59) hx hb dX0_collect_52 (by decide) (fun h_52 => ?_) (fun h_52 => ?_)
        · refine lv_iconst (v := nI 0) hx hb dX0_collect_59 (by decide) ?_
          refine lv_istore (lv' := [(5, .int (nI 0)), (4, .int (nI i)), (3, .int (nI w)), (0, .ref z0), (1, .ref h0), (2, .int (Int32.ofInt L))]) hx hb dX0_collect_60 hl (by decide) rfl (fun ls hl => ?_)
          refine lv_iload hx hb dX0_collect_62 (lv_at hl 0 rfl) ?_
          refine q_if_eq (tgt := 71) hx hb (by omega) dX0_collect_64 (by decide) (fun h_64 => ?_) (fun h_64 => by omega)
          refine lv_iload hx hb dX0_collect_71 (lv_at hl 1 rfl) ?_
          refine lv_iconst (v := nI 1) hx hb dX0_collect_73 (by decide) ?_
          refine lv_iadd hx hb dX0_collect_74 ?_
          refine q_eqi (nI_add _ _) ?_
          exact J_75 (i + 1) (by unfold nxP; rw [if_neg (by rintro (q | q); (· exact h_40 q); (· exact q h_52))]) _ _ _ (hP.sub [0, 1, 2, 3, 4, 5, 6] rfl) (hD.sub [0, 1, 2, 3, 4, 5, 6] (by decide) rfl) hS (lv_sub hl [1, 2, 3, 4, 5] rfl)
        refine lv_iconst (v := nI 1) hx hb dX0_collect_55 (by decide) ?_
        refine lv_goto (tgt := 60) hx hb dX0_collect_56 (by decide) ?_
        refine lv_istore (lv' := [(5, .int (nI 1)), (4, .int (nI i)), (3, .int (nI w)), (0, .ref z0), (1, .ref h0), (2, .int (Int32.ofInt L))]) hx hb dX0_collect_60 hl (by decide) rfl (fun ls hl => ?_)
        refine lv_iload hx hb dX0_collect_62 (lv_at hl 0 rfl) ?_
        refine q_if_eq (tgt := 71) hx hb (by omega) dX0_collect_64 (by decide) (fun h_64 => by omega) (fun h_64 => ?_)
        refine lv_iload_n hx hb dX0_collect_67 rfl (lv_at hl 2 rfl) ?_
        refine lv_goto (tgt := 75) hx hb dX0_collect_68 (by decide) ?_
        exact J_75 w (by unfold nxP; rw [if_pos (Or.inr h_52)]; exact hw) _ _ _ (hP.sub [0, 1, 2, 3, 4, 5, 6] rfl) (hD.sub [0, 1, 2, 3, 4, 5, 6] (by decide) rfl) hS (lv_sub hl [1, 2, 3, 4, 5] rfl)
      refine lv_aload_n hx hb dX0_collect_19 rfl (lv_at hl 3 rfl) ?_
      refine va_getN (D := D) (ci := 2) (v := .ref h3) (C := RX2) (T := TX2) (N := 4) hx hb hts iX2 hown hK hP 3 rfl rfl 2 (by decide) (nw_2 hN) (fun _ h9 => h9) rfl dX0_collect_20 ?_
      refine lv_iload hx hb dX0_collect_23 (lv_at hl 0 rfl) ?_
      refine q_zald hx hb hK hP 6 1 rfl rfl (k := i) (by omega) (by omega) dX0_collect_25 ?_
      refine q_eqi (y := bg i) (hR.2 i (by omega)).2.2.1 ?_
      refine lv_if_eq (tgt := 32) hx hb dX0_collect_26 (by decide) (fun h_26 => ?_) (fun h_26 => ?_)
      · exact J_32 fv (by show fv = if bg i = 0 then fiP bg i else i; rw [if_pos h_26]; exact hfv) _ _ _ (hP.sub [0, 1, 2, 3, 4, 5, 6] rfl) (hD.sub [0, 1, 2, 3, 4, 5, 6] (by decide) rfl) hS (lv_sub hl [0, 1, 2, 3, 4] rfl)
      refine lv_iload hx hb dX0_collect_29 (lv_at hl 0 rfl) ?_
      refine lv_istore_n (lv' := [(3, .int (nI i)), (4, .int (nI i)), (0, .ref z0), (1, .ref h0), (2, .int (Int32.ofInt L))]) hx hb dX0_collect_31 rfl hl (by decide) rfl (fun ls hl => ?_)
      exact J_32 i (by show i = if bg i = 0 then fiP bg i else i; rw [if_neg h_26]) _ _ _ (hP.sub [0, 1, 2, 3, 4, 5, 6] rfl) (hD.sub [0, 1, 2, 3, 4, 5, 6] (by decide) rfl) hS (lv_sub hl [1, 0, 2, 3, 4] rfl)
  exact L_10 _ 0 0 0 zx zt (Nat.lt_succ_self _) rfl (Nat.zero_le _) (Nat.le_refl _) (CR_0 (fun f => rfl)) _ _ _ (hP.sub [0, 1, 2, 3, 4, 5, 6] rfl) (hD.sub [0, 1, 2, 3, 4, 5, 6] (by decide) rfl) hS (lv_sub hl [0, 1, 2, 3, 4] rfl)
end
section
/-! units that a span covers; what is inside -/
def ovl (x : Nat) (a b : Int) : Int := (((if b < 256 * (x : Int) + 256 then b else 256 * (x : Int) + 256) - (if a < 256 * (x : Int) then 256 * (x : Int) else a)).toNat : Int)
theorem ovl_left {x : Nat} {a b : Int} (h : 256 * (x : Int) + 256 ≤ a) : ovl x a b = 0 := by
  unfold ovl
  split <;> split <;> omega
theorem ovl_right {x : Nat} {a b : Int} (h : b ≤ 256 * (x : Int)) : ovl x a b = 0 := by
  unfold ovl
  split <;> split <;> omega
theorem max0_n {a : Int} (h : bd a) : (if nI 0 < Int32.ofInt a then Int32.ofInt a else nI 0) = nI a.toNat := by
  obtain ⟨h1, h2⟩ := h
  have e := z_lt (a := ((0 : Nat) : Int)) (b := a) (by omega) (by omega) (by omega) (by omega)
  rw [nI_z a.toNat, nI_z 0]
  by_cases c : 0 < a
  · rw [if_pos (e.mpr (by omega)), show ((a.toNat : Nat) : Int) = a by omega]
  · rw [if_neg (fun q => c (by have := e.mp q; omega)), show ((a.toNat : Nat) : Int) = ((0 : Nat) : Int) by omega]
theorem minw_n {b : Int} {w : Nat} (h : bd b) (hw : w ≤ 100000) : (if Int32.ofInt b < nI w then Int32.ofInt b else nI w) = Int32.ofInt (if b < (w : Int) then b else (w : Int)) := by
  obtain ⟨h1, h2⟩ := h
  have e := z_lt (a := b) (b := (w : Int)) (by omega) (by omega) (by omega) (by omega)
  rw [nI_z w]
  by_cases c : b < (w : Int)
  · rw [if_pos (e.mpr c), if_pos c]
  · rw [if_neg (fun q => c (e.mp q)), if_neg c]
set_option maxRecDepth 100000 in
theorem span_val {a b rt : Int} {lf wd k : Nat} (ha : bd a) (hb : bd b) (hlf : lf = a.toNat) (hrt : rt = if b < ((wd * 256 : Nat) : Int) then b else ((wd * 256 : Nat) : Int)) (hab : a ≤ b) (hk : k < wd) (hw : wd ≤ 48) (h1 : lf / 256 ≤ k) (h2 : ((k * 256 : Nat) : Int) < rt) :
    (if nI (k * 256 + 256) < Int32.ofInt rt then nI (k * 256 + 256) else Int32.ofInt rt) - (if nI lf < nI (k * 256) then nI (k * 256) else nI lf) = Int32.ofInt (ovl k a b) := by
  obtain ⟨a1, a2⟩ := ha
  obtain ⟨b1, b2⟩ := hb
  have hr1 : rt ≤ 12288 := by rw [hrt]; split <;> omega
  have hr2 : rt ≤ b := by rw [hrt]; split <;> omega
  have hr3 : rt = b ∨ (rt = ((wd * 256 : Nat) : Int) ∧ ((wd * 256 : Nat) : Int) ≤ b) := by rw [hrt]; split <;> omega
  have f1 := z_lt (a := ((k * 256 + 256 : Nat) : Int)) (b := rt) (by omega) (by omega) (by omega) (by omega)
  have f2 := z_lt (a := (lf : Int)) (b := ((k * 256 : Nat) : Int)) (by omega) (by omega) (by omega) (by omega)
  have g1 : (if nI (k * 256 + 256) < Int32.ofInt rt then nI (k * 256 + 256) else Int32.ofInt rt) = Int32.ofInt (if ((k * 256 + 256 : Nat) : Int) < rt then ((k * 256 + 256 : Nat) : Int) else rt) := by
    rw [nI_z (k * 256 + 256)]
    by_cases c : ((k * 256 + 256 : Nat) : Int) < rt
    · rw [if_pos (f1.mpr c), if_pos c]
    · rw [if_neg (fun q => c (f1.mp q)), if_neg c]
  have g2 : (if nI lf < nI (k * 256) then nI (k * 256) else nI lf) = Int32.ofInt (if (lf : Int) < ((k * 256 : Nat) : Int) then ((k * 256 : Nat) : Int) else (lf : Int)) := by
    rw [nI_z lf, nI_z (k * 256)]
    by_cases c : (lf : Int) < ((k * 256 : Nat) : Int)
    · rw [if_pos (f2.mpr c), if_pos c]
    · rw [if_neg (fun q => c (f2.mp q)), if_neg c]
  rw [g1, g2]
  unfold ovl
  by_cases c1 : ((k * 256 + 256 : Nat) : Int) < rt
  · rw [if_pos c1]
    by_cases c2 : (lf : Int) < ((k * 256 : Nat) : Int)
    · rw [if_pos c2, z_sub, if_neg (by omega), if_pos (by omega)]
      exact congrArg _ (by omega)
    · rw [if_neg c2, z_sub, if_neg (by omega)]
      by_cases c3 : a < 256 * (k : Int)
      · rw [if_pos c3]; exact congrArg _ (by omega)
      · rw [if_neg c3]; exact congrArg _ (by omega)
  · rw [if_neg c1]
    have e1 : (if b < 256 * (k : Int) + 256 then b else 256 * (k : Int) + 256) = rt := by
      split <;> omega
    rw [e1]
    by_cases c2 : (lf : Int) < ((k * 256 : Nat) : Int)
    · rw [if_pos c2, z_sub, if_pos (by omega)]
      exact congrArg _ (by omega)
    · rw [if_neg c2, z_sub]
      by_cases c3 : a < 256 * (k : Int)
      · rw [if_pos c3]; exact congrArg _ (by omega)
      · rw [if_neg c3]; exact congrArg _ (by omega)
def b1 (q : Bool) : Int := if q = true then 1 else 0
/-- a span covers as many units as lie in it -/
theorem ovl_sum_aux (c a b : Int) : ∀ m : Nat, sumN m (fun v => if a ≤ c + (v : Int) ∧ c + (v : Int) < b then 1 else 0) = (((if b < c + m then b else c + m) - (if a < c then c else a)).toNat : Int)
  | 0 => by
    show (0 : Int) = _
    split <;> split <;> omega
  | m + 1 => by
    show sumN m (fun v => if a ≤ c + (v : Int) ∧ c + (v : Int) < b then 1 else 0) + (if a ≤ c + (m : Int) ∧ c + (m : Int) < b then 1 else 0) = _
    rw [ovl_sum_aux c a b m]
    by_cases h1 : a ≤ c + (m : Int) ∧ c + (m : Int) < b
    · rw [if_pos h1, if_neg (show ¬ b < c + (m : Int) by omega)]
      split <;> split <;> omega
    · rw [if_neg h1]
      split <;> split <;> split <;> omega
theorem ovl_sum (x : Nat) (a b : Int) : ovl x a b = sumN 256 (fun v => if a ≤ 256 * (x : Int) + (v : Int) ∧ 256 * (x : Int) + (v : Int) < b then 1 else 0) := (ovl_sum_aux (256 * (x : Int)) a b 256).symm
/-- whether it is inside at a unit's place, by a rule, and something lies behind -/
def inB (rl : Int32) (mu : (Int → Int → Int) → Int) (z : Int) : Bool := (if rl = 0 then decide (¬ Int32.ofInt (mu (fun q t => if q ≤ z then t else 0)) = 0) else decide (mu (fun q _ => if q ≤ z then 1 else 0) % 2 = 1)) && decide (0 < mu (fun q _ => if z < q then 1 else 0))
/-- how many units of a point are inside -/
def cu (rl : Int32) (mu : (Int → Int → Int) → Int) (x : Nat) : Int := sumN 256 (fun v => b1 (inB rl mu (256 * (x : Int) + (v : Int))))
theorem inB_congr {rl : Int32} {mu nu : (Int → Int → Int) → Int} (h : ∀ f, mu f = nu f) (z : Int) : inB rl mu z = inB rl nu z := by
  unfold inB
  rw [h, h, h]
theorem cu_congr {rl : Int32} {mu nu : (Int → Int → Int) → Int} (h : ∀ f, mu f = nu f) (x : Nat) : cu rl mu x = cu rl nu x := by
  unfold cu
  exact sumN_congr (fun v _ => by rw [inB_congr h])
theorem sumN_cut {n c : Nat} {g h : Nat → Int} (hc : c ≤ n) (h1 : ∀ j, j < c → g j = h j) (h2 : ∀ j, c ≤ j → j < n → g j = 0) : sumN n g = sumN c h := by
  induction n with
  | zero =>
    have : c = 0 := by omega
    subst this; rfl
  | succ n ih =>
    by_cases e : c = n + 1
    · subst e; exact sumN_congr h1
    · show sumN n g + g n = sumN c h
      rw [ih (by omega) (fun j a b => h2 j a (by omega)), h2 n (by omega) (by omega), Int.add_zero]
theorem sumN_one {n k : Nat} {g : Nat → Int} (hk : k < n) (h : ∀ j, j < n → j ≠ k → g j = 0) : sumN n g = g k := by
  rw [sumN_cut (c := k + 1) (h := g) (by omega) (fun _ _ => rfl) (fun j a b => h j b (by omega))]
  show sumN k g + g k = g k
  rw [sumN_congr (g := fun _ => 0) (fun j hj => h j (by omega) (by omega)), sumN_zero, Int.zero_add]
theorem sumN_ones (n : Nat) : sumN n (fun _ => 1) = n := by
  induction n with
  | zero => rfl
  | succ n ih =>
    show sumN n (fun _ => 1) + 1 = ((n + 1 : Nat) : Int)
    rw [ih]; omega
def spB (rl : Int32) (T : Nat → Int) (k : Nat) : Bool := if rl = 0 then decide (¬ Int32.ofInt (sumN (k + 1) T) = 0) else decide (k % 2 = 0)
def subA (rl : Int32) (P T : Nat → Int) (x m : Nat) : Int := sumN m (fun k => if spB rl T k = true then ovl x (P k) (P (k + 1)) else 0)
theorem sorted_cut {P : Nat → Int} {n : Nat} (hs : ∀ i j, i < j → j < n → P i ≤ P j) (z : Int) : ∃ c, c ≤ n ∧ (∀ j, j < c → P j ≤ z) ∧ ∀ j, c ≤ j → j < n → z < P j := by
  induction n with
  | zero => exact ⟨0, Nat.le_refl 0, fun j h => absurd h (Nat.not_lt_zero _), fun j _ h => absurd h (Nat.not_lt_zero _)⟩
  | succ n ih =>
    obtain ⟨c, h1, h2, h3⟩ := ih (fun i j a b => hs i j a (by omega))
    by_cases hz : P n ≤ z
    · refine ⟨n + 1, Nat.le_refl _, fun j hj => ?_, fun j a b => by omega⟩
      by_cases e : j = n
      · rw [e]; exact hz
      · exact Int.le_trans (hs j n (by omega) (by omega)) hz
    · refine ⟨c, by omega, h2, fun j a b => ?_⟩
      by_cases e : j = n
      · rw [e]; omega
      · exact h3 j a (by omega)
theorem subA_cu {rl : Int32} {P T : Nat → Int} {n : Nat} {mu : (Int → Int → Int) → Int} (hs : ∀ i j, i < j → j < n → P i ≤ P j) (hm : ∀ f : Int → Int → Int, sumN n (fun j => f (P j) (T j)) = mu f) (x : Nat) : subA rl P T x (n - 1) = cu rl mu x := by
  have e1 : subA rl P T x (n - 1) = sumN (n - 1) (fun k => sumN 256 (fun v => if spB rl T k = true ∧ P k ≤ 256 * (x : Int) + (v : Int) ∧ 256 * (x : Int) + (v : Int) < P (k + 1) then 1 else 0)) := by
    unfold subA
    refine sumN_congr (fun k _ => ?_)
    by_cases h : spB rl T k = true
    · rw [if_pos h, ovl_sum]
      refine sumN_congr (fun v _ => ?_)
      by_cases h2 : P k ≤ 256 * (x : Int) + (v : Int) ∧ 256 * (x : Int) + (v : Int) < P (k + 1)
      · rw [if_pos h2, if_pos ⟨h, h2⟩]
      · rw [if_neg h2, if_neg (fun q => h2 q.2)]
    · rw [if_neg h]
      exact (sumN_zero 256).symm.trans (sumN_congr (fun v _ => (if_neg (fun q => h q.1)).symm))
  rw [e1, sumN_swap]
  unfold cu
  refine sumN_congr (fun v _ => ?_)
  generalize 256 * (x : Int) + (v : Int) = z
  rw [← inB_congr hm z]
  obtain ⟨c, hc, lo, hi⟩ := sorted_cut hs z
  have s1 : ∀ h : Nat → Int, sumN n (fun j => if P j ≤ z then h j else 0) = sumN c h := fun h =>
    sumN_cut hc (fun j hj => if_pos (lo j hj)) (fun j a b => if_neg (by have := hi j a b; omega))
  have s2 : sumN n (fun j => if z < P j then (1 : Int) else 0) = n - c := by
    have h1 : sumN n (fun j => (if P j ≤ z then (1 : Int) else 0) + (if z < P j then (1 : Int) else 0)) = sumN n (fun _ => 1) := by
      refine sumN_congr (fun j _ => ?_)
      by_cases h : P j ≤ z
      · rw [if_pos h, if_neg (by omega)]; rfl
      · rw [if_neg h, if_pos (by omega)]; rfl
    rw [sumN_add, s1 (fun _ => 1), sumN_ones, sumN_ones] at h1
    omega
  unfold inB
  dsimp only
  have g1 := s1 T
  have g2 : sumN n (fun j => if P j ≤ z then (1 : Int) else 0) = c := (s1 (fun _ => 1)).trans (sumN_ones c)
  simp only [g1, g2, s2]
  rcases Nat.eq_zero_or_pos c with c0 | c0
  · rw [sumN_congr (g := fun _ => 0) (fun k hk => if_neg (fun q => by have := hi k (by omega) (by omega); omega)), sumN_zero, c0]
    have hd : (if rl = 0 then decide (¬ Int32.ofInt (sumN 0 T) = 0) else decide (((0 : Nat) : Int) % 2 = 1)) = false := by
      by_cases h : rl = 0
      · rw [if_pos h]
        show decide (¬ Int32.ofInt 0 = 0) = false
        decide
      · rw [if_neg h]; decide
    rw [hd, Bool.false_and]; rfl
  · by_cases cn : c = n
    · rw [sumN_congr (g := fun _ => 0) (fun k hk => if_neg (fun q => by have := lo (k + 1) (by omega); omega)), sumN_zero]
      have hd : decide (0 < (n : Int) - (c : Int)) = false := decide_eq_false (by omega)
      rw [hd, Bool.and_false]; rfl
    · have hd : decide (0 < (n : Int) - (c : Int)) = true := decide_eq_true (by omega)
      rw [hd, Bool.and_true]
      rw [sumN_one (k := c - 1) (by omega) (fun j hj hne => if_neg (fun q => by
        rcases Nat.lt_or_ge j (c - 1) with g | g
        · have := lo (j + 1) (by omega); omega
        · have := hi j (by omega) (by omega); omega))]
      have e2 : spB rl T (c - 1) = (if rl = 0 then decide (¬ Int32.ofInt (sumN c T) = 0) else decide ((c : Int) % 2 = 1)) := by
        unfold spB
        rw [show c - 1 + 1 = c by omega]
        by_cases h : rl = 0
        · rw [if_pos h, if_pos h]
        · rw [if_neg h, if_neg h]
          exact decide_eq_decide.mpr (by omega)
      rw [← e2]
      have p1 := lo (c - 1) (by omega)
      have p2 := hi (c - 1 + 1) (by omega) (by omega)
      unfold b1
      by_cases h : spB rl T (c - 1) = true
      · rw [if_pos h, if_pos ⟨h, p1, p2⟩]
      · rw [if_neg h, if_neg (fun q => h q.1)]
/-- a point's units of a whole row: sixteen sub-rows -/
def cov (rl : Int32) (X Y : Nat → Int) (bg : Nat → Int32) (n row m x : Nat) : Int := sumN m (fun j => cu rl (fun f => muL X Y bg n (16 * (16 * (row : Int) + (j : Int)) + 8) n f) x)
/-- what is made of a point's units: its cover -/
def cvv (q : Int32) : Int32 := (q * nI 255 + nI 2048) / nI 4096
def mulv (a b : Int32) : Int32 := (a * b + nI 127) / nI 255
def bldv (o v c : Int32) : Int32 := (o * (nI 255 - c) + v * c + nI 127) / nI 255
end
section
abbrev rm_X3_addSpan : Room := { frames := 1, cells := 0, slots := 0, locals := 20 }
set_option maxHeartbeats 4000000 in
set_option maxRecDepth 100000 in
/-- RowCover.addSpan -/
theorem c_X3_addSpan (l : Launch) (D : va_G) (cI cZ cB cJ : ClassId) (sz : Nat) (r0 : Nat) (r1 : Nat) (z0 : Nat) (wd : Nat) (un : Nat → Int32) (U : Nat → Int) (a : Int) (b : Int) (hw : wd ≤ 48) (hU : ∀ x, x < wd → un x = Int32.ofInt (U x)) (ha : bd a) (hb9 : bd b) (hab : a ≤ b) : Met l yX3_addSpan wsX3_addSpan rm_X3_addSpan (va_Pc [.ref r0, .int (Int32.ofInt a), .int (Int32.ofInt b)] (PC D (qT cI cZ cB cJ) [(r0, .inr (3, [.ref r1, .ref z0])), (r1, .inl (cI, wd, .inl un))] sz)) (va_Qv (fun (u : (Nat → Int32)) => ∀ x, x < wd → u x = Int32.ofInt (U x + ovl x a b)) (fun (u : (Nat → Int32)) => PO D (qT cI cZ cB cJ) (va_A [(r0, .inr (3, [.ref r1, .ref z0])), (r1, .inl (cI, wd, .inl un))] sz) [(r0, .inr (3, [.ref r1, .ref z0])), (r1, .inl (cI, wd, .inl u))]) (va_A [(r0, .inr (3, [.ref r1, .ref z0])), (r1, .inl (cI, wd, .inl un))] sz)) 0 0 (va_A [(r0, .inr (3, [.ref r1, .ref z0])), (r1, .inl (cI, wd, .inl un))] sz) := by
  refine q_entV (cc := cX3_addSpan) (maxL := 7) (by decide +kernel) rfl (Nat.le_of_ble_eq_true rfl) ?_
  intro p e s m below meth c A Q ls hq hl hQ
  obtain ⟨hx, hb, hml, hts, hown, hin, hN, hK, hsz, hA, hP, hD, hS⟩ := hq
  have hown : s.vm.findClass RX3 = some m.cls := hown
  obtain ⟨H, hH⟩ : ∃ H, H = s.heap := ⟨_, rfl⟩
  rw [← hH] at hP ⊢
  have hS : va_S A s.heap H [] := by rw [hH]; exact va_S.rf
  clear hH
  have hl : lv_has ls 7 [(0, .ref r0), (1, .int (Int32.ofInt a)), (2, .int (Int32.ofInt b))] := hl
  have iX3 : ∀ w ∈ wsX30, w ∈ wsX3_addSpan := by decide +kernel
  have ml_50 := hts (.methodLink RX3 50 Lib.Math.max.name) (by decide +kernel)
  have sm_max := hts (.static Lib.Math.max.name) (by decide +kernel)
  have in_Math := hts (.initialized "java/lang/Math") (by decide +kernel)
  have cm_max := hts (.code Lib.Math.max.name Lib.Math.max.code 2 (some .int)) (by decide +kernel)
  have f_18 := hts (.fieldLink RX3 18 "RasterCover$RowCover" "units" "[I") (by decide +kernel)
  have ml_56 := hts (.methodLink RX3 56 Lib.Math.min.name) (by decide +kernel)
  have sm_min := hts (.static Lib.Math.min.name) (by decide +kernel)
  have cm_min := hts (.code Lib.Math.min.name Lib.Math.min.code 2 (some .int)) (by decide +kernel)
  obtain ⟨lf, hlf⟩ : ∃ lf : Nat, lf = a.toNat := ⟨_, rfl⟩
  obtain ⟨rt, hrt⟩ : ∃ rt : Int, rt = if b < ((wd * 256 : Nat) : Int) then b else ((wd * 256 : Nat) : Int) := ⟨_, rfl⟩
  obtain ⟨ha1, ha2⟩ := id ha
  obtain ⟨hb1, hb2⟩ := id hb9
  have hr1 : rt ≤ 12288 := by rw [hrt]; split <;> omega
  have hr2 : rt = b ∨ (rt = ((wd * 256 : Nat) : Int) ∧ ((wd * 256 : Nat) : Int) ≤ b) := by rw [hrt]; split <;> omega
  refine lv_iconst (v := nI 0) hx hb dX3_addSpan_0 (by decide) ?_
  refine lv_iload_n hx hb dX3_addSpan_1 rfl (lv_at hl 1 rfl) ?_
  refine va_mmax hx hb (hml.trans hl.1.symm) hown ml_50 sm_max in_Math cm_max (Nat.le_of_ble_eq_true rfl) (Nat.le_of_ble_eq_true rfl) (Nat.zero_le _) (Nat.zero_le _) dX3_addSpan_2 ?_
  refine q_eqi (y := nI lf) (by rw [hlf]; exact max0_n ha) ?_
  refine lv_istore_n (lv' := [(3, .int (nI lf)), (0, .ref r0), (1, .int (Int32.ofInt a)), (2, .int (Int32.ofInt b))]) hx hb dX3_addSpan_5 rfl hl (by decide) rfl (fun ls hl => ?_)
  refine lv_aload_n hx hb dX3_addSpan_6 rfl (lv_at hl 1 rfl) ?_
  refine va_get (D := D) (ci := 3) (v := .ref r1) (C := RX3) (T := TX3) (N := 2) hx hb hts iX3 hown hK hP 0 rfl rfl 0 (by decide) f_18 (fun _ h9 => h9) rfl dX3_addSpan_7 ?_
  refine va_alen hx hb hK hP 1 0 rfl rfl (v := nI wd) rfl dX3_addSpan_10 ?_
  refine lv_sipush (v := nI 256) hx hb dX3_addSpan_11 (by decide) ?_
  refine lv_imul hx hb dX3_addSpan_14 ?_
  refine q_eqi (pk_mul _ _) ?_
  refine lv_iload_n hx hb dX3_addSpan_15 rfl (lv_at hl 3 rfl) ?_
  refine va_mmin hx hb (hml.trans hl.1.symm) hown ml_56 sm_min in_Math cm_min (Nat.le_of_ble_eq_true rfl) (Nat.le_of_ble_eq_true rfl) (Nat.zero_le _) (Nat.zero_le _) dX3_addSpan_16 ?_
  refine q_eqi (y := Int32.ofInt rt) (by rw [hrt]; exact minw_n hb9 (by omega)) ?_
  refine lv_istore (lv' := [(4, .int (Int32.ofInt rt)), (3, .int (nI lf)), (0, .ref r0), (1, .int (Int32.ofInt a)), (2, .int (Int32.ofInt b))]) hx hb dX3_addSpan_19 hl (by decide) rfl (fun ls hl => ?_)
  refine lv_iload_n hx hb dX3_addSpan_21 rfl (lv_at hl 1 rfl) ?_
  refine lv_sipush (v := nI 256) hx hb dX3_addSpan_22 (by decide) ?_
  refine lv_idiv hx hb dX3_addSpan_25 (by decide) ?_
  refine q_eqi (y := nI (lf / 256)) (pk_div (by omega) (by decide) (by decide)) ?_
  refine lv_istore (lv' := [(5, .int (nI (lf / 256))), (4, .int (Int32.ofInt rt)), (3, .int (nI lf)), (0, .ref r0), (1, .int (Int32.ofInt a)), (2, .int (Int32.ofInt b))]) hx hb dX3_addSpan_26 hl (by decide) rfl (fun ls hl => ?_)
  have L_28 : ∀ (fuel : Nat) (k : Nat) (g : Nat → Int32), wd - k < fuel → (lf / 256 ≤ k) → (k ≤ 5000) → (∀ x, x < wd → g x = Int32.ofInt (U x + if x < k then ovl x a b else 0)) → ∀ (H : Heap) (locs : List Loc) (ls : Array Slot), va_P D qCl [(r0, .inr (3, [.ref r1, .ref z0])), (r1, .inl (cI, wd, .inl g))] H → va_D A [(r0, .inr (3, [.ref r1, .ref z0])), (r1, .inl (cI, wd, .inl g))] → va_S A s.heap H locs → lv_has ls 7 [(5, .int (nI k)), (4, .int (Int32.ofInt rt)), (3, .int (nI lf)), (0, .ref r0), (1, .int (Int32.ofInt a)), (2, .int (Int32.ofInt b))] → W p l e rm_X3_addSpan s m ([.ref r0, .int (Int32.ofInt a), .int (Int32.ofInt b)] : List Value).toArray below meth c H locs 0 0 Q (F0 m 28 ls []) := by
    intro fuel
    induction fuel with
    | zero =>
      intro k g hm
      exact absurd hm (Nat.not_lt_zero _)
    | succ fuel ih_28 =>
      intro k g hm_28 hk1 hk2 hg H locs ls hP hD hS hl
      refine lv_iload hx hb dX3_addSpan_28 (lv_at hl 0 rfl) ?_
      refine lv_aload_n hx hb dX3_addSpan_30 rfl (lv_at hl 3 rfl) ?_
      refine va_get (D := D) (ci := 3) (v := .ref r1) (C := RX3) (T := TX3) (N := 2) hx hb hts iX3 hown hK hP 0 rfl rfl 0 (by decide) f_18 (fun _ h9 => h9) rfl dX3_addSpan_31 ?_
      refine va_alen hx hb hK hP 1 0 rfl rfl (v := nI wd) rfl dX3_addSpan_34 ?_
      refine q_ge (tgt := 91) hx hb (by omega) (by omega) dX3_addSpan_35 (by decide) (fun h_35 => ?_) (fun h_35 => ?_)
      · have hr9 : ∀ x, x < wd → g x = Int32.ofInt (U x + ovl x a b) := (fun x hx => by rw [hg x hx]; by_cases c9 : x < k; (· rw [if_pos c9]); (· rw [if_neg c9, ovl_right (by omega)]))
        exact hQ _ _ _ _ g _ _ dX3_addSpan_91 (Nat.le_refl _) (Nat.le_refl _) hr9 (hP.sub [0, 1] rfl) hK (hD.sub [0, 1] (by decide) rfl) hS
      refine lv_iload hx hb dX3_addSpan_38 (lv_at hl 0 rfl) ?_
      refine lv_sipush (v := nI 256) hx hb dX3_addSpan_40 (by decide) ?_
      refine lv_imul hx hb dX3_addSpan_43 ?_
      refine q_eqi (pk_mul _ _) ?_
      refine lv_iload hx hb dX3_addSpan_44 (lv_at hl 1 rfl) ?_
      refine lv_icmp_ge (tgt := 91) hx hb dX3_addSpan_46 (by decide) (fun h_46 => ?_) (fun h_46 => ?_)
      · rw [nI_z (k * 256), z_le (by omega) (by omega) (by omega) (by omega)] at h_46
        have hr9 : ∀ x, x < wd → g x = Int32.ofInt (U x + ovl x a b) := (fun x hx => by rw [hg x hx]; by_cases c9 : x < k; (· rw [if_pos c9]); (· rw [if_neg c9, ovl_right (by omega)]))
        exact hQ _ _ _ _ g _ _ dX3_addSpan_91 (Nat.le_refl _) (Nat.le_refl _) hr9 (hP.sub [0, 1] rfl) hK (hD.sub [0, 1] (by decide) rfl) hS
      rw [nI_z (k * 256), z_le (by omega) (by omega) (by omega) (by omega)] at h_46
      have h_46 : ((k * 256 : Nat) : Int) < rt := Int.lt_of_not_ge h_46
      refine lv_iload hx hb dX3_addSpan_49 (lv_at hl 0 rfl) ?_
      refine lv_sipush (v := nI 256) hx hb dX3_addSpan_51 (by decide) ?_
      refine lv_imul hx hb dX3_addSpan_54 ?_
      refine q_eqi (pk_mul _ _) ?_
      refine lv_istore (lv' := [(6, .int (nI (k * 256))), (5, .int (nI k)), (4, .int (Int32.ofInt rt)), (3, .int (nI lf)), (0, .ref r0), (1, .int (Int32.ofInt a)), (2, .int (Int32.ofInt b))]) hx hb dX3_addSpan_55 hl (by decide) rfl (fun ls hl => ?_)
      refine lv_aload_n hx hb dX3_addSpan_57 rfl (lv_at hl 4 rfl) ?_
      refine va_get (D := D) (ci := 3) (v := .ref r1) (C := RX3) (T := TX3) (N := 2) hx hb hts iX3 hown hK hP 0 rfl rfl 0 (by decide) f_18 (fun _ h9 => h9) rfl dX3_addSpan_58 ?_
      refine lv_iload hx hb dX3_addSpan_61 (lv_at hl 1 rfl) ?_
      refine lv_dup2_11 hx hb dX3_addSpan_63 rfl rfl ?_
      refine q_iald hx hb hK hP 1 0 rfl rfl (k := k) (by omega) (by omega) dX3_addSpan_64 ?_
      refine lv_iload hx hb dX3_addSpan_65 (lv_at hl 2 rfl) ?_
      refine lv_iload hx hb dX3_addSpan_67 (lv_at hl 0 rfl) ?_
      refine lv_sipush (v := nI 256) hx hb dX3_addSpan_69 (by decide) ?_
      refine lv_iadd hx hb dX3_addSpan_72 ?_
      refine q_eqi (nI_add _ _) ?_
      refine va_mmin hx hb (hml.trans hl.1.symm) hown ml_56 sm_min in_Math cm_min (Nat.le_of_ble_eq_true rfl) (Nat.le_of_ble_eq_true rfl) (Nat.zero_le _) (Nat.zero_le _) dX3_addSpan_73 ?_
      refine lv_iload_n hx hb dX3_addSpan_76 rfl (lv_at hl 3 rfl) ?_
      refine lv_iload hx hb dX3_addSpan_77 (lv_at hl 0 rfl) ?_
      refine va_mmax hx hb (hml.trans hl.1.symm) hown ml_50 sm_max in_Math cm_max (Nat.le_of_ble_eq_true rfl) (Nat.le_of_ble_eq_true rfl) (Nat.zero_le _) (Nat.zero_le _) dX3_addSpan_79 ?_
      refine lv_isub hx hb dX3_addSpan_82 ?_
      refine q_eqi (y := Int32.ofInt (ovl k a b)) (span_val ha hb9 hlf hrt hab h_35 hw hk1 h_46) ?_
      refine lv_iadd hx hb dX3_addSpan_83 ?_
      refine q_eqi (y := Int32.ofInt (U k + ovl k a b)) (by rw [hg k h_35, if_neg (Nat.lt_irrefl k), Int.add_zero, z_add]) ?_
      refine q_iast hx hb hK hP hD hS 1 0 rfl rfl (k := k) (by omega) (by omega) dX3_addSpan_84 (fun H locs hP hD hS => ?_)
      have hP : va_P D qCl [(r0, .inr (3, [.ref r1, .ref z0])), (r1, .inl (cI, wd, .inl (upd g k (Int32.ofInt (U k + ovl k a b)))))] H := hP
      have hD : va_D A [(r0, .inr (3, [.ref r1, .ref z0])), (r1, .inl (cI, wd, .inl (upd g k (Int32.ofInt (U k + ovl k a b)))))] := hD
      refine lv_iinc (v := nI (k + 1)) (lv' := [(5, .int (nI (k + 1))), (6, .int (nI (k * 256))), (4, .int (Int32.ofInt rt)), (3, .int (nI lf)), (0, .ref r0), (1, .int (Int32.ofInt a)), (2, .int (Int32.ofInt b))]) hx hb dX3_addSpan_85 hl (k := 1) rfl (q_inc _) (by decide) rfl (fun ls hl => ?_)
      refine lv_goto (tgt := 28) hx hb dX3_addSpan_88 (by decide) ?_
      exact ih_28 (k + 1) (upd g k (Int32.ofInt (U k + ovl k a b))) (by omega) (by omega) (by omega) (fun x hx => by unfold upd; by_cases c9 : x = k; (· rw [if_pos c9, c9, if_pos (Nat.lt_succ_self k)]); (· rw [if_neg c9, hg x hx]; by_cases c8 : x < k; (· rw [if_pos c8, if_pos (show x < k + 1 by omega)]); (· rw [if_neg c8, if_neg (show ¬ x < k + 1 by omega)]))) _ _ _ (hP.sub [0, 1] rfl) (hD.sub [0, 1] (by decide) rfl) hS (lv_sub hl [0, 2, 3, 4, 5, 6] rfl)
  exact L_28 _ (lf / 256) un (Nat.lt_succ_self _) (Nat.le_refl _) (by omega) (fun x hx => by rw [hU x hx]; split; (· rw [ovl_left (by omega), Int.add_zero]); (· rw [Int.add_zero])) _ _ _ (hP.sub [0, 1] rfl) (hD.sub [0, 1] (by decide) rfl) hS (lv_sub hl [0, 1, 2, 3, 4, 5] rfl)

abbrev rm_X3_addSubRow : Room := { frames := 2, cells := 0, slots := 0, locals := 46 }
set_option maxHeartbeats 4000000 in
set_option maxRecDepth 100000 in
/-- RowCover.addSubRow -/
theorem c_X3_addSubRow (l : Launch) (D : va_G) (cI cZ cB cJ : ClassId) (sz : Nat) (r0 : Nat) (r1 : Nat) (z0 : Nat) (wd : Nat) (un : Nat → Int32) (U : Nat → Int) (z1 : Nat) (z2 : Nat) (n : Nat) (zx : Nat → Int32) (zt : Nat → Int32) (rl : Int32) (mu : (Int → Int → Int) → Int) (hw : wd ≤ 48) (hU : ∀ x, x < wd → un x = Int32.ofInt (U x)) (hC : CR zx zt n mu) (hn : n ≤ 100) : Met l yX3_addSubRow wsX3_addSubRow rm_X3_addSubRow (va_Pc [.ref r0, .int rl] (PC D (qT cI cZ cB cJ) [(r0, .inr (3, [.ref r1, .ref z0])), (r1, .inl (cI, wd, .inl un)), (z0, .inr (0, [.ref z1, .ref z2, .int (nI n)])), (z1, .inl (cI, 100, .inl zx)), (z2, .inl (cI, 100, .inl zt))] sz)) (va_Qv (fun (u : (Nat → Int32)) => ∀ x, x < wd → u x = Int32.ofInt (U x + cu rl mu x)) (fun (u : (Nat → Int32)) => PO D (qT cI cZ cB cJ) (va_A [(r0, .inr (3, [.ref r1, .ref z0])), (r1, .inl (cI, wd, .inl un)), (z0, .inr (0, [.ref z1, .ref z2, .int (nI n)])), (z1, .inl (cI, 100, .inl zx)), (z2, .inl (cI, 100, .inl zt))] sz) [(r0, .inr (3, [.ref r1, .ref z0])), (r1, .inl (cI, wd, .inl u)), (z0, .inr (0, [.ref z1, .ref z2, .int (nI n)])), (z1, .inl (cI, 100, .inl zx)), (z2, .inl (cI, 100, .inl zt))]) (va_A [(r0, .inr (3, [.ref r1, .ref z0])), (r1, .inl (cI, wd, .inl un)), (z0, .inr (0, [.ref z1, .ref z2, .int (nI n)])), (z1, .inl (cI, 100, .inl zx)), (z2, .inl (cI, 100, .inl zt))] sz)) 0 0 (va_A [(r0, .inr (3, [.ref r1, .ref z0])), (r1, .inl (cI, wd, .inl un)), (z0, .inr (0, [.ref z1, .ref z2, .int (nI n)])), (z1, .inl (cI, 100, .inl zx)), (z2, .inl (cI, 100, .inl zt))] sz) := by
  refine q_entV (cc := cX3_addSubRow) (maxL := 5) (by decide +kernel) rfl (Nat.le_of_ble_eq_true rfl) ?_
  intro p e s m below meth c A Q ls hq hl hQ
  obtain ⟨hx, hb, hml, hts, hown, hin, hN, hK, hsz, hA, hP, hD, hS⟩ := hq
  have hown : s.vm.findClass RX3 = some m.cls := hown
  obtain ⟨H, hH⟩ : ∃ H, H = s.heap := ⟨_, rfl⟩
  rw [← hH] at hP ⊢
  have hS : va_S A s.heap H [] := by rw [hH]; exact va_S.rf
  clear hH
  have hl : lv_has ls 5 [(0, .ref r0), (1, .int rl)] := hl
  have iX0 : ∀ w ∈ wsX00, w ∈ wsX3_addSubRow := by decide +kernel
  have iX3 : ∀ w ∈ wsX30, w ∈ wsX3_addSubRow := by decide +kernel
  have f_12 := hts (.fieldLink RX3 12 "RasterCover$RowCover" "crossings" "LRasterCover$Crossings;") (by decide +kernel)
  obtain ⟨P, T, hz, hs, hm⟩ := id hC
  refine lv_iconst (v := nI 0) hx hb dX3_addSubRow_0 (by decide) ?_
  refine lv_istore_n (lv' := [(2, .int (nI 0)), (0, .ref r0), (1, .int rl)]) hx hb dX3_addSubRow_1 rfl hl (by decide) rfl (fun ls hl => ?_)
  refine lv_iconst (v := nI 0) hx hb dX3_addSubRow_2 (by decide) ?_
  refine lv_istore_n (lv' := [(3, .int (nI 0)), (2, .int (nI 0)), (0, .ref r0), (1, .int rl)]) hx hb dX3_addSubRow_3 rfl hl (by decide) rfl (fun ls hl => ?_)
  have L_4 : ∀ (fuel : Nat) (i : Nat) (tv : Int32) (g : Nat → Int32), n - i < fuel → (tv = Int32.ofInt (sumN i T)) → (i ≤ n - 1) → (∀ x, x < wd → g x = Int32.ofInt (U x + subA rl P T x i)) → ∀ (H : Heap) (locs : List Loc) (ls : Array Slot), va_P D qCl [(r0, .inr (3, [.ref r1, .ref z0])), (r1, .inl (cI, wd, .inl g)), (z0, .inr (0, [.ref z1, .ref z2, .int (nI n)])), (z1, .inl (cI, 100, .inl zx)), (z2, .inl (cI, 100, .inl zt))] H → va_D A [(r0, .inr (3, [.ref r1, .ref z0])), (r1, .inl (cI, wd, .inl g)), (z0, .inr (0, [.ref z1, .ref z2, .int (nI n)])), (z1, .inl (cI, 100, .inl zx)), (z2, .inl (cI, 100, .inl zt))] → va_S A s.heap H locs → lv_has ls 5 [(3, .int (nI i)), (2, .int tv), (0, .ref r0), (1, .int rl)] → W p l e rm_X3_addSubRow s m ([.ref r0, .int rl] : List Value).toArray below meth c H locs 0 0 Q (F0 m 4 ls []) := by
    intro fuel
    induction fuel with
    | zero =>
      intro i tv g hm
      exact absurd hm (Nat.not_lt_zero _)
    | succ fuel ih_4 =>
      intro i tv g hm_4 htv hi hg H locs ls hP hD hS hl
      refine lv_iload_n hx hb dX3_addSubRow_4 rfl (lv_at hl 0 rfl) ?_
      refine lv_iconst (v := nI 1) hx hb dX3_addSubRow_5 (by decide) ?_
      refine lv_iadd hx hb dX3_addSubRow_6 ?_
      refine q_eqi (nI_add _ _) ?_
      refine lv_aload_n hx hb dX3_addSubRow_7 rfl (lv_at hl 2 rfl) ?_
      refine va_get (D := D) (ci := 3) (v := .ref z0) (C := RX3) (T := TX3) (N := 2) hx hb hts iX3 hown hK hP 0 rfl rfl 1 (by decide) f_12 (fun _ h9 => h9) rfl dX3_addSubRow_8 ?_
      refine va_getN (D := D) (ci := 0) (v := .int (nI n)) (C := RX0) (T := TX0) (N := 3) hx hb hts iX0 hown hK hP 2 rfl rfl 2 (by decide) (nw_7 hN) (fun _ h9 => h9) rfl dX3_addSubRow_11 ?_
      refine q_ge (tgt := 88) hx hb (by omega) (by omega) dX3_addSubRow_14 (by decide) (fun h_14 => ?_) (fun h_14 => ?_)
      · have hr9 : ∀ x, x < wd → g x = Int32.ofInt (U x + cu rl mu x) := (fun x hx => by rw [hg x hx, show i = n - 1 by omega, subA_cu hs hm])
        exact hQ _ _ _ _ g _ _ dX3_addSubRow_88 (Nat.le_refl _) (Nat.le_refl _) hr9 (hP.sub [0, 1, 2, 3, 4] rfl) hK (hD.sub [0, 1, 2, 3, 4] (by decide) rfl) hS
      refine lv_iload_n hx hb dX3_addSubRow_17 rfl (lv_at hl 1 rfl) ?_
      refine lv_aload_n hx hb dX3_addSubRow_18 rfl (lv_at hl 2 rfl) ?_
      refine va_get (D := D) (ci := 3) (v := .ref z0) (C := RX3) (T := TX3) (N := 2) hx hb hts iX3 hown hK hP 0 rfl rfl 1 (by decide) f_12 (fun _ h9 => h9) rfl dX3_addSubRow_19 ?_
      refine va_getN (D := D) (ci := 0) (v := .ref z2) (C := RX0) (T := TX0) (N := 3) hx hb hts iX0 hown hK hP 2 rfl rfl 1 (by decide) (nw_6 hN) (fun _ h9 => h9) rfl dX3_addSubRow_22 ?_
      refine lv_iload_n hx hb dX3_addSubRow_25 rfl (lv_at hl 0 rfl) ?_
      refine q_iald hx hb hK hP 4 0 rfl rfl (k := i) (by omega) (by omega) dX3_addSubRow_26 ?_
      refine lv_iadd hx hb dX3_addSubRow_27 ?_
      refine q_eqi (y := Int32.ofInt (sumN (i + 1) T)) (by rw [htv, (hz i (by omega)).2.1, z_add]; rfl) ?_
      refine lv_istore_n (lv' := [(2, .int (Int32.ofInt (sumN (i + 1) T))), (3, .int (nI i)), (0, .ref r0), (1, .int rl)]) hx hb dX3_addSubRow_28 rfl hl (by decide) rfl (fun ls hl => ?_)
      have J_82 : ∀ (g2 : Nat → Int32), (∀ x, x < wd → g2 x = Int32.ofInt (U x + subA rl P T x (i + 1))) → ∀ (H : Heap) (locs : List Loc) (ls : Array Slot), va_P D qCl [(r0, .inr (3, [.ref r1, .ref z0])), (r1, .inl (cI, wd, .inl g2)), (z0, .inr (0, [.ref z1, .ref z2, .int (nI n)])), (z1, .inl (cI, 100, .inl zx)), (z2, .inl (cI, 100, .inl zt))] H → va_D A [(r0, .inr (3, [.ref r1, .ref z0])), (r1, .inl (cI, wd, .inl g2)), (z0, .inr (0, [.ref z1, .ref z2, .int (nI n)])), (z1, .inl (cI, 100, .inl zx)), (z2, .inl (cI, 100, .inl zt))] → va_S A s.heap H locs → lv_has ls 5 [(2, .int (Int32.ofInt (sumN (i + 1) T))), (3, .int (nI i)), (0, .ref r0), (1, .int rl)] → W p l e rm_X3_addSubRow s m ([.ref r0, .int rl] : List Value).toArray below meth c H locs 0 0 Q (F0 m 82 ls []) := by
        intro g2 hg2 H locs ls hP hD hS hl
        refine lv_iinc (v := nI (i + 1)) (lv' := [(3, .int (nI (i + 1))), (2, .int (Int32.ofInt (sumN (i + 1) T))), (0, .ref r0), (1, .int rl)]) hx hb dX3_addSubRow_82 hl (k := 1) rfl (q_inc _) (by decide) rfl (fun ls hl => ?_)
        refine lv_goto (tgt := 4) hx hb dX3_addSubRow_85 (by decide) ?_
        exact ih_4 (i + 1) (Int32.ofInt (sumN (i + 1) T)) g2 (by omega) rfl (by omega) hg2 _ _ _ (hP.sub [0, 1, 2, 3, 4] rfl) (hD.sub [0, 1, 2, 3, 4] (by decide) rfl) hS (lv_sub hl [0, 1, 2, 3] rfl)
      have J_58 : (spB rl T i = true) → ∀ (H : Heap) (locs : List Loc) (ls : Array Slot), va_P D qCl [(r0, .inr (3, [.ref r1, .ref z0])), (r1, .inl (cI, wd, .inl g)), (z0, .inr (0, [.ref z1, .ref z2, .int (nI n)])), (z1, .inl (cI, 100, .inl zx)), (z2, .inl (cI, 100, .inl zt))] H → va_D A [(r0, .inr (3, [.ref r1, .ref z0])), (r1, .inl (cI, wd, .inl g)), (z0, .inr (0, [.ref z1, .ref z2, .int (nI n)])), (z1, .inl (cI, 100, .inl zx)), (z2, .inl (cI, 100, .inl zt))] → va_S A s.heap H locs → lv_has ls 5 [(2, .int (Int32.ofInt (sumN (i + 1) T))), (3, .int (nI i)), (0, .ref r0), (1, .int rl)] → W p l e rm_X3_addSubRow s m ([.ref r0, .int rl] : List Value).toArray below meth c H locs 0 0 Q (F0 m 58 ls []) := by
        intro  hsp H locs ls hP hD hS hl
        refine lv_aload_n hx hb dX3_addSubRow_58 rfl (lv_at hl 2 rfl) ?_
        refine lv_aload_n hx hb dX3_addSubRow_59 rfl (lv_at hl 2 rfl) ?_
        refine va_get (D := D) (ci := 3) (v := .ref z0) (C := RX3) (T := TX3) (N := 2) hx hb hts iX3 hown hK hP 0 rfl rfl 1 (by decide) f_12 (fun _ h9 => h9) rfl dX3_addSubRow_60 ?_
        refine va_getN (D := D) (ci := 0) (v := .ref z1) (C := RX0) (T := TX0) (N := 3) hx hb hts iX0 hown hK hP 2 rfl rfl 0 (by decide) (nw_5 hN) (fun _ h9 => h9) rfl dX3_addSubRow_63 ?_
        refine lv_iload_n hx hb dX3_addSubRow_66 rfl (lv_at hl 1 rfl) ?_
        refine q_iald hx hb hK hP 3 0 rfl rfl (k := i) (by omega) (by omega) dX3_addSubRow_67 ?_
        refine q_eqi (y := Int32.ofInt (P i)) (hz i (by omega)).1 ?_
        refine lv_aload_n hx hb dX3_addSubRow_68 rfl (lv_at hl 2 rfl) ?_
        refine va_get (D := D) (ci := 3) (v := .ref z0) (C := RX3) (T := TX3) (N := 2) hx hb hts iX3 hown hK hP 0 rfl rfl 1 (by decide) f_12 (fun _ h9 => h9) rfl dX3_addSubRow_69 ?_
        refine va_getN (D := D) (ci := 0) (v := .ref z1) (C := RX0) (T := TX0) (N := 3) hx hb hts iX0 hown hK hP 2 rfl rfl 0 (by decide) (nw_5 hN) (fun _ h9 => h9) rfl dX3_addSubRow_72 ?_
        refine lv_iload_n hx hb dX3_addSubRow_75 rfl (lv_at hl 1 rfl) ?_
        refine lv_iconst (v := nI 1) hx hb dX3_addSubRow_76 (by decide) ?_
        refine lv_iadd hx hb dX3_addSubRow_77 ?_
        refine q_eqi (nI_add _ _) ?_
        refine q_iald hx hb hK hP 3 0 rfl rfl (k := (i + 1)) (by omega) (by omega) dX3_addSubRow_78 ?_
        refine q_eqi (y := Int32.ofInt (P (i + 1))) (hz (i + 1) (by omega)).1 ?_
        refine q_v0 (wr := [(z0, .inr (0, [.ref z1, .ref z2, .int (nI n)])), (z1, .inl (cI, 100, .inl zx)), (z2, .inl (cI, 100, .inl zt))]) (va_runV (As := [.int (Int32.ofInt (P i)), .int (Int32.ofInt (P (i + 1)))]) (rest := []) ⟨hx, hb, hml, hown, hts⟩ (c_X3_addSpan l D cI cZ cB cJ H.size r0 r1 z0 wd g (fun x => U x + subA rl P T x i) (P i) (P (i + 1)) hw hg (hz i (by omega)).2.2 (hz (i + 1) (by omega)).2.2 (hs i (i + 1) (by omega) (by omega))) (cwV 2 hts gX3_addSubRow_X3_addSpan rfl rfl rfl (by decide +kernel) ⟨Nat.le_of_ble_eq_true rfl, Nat.le_of_ble_eq_true rfl⟩) (q_preV (q_pre (wc := [(r0, .inr (3, [.ref r1, .ref z0])), (r1, .inl (cI, wd, .inl g))]) hP hD hK hN [0, 1] (by decide) rfl) (va_recv hK hP (ci := 3) (q0 := 0) rfl rfl)) rfl rfl hl.1 rfl (lv_room (Nat.le_of_ble_eq_true rfl)) dX3_addSubRow_79 ⟨Nat.zero_le _, Nat.zero_le _⟩) hS hA hP hD [0, 1] [2, 3, 4] rfl rfl (by decide) (by decide) (fun un3 H locs hp_79 hP hD hS => ?_)
        have hP : va_P D qCl [(z0, .inr (0, [.ref z1, .ref z2, .int (nI n)])), (z1, .inl (cI, 100, .inl zx)), (z2, .inl (cI, 100, .inl zt)), (r0, .inr (3, [.ref r1, .ref z0])), (r1, .inl (cI, wd, .inl un3))] H := hP
        have hD : va_D A [(z0, .inr (0, [.ref z1, .ref z2, .int (nI n)])), (z1, .inl (cI, 100, .inl zx)), (z2, .inl (cI, 100, .inl zt)), (r0, .inr (3, [.ref r1, .ref z0])), (r1, .inl (cI, wd, .inl un3))] := hD
        have hp_79 : ∀ x, x < wd → un3 x = Int32.ofInt ((fun x => U x + subA rl P T x i) x + ovl x (P i) (P (i + 1))) := hp_79
        have hp_79 : ∀ x, x < wd → un3 x = Int32.ofInt (U x + subA rl P T x i + ovl x (P i) (P (i + 1))) := hp_79
        exact J_82 un3 (fun x hx => by rw [hp_79 x hx, Int.add_assoc]; exact congrArg (fun q => Int32.ofInt (U x + q)) (show subA rl P T x i + ovl x (P i) (P (i + 1)) = subA rl P T x i + (if spB rl T i = true then ovl x (P i) (P (i + 1)) else 0) by rw [if_pos hsp])) _ _ _ (hP.sub [3, 4, 0, 1, 2] rfl) (hD.sub [3, 4, 0, 1, 2] (by decide) rfl) hS (lv_sub hl [0, 1, 2, 3] rfl)
      refine lv_iload_n hx hb dX3_addSubRow_29 rfl (lv_at hl 1 rfl) ?_
      refine lv_iconst (v := nI 2) hx hb dX3_addSubRow_30 (by decide) ?_
      refine lv_irem hx hb dX3_addSubRow_31 (by decide) ?_
      refine q_eqi (y := nI (i % 2)) (pk_rem (by omega) (by decide) (by decide)) ?_
      refine q_if_ne (tgt := 39) hx hb (by omega) dX3_addSubRow_32 (by decide) (fun h_32 => ?_) (fun h_32 => ?_)
      · refine lv_iconst (v := nI 0) hx hb dX3_addSubRow_39 (by decide) ?_
        refine lv_istore (lv' := [(4, .int (nI 0)), (2, .int (Int32.ofInt (sumN (i + 1) T))), (3, .int (nI i)), (0, .ref r0), (1, .int rl)]) hx hb dX3_addSubRow_40 hl (by decide) rfl (fun ls hl => ?_)
        refine lv_iload_n hx hb dX3_addSubRow_42 rfl (lv_at hl 4 rfl) ?_
        refine lv_if_ne (tgt := 53) hx hb dX3_addSubRow_43 (by decide) (fun h_43 => ?_) (fun h_43 => ?_)
        · refine lv_iload hx hb dX3_addSubRow_53 (lv_at hl 0 rfl) ?_
          refine q_if_eq (tgt := 82) hx hb (by omega) dX3_addSubRow_55 (by decide) (fun h_55 => ?_) (fun h_55 => by omega)
          exact J_82 g (fun x hx => by rw [hg x hx]; exact congrArg (fun q => Int32.ofInt (U x + q)) (show subA rl P T x i = subA rl P T x i + (if spB rl T i = true then ovl x (P i) (P (i + 1)) else 0) by rw [if_neg (by unfold spB; rw [if_neg h_43, decide_eq_true_iff]; omega), Int.add_zero])) _ _ _ (hP.sub [0, 1, 2, 3, 4] rfl) (hD.sub [0, 1, 2, 3, 4] (by decide) rfl) hS (lv_sub hl [1, 2, 3, 4] rfl)
        refine lv_iload_n hx hb dX3_addSubRow_46 rfl (lv_at hl 1 rfl) ?_
        refine lv_if_eq (tgt := 82) hx hb dX3_addSubRow_47 (by decide) (fun h_47 => ?_) (fun h_47 => ?_)
        · exact J_82 g (fun x hx => by rw [hg x hx]; exact congrArg (fun q => Int32.ofInt (U x + q)) (show subA rl P T x i = subA rl P T x i + (if spB rl T i = true then ovl x (P i) (P (i + 1)) else 0) by rw [if_neg (by unfold spB; rw [if_pos h_43, decide_eq_true_iff]; exact fun q => q h_47), Int.add_zero])) _ _ _ (hP.sub [0, 1, 2, 3, 4] rfl) (hD.sub [0, 1, 2, 3, 4] (by decide) rfl) hS (lv_sub hl [1, 2, 3, 4] rfl)
        refine lv_goto (tgt := 58) hx hb dX3_addSubRow_50 (by decide) ?_
        exact J_58 (by unfold spB; rw [if_pos h_43, decide_eq_true_iff]; exact h_47) _ _ _ (hP.sub [0, 1, 2, 3, 4] rfl) (hD.sub [0, 1, 2, 3, 4] (by decide) rfl) hS (lv_sub hl [1, 2, 3, 4] rfl)
      refine lv_iconst (v := nI 1) hx hb dX3_addSubRow_35 (by decide) ?_
      refine lv_goto (tgt := 40) hx hb dX3_addSubRow_36 (by decide) ?_
      refine lv_istore (lv' := [(4, .int (nI 1)), (2, .int (Int32.ofInt (sumN (i + 1) T))), (3, .int (nI i)), (0, .ref r0), (1, .int rl)]) hx hb dX3_addSubRow_40 hl (by decide) rfl (fun ls hl => ?_)
      refine lv_iload_n hx hb dX3_addSubRow_42 rfl (lv_at hl 4 rfl) ?_
      refine lv_if_ne (tgt := 53) hx hb dX3_addSubRow_43 (by decide) (fun h_43 => ?_) (fun h_43 => ?_)
      · refine lv_iload hx hb dX3_addSubRow_53 (lv_at hl 0 rfl) ?_
        refine q_if_eq (tgt := 82) hx hb (by omega) dX3_addSubRow_55 (by decide) (fun h_55 => by omega) (fun h_55 => ?_)
        exact J_58 (by unfold spB; rw [if_neg h_43, decide_eq_true_iff]; exact h_32) _ _ _ (hP.sub [0, 1, 2, 3, 4] rfl) (hD.sub [0, 1, 2, 3, 4] (by decide) rfl) hS (lv_sub hl [1, 2, 3, 4] rfl)
      refine lv_iload_n hx hb dX3_addSubRow_46 rfl (lv_at hl 1 rfl) ?_
      refine lv_if_eq (tgt := 82) hx hb dX3_addSubRow_47 (by decide) (fun h_47 => ?_) (fun h_47 => ?_)
      · exact J_82 g (fun x hx => by rw [hg x hx]; exact congrArg (fun q => Int32.ofInt (U x + q)) (show subA rl P T x i = subA rl P T x i + (if spB rl T i = true then ovl x (P i) (P (i + 1)) else 0) by rw [if_neg (by unfold spB; rw [if_pos h_43, decide_eq_true_iff]; exact fun q => q h_47), Int.add_zero])) _ _ _ (hP.sub [0, 1, 2, 3, 4] rfl) (hD.sub [0, 1, 2, 3, 4] (by decide) rfl) hS (lv_sub hl [1, 2, 3, 4] rfl)
      refine lv_goto (tgt := 58) hx hb dX3_addSubRow_50 (by decide) ?_
      exact J_58 (by unfold spB; rw [if_pos h_43, decide_eq_true_iff]; exact h_47) _ _ _ (hP.sub [0, 1, 2, 3, 4] rfl) (hD.sub [0, 1, 2, 3, 4] (by decide) rfl) hS (lv_sub hl [1, 2, 3, 4] rfl)
  exact L_4 _ 0 (nI 0) un (Nat.lt_succ_self _) rfl (Nat.zero_le _) (fun x hx => by rw [hU x hx]; exact congrArg Int32.ofInt (Int.add_zero _).symm) _ _ _ (hP.sub [0, 1, 2, 3, 4] rfl) (hD.sub [0, 1, 2, 3, 4] (by decide) rfl) hS (lv_sub hl [0, 1, 2, 3] rfl)

abbrev rm_X3_at : Room := { frames := 0, cells := 0, slots := 0, locals := 0 }
set_option maxHeartbeats 4000000 in
set_option maxRecDepth 100000 in
/-- RowCover.at -/
theorem c_X3_at (l : Launch) (D : va_G) (cI cZ cB cJ : ClassId) (sz : Nat) (r0 : Nat) (r1 : Nat) (z0 : Nat) (wd : Nat) (un : Nat → Int32) (k : Nat) (hw : wd ≤ 48) (hk : k < wd) : Met l yX3_at wsX3_at rm_X3_at (va_Pc [.ref r0, .int (nI k)] (PC D (qT cI cZ cB cJ) [(r0, .inr (3, [.ref r1, .ref z0])), (r1, .inl (cI, wd, .inl un))] sz)) (va_Qi (fun (r : Int32) (u : Unit) => r = cvv (un k)) (fun (u : Unit) => PO D (qT cI cZ cB cJ) (va_A [(r0, .inr (3, [.ref r1, .ref z0])), (r1, .inl (cI, wd, .inl un))] sz) [(r0, .inr (3, [.ref r1, .ref z0])), (r1, .inl (cI, wd, .inl un))]) (va_A [(r0, .inr (3, [.ref r1, .ref z0])), (r1, .inl (cI, wd, .inl un))] sz)) 0 0 (va_A [(r0, .inr (3, [.ref r1, .ref z0])), (r1, .inl (cI, wd, .inl un))] sz) := by
  refine q_entI (cc := cX3_at) (maxL := 2) (by decide +kernel) rfl (Nat.le_of_ble_eq_true rfl) ?_
  intro p e s m below meth c A Q ls hq hl hQ
  obtain ⟨hx, hb, hml, hts, hown, hin, hN, hK, hsz, hA, hP, hD, hS⟩ := hq
  have hown : s.vm.findClass RX3 = some m.cls := hown
  obtain ⟨H, hH⟩ : ∃ H, H = s.heap := ⟨_, rfl⟩
  rw [← hH] at hP ⊢
  have hS : va_S A s.heap H [] := by rw [hH]; exact va_S.rf
  clear hH
  have hl : lv_has ls 2 [(0, .ref r0), (1, .int (nI k))] := hl
  have iX3 : ∀ w ∈ wsX30, w ∈ wsX3_at := by decide +kernel
  have f_18 := hts (.fieldLink RX3 18 "RasterCover$RowCover" "units" "[I") (by decide +kernel)
  refine lv_aload_n hx hb dX3_at_0 rfl (lv_at hl 0 rfl) ?_
  refine va_get (D := D) (ci := 3) (v := .ref r1) (C := RX3) (T := TX3) (N := 2) hx hb hts iX3 hown hK hP 0 rfl rfl 0 (by decide) f_18 (fun _ h9 => h9) rfl dX3_at_1 ?_
  refine lv_iload_n hx hb dX3_at_4 rfl (lv_at hl 1 rfl) ?_
  refine q_iald hx hb hK hP 1 0 rfl rfl (k := k) (by omega) (by omega) dX3_at_5 ?_
  refine lv_sipush (v := nI 255) hx hb dX3_at_6 (by decide) ?_
  refine lv_imul hx hb dX3_at_9 ?_
  refine lv_sipush (v := nI 2048) hx hb dX3_at_10 (by decide) ?_
  refine lv_iadd hx hb dX3_at_13 ?_
  refine lv_sipush (v := nI 4096) hx hb dX3_at_14 (by decide) ?_
  refine lv_idiv hx hb dX3_at_17 (by decide) ?_
  refine q_eqi (y := cvv (un k)) rfl ?_
  have hr9 : (cvv (un k)) = cvv (un k) := rfl
  exact hQ _ _ _ _ (cvv (un k)) () _ _ dX3_at_18 (Nat.le_refl _) (Nat.le_refl _) hr9 (hP.sub [0, 1] rfl) hK (hD.sub [0, 1] (by decide) rfl) hS

abbrev rm_X3_measure : Room := { frames := 3, cells := 0, slots := 0, locals := 80 }
set_option maxHeartbeats 4000000 in
set_option maxRecDepth 100000 in
/-- RowCover.measure -/
theorem c_X3_measure (l : Launch) (D : va_G) (cI cZ cB cJ : ClassId) (sz : Nat) (r0 : Nat) (r1 : Nat) (z0 : Nat) (wd : Nat) (un : Nat → Int32) (z1 : Nat) (z2 : Nat) (n : Nat) (zx : Nat → Int32) (zt : Nat → Int32) (h0 : Nat) (h1 : Nat) (h2 : Nat) (h3 : Nat) (cn : Nat) (fx : Nat → Int32) (fy : Nat → Int32) (fb : Nat → Int32) (X : Nat → Int) (Y : Nat → Int) (bg : Nat → Int32) (row : Nat) (rl : Int32) (hw : wd ≤ 48) (hrow : row < 48) (hR : PathR fx fy fb X Y bg cn) : Met l yX3_measure wsX3_measure rm_X3_measure (va_Pc [.ref r0, .ref h0, .int (nI row), .int rl] (PC D (qT cI cZ cB cJ) [(r0, .inr (3, [.ref r1, .ref z0])), (r1, .inl (cI, wd, .inl un)), (z0, .inr (0, [.ref z1, .ref z2, .int (nI n)])), (z1, .inl (cI, 100, .inl zx)), (z2, .inl (cI, 100, .inl zt)), (h0, .inr (2, [.ref h1, .ref h2, .ref h3, .int (nI cn)])), (h1, .inl (cI, 100, .inl fx)), (h2, .inl (cI, 100, .inl fy)), (h3, .inl (cZ, 100, .inl fb))] sz)) (va_Qv (fun (u : (Nat → Int32) × (Nat → Int32) × (Nat → Int32) × Nat) => ∀ x, x < wd → u.1 x = Int32.ofInt (cov rl X Y bg cn row 16 x)) (fun (u : (Nat → Int32) × (Nat → Int32) × (Nat → Int32) × Nat) => PO D (qT cI cZ cB cJ) (va_A [(r0, .inr (3, [.ref r1, .ref z0])), (r1, .inl (cI, wd, .inl un)), (z0, .inr (0, [.ref z1, .ref z2, .int (nI n)])), (z1, .inl (cI, 100, .inl zx)), (z2, .inl (cI, 100, .inl zt)), (h0, .inr (2, [.ref h1, .ref h2, .ref h3, .int (nI cn)])), (h1, .inl (cI, 100, .inl fx)), (h2, .inl (cI, 100, .inl fy)), (h3, .inl (cZ, 100, .inl fb))] sz) [(r0, .inr (3, [.ref r1, .ref z0])), (r1, .inl (cI, wd, .inl u.1)), (z0, .inr (0, [.ref z1, .ref z2, .int (nI u.2.2.2)])), (z1, .inl (cI, 100, .inl u.2.1)), (z2, .inl (cI, 100, .inl u.2.2.1)), (h0, .inr (2, [.ref h1, .ref h2, .ref h3, .int (nI cn)])), (h1, .inl (cI, 100, .inl fx)), (h2, .inl (cI, 100, .inl fy)), (h3, .inl (cZ, 100, .inl fb))]) (va_A [(r0, .inr (3, [.ref r1, .ref z0])), (r1, .inl (cI, wd, .inl un)), (z0, .inr (0, [.ref z1, .ref z2, .int (nI n)])), (z1, .inl (cI, 100, .inl zx)), (z2, .inl (cI, 100, .inl zt)), (h0, .inr (2, [.ref h1, .ref h2, .ref h3, .int (nI cn)])), (h1, .inl (cI, 100, .inl fx)), (h2, .inl (cI, 100, .inl fy)), (h3, .inl (cZ, 100, .inl fb))] sz)) 0 0 (va_A [(r0, .inr (3, [.ref r1, .ref z0])), (r1, .inl (cI, wd, .inl un)), (z0, .inr (0, [.ref z1, .ref z2, .int (nI n)])), (z1, .inl (cI, 100, .inl zx)), (z2, .inl (cI, 100, .inl zt)), (h0, .inr (2, [.ref h1, .ref h2, .ref h3, .int (nI cn)])), (h1, .inl (cI, 100, .inl fx)), (h2, .inl (cI, 100, .inl fy)), (h3, .inl (cZ, 100, .inl fb))] sz) := by
  refine q_entV (cc := cX3_measure) (maxL := 5) (by decide +kernel) rfl (Nat.le_of_ble_eq_true rfl) ?_
  intro p e s m below meth c A Q ls hq hl hQ
  obtain ⟨hx, hb, hml, hts, hown, hin, hN, hK, hsz, hA, hP, hD, hS⟩ := hq
  have hown : s.vm.findClass RX3 = some m.cls := hown
  obtain ⟨H, hH⟩ : ∃ H, H = s.heap := ⟨_, rfl⟩
  rw [← hH] at hP ⊢
  have hS : va_S A s.heap H [] := by rw [hH]; exact va_S.rf
  clear hH
  have hl : lv_has ls 5 [(0, .ref r0), (1, .ref h0), (2, .int (nI row)), (3, .int rl)] := hl
  have iX3 : ∀ w ∈ wsX30, w ∈ wsX3_measure := by decide +kernel
  have f_18 := hts (.fieldLink RX3 18 "RasterCover$RowCover" "units" "[I") (by decide +kernel)
  have f_12 := hts (.fieldLink RX3 12 "RasterCover$RowCover" "crossings" "LRasterCover$Crossings;") (by decide +kernel)
  have in_X0 := hts (.initialized RX0) (by decide +kernel)
  have im_28 := hts (.instanceMethod yX0_collect) (by decide +kernel)
  have se_28 := hts (.selects RX0 yX0_collect yX0_collect) (by decide +kernel)
  refine lv_aload_n hx hb dX3_measure_0 rfl (lv_at hl 0 rfl) ?_
  refine va_get (D := D) (ci := 3) (v := .ref r1) (C := RX3) (T := TX3) (N := 2) hx hb hts iX3 hown hK hP 0 rfl rfl 0 (by decide) f_18 (fun _ h9 => h9) rfl dX3_measure_1 ?_
  refine lv_iconst (v := nI 0) hx hb dX3_measure_4 (by decide) ?_
  refine q_eqi (y := Int32.ofInt 0) (by decide) ?_
  refine q_v0 (wr := [(r0, .inr (3, [.ref r1, .ref z0])), (z0, .inr (0, [.ref z1, .ref z2, .int (nI n)])), (z1, .inl (cI, 100, .inl zx)), (z2, .inl (cI, 100, .inl zt)), (h0, .inr (2, [.ref h1, .ref h2, .ref h3, .int (nI cn)])), (h1, .inl (cI, 100, .inl fx)), (h2, .inl (cI, 100, .inl fy)), (h3, .inl (cZ, 100, .inl fb))]) (va_runS (As := [.ref r1, .int (Int32.ofInt 0)]) (rest := []) ⟨hx, hb, hml, hown, hts⟩ (c_J7_fill l D cI cZ cB cJ H.size r1 wd un (Int32.ofInt 0) (by omega)) (va_cwS 2 hts gX3_measure_J7_fill_53178 rfl rfl rfl (by decide +kernel) ⟨Nat.le_of_ble_eq_true rfl, Nat.le_of_ble_eq_true rfl⟩) (q_pre (wc := [(r1, .inl (cI, wd, .inl un))]) hP hD hK hN [1] (by decide) rfl) rfl rfl hl.1 rfl (lv_room (Nat.le_of_ble_eq_true rfl)) dX3_measure_5 ⟨Nat.zero_le _, Nat.zero_le _⟩) hS hA hP hD [1] [0, 2, 3, 4, 5, 6, 7, 8] rfl rfl (by decide) (by decide) (fun g_5 H locs hp_5 hP hD hS => ?_)
  have hP : va_P D qCl [(r0, .inr (3, [.ref r1, .ref z0])), (z0, .inr (0, [.ref z1, .ref z2, .int (nI n)])), (z1, .inl (cI, 100, .inl zx)), (z2, .inl (cI, 100, .inl zt)), (h0, .inr (2, [.ref h1, .ref h2, .ref h3, .int (nI cn)])), (h1, .inl (cI, 100, .inl fx)), (h2, .inl (cI, 100, .inl fy)), (h3, .inl (cZ, 100, .inl fb)), (r1, .inl (cI, wd, .inl g_5))] H := hP
  have hD : va_D A [(r0, .inr (3, [.ref r1, .ref z0])), (z0, .inr (0, [.ref z1, .ref z2, .int (nI n)])), (z1, .inl (cI, 100, .inl zx)), (z2, .inl (cI, 100, .inl zt)), (h0, .inr (2, [.ref h1, .ref h2, .ref h3, .int (nI cn)])), (h1, .inl (cI, 100, .inl fx)), (h2, .inl (cI, 100, .inl fy)), (h3, .inl (cZ, 100, .inl fb)), (r1, .inl (cI, wd, .inl g_5))] := hD
  have hp_5 : ∀ j, j < wd → g_5 j = (Int32.ofInt 0) := hp_5
  refine lv_iconst (v := nI 0) hx hb dX3_measure_8 (by decide) ?_
  refine lv_istore (lv' := [(4, .int (nI 0)), (0, .ref r0), (1, .ref h0), (2, .int (nI row)), (3, .int rl)]) hx hb dX3_measure_9 hl (by decide) rfl (fun ls hl => ?_)
  have L_11 : ∀ (fuel : Nat) (j : Nat) (nn : Nat) (zx3 : Nat → Int32) (zt3 : Nat → Int32) (g : Nat → Int32), 16 - j < fuel → (j ≤ 16) → (∀ x, x < wd → g x = Int32.ofInt (cov rl X Y bg cn row j x)) → ∀ (H : Heap) (locs : List Loc) (ls : Array Slot), va_P D qCl [(r0, .inr (3, [.ref r1, .ref z0])), (z0, .inr (0, [.ref z1, .ref z2, .int (nI nn)])), (z1, .inl (cI, 100, .inl zx3)), (z2, .inl (cI, 100, .inl zt3)), (h0, .inr (2, [.ref h1, .ref h2, .ref h3, .int (nI cn)])), (h1, .inl (cI, 100, .inl fx)), (h2, .inl (cI, 100, .inl fy)), (h3, .inl (cZ, 100, .inl fb)), (r1, .inl (cI, wd, .inl g))] H → va_D A [(r0, .inr (3, [.ref r1, .ref z0])), (z0, .inr (0, [.ref z1, .ref z2, .int (nI nn)])), (z1, .inl (cI, 100, .inl zx3)), (z2, .inl (cI, 100, .inl zt3)), (h0, .inr (2, [.ref h1, .ref h2, .ref h3, .int (nI cn)])), (h1, .inl (cI, 100, .inl fx)), (h2, .inl (cI, 100, .inl fy)), (h3, .inl (cZ, 100, .inl fb)), (r1, .inl (cI, wd, .inl g))] → va_S A s.heap H locs → lv_has ls 5 [(4, .int (nI j)), (0, .ref r0), (1, .ref h0), (2, .int (nI row)), (3, .int rl)] → W p l e rm_X3_measure s m ([.ref r0, .ref h0, .int (nI row), .int rl] : List Value).toArray below meth c H locs 0 0 Q (F0 m 11 ls []) := by
    intro fuel
    induction fuel with
    | zero =>
      intro j nn zx3 zt3 g hm
      exact absurd hm (Nat.not_lt_zero _)
    | succ fuel ih_11 =>
      intro j nn zx3 zt3 g hm_11 hj hg H locs ls hP hD hS hl
      refine lv_iload hx hb dX3_measure_11 (lv_at hl 0 rfl) ?_
      refine lv_bipush (v := nI 16) hx hb dX3_measure_13 (by decide) ?_
      refine q_ge (tgt := 50) hx hb (by omega) (by omega) dX3_measure_15 (by decide) (fun h_15 => ?_) (fun h_15 => ?_)
      · have hr9 : ∀ x, x < wd → g x = Int32.ofInt (cov rl X Y bg cn row 16 x) := (fun x hx => by rw [hg x hx, show j = 16 by omega])
        exact hQ _ _ _ _ (g, zx3, zt3, nn) _ _ dX3_measure_50 (Nat.le_refl _) (Nat.le_refl _) hr9 (hP.sub [0, 8, 1, 2, 3, 4, 5, 6, 7] rfl) hK (hD.sub [0, 8, 1, 2, 3, 4, 5, 6, 7] (by decide) rfl) hS
      refine lv_aload_n hx hb dX3_measure_18 rfl (lv_at hl 1 rfl) ?_
      refine va_get (D := D) (ci := 3) (v := .ref z0) (C := RX3) (T := TX3) (N := 2) hx hb hts iX3 hown hK hP 0 rfl rfl 1 (by decide) f_12 (fun _ h9 => h9) rfl dX3_measure_19 ?_
      refine lv_aload_n hx hb dX3_measure_22 rfl (lv_at hl 2 rfl) ?_
      refine lv_iload_n hx hb dX3_measure_23 rfl (lv_at hl 3 rfl) ?_
      refine lv_bipush (v := nI 16) hx hb dX3_measure_24 (by decide) ?_
      refine lv_imul hx hb dX3_measure_26 ?_
      refine q_eqi (pk_mul _ _) ?_
      refine lv_iload hx hb dX3_measure_27 (lv_at hl 0 rfl) ?_
      refine lv_iadd hx hb dX3_measure_29 ?_
      refine q_eqi (nI_add _ _) ?_
      refine lv_bipush (v := nI 16) hx hb dX3_measure_30 (by decide) ?_
      refine lv_imul hx hb dX3_measure_32 ?_
      refine q_eqi (pk_mul _ _) ?_
      refine lv_bipush (v := nI 8) hx hb dX3_measure_33 (by decide) ?_
      refine lv_iadd hx hb dX3_measure_35 ?_
      refine q_eqi (nI_add _ _) ?_
      refine q_eqi (y := Int32.ofInt (16 * (16 * (row : Int) + (j : Int)) + 8)) (by rw [nI_z]; exact congrArg Int32.ofInt (by omega)) ?_
      refine q_v0 (wr := [(r0, .inr (3, [.ref r1, .ref z0])), (r1, .inl (cI, wd, .inl g))]) (va_runVN (As := [.ref h0, .int (Int32.ofInt (16 * (16 * (row : Int) + (j : Int)) + 8))]) (rest := []) ⟨hx, hb, hml, hown, hts⟩ (c_X0_collect l D cI cZ cB cJ H.size z0 z1 z2 nn zx3 zt3 h0 h1 h2 h3 cn fx fy fb X Y bg (16 * (16 * (row : Int) + (j : Int)) + 8) hR (by omega)) ⟨va_cnB 2 hts gX3_measure_X0_collect_n28 rfl rfl rfl (NW.w hN 18 rfl) in_X0 (by decide +kernel) ⟨Nat.le_of_ble_eq_true rfl, Nat.le_of_ble_eq_true rfl⟩, im_28, se_28⟩ (q_preV (q_pre (wc := [(z0, .inr (0, [.ref z1, .ref z2, .int (nI nn)])), (z1, .inl (cI, 100, .inl zx3)), (z2, .inl (cI, 100, .inl zt3)), (h0, .inr (2, [.ref h1, .ref h2, .ref h3, .int (nI cn)])), (h1, .inl (cI, 100, .inl fx)), (h2, .inl (cI, 100, .inl fy)), (h3, .inl (cZ, 100, .inl fb))]) hP hD hK hN [1, 2, 3, 4, 5, 6, 7] (by decide) rfl) (va_recv hK hP (ci := 0) (q0 := 1) rfl rfl)) rfl rfl hl.1 rfl (lv_room (Nat.le_of_ble_eq_true rfl)) dX3_measure_36 ⟨Nat.zero_le _, Nat.zero_le _⟩) hS hA hP hD [1, 2, 3, 4, 5, 6, 7] [0, 8] rfl rfl (by decide) (by decide) (fun u H locs hp_36 hP hD hS => ?_)
      obtain ⟨zx4, zt4, n4⟩ := u
      have hP : va_P D qCl [(r0, .inr (3, [.ref r1, .ref z0])), (r1, .inl (cI, wd, .inl g)), (z0, .inr (0, [.ref z1, .ref z2, .int (nI n4)])), (z1, .inl (cI, 100, .inl zx4)), (z2, .inl (cI, 100, .inl zt4)), (h0, .inr (2, [.ref h1, .ref h2, .ref h3, .int (nI cn)])), (h1, .inl (cI, 100, .inl fx)), (h2, .inl (cI, 100, .inl fy)), (h3, .inl (cZ, 100, .inl fb))] H := hP
      have hD : va_D A [(r0, .inr (3, [.ref r1, .ref z0])), (r1, .inl (cI, wd, .inl g)), (z0, .inr (0, [.ref z1, .ref z2, .int (nI n4)])), (z1, .inl (cI, 100, .inl zx4)), (z2, .inl (cI, 100, .inl zt4)), (h0, .inr (2, [.ref h1, .ref h2, .ref h3, .int (nI cn)])), (h1, .inl (cI, 100, .inl fx)), (h2, .inl (cI, 100, .inl fy)), (h3, .inl (cZ, 100, .inl fb))] := hD
      have hp_36 : CR zx4 zt4 n4 (fun f => muL X Y bg cn (16 * (16 * (row : Int) + (j : Int)) + 8) cn f) ∧ n4 ≤ cn := hp_36
      refine lv_aload_n hx hb dX3_measure_39 rfl (lv_at hl 1 rfl) ?_
      refine lv_iload_n hx hb dX3_measure_40 rfl (lv_at hl 4 rfl) ?_
      refine q_v0 (wr := [(h0, .inr (2, [.ref h1, .ref h2, .ref h3, .int (nI cn)])), (h1, .inl (cI, 100, .inl fx)), (h2, .inl (cI, 100, .inl fy)), (h3, .inl (cZ, 100, .inl fb))]) (va_runV (As := [.int rl]) (rest := []) ⟨hx, hb, hml, hown, hts⟩ (c_X3_addSubRow l D cI cZ cB cJ H.size r0 r1 z0 wd g (fun x => cov rl X Y bg cn row j x) z1 z2 n4 zx4 zt4 rl (fun f => muL X Y bg cn (16 * (16 * (row : Int) + (j : Int)) + 8) cn f) hw hg hp_36.1 (Nat.le_trans hp_36.2 hR.1)) (cwV 1 hts gX3_measure_X3_addSubRow rfl rfl rfl (by decide +kernel) ⟨Nat.le_of_ble_eq_true rfl, Nat.le_of_ble_eq_true rfl⟩) (q_preV (q_pre (wc := [(r0, .inr (3, [.ref r1, .ref z0])), (r1, .inl (cI, wd, .inl g)), (z0, .inr (0, [.ref z1, .ref z2, .int (nI n4)])), (z1, .inl (cI, 100, .inl zx4)), (z2, .inl (cI, 100, .inl zt4))]) hP hD hK hN [0, 1, 2, 3, 4] (by decide) rfl) (va_recv hK hP (ci := 3) (q0 := 0) rfl rfl)) rfl rfl hl.1 rfl (lv_room (Nat.le_of_ble_eq_true rfl)) dX3_measure_41 ⟨Nat.zero_le _, Nat.zero_le _⟩) hS hA hP hD [0, 1, 2, 3, 4] [5, 6, 7, 8] rfl rfl (by decide) (by decide) (fun un5 H locs hp_41 hP hD hS => ?_)
      have hP : va_P D qCl [(h0, .inr (2, [.ref h1, .ref h2, .ref h3, .int (nI cn)])), (h1, .inl (cI, 100, .inl fx)), (h2, .inl (cI, 100, .inl fy)), (h3, .inl (cZ, 100, .inl fb)), (r0, .inr (3, [.ref r1, .ref z0])), (r1, .inl (cI, wd, .inl un5)), (z0, .inr (0, [.ref z1, .ref z2, .int (nI n4)])), (z1, .inl (cI, 100, .inl zx4)), (z2, .inl (cI, 100, .inl zt4))] H := hP
      have hD : va_D A [(h0, .inr (2, [.ref h1, .ref h2, .ref h3, .int (nI cn)])), (h1, .inl (cI, 100, .inl fx)), (h2, .inl (cI, 100, .inl fy)), (h3, .inl (cZ, 100, .inl fb)), (r0, .inr (3, [.ref r1, .ref z0])), (r1, .inl (cI, wd, .inl un5)), (z0, .inr (0, [.ref z1, .ref z2, .int (nI n4)])), (z1, .inl (cI, 100, .inl zx4)), (z2, .inl (cI, 100, .inl zt4))] := hD
      have hp_41 : ∀ x, x < wd → un5 x = Int32.ofInt ((fun x => cov rl X Y bg cn row j x) x + cu rl (fun f => muL X Y bg cn (16 * (16 * (row : Int) + (j : Int)) + 8) cn f) x) := hp_41
      have hp_41 : ∀ x, x < wd → un5 x = Int32.ofInt (cov rl X Y bg cn row (j + 1) x) := hp_41
      refine lv_iinc (v := nI (j + 1)) (lv' := [(4, .int (nI (j + 1))), (0, .ref r0), (1, .ref h0), (2, .int (nI row)), (3, .int rl)]) hx hb dX3_measure_44 hl (k := 0) rfl (q_inc _) (by decide) rfl (fun ls hl => ?_)
      refine lv_goto (tgt := 11) hx hb dX3_measure_47 (by decide) ?_
      exact ih_11 (j + 1) n4 zx4 zt4 un5 (by omega) (by omega) hp_41 _ _ _ (hP.sub [4, 6, 7, 8, 0, 1, 2, 3, 5] rfl) (hD.sub [4, 6, 7, 8, 0, 1, 2, 3, 5] (by decide) rfl) hS (lv_sub hl [0, 1, 2, 3, 4] rfl)
  exact L_11 _ 0 n zx zt g_5 (Nat.lt_succ_self _) (by omega) (fun x hx => hp_5 x hx) _ _ _ (hP.sub [0, 1, 2, 3, 4, 5, 6, 7, 8] rfl) (hD.sub [0, 1, 2, 3, 4, 5, 6, 7, 8] (by decide) rfl) hS (lv_sub hl [0, 1, 2, 3, 4] rfl)
end
section
/-! places cut, hairs, what a fill and a clip make of a plane's bytes -/
def cutN (v : Int32) (k : Nat) : Nat := if v.toInt < 0 then 0 else if v.toInt < (k : Int) then v.toInt.toNat else k
theorem cutN_le (v : Int32) (k : Nat) : cutN v k ≤ k := by
  unfold cutN
  split
  · omega
  · split <;> omega
theorem cut_eq {v : Int32} {k : Nat} (hk : k < 2147483648) : (if nI 0 < (if v < nI k then v else nI k) then (if v < nI k then v else nI k) else nI 0) = nI (cutN v k) := by
  have e1 : v < nI k ↔ v.toInt < (k : Int) := by rw [i_lt, nI_toInt (by omega)]
  have e2 : nI 0 < v ↔ 0 < v.toInt := by rw [i_lt, nI_toInt (by omega)]; rfl
  have e3 : nI 0 < nI k ↔ 0 < k := nI_ltI (by omega) (by omega)
  unfold cutN
  by_cases c : v.toInt < (k : Int)
  · rw [if_pos (e1.mpr c)]
    by_cases c2 : 0 < v.toInt
    · rw [if_pos (e2.mpr c2), if_neg (by omega), if_pos c, i_eq, nI_toInt (by omega)]
      omega
    · rw [if_neg (fun q => c2 (e2.mp q))]
      by_cases c3 : v.toInt < 0
      · rw [if_pos c3]
      · rw [if_neg c3, if_pos c, show v.toInt.toNat = 0 by omega]
  · rw [if_neg (fun q => c (e1.mp q)), if_neg (show ¬ v.toInt < 0 by omega), if_neg c]
    by_cases c2 : 0 < k
    · rw [if_pos (e3.mpr c2)]
    · rw [if_neg (fun q => c2 (e3.mp q)), show k = 0 by omega]
def ctP (v : Int64) : Int := if v.toInt < -1048576 then -1048576 else if 1048576 < v.toInt then 1048576 else v.toInt
theorem ctP_bd (v : Int64) : -1048576 ≤ ctP v ∧ ctP v ≤ 1048576 := by
  unfold ctP
  split
  · omega
  · split <;> omega
theorem ctP_lo {v : Int64} (h : v < (-1048576)) : (-1048576 : Int64) = Int64.ofInt (ctP v) := by
  rw [j_lt, show (-1048576 : Int64).toInt = -1048576 from by decide] at h
  unfold ctP
  rw [if_pos h]; decide
theorem ctP_hi {v : Int64} (h : ¬ v < (-1048576)) (h2 : 1048576 < v) : (1048576 : Int64) = Int64.ofInt (ctP v) := by
  rw [j_lt, show (-1048576 : Int64).toInt = -1048576 from by decide] at h
  rw [j_lt, show (1048576 : Int64).toInt = 1048576 from by decide] at h2
  unfold ctP
  rw [if_neg h, if_pos h2]; decide
theorem ctP_mid {v : Int64} (h : ¬ v < (-1048576)) (h2 : ¬ 1048576 < v) : v = Int64.ofInt (ctP v) := by
  rw [j_lt, show (-1048576 : Int64).toInt = -1048576 from by decide] at h
  rw [j_lt, show (1048576 : Int64).toInt = 1048576 from by decide] at h2
  unfold ctP
  rw [if_neg h, if_neg h2, Int64.ofInt_toInt]
theorem ctP_eq (v : Int64) : (if (if v < 1048576 then v else 1048576) < (-1048576) then (-1048576) else (if v < 1048576 then v else 1048576)).toInt32 = Int32.ofInt (ctP v) := by
  have e : (if (if v < 1048576 then v else 1048576) < (-1048576) then (-1048576) else (if v < 1048576 then v else 1048576)) = Int64.ofInt (ctP v) := by
    by_cases c : v < 1048576
    · rw [if_pos c]
      by_cases c2 : v < (-1048576)
      · rw [if_pos c2]; exact ctP_lo c2
      · rw [if_neg c2]; exact ctP_mid c2 (by rw [j_lt] at c ⊢; omega)
    · rw [if_neg c, if_neg (by decide)]
      by_cases c3 : (1048576 : Int64) < v
      · exact ctP_hi (by rw [j_lt, show (-1048576 : Int64).toInt = -1048576 from by decide]; rw [j_lt, show (1048576 : Int64).toInt = 1048576 from by decide] at c3; omega) c3
      · have hv : v = 1048576 := by rw [j_eq]; rw [j_lt] at c c3; omega
        rw [hv]; decide
  rw [e, Int64.toInt32_ofInt]
theorem abs_n {z : Int} (h1 : -2147483648 < z) (h2 : z < 2147483648) : (if 0 ≤ Int32.ofInt z then Int32.ofInt z else 0 - Int32.ofInt z) = nI z.natAbs := by
  have e : 0 ≤ Int32.ofInt z ↔ 0 ≤ z := by rw [i_le, z_t (by omega) h2]; exact Iff.rfl
  rw [nI_z]
  by_cases c : 0 ≤ z
  · rw [if_pos (e.mpr c)]; exact congrArg _ (by omega)
  · rw [if_neg (fun q => c (e.mp q))]
    exact (z_sub 0 z).trans (congrArg _ (by omega))
/-! a path grows -/
def add1 (Z : Nat → Int) (k : Nat) (v : Int) : Nat → Int := fun j => if j = k then v else Z j
theorem PathR_add {fx fy fb : Nat → Int32} {X Y : Nat → Int} {bg : Nat → Int32} {n : Nat} (h : PathR fx fy fb X Y bg n) (hn : n < 100) {vx vy : Int} (b : Int32) (h1 : bd vx) (h2 : bd vy) : PathR (upd fx n (Int32.ofInt vx)) (upd fy n (Int32.ofInt vy)) (upd fb n b) (add1 X n vx) (add1 Y n vy) (upd bg n b) (n + 1) := by
  refine ⟨by omega, fun k hk => ?_⟩
  unfold upd add1
  by_cases c : k = n
  · rw [if_pos c, if_pos c, if_pos c, if_pos c, if_pos c, if_pos c]
    exact ⟨rfl, rfl, rfl, h1, h2⟩
  · rw [if_neg c, if_neg c, if_neg c, if_neg c, if_neg c, if_neg c]
    exact h.2 k (by omega)
theorem PathR_0 {fx fy fb : Nat → Int32} {X Y : Nat → Int} {bg : Nat → Int32} : PathR fx fy fb X Y bg 0 := ⟨Nat.zero_le _, fun k h => absurd h (Nat.not_lt_zero k)⟩
def hOne (ax ay bx bY : Int) : Bool := decide (ax = bx ∧ ay = bY)
def hFlat (ax ay bx bY : Int) : Bool := decide ((bY - ay).natAbs ≤ (bx - ax).natAbs)
def hsx (one flat : Bool) : Int := if one = true then 128 else if flat = true then 0 else 128
def hsy (one flat : Bool) : Int := if one = true then 128 else if flat = true then 128 else 0
def hrP (Z : Nat → Int) (n : Nat) (p0 p1 p2 p3 : Int) : Nat → Int := add1 (add1 (add1 (add1 Z n p0) (n + 1) p1) (n + 1 + 1) p2) (n + 1 + 1 + 1) p3
def hrB (bg : Nat → Int32) (n : Nat) : Nat → Int32 := upd (upd (upd (upd bg n 1) (n + 1) 0) (n + 1 + 1) 0) (n + 1 + 1 + 1) 0
def hairX (X : Nat → Int) (n : Nat) (ax ay bx bY : Int) : Nat → Int := hrP X n (ax - hsx (hOne ax ay bx bY) (hFlat ax ay bx bY)) (if hOne ax ay bx bY = true then ax + 128 else bx - hsx (hOne ax ay bx bY) (hFlat ax ay bx bY)) (bx + hsx (hOne ax ay bx bY) (hFlat ax ay bx bY)) (if hOne ax ay bx bY = true then ax - 128 else ax + hsx (hOne ax ay bx bY) (hFlat ax ay bx bY))
def hairY (Y : Nat → Int) (n : Nat) (ax ay bx bY : Int) : Nat → Int := hrP Y n (ay - hsy (hOne ax ay bx bY) (hFlat ax ay bx bY)) (if hOne ax ay bx bY = true then ay - 128 else bY - hsy (hOne ax ay bx bY) (hFlat ax ay bx bY)) (bY + hsy (hOne ax ay bx bY) (hFlat ax ay bx bY)) (ay + hsy (hOne ax ay bx bY) (hFlat ax ay bx bY))
theorem hair_one {ax ay bx bY : Int} (h : ax = bx ∧ ay = bY) (X Y : Nat → Int) (n : Nat) : hairX X n ax ay bx bY = hrP X n (ax - 128) (ax + 128) (ax + 128) (ax - 128) ∧ hairY Y n ax ay bx bY = hrP Y n (ay - 128) (ay - 128) (ay + 128) (ay + 128) := by
  have e : hOne ax ay bx bY = true := decide_eq_true h
  unfold hairX hairY hsx hsy
  rw [e]
  obtain ⟨rfl, rfl⟩ := h
  exact ⟨rfl, rfl⟩
theorem hair_flat {ax ay bx bY : Int} (h : ¬ (ax = bx ∧ ay = bY)) (h2 : (bY - ay).natAbs ≤ (bx - ax).natAbs) (X Y : Nat → Int) (n : Nat) : hairX X n ax ay bx bY = hrP X n (ax - 0) (bx - 0) (bx + 0) (ax + 0) ∧ hairY Y n ax ay bx bY = hrP Y n (ay - 128) (bY - 128) (bY + 128) (ay + 128) := by
  have e : hOne ax ay bx bY = false := decide_eq_false h
  have e2 : hFlat ax ay bx bY = true := decide_eq_true h2
  unfold hairX hairY hsx hsy
  rw [e, e2]
  exact ⟨rfl, rfl⟩
theorem hair_steep {ax ay bx bY : Int} (h : ¬ (ax = bx ∧ ay = bY)) (h2 : ¬ (bY - ay).natAbs ≤ (bx - ax).natAbs) (X Y : Nat → Int) (n : Nat) : hairX X n ax ay bx bY = hrP X n (ax - 128) (bx - 128) (bx + 128) (ax + 128) ∧ hairY Y n ax ay bx bY = hrP Y n (ay - 0) (bY - 0) (bY + 0) (ay + 0) := by
  have e : hOne ax ay bx bY = false := decide_eq_false h
  have e2 : hFlat ax ay bx bY = false := decide_eq_false h2
  unfold hairX hairY hsx hsy
  rw [e, e2]
  exact ⟨rfl, rfl⟩
theorem PathR_add4 {fx fy fb : Nat → Int32} {X Y : Nat → Int} {bg : Nat → Int32} {n : Nat} (h : PathR fx fy fb X Y bg n) (hn : n + 4 ≤ 100) {p0 p1 p2 p3 q0 q1 q2 q3 : Int} (a0 : bd p0) (a1 : bd p1) (a2 : bd p2) (a3 : bd p3) (c0 : bd q0) (c1 : bd q1) (c2 : bd q2) (c3 : bd q3) :
    PathR (upd (upd (upd (upd fx n (Int32.ofInt p0)) (n + 1) (Int32.ofInt p1)) (n + 1 + 1) (Int32.ofInt p2)) (n + 1 + 1 + 1) (Int32.ofInt p3)) (upd (upd (upd (upd fy n (Int32.ofInt q0)) (n + 1) (Int32.ofInt q1)) (n + 1 + 1) (Int32.ofInt q2)) (n + 1 + 1 + 1) (Int32.ofInt q3)) (upd (upd (upd (upd fb n 1) (n + 1) 0) (n + 1 + 1) 0) (n + 1 + 1 + 1) 0) (hrP X n p0 p1 p2 p3) (hrP Y n q0 q1 q2 q3) (hrB bg n) (n + 1 + 1 + 1 + 1) :=
  PathR_add (PathR_add (PathR_add (PathR_add h (by omega) 1 a0 c0) (by omega) 0 a1 c1) (by omega) 0 a2 c2) (by omega) 0 a3 c3
/-! painting: the same steps on both sides, at other places of the rows -/
def ppt (ix : Nat → Nat) (ov : Nat → Int32) (pl : Nat) (v c : Int32) (f : Nat → Int32) : Nat → (Nat → Int32)
  | 0 => f
  | k + 1 => if k = pl then upd (ppt ix ov pl v c f k) (ix k) (bldv (ppt ix ov pl v c f k (ix k)) v c) else if ov k = 0 then upd (ppt ix ov pl v c f k) (ix k) (bldv (ppt ix ov pl v c f k (ix k)) (nI 0) c) else ppt ix ov pl v c f k
def prow (cv : Nat → Int32) (ix : Nat → Nat → Nat) (ov : Nat → Int32) (pl pn : Nat) (v : Int32) (f : Nat → Int32) : Nat → (Nat → Int32) × Nat
  | 0 => (f, 0)
  | x + 1 => if 0 < cv x then (ppt (ix x) ov pl v (cv x) (prow cv ix ov pl pn v f x).1 pn, (prow cv ix ov pl pn v f x).2 + 1) else prow cv ix ov pl pn v f x
def pfil (cv : Nat → Nat → Int32) (ix : Nat → Nat → Nat → Nat) (ov : Nat → Int32) (pl pn wd : Nat) (v : Int32) (f : Nat → Int32) (bf : Nat) : Nat → (Nat → Int32) × Nat
  | 0 => (f, 0)
  | i + 1 => ((prow (cv (bf + i)) (ix (bf + i)) ov pl pn v (pfil cv ix ov pl pn wd v f bf i).1 wd).1, (pfil cv ix ov pl pn wd v f bf i).2 + (prow (cv (bf + i)) (ix (bf + i)) ov pl pn v (pfil cv ix ov pl pn wd v f bf i).1 wd).2)
theorem prow_congr {cv cv' : Nat → Int32} {ix : Nat → Nat → Nat} {ov : Nat → Int32} {pl pn : Nat} {v : Int32} {f : Nat → Int32} : ∀ {m : Nat}, (∀ x, x < m → cv x = cv' x) → prow cv ix ov pl pn v f m = prow cv' ix ov pl pn v f m
  | 0, _ => rfl
  | m + 1, h => by
    have e := prow_congr (ix := ix) (ov := ov) (pl := pl) (pn := pn) (v := v) (f := f) (m := m) (fun x hx => h x (by omega))
    show (if 0 < cv m then _ else _) = (if 0 < cv' m then _ else _)
    rw [h m (by omega), e]
theorem prow_le (cv : Nat → Int32) (ix : Nat → Nat → Nat) (ov : Nat → Int32) (pl pn : Nat) (v : Int32) (f : Nat → Int32) : ∀ m : Nat, (prow cv ix ov pl pn v f m).2 ≤ m
  | 0 => Nat.le_refl 0
  | m + 1 => by
    have e := prow_le cv ix ov pl pn v f m
    show (if 0 < cv m then _ else _ : (Nat → Int32) × Nat).2 ≤ m + 1
    by_cases c : 0 < cv m
    · rw [if_pos c]; show (prow cv ix ov pl pn v f m).2 + 1 ≤ m + 1; omega
    · rw [if_neg c]; omega
def crow (cv : Nat → Int32) (ix : Nat → Nat) (f : Nat → Int32) : Nat → (Nat → Int32) × Nat
  | 0 => (f, 0)
  | x + 1 => (upd (crow cv ix f x).1 (ix x) (mulv ((crow cv ix f x).1 (ix x)) (cv x)), if 0 < mulv ((crow cv ix f x).1 (ix x)) (cv x) then (crow cv ix f x).2 + 1 else (crow cv ix f x).2)
theorem crow_congr {cv cv' : Nat → Int32} {ix : Nat → Nat} {f : Nat → Int32} : ∀ {m : Nat}, (∀ x, x < m → cv x = cv' x) → crow cv ix f m = crow cv' ix f m
  | 0, _ => rfl
  | m + 1, h => by
    have e := crow_congr (ix := ix) (f := f) (m := m) (fun x hx => h x (by omega))
    show (upd (crow cv ix f m).1 (ix m) (mulv ((crow cv ix f m).1 (ix m)) (cv m)), if 0 < mulv ((crow cv ix f m).1 (ix m)) (cv m) then (crow cv ix f m).2 + 1 else (crow cv ix f m).2) = (upd (crow cv' ix f m).1 (ix m) (mulv ((crow cv' ix f m).1 (ix m)) (cv' m)), if 0 < mulv ((crow cv' ix f m).1 (ix m)) (cv' m) then (crow cv' ix f m).2 + 1 else (crow cv' ix f m).2)
    rw [h m (by omega), e]
theorem crow_le (cv : Nat → Int32) (ix : Nat → Nat) (f : Nat → Int32) : ∀ m : Nat, (crow cv ix f m).2 ≤ m
  | 0 => Nat.le_refl 0
  | m + 1 => by
    have e := crow_le cv ix f m
    show (if 0 < mulv ((crow cv ix f m).1 (ix m)) (cv m) then (crow cv ix f m).2 + 1 else (crow cv ix f m).2) ≤ m + 1
    split <;> omega
def cfil (cv : Nat → Nat → Int32) (ix : Nat → Nat → Nat) (wd : Nat) (f : Nat → Int32) : Nat → (Nat → Int32) × Nat
  | 0 => (f, 0)
  | i + 1 => ((crow (cv i) (ix i) (cfil cv ix wd f i).1 wd).1, (cfil cv ix wd f i).2 + (crow (cv i) (ix i) (cfil cv ix wd f i).1 wd).2)
/-! packing: a row's state, as the class goes along it -/
def b8 (q : Int32) : Int32 := q.toInt8.toInt32
theorem b8_b8 (q : Int32) : (b8 q).toInt8.toInt32 = b8 q := by
  have := pk_vb q
  rw [vp_nar_byte] at this
  exact this
abbrev PkT : Type := (Nat → Int32) × Nat × Nat × Nat
def pkSt (f : Nat → Int32) (st en k : Nat) (s : PkT) : PkT :=
  if 0 < k ∧ f (st + k) = f (st + k - 1) then (upd s.1 s.2.2.1 (b8 (s.1 s.2.2.1 - nI 1)), s.2.1, s.2.2.1, s.2.2.2)
  else if st + k + 1 < en ∧ f (st + k) = f (st + k + 1) then (upd (upd s.1 s.2.1 (b8 (nI 127))) (s.2.1 + 1) (b8 (f (st + k))), s.2.1 + 1 + 1, s.2.1, 0)
  else if s.2.2.2 = 0 then (upd (upd (upd s.1 s.2.1 (b8 (nI 0))) s.2.1 (b8 (upd s.1 s.2.1 (b8 (nI 0)) s.2.1 + nI 1))) (s.2.1 + 1) (b8 (f (st + k))), s.2.1 + 1 + 1, s.2.1, 1)
  else (upd (upd s.1 s.2.2.1 (b8 (s.1 s.2.2.1 + nI 1))) s.2.1 (b8 (f (st + k))), s.2.1 + 1, s.2.2.1, 1)
def pkS (f : Nat → Int32) (st en : Nat) (sg : Nat → Int32) : Nat → PkT
  | 0 => (sg, 0, 0, 0)
  | k + 1 => pkSt f st en k (pkS f st en sg k)
section QB
variable {p : Program} {l : Launch} {e : Env} {R : Room} {s : State} {m : MethodId} {args : Array Value} {below : List Frame} {meth : Method} {c : Code} {H : Heap} {locs : List Loc} {cells slots : Nat} {Q : State → Prop}
variable {cc : ByteArray} {pc : Nat} {ls : Array Slot} {rest : List Value} {D : va_G} {A : Nat → Prop} {a : Nat} {tys : List (ClassId × FieldType)} {ws : va_W} {H0 : Heap} {cl : List vw_C}
theorem q_bastv (hexec : p.tables.exec = Jvm.exec) (hb : c.code = cc) (hK : va_K D cl tys s) (hP : va_P D cl ws H) (hD : va_D A ws) (hS : va_S A H0 H locs) (q0 t0 : Nat) {cA : ClassId} {n : Nat} {f : Nat → Int32} (ha : ws[q0]? = some (a, .inl (cA, n, .inl f))) (ht : tys[t0]? = some (cA, .byte)) {k : Nat} {x : Int32} (hx : x.toInt8.toInt32 = x) (hk : k < n) (h31 : n < 2 ^ 31) (hdg : decode cc pc = .ok (.bastore, 1))
    (kk : ∀ (H1 : Heap) (locs1 : List Loc), va_P D cl (ws.set q0 (a, .inl (cA, n, .inl (upd f k x)))) H1 → va_D A (ws.set q0 (a, .inl (cA, n, .inl (upd f k x)))) → va_S A H0 H1 locs1 → W p l e R s m args below meth c H1 locs1 cells slots Q (F0 m (pc + 1) ls rest)) : W p l e R s m args below meth c H locs cells slots Q (F0 m pc ls (.int x :: .int (nI k) :: .ref a :: rest)) := by
  refine q_bast hexec hb hK hP hD hS q0 t0 ha ht hk h31 hdg ?_
  rw [hx]; exact kk
end QB
end
section
abbrev rm_X4_cut : Room := { frames := 1, cells := 0, slots := 0, locals := 24 }
set_option maxHeartbeats 4000000 in
set_option maxRecDepth 100000 in
theorem c_X4_cut (l : Launch) (D : va_G) (cI cZ cB cJ : ClassId) (sz : Nat) (v : Int32) (k : Nat) (hk : k < 2147483648) : Met l yX4_cut wsX4_cut rm_X4_cut (va_Pc [.int v, .int (nI k)] (PC D (qT cI cZ cB cJ) [] sz)) (va_Qi (fun (r : Int32) (u : Unit) => r = nI (cutN v k)) (fun (u : Unit) => PO D (qT cI cZ cB cJ) (va_A [] sz) []) (va_A [] sz)) 0 0 (va_A [] sz) := by
  refine q_entI (cc := cX4_cut) (maxL := 2) (by decide +kernel) rfl (Nat.le_of_ble_eq_true rfl) ?_
  intro p e s m below meth c A Q ls hq hl hQ
  obtain ⟨hx, hb, hml, hts, hown, hin, hN, hK, hsz, hA, hP, hD, hS⟩ := hq
  have hown : s.vm.findClass RX4 = some m.cls := hown
  obtain ⟨H, hH⟩ : ∃ H, H = s.heap := ⟨_, rfl⟩
  rw [← hH] at hP ⊢
  have hS : va_S A s.heap H [] := by rw [hH]; exact va_S.rf
  clear hH
  have hl : lv_has ls 2 [(0, .int v), (1, .int (nI k))] := hl
  have ml_162 := hts (.methodLink RX4 162 Lib.Math.min.name) (by decide +kernel)
  have sm_min := hts (.static Lib.Math.min.name) (by decide +kernel)
  have in_Math := hts (.initialized "java/lang/Math") (by decide +kernel)
  have cm_min := hts (.code Lib.Math.min.name Lib.Math.min.code 2 (some .int)) (by decide +kernel)
  have ml_127 := hts (.methodLink RX4 127 Lib.Math.max.name) (by decide +kernel)
  have sm_max := hts (.static Lib.Math.max.name) (by decide +kernel)
  have cm_max := hts (.code Lib.Math.max.name Lib.Math.max.code 2 (some .int)) (by decide +kernel)
  refine lv_iconst (v := nI 0) hx hb dX4_cut_0 (by decide) ?_
  refine lv_iload_n hx hb dX4_cut_1 rfl (lv_at hl 1 rfl) ?_
  refine lv_iload_n hx hb dX4_cut_2 rfl (lv_at hl 0 rfl) ?_
  refine va_mmin hx hb (hml.trans hl.1.symm) hown ml_162 sm_min in_Math cm_min (Nat.le_of_ble_eq_true rfl) (Nat.le_of_ble_eq_true rfl) (Nat.zero_le _) (Nat.zero_le _) dX4_cut_3 ?_
  refine va_mmax hx hb (hml.trans hl.1.symm) hown ml_127 sm_max in_Math cm_max (Nat.le_of_ble_eq_true rfl) (Nat.le_of_ble_eq_true rfl) (Nat.zero_le _) (Nat.zero_le _) dX4_cut_6 ?_
  refine q_eqi (y := nI (cutN v k)) (cut_eq hk) ?_
  have hr9 : (nI (cutN v k)) = nI (cutN v k) := rfl
  exact hQ _ _ _ _ (nI (cutN v k)) () _ _ dX4_cut_9 (Nat.le_refl _) (Nat.le_refl _) hr9 (hP.sub [] rfl) hK (hD.sub [] (by decide) rfl) hS

abbrev rm_X4_cutPlace : Room := { frames := 1, cells := 0, slots := 0, locals := 24 }
set_option maxHeartbeats 4000000 in
set_option maxRecDepth 100000 in
theorem c_X4_cutPlace (l : Launch) (D : va_G) (cI cZ cB cJ : ClassId) (sz : Nat) (v : Int64) : Met l yX4_cutPlace wsX4_cutPlace rm_X4_cutPlace (va_Pc [.long v] (PC D (qT cI cZ cB cJ) [] sz)) (va_Qi (fun (r : Int32) (u : Unit) => r = Int32.ofInt (ctP v)) (fun (u : Unit) => PO D (qT cI cZ cB cJ) (va_A [] sz) []) (va_A [] sz)) 0 0 (va_A [] sz) := by
  refine q_entI (cc := cX4_cutPlace) (maxL := 2) (by decide +kernel) rfl (Nat.le_of_ble_eq_true rfl) ?_
  intro p e s m below meth c A Q ls hq hl hQ
  obtain ⟨hx, hb, hml, hts, hown, hin, hN, hK, hsz, hA, hP, hD, hS⟩ := hq
  have hown : s.vm.findClass RX4 = some m.cls := hown
  obtain ⟨H, hH⟩ : ∃ H, H = s.heap := ⟨_, rfl⟩
  rw [← hH] at hP ⊢
  have hS : va_S A s.heap H [] := by rw [hH]; exact va_S.rf
  clear hH
  have hl : lv_has ls 2 [(0, .long v)] := hl
  have k_165 := hts (.constantLong RX4 165 (-1048576)) (by decide +kernel)
  have k_167 := hts (.constantLong RX4 167 (1048576)) (by decide +kernel)
  have ml_169 := hts (.methodLink RX4 169 Lib.MathLoose.min_long.x) (by decide +kernel)
  have sl_min := hts (.static Lib.MathLoose.min_long.x) (by decide +kernel)
  have in_Math := hts (.initialized "java/lang/Math") (by decide +kernel)
  have cl_min := hts (.code Lib.MathLoose.min_long.x Lib.MathLoose.min_long.code 4 (some .long)) (by decide +kernel)
  have ml_172 := hts (.methodLink RX4 172 Lib.MathLoose.max_long.x) (by decide +kernel)
  have sl_max := hts (.static Lib.MathLoose.max_long.x) (by decide +kernel)
  have cl_max := hts (.code Lib.MathLoose.max_long.x Lib.MathLoose.max_long.code 4 (some .long)) (by decide +kernel)
  refine lv_ldc2 hx hb hown k_165 dX4_cutPlace_0 ?_
  refine lv_ldc2 hx hb hown k_167 dX4_cutPlace_3 ?_
  refine lv_lload_n hx hb dX4_cutPlace_6 rfl (lv_at hl 0 rfl) ?_
  refine va_mmin_long hx hb (hml.trans hl.1.symm) hown ml_169 sl_min in_Math cl_min (Nat.le_of_ble_eq_true rfl) (Nat.le_of_ble_eq_true rfl) (Nat.zero_le _) (Nat.zero_le _) dX4_cutPlace_7 ?_
  refine va_mmax_long hx hb (hml.trans hl.1.symm) hown ml_172 sl_max in_Math cl_max (Nat.le_of_ble_eq_true rfl) (Nat.le_of_ble_eq_true rfl) (Nat.zero_le _) (Nat.zero_le _) dX4_cutPlace_10 ?_
  refine lv_l2i hx hb dX4_cutPlace_13 rfl ?_
  refine q_eqi (y := Int32.ofInt (ctP v)) (ctP_eq v) ?_
  have hr9 : (Int32.ofInt (ctP v)) = Int32.ofInt (ctP v) := rfl
  exact hQ _ _ _ _ (Int32.ofInt (ctP v)) () _ _ dX4_cutPlace_14 (Nat.le_refl _) (Nat.le_refl _) hr9 (hP.sub [] rfl) hK (hD.sub [] (by decide) rfl) hS

abbrev rm_X4_mul : Room := { frames := 0, cells := 0, slots := 0, locals := 0 }
set_option maxHeartbeats 4000000 in
set_option maxRecDepth 100000 in
theorem c_X4_mul (l : Launch) (D : va_G) (cI cZ cB cJ : ClassId) (sz : Nat) (a : Int32) (b : Int32) : Met l yX4_mul wsX4_mul rm_X4_mul (va_Pc [.int a, .int b] (PC D (qT cI cZ cB cJ) [] sz)) (va_Qi (fun (r : Int32) (u : Unit) => r = mulv a b) (fun (u : Unit) => PO D (qT cI cZ cB cJ) (va_A [] sz) []) (va_A [] sz)) 0 0 (va_A [] sz) := by
  refine q_entI (cc := cX4_mul) (maxL := 2) (by decide +kernel) rfl (Nat.le_of_ble_eq_true rfl) ?_
  intro p e s m below meth c A Q ls hq hl hQ
  obtain ⟨hx, hb, hml, hts, hown, hin, hN, hK, hsz, hA, hP, hD, hS⟩ := hq
  have hown : s.vm.findClass RX4 = some m.cls := hown
  obtain ⟨H, hH⟩ : ∃ H, H = s.heap := ⟨_, rfl⟩
  rw [← hH] at hP ⊢
  have hS : va_S A s.heap H [] := by rw [hH]; exact va_S.rf
  clear hH
  have hl : lv_has ls 2 [(0, .int a), (1, .int b)] := hl
  refine lv_iload_n hx hb dX4_mul_0 rfl (lv_at hl 0 rfl) ?_
  refine lv_iload_n hx hb dX4_mul_1 rfl (lv_at hl 1 rfl) ?_
  refine lv_imul hx hb dX4_mul_2 ?_
  refine lv_bipush (v := nI 127) hx hb dX4_mul_3 (by decide) ?_
  refine lv_iadd hx hb dX4_mul_5 ?_
  refine lv_sipush (v := nI 255) hx hb dX4_mul_6 (by decide) ?_
  refine lv_idiv hx hb dX4_mul_9 (by decide) ?_
  have hr9 : (((a * b) + (nI 127)) / (nI 255)) = mulv a b := rfl
  exact hQ _ _ _ _ (((a * b) + (nI 127)) / (nI 255)) () _ _ dX4_mul_10 (Nat.le_refl _) (Nat.le_refl _) hr9 (hP.sub [] rfl) hK (hD.sub [] (by decide) rfl) hS

abbrev rm_X4_blend : Room := { frames := 0, cells := 0, slots := 0, locals := 0 }
set_option maxHeartbeats 4000000 in
set_option maxRecDepth 100000 in
theorem c_X4_blend (l : Launch) (D : va_G) (cI cZ cB cJ : ClassId) (sz : Nat) (o : Int32) (v : Int32) (a : Int32) : Met l yX4_blend wsX4_blend rm_X4_blend (va_Pc [.int o, .int v, .int a] (PC D (qT cI cZ cB cJ) [] sz)) (va_Qi (fun (r : Int32) (u : Unit) => r = bldv o v a) (fun (u : Unit) => PO D (qT cI cZ cB cJ) (va_A [] sz) []) (va_A [] sz)) 0 0 (va_A [] sz) := by
  refine q_entI (cc := cX4_blend) (maxL := 3) (by decide +kernel) rfl (Nat.le_of_ble_eq_true rfl) ?_
  intro p e s m below meth c A Q ls hq hl hQ
  obtain ⟨hx, hb, hml, hts, hown, hin, hN, hK, hsz, hA, hP, hD, hS⟩ := hq
  have hown : s.vm.findClass RX4 = some m.cls := hown
  obtain ⟨H, hH⟩ : ∃ H, H = s.heap := ⟨_, rfl⟩
  rw [← hH] at hP ⊢
  have hS : va_S A s.heap H [] := by rw [hH]; exact va_S.rf
  clear hH
  have hl : lv_has ls 3 [(0, .int o), (1, .int v), (2, .int a)] := hl
  refine lv_iload_n hx hb dX4_blend_0 rfl (lv_at hl 0 rfl) ?_
  refine lv_sipush (v := nI 255) hx hb dX4_blend_1 (by decide) ?_
  refine lv_iload_n hx hb dX4_blend_4 rfl (lv_at hl 2 rfl) ?_
  refine lv_isub hx hb dX4_blend_5 ?_
  refine lv_imul hx hb dX4_blend_6 ?_
  refine lv_iload_n hx hb dX4_blend_7 rfl (lv_at hl 1 rfl) ?_
  refine lv_iload_n hx hb dX4_blend_8 rfl (lv_at hl 2 rfl) ?_
  refine lv_imul hx hb dX4_blend_9 ?_
  refine lv_iadd hx hb dX4_blend_10 ?_
  refine lv_bipush (v := nI 127) hx hb dX4_blend_11 (by decide) ?_
  refine lv_iadd hx hb dX4_blend_13 ?_
  refine lv_sipush (v := nI 255) hx hb dX4_blend_14 (by decide) ?_
  refine lv_idiv hx hb dX4_blend_17 (by decide) ?_
  have hr9 : ((((o * ((nI 255) - a)) + (v * a)) + (nI 127)) / (nI 255)) = bldv o v a := rfl
  exact hQ _ _ _ _ ((((o * ((nI 255) - a)) + (v * a)) + (nI 127)) / (nI 255)) () _ _ dX4_blend_18 (Nat.le_refl _) (Nat.le_refl _) hr9 (hP.sub [] rfl) hK (hD.sub [] (by decide) rfl) hS

abbrev rm_X4_addHair : Room := { frames := 2, cells := 0, slots := 0, locals := 45 }
set_option maxHeartbeats 4000000 in
set_option maxRecDepth 100000 in
/-- RasterCover.addHair -/
theorem c_X4_addHair (l : Launch) (D : va_G) (cI cZ cB cJ : ClassId) (sz : Nat) (o0 : Nat) (o1 : Nat) (o2 : Nat) (o3 : Nat) (h0 : Nat) (r0 : Nat) (k0 : Nat) (wd : Nat) (ht : Nat) (pn : Nat) (bf : Nat) (bt : Nat) (fl : Int32) (h1 : Nat) (h2 : Nat) (h3 : Nat) (cn : Nat) (fx : Nat → Int32) (fy : Nat → Int32) (fb : Nat → Int32) (X : Nat → Int) (Y : Nat → Int) (bg : Nat → Int32) (ax : Int) (ay : Int) (bx : Int) (bY : Int) (hR : PathR fx fy fb X Y bg cn) (hc4 : cn + 4 ≤ 100) (hax : -1048576 ≤ ax ∧ ax ≤ 1048576) (hay : -1048576 ≤ ay ∧ ay ≤ 1048576) (hbx : -1048576 ≤ bx ∧ bx ≤ 1048576) (hby : -1048576 ≤ bY ∧ bY ≤ 1048576) : Met l yX4_addHair wsX4_addHair rm_X4_addHair (va_Pc [.ref o0, .int (Int32.ofInt ax), .int (Int32.ofInt ay), .int (Int32.ofInt bx), .int (Int32.ofInt bY)] (PC D (qT cI cZ cB cJ) [(o0, .inr (4, [.int (nI wd), .int (nI ht), .int (nI pn), .ref o1, .ref o2, .ref o3, .ref h0, .ref r0, .ref k0, .int (nI bf), .int (nI bt), .int fl])), (h0, .inr (2, [.ref h1, .ref h2, .ref h3, .int (nI cn)])), (h1, .inl (cI, 100, .inl fx)), (h2, .inl (cI, 100, .inl fy)), (h3, .inl (cZ, 100, .inl fb))] sz)) (va_Qv (fun (u : (Nat → Int32) × (Nat → Int32) × (Nat → Int32)) => PathR u.1 u.2.1 u.2.2 (hairX X cn ax ay bx bY) (hairY Y cn ax ay bx bY) (hrB bg cn) (cn + 1 + 1 + 1 + 1)) (fun (u : (Nat → Int32) × (Nat → Int32) × (Nat → Int32)) => PO D (qT cI cZ cB cJ) (va_A [(o0, .inr (4, [.int (nI wd), .int (nI ht), .int (nI pn), .ref o1, .ref o2, .ref o3, .ref h0, .ref r0, .ref k0, .int (nI bf), .int (nI bt), .int fl])), (h0, .inr (2, [.ref h1, .ref h2, .ref h3, .int (nI cn)])), (h1, .inl (cI, 100, .inl fx)), (h2, .inl (cI, 100, .inl fy)), (h3, .inl (cZ, 100, .inl fb))] sz) [(o0, .inr (4, [.int (nI wd), .int (nI ht), .int (nI pn), .ref o1, .ref o2, .ref o3, .ref h0, .ref r0, .ref k0, .int (nI bf), .int (nI bt), .int fl])), (h0, .inr (2, [.ref h1, .ref h2, .ref h3, .int (nI (cn + 1 + 1 + 1 + 1))])), (h1, .inl (cI, 100, .inl u.1)), (h2, .inl (cI, 100, .inl u.2.1)), (h3, .inl (cZ, 100, .inl u.2.2))]) (va_A [(o0, .inr (4, [.int (nI wd), .int (nI ht), .int (nI pn), .ref o1, .ref o2, .ref o3, .ref h0, .ref r0, .ref k0, .int (nI bf), .int (nI bt), .int fl])), (h0, .inr (2, [.ref h1, .ref h2, .ref h3, .int (nI cn)])), (h1, .inl (cI, 100, .inl fx)), (h2, .inl (cI, 100, .inl fy)), (h3, .inl (cZ, 100, .inl fb))] sz)) 0 0 (va_A [(o0, .inr (4, [.int (nI wd), .int (nI ht), .int (nI pn), .ref o1, .ref o2, .ref o3, .ref h0, .ref r0, .ref k0, .int (nI bf), .int (nI bt), .int fl])), (h0, .inr (2, [.ref h1, .ref h2, .ref h3, .int (nI cn)])), (h1, .inl (cI, 100, .inl fx)), (h2, .inl (cI, 100, .inl fy)), (h3, .inl (cZ, 100, .inl fb))] sz) := by
  refine q_entV (cc := cX4_addHair) (maxL := 8) (by decide +kernel) rfl (Nat.le_of_ble_eq_true rfl) ?_
  intro p e s m below meth c A Q ls hq hl hQ
  obtain ⟨hx, hb, hml, hts, hown, hin, hN, hK, hsz, hA, hP, hD, hS⟩ := hq
  have hown : s.vm.findClass RX4 = some m.cls := hown
  obtain ⟨H, hH⟩ : ∃ H, H = s.heap := ⟨_, rfl⟩
  rw [← hH] at hP ⊢
  have hS : va_S A s.heap H [] := by rw [hH]; exact va_S.rf
  clear hH
  have hl : lv_has ls 8 [(0, .ref o0), (1, .int (Int32.ofInt ax)), (2, .int (Int32.ofInt ay)), (3, .int (Int32.ofInt bx)), (4, .int (Int32.ofInt bY))] := hl
  have iX4 : ∀ w ∈ wsX40, w ∈ wsX4_addHair := by decide +kernel
  have ml_174 := hts (.methodLink RX4 174 Lib.Math.abs.name) (by decide +kernel)
  have sm_abs := hts (.static Lib.Math.abs.name) (by decide +kernel)
  have in_Math := hts (.initialized "java/lang/Math") (by decide +kernel)
  have cm_abs := hts (.code Lib.Math.abs.name Lib.Math.abs.code 1 (some .int)) (by decide +kernel)
  have f_37 := hts (.fieldLink RX4 37 "RasterCover" "path" "LRasterCover$Path;") (by decide +kernel)
  have in_X2 := hts (.initialized RX2) (by decide +kernel)
  have im_79 := hts (.instanceMethod yX2_begin) (by decide +kernel)
  have se_79 := hts (.selects RX2 yX2_begin yX2_begin) (by decide +kernel)
  have im_93 := hts (.instanceMethod yX2_join) (by decide +kernel)
  have se_93 := hts (.selects RX2 yX2_join yX2_join) (by decide +kernel)
  obtain ⟨hax1, hax2⟩ := hax
  obtain ⟨hay1, hay2⟩ := hay
  obtain ⟨hbx1, hbx2⟩ := hbx
  obtain ⟨hby1, hby2⟩ := hby
  have J_80 : (¬ (ax = bx ∧ ay = bY)) → ∀ (H : Heap) (locs : List Loc) (ls : Array Slot), va_P D qCl [(o0, .inr (4, [.int (nI wd), .int (nI ht), .int (nI pn), .ref o1, .ref o2, .ref o3, .ref h0, .ref r0, .ref k0, .int (nI bf), .int (nI bt), .int fl])), (h0, .inr (2, [.ref h1, .ref h2, .ref h3, .int (nI cn)])), (h1, .inl (cI, 100, .inl fx)), (h2, .inl (cI, 100, .inl fy)), (h3, .inl (cZ, 100, .inl fb))] H → va_D A [(o0, .inr (4, [.int (nI wd), .int (nI ht), .int (nI pn), .ref o1, .ref o2, .ref o3, .ref h0, .ref r0, .ref k0, .int (nI bf), .int (nI bt), .int fl])), (h0, .inr (2, [.ref h1, .ref h2, .ref h3, .int (nI cn)])), (h1, .inl (cI, 100, .inl fx)), (h2, .inl (cI, 100, .inl fy)), (h3, .inl (cZ, 100, .inl fb))] → va_S A s.heap H locs → lv_has ls 8 [(0, .ref o0), (1, .int (Int32.ofInt ax)), (2, .int (Int32.ofInt ay)), (3, .int (Int32.ofInt bx)), (4, .int (Int32.ofInt bY))] → W p l e rm_X4_addHair s m ([.ref o0, .int (Int32.ofInt ax), .int (Int32.ofInt ay), .int (Int32.ofInt bx), .int (Int32.ofInt bY)] : List Value).toArray below meth c H locs 0 0 Q (F0 m 80 ls []) := by
    intro  hne H locs ls hP hD hS hl
    refine lv_iload_n hx hb dX4_addHair_80 rfl (lv_at hl 3 rfl) ?_
    refine lv_iload_n hx hb dX4_addHair_81 rfl (lv_at hl 1 rfl) ?_
    refine lv_isub hx hb dX4_addHair_82 ?_
    refine q_eqi (y := Int32.ofInt (bx - ax)) (z_sub _ _) ?_
    refine va_mabs hx hb (hml.trans hl.1.symm) hown ml_174 sm_abs in_Math cm_abs (Nat.le_of_ble_eq_true rfl) (Nat.le_of_ble_eq_true rfl) (Nat.zero_le _) (Nat.zero_le _) dX4_addHair_83 ?_
    refine q_eqi (y := nI ((bx - ax).natAbs)) (abs_n (by omega) (by omega)) ?_
    refine lv_iload hx hb dX4_addHair_86 (lv_at hl 4 rfl) ?_
    refine lv_iload_n hx hb dX4_addHair_88 rfl (lv_at hl 2 rfl) ?_
    refine lv_isub hx hb dX4_addHair_89 ?_
    refine q_eqi (y := Int32.ofInt (bY - ay)) (z_sub _ _) ?_
    refine va_mabs hx hb (hml.trans hl.1.symm) hown ml_174 sm_abs in_Math cm_abs (Nat.le_of_ble_eq_true rfl) (Nat.le_of_ble_eq_true rfl) (Nat.zero_le _) (Nat.zero_le _) dX4_addHair_90 ?_
    refine q_eqi (y := nI ((bY - ay).natAbs)) (abs_n (by omega) (by omega)) ?_
    refine q_lt (tgt := 100) hx hb (by omega) (by omega) dX4_addHair_93 (by decide) (fun h_93 => ?_) (fun h_93 => ?_)
    · refine lv_iconst (v := nI 0) hx hb dX4_addHair_100 (by decide) ?_
      refine lv_istore (lv' := [(5, .int (nI 0)), (0, .ref o0), (1, .int (Int32.ofInt ax)), (2, .int (Int32.ofInt ay)), (3, .int (Int32.ofInt bx)), (4, .int (Int32.ofInt bY))]) hx hb dX4_addHair_101 hl (by decide) rfl (fun ls hl => ?_)
      refine lv_iload hx hb dX4_addHair_103 (lv_at hl 0 rfl) ?_
      refine q_if_eq (tgt := 112) hx hb (by omega) dX4_addHair_105 (by decide) (fun h_105 => ?_) (fun h_105 => by omega)
      refine lv_sipush (v := nI 128) hx hb dX4_addHair_112 (by decide) ?_
      refine lv_istore (lv' := [(6, .int (nI 128)), (5, .int (nI 0)), (0, .ref o0), (1, .int (Int32.ofInt ax)), (2, .int (Int32.ofInt ay)), (3, .int (Int32.ofInt bx)), (4, .int (Int32.ofInt bY))]) hx hb dX4_addHair_115 hl (by decide) rfl (fun ls hl => ?_)
      refine lv_iload hx hb dX4_addHair_117 (lv_at hl 1 rfl) ?_
      refine q_if_eq (tgt := 128) hx hb (by omega) dX4_addHair_119 (by decide) (fun h_119 => ?_) (fun h_119 => by omega)
      refine lv_iconst (v := nI 0) hx hb dX4_addHair_128 (by decide) ?_
      refine lv_istore (lv' := [(7, .int (nI 0)), (6, .int (nI 128)), (5, .int (nI 0)), (0, .ref o0), (1, .int (Int32.ofInt ax)), (2, .int (Int32.ofInt ay)), (3, .int (Int32.ofInt bx)), (4, .int (Int32.ofInt bY))]) hx hb dX4_addHair_129 hl (by decide) rfl (fun ls hl => ?_)
      refine lv_aload_n hx hb dX4_addHair_131 rfl (lv_at hl 3 rfl) ?_
      refine va_get (D := D) (ci := 4) (v := .ref h0) (C := RX4) (T := TX4) (N := 12) hx hb hts iX4 hown hK hP 0 rfl rfl 6 (by decide) f_37 (fun _ h9 => h9) rfl dX4_addHair_132 ?_
      refine lv_iload_n hx hb dX4_addHair_135 rfl (lv_at hl 4 rfl) ?_
      refine lv_iload hx hb dX4_addHair_136 (lv_at hl 1 rfl) ?_
      refine lv_isub hx hb dX4_addHair_138 ?_
      refine q_eqi (y := Int32.ofInt (ax - 128)) (by rw [nI_z]; exact z_sub _ _) ?_
      refine lv_iload_n hx hb dX4_addHair_139 rfl (lv_at hl 5 rfl) ?_
      refine lv_iload hx hb dX4_addHair_140 (lv_at hl 0 rfl) ?_
      refine lv_isub hx hb dX4_addHair_142 ?_
      refine q_eqi (y := Int32.ofInt (ay - 0)) (by rw [nI_z]; exact z_sub _ _) ?_
      refine q_v0 (wr := [(o0, .inr (4, [.int (nI wd), .int (nI ht), .int (nI pn), .ref o1, .ref o2, .ref o3, .ref h0, .ref r0, .ref k0, .int (nI bf), .int (nI bt), .int fl]))]) (va_runVN (As := [.int (Int32.ofInt (ax - 128)), .int (Int32.ofInt (ay - 0))]) (rest := []) ⟨hx, hb, hml, hown, hts⟩ (c_X2_begin l D cI cZ cB cJ H.size h0 h1 h2 h3 cn fx fy fb (Int32.ofInt (ax - 128)) (Int32.ofInt (ay - 0)) (by omega)) ⟨va_cnB 2 hts gX4_addHair_X2_begin_n79 rfl rfl rfl (NW.w hN 15 rfl) in_X2 (by decide +kernel) ⟨Nat.le_of_ble_eq_true rfl, Nat.le_of_ble_eq_true rfl⟩, im_79, se_79⟩ (q_preV (q_pre (wc := [(h0, .inr (2, [.ref h1, .ref h2, .ref h3, .int (nI cn)])), (h1, .inl (cI, 100, .inl fx)), (h2, .inl (cI, 100, .inl fy)), (h3, .inl (cZ, 100, .inl fb))]) hP hD hK hN [1, 2, 3, 4] (by decide) rfl) (va_recv hK hP (ci := 2) (q0 := 1) rfl rfl)) rfl rfl hl.1 rfl (lv_room (Nat.le_of_ble_eq_true rfl)) dX4_addHair_143 ⟨Nat.zero_le _, Nat.zero_le _⟩) hS hA hP hD [1, 2, 3, 4] [0] rfl rfl (by decide) (by decide) (fun u H locs hp_143 hP hD hS => ?_)
      have hP : va_P D qCl [(o0, .inr (4, [.int (nI wd), .int (nI ht), .int (nI pn), .ref o1, .ref o2, .ref o3, .ref h0, .ref r0, .ref k0, .int (nI bf), .int (nI bt), .int fl])), (h0, .inr (2, [.ref h1, .ref h2, .ref h3, .int (nI (cn + 1))])), (h1, .inl (cI, 100, .inl (upd fx cn (Int32.ofInt (ax - 128))))), (h2, .inl (cI, 100, .inl (upd fy cn (Int32.ofInt (ay - 0))))), (h3, .inl (cZ, 100, .inl (upd fb cn 1)))] H := hP
      have hD : va_D A [(o0, .inr (4, [.int (nI wd), .int (nI ht), .int (nI pn), .ref o1, .ref o2, .ref o3, .ref h0, .ref r0, .ref k0, .int (nI bf), .int (nI bt), .int fl])), (h0, .inr (2, [.ref h1, .ref h2, .ref h3, .int (nI (cn + 1))])), (h1, .inl (cI, 100, .inl (upd fx cn (Int32.ofInt (ax - 128))))), (h2, .inl (cI, 100, .inl (upd fy cn (Int32.ofInt (ay - 0))))), (h3, .inl (cZ, 100, .inl (upd fb cn 1)))] := hD
      refine lv_aload_n hx hb dX4_addHair_146 rfl (lv_at hl 3 rfl) ?_
      refine va_get (D := D) (ci := 4) (v := .ref h0) (C := RX4) (T := TX4) (N := 12) hx hb hts iX4 hown hK hP 0 rfl rfl 6 (by decide) f_37 (fun _ h9 => h9) rfl dX4_addHair_147 ?_
      refine lv_iload_n hx hb dX4_addHair_150 rfl (lv_at hl 6 rfl) ?_
      refine lv_iload hx hb dX4_addHair_151 (lv_at hl 1 rfl) ?_
      refine lv_isub hx hb dX4_addHair_153 ?_
      refine q_eqi (y := Int32.ofInt (bx - 128)) (by rw [nI_z]; exact z_sub _ _) ?_
      refine lv_iload hx hb dX4_addHair_154 (lv_at hl 7 rfl) ?_
      refine lv_iload hx hb dX4_addHair_156 (lv_at hl 0 rfl) ?_
      refine lv_isub hx hb dX4_addHair_158 ?_
      refine q_eqi (y := Int32.ofInt (bY - 0)) (by rw [nI_z]; exact z_sub _ _) ?_
      refine q_v0 (wr := [(o0, .inr (4, [.int (nI wd), .int (nI ht), .int (nI pn), .ref o1, .ref o2, .ref o3, .ref h0, .ref r0, .ref k0, .int (nI bf), .int (nI bt), .int fl]))]) (va_runVN (As := [.int (Int32.ofInt (bx - 128)), .int (Int32.ofInt (bY - 0))]) (rest := []) ⟨hx, hb, hml, hown, hts⟩ (c_X2_join l D cI cZ cB cJ H.size h0 h1 h2 h3 (cn + 1) (upd fx cn (Int32.ofInt (ax - 128))) (upd fy cn (Int32.ofInt (ay - 0))) (upd fb cn 1) (Int32.ofInt (bx - 128)) (Int32.ofInt (bY - 0)) (by omega)) ⟨va_cnB 2 hts gX4_addHair_X2_join_n93 rfl rfl rfl (NW.w hN 16 rfl) in_X2 (by decide +kernel) ⟨Nat.le_of_ble_eq_true rfl, Nat.le_of_ble_eq_true rfl⟩, im_93, se_93⟩ (q_preV (q_pre (wc := [(h0, .inr (2, [.ref h1, .ref h2, .ref h3, .int (nI (cn + 1))])), (h1, .inl (cI, 100, .inl (upd fx cn (Int32.ofInt (ax - 128))))), (h2, .inl (cI, 100, .inl (upd fy cn (Int32.ofInt (ay - 0))))), (h3, .inl (cZ, 100, .inl (upd fb cn 1)))]) hP hD hK hN [1, 2, 3, 4] (by decide) rfl) (va_recv hK hP (ci := 2) (q0 := 1) rfl rfl)) rfl rfl hl.1 rfl (lv_room (Nat.le_of_ble_eq_true rfl)) dX4_addHair_159 ⟨Nat.zero_le _, Nat.zero_le _⟩) hS hA hP hD [1, 2, 3, 4] [0] rfl rfl (by decide) (by decide) (fun u H locs hp_159 hP hD hS => ?_)
      have hP : va_P D qCl [(o0, .inr (4, [.int (nI wd), .int (nI ht), .int (nI pn), .ref o1, .ref o2, .ref o3, .ref h0, .ref r0, .ref k0, .int (nI bf), .int (nI bt), .int fl])), (h0, .inr (2, [.ref h1, .ref h2, .ref h3, .int (nI ((cn + 1) + 1))])), (h1, .inl (cI, 100, .inl (upd (upd fx cn (Int32.ofInt (ax - 128))) (cn + 1) (Int32.ofInt (bx - 128))))), (h2, .inl (cI, 100, .inl (upd (upd fy cn (Int32.ofInt (ay - 0))) (cn + 1) (Int32.ofInt (bY - 0))))), (h3, .inl (cZ, 100, .inl (upd (upd fb cn 1) (cn + 1) 0)))] H := hP
      have hD : va_D A [(o0, .inr (4, [.int (nI wd), .int (nI ht), .int (nI pn), .ref o1, .ref o2, .ref o3, .ref h0, .ref r0, .ref k0, .int (nI bf), .int (nI bt), .int fl])), (h0, .inr (2, [.ref h1, .ref h2, .ref h3, .int (nI ((cn + 1) + 1))])), (h1, .inl (cI, 100, .inl (upd (upd fx cn (Int32.ofInt (ax - 128))) (cn + 1) (Int32.ofInt (bx - 128))))), (h2, .inl (cI, 100, .inl (upd (upd fy cn (Int32.ofInt (ay - 0))) (cn + 1) (Int32.ofInt (bY - 0))))), (h3, .inl (cZ, 100, .inl (upd (upd fb cn 1) (cn + 1) 0)))] := hD
      refine lv_aload_n hx hb dX4_addHair_162 rfl (lv_at hl 3 rfl) ?_
      refine va_get (D := D) (ci := 4) (v := .ref h0) (C := RX4) (T := TX4) (N := 12) hx hb hts iX4 hown hK hP 0 rfl rfl 6 (by decide) f_37 (fun _ h9 => h9) rfl dX4_addHair_163 ?_
      refine lv_iload_n hx hb dX4_addHair_166 rfl (lv_at hl 6 rfl) ?_
      refine lv_iload hx hb dX4_addHair_167 (lv_at hl 1 rfl) ?_
      refine lv_iadd hx hb dX4_addHair_169 ?_
      refine q_eqi (y := Int32.ofInt (bx + 128)) (by rw [nI_z]; exact z_add _ _) ?_
      refine lv_iload hx hb dX4_addHair_170 (lv_at hl 7 rfl) ?_
      refine lv_iload hx hb dX4_addHair_172 (lv_at hl 0 rfl) ?_
      refine lv_iadd hx hb dX4_addHair_174 ?_
      refine q_eqi (y := Int32.ofInt (bY + 0)) (by rw [nI_z]; exact z_add _ _) ?_
      refine q_v0 (wr := [(o0, .inr (4, [.int (nI wd), .int (nI ht), .int (nI pn), .ref o1, .ref o2, .ref o3, .ref h0, .ref r0, .ref k0, .int (nI bf), .int (nI bt), .int fl]))]) (va_runVN (As := [.int (Int32.ofInt (bx + 128)), .int (Int32.ofInt (bY + 0))]) (rest := []) ⟨hx, hb, hml, hown, hts⟩ (c_X2_join l D cI cZ cB cJ H.size h0 h1 h2 h3 ((cn + 1) + 1) (upd (upd fx cn (Int32.ofInt (ax - 128))) (cn + 1) (Int32.ofInt (bx - 128))) (upd (upd fy cn (Int32.ofInt (ay - 0))) (cn + 1) (Int32.ofInt (bY - 0))) (upd (upd fb cn 1) (cn + 1) 0) (Int32.ofInt (bx + 128)) (Int32.ofInt (bY + 0)) (by omega)) ⟨va_cnB 2 hts gX4_addHair_X2_join_n93 rfl rfl rfl (NW.w hN 16 rfl) in_X2 (by decide +kernel) ⟨Nat.le_of_ble_eq_true rfl, Nat.le_of_ble_eq_true rfl⟩, im_93, se_93⟩ (q_preV (q_pre (wc := [(h0, .inr (2, [.ref h1, .ref h2, .ref h3, .int (nI ((cn + 1) + 1))])), (h1, .inl (cI, 100, .inl (upd (upd fx cn (Int32.ofInt (ax - 128))) (cn + 1) (Int32.ofInt (bx - 128))))), (h2, .inl (cI, 100, .inl (upd (upd fy cn (Int32.ofInt (ay - 0))) (cn + 1) (Int32.ofInt (bY - 0))))), (h3, .inl (cZ, 100, .inl (upd (upd fb cn 1) (cn + 1) 0)))]) hP hD hK hN [1, 2, 3, 4] (by decide) rfl) (va_recv hK hP (ci := 2) (q0 := 1) rfl rfl)) rfl rfl hl.1 rfl (lv_room (Nat.le_of_ble_eq_true rfl)) dX4_addHair_175 ⟨Nat.zero_le _, Nat.zero_le _⟩) hS hA hP hD [1, 2, 3, 4] [0] rfl rfl (by decide) (by decide) (fun u H locs hp_175 hP hD hS => ?_)
      have hP : va_P D qCl [(o0, .inr (4, [.int (nI wd), .int (nI ht), .int (nI pn), .ref o1, .ref o2, .ref o3, .ref h0, .ref r0, .ref k0, .int (nI bf), .int (nI bt), .int fl])), (h0, .inr (2, [.ref h1, .ref h2, .ref h3, .int (nI (((cn + 1) + 1) + 1))])), (h1, .inl (cI, 100, .inl (upd (upd (upd fx cn (Int32.ofInt (ax - 128))) (cn + 1) (Int32.ofInt (bx - 128))) ((cn + 1) + 1) (Int32.ofInt (bx + 128))))), (h2, .inl (cI, 100, .inl (upd (upd (upd fy cn (Int32.ofInt (ay - 0))) (cn + 1) (Int32.ofInt (bY - 0))) ((cn + 1) + 1) (Int32.ofInt (bY + 0))))), (h3, .inl (cZ, 100, .inl (upd (upd (upd fb cn 1) (cn + 1) 0) ((cn + 1) + 1) 0)))] H := hP
      have hD : va_D A [(o0, .inr (4, [.int (nI wd), .int (nI ht), .int (nI pn), .ref o1, .ref o2, .ref o3, .ref h0, .ref r0, .ref k0, .int (nI bf), .int (nI bt), .int fl])), (h0, .inr (2, [.ref h1, .ref h2, .ref h3, .int (nI (((cn + 1) + 1) + 1))])), (h1, .inl (cI, 100, .inl (upd (upd (upd fx cn (Int32.ofInt (ax - 128))) (cn + 1) (Int32.ofInt (bx - 128))) ((cn + 1) + 1) (Int32.ofInt (bx + 128))))), (h2, .inl (cI, 100, .inl (upd (upd (upd fy cn (Int32.ofInt (ay - 0))) (cn + 1) (Int32.ofInt (bY - 0))) ((cn + 1) + 1) (Int32.ofInt (bY + 0))))), (h3, .inl (cZ, 100, .inl (upd (upd (upd fb cn 1) (cn + 1) 0) ((cn + 1) + 1) 0)))] := hD
      refine lv_aload_n hx hb dX4_addHair_178 rfl (lv_at hl 3 rfl) ?_
      refine va_get (D := D) (ci := 4) (v := .ref h0) (C := RX4) (T := TX4) (N := 12) hx hb hts iX4 hown hK hP 0 rfl rfl 6 (by decide) f_37 (fun _ h9 => h9) rfl dX4_addHair_179 ?_
      refine lv_iload_n hx hb dX4_addHair_182 rfl (lv_at hl 4 rfl) ?_
      refine lv_iload hx hb dX4_addHair_183 (lv_at hl 1 rfl) ?_
      refine lv_iadd hx hb dX4_addHair_185 ?_
      refine q_eqi (y := Int32.ofInt (ax + 128)) (by rw [nI_z]; exact z_add _ _) ?_
      refine lv_iload_n hx hb dX4_addHair_186 rfl (lv_at hl 5 rfl) ?_
      refine lv_iload hx hb dX4_addHair_187 (lv_at hl 0 rfl) ?_
      refine lv_iadd hx hb dX4_addHair_189 ?_
      refine q_eqi (y := Int32.ofInt (ay + 0)) (by rw [nI_z]; exact z_add _ _) ?_
      refine q_v0 (wr := [(o0, .inr (4, [.int (nI wd), .int (nI ht), .int (nI pn), .ref o1, .ref o2, .ref o3, .ref h0, .ref r0, .ref k0, .int (nI bf), .int (nI bt), .int fl]))]) (va_runVN (As := [.int (Int32.ofInt (ax + 128)), .int (Int32.ofInt (ay + 0))]) (rest := []) ⟨hx, hb, hml, hown, hts⟩ (c_X2_join l D cI cZ cB cJ H.size h0 h1 h2 h3 (((cn + 1) + 1) + 1) (upd (upd (upd fx cn (Int32.ofInt (ax - 128))) (cn + 1) (Int32.ofInt (bx - 128))) ((cn + 1) + 1) (Int32.ofInt (bx + 128))) (upd (upd (upd fy cn (Int32.ofInt (ay - 0))) (cn + 1) (Int32.ofInt (bY - 0))) ((cn + 1) + 1) (Int32.ofInt (bY + 0))) (upd (upd (upd fb cn 1) (cn + 1) 0) ((cn + 1) + 1) 0) (Int32.ofInt (ax + 128)) (Int32.ofInt (ay + 0)) (by omega)) ⟨va_cnB 2 hts gX4_addHair_X2_join_n93 rfl rfl rfl (NW.w hN 16 rfl) in_X2 (by decide +kernel) ⟨Nat.le_of_ble_eq_true rfl, Nat.le_of_ble_eq_true rfl⟩, im_93, se_93⟩ (q_preV (q_pre (wc := [(h0, .inr (2, [.ref h1, .ref h2, .ref h3, .int (nI (((cn + 1) + 1) + 1))])), (h1, .inl (cI, 100, .inl (upd (upd (upd fx cn (Int32.ofInt (ax - 128))) (cn + 1) (Int32.ofInt (bx - 128))) ((cn + 1) + 1) (Int32.ofInt (bx + 128))))), (h2, .inl (cI, 100, .inl (upd (upd (upd fy cn (Int32.ofInt (ay - 0))) (cn + 1) (Int32.ofInt (bY - 0))) ((cn + 1) + 1) (Int32.ofInt (bY + 0))))), (h3, .inl (cZ, 100, .inl (upd (upd (upd fb cn 1) (cn + 1) 0) ((cn + 1) + 1) 0)))]) hP hD hK hN [1, 2, 3, 4] (by decide) rfl) (va_recv hK hP (ci := 2) (q0 := 1) rfl rfl)) rfl rfl hl.1 rfl (lv_room (Nat.le_of_ble_eq_true rfl)) dX4_addHair_190 ⟨Nat.zero_le _, Nat.zero_le _⟩) hS hA hP hD [1, 2, 3, 4] [0] rfl rfl (by decide) (by decide) (fun u H locs hp_190 hP hD hS => ?_)
      have hP : va_P D qCl [(o0, .inr (4, [.int (nI wd), .int (nI ht), .int (nI pn), .ref o1, .ref o2, .ref o3, .ref h0, .ref r0, .ref k0, .int (nI bf), .int (nI bt), .int fl])), (h0, .inr (2, [.ref h1, .ref h2, .ref h3, .int (nI ((((cn + 1) + 1) + 1) + 1))])), (h1, .inl (cI, 100, .inl (upd (upd (upd (upd fx cn (Int32.ofInt (ax - 128))) (cn + 1) (Int32.ofInt (bx - 128))) ((cn + 1) + 1) (Int32.ofInt (bx + 128))) (((cn + 1) + 1) + 1) (Int32.ofInt (ax + 128))))), (h2, .inl (cI, 100, .inl (upd (upd (upd (upd fy cn (Int32.ofInt (ay - 0))) (cn + 1) (Int32.ofInt (bY - 0))) ((cn + 1) + 1) (Int32.ofInt (bY + 0))) (((cn + 1) + 1) + 1) (Int32.ofInt (ay + 0))))), (h3, .inl (cZ, 100, .inl (upd (upd (upd (upd fb cn 1) (cn + 1) 0) ((cn + 1) + 1) 0) (((cn + 1) + 1) + 1) 0)))] H := hP
      have hD : va_D A [(o0, .inr (4, [.int (nI wd), .int (nI ht), .int (nI pn), .ref o1, .ref o2, .ref o3, .ref h0, .ref r0, .ref k0, .int (nI bf), .int (nI bt), .int fl])), (h0, .inr (2, [.ref h1, .ref h2, .ref h3, .int (nI ((((cn + 1) + 1) + 1) + 1))])), (h1, .inl (cI, 100, .inl (upd (upd (upd (upd fx cn (Int32.ofInt (ax - 128))) (cn + 1) (Int32.ofInt (bx - 128))) ((cn + 1) + 1) (Int32.ofInt (bx + 128))) (((cn + 1) + 1) + 1) (Int32.ofInt (ax + 128))))), (h2, .inl (cI, 100, .inl (upd (upd (upd (upd fy cn (Int32.ofInt (ay - 0))) (cn + 1) (Int32.ofInt (bY - 0))) ((cn + 1) + 1) (Int32.ofInt (bY + 0))) (((cn + 1) + 1) + 1) (Int32.ofInt (ay + 0))))), (h3, .inl (cZ, 100, .inl (upd (upd (upd (upd fb cn 1) (cn + 1) 0) ((cn + 1) + 1) 0) (((cn + 1) + 1) + 1) 0)))] := hD
      have hr9 : PathR (upd (upd (upd (upd fx cn (Int32.ofInt (ax - 128))) (cn + 1) (Int32.ofInt (bx - 128))) ((cn + 1) + 1) (Int32.ofInt (bx + 128))) (((cn + 1) + 1) + 1) (Int32.ofInt (ax + 128))) (upd (upd (upd (upd fy cn (Int32.ofInt (ay - 0))) (cn + 1) (Int32.ofInt (bY - 0))) ((cn + 1) + 1) (Int32.ofInt (bY + 0))) (((cn + 1) + 1) + 1) (Int32.ofInt (ay + 0))) (upd (upd (upd (upd fb cn 1) (cn + 1) 0) ((cn + 1) + 1) 0) (((cn + 1) + 1) + 1) 0) (hairX X cn ax ay bx bY) (hairY Y cn ax ay bx bY) (hrB bg cn) (cn + 1 + 1 + 1 + 1) := (by rw [(hair_steep hne (by omega) X Y cn).1, (hair_steep hne (by omega) X Y cn).2]; exact PathR_add4 hR hc4 (by constructor <;> omega) (by constructor <;> omega) (by constructor <;> omega) (by constructor <;> omega) (by constructor <;> omega) (by constructor <;> omega) (by constructor <;> omega) (by constructor <;> omega))
      exact hQ _ _ _ _ (upd (upd (upd (upd fx cn (Int32.ofInt (ax - 128))) (cn + 1) (Int32.ofInt (bx - 128))) ((cn + 1) + 1) (Int32.ofInt (bx + 128))) (((cn + 1) + 1) + 1) (Int32.ofInt (ax + 128)), upd (upd (upd (upd fy cn (Int32.ofInt (ay - 0))) (cn + 1) (Int32.ofInt (bY - 0))) ((cn + 1) + 1) (Int32.ofInt (bY + 0))) (((cn + 1) + 1) + 1) (Int32.ofInt (ay + 0)), upd (upd (upd (upd fb cn 1) (cn + 1) 0) ((cn + 1) + 1) 0) (((cn + 1) + 1) + 1) 0) _ _ dX4_addHair_193 (Nat.le_refl _) (Nat.le_refl _) hr9 (hP.sub [0, 1, 2, 3, 4] rfl) hK (hD.sub [0, 1, 2, 3, 4] (by decide) rfl) hS
    refine lv_iconst (v := nI 1) hx hb dX4_addHair_96 (by decide) ?_
    refine lv_goto (tgt := 101) hx hb dX4_addHair_97 (by decide) ?_
    refine lv_istore (lv' := [(5, .int (nI 1)), (0, .ref o0), (1, .int (Int32.ofInt ax)), (2, .int (Int32.ofInt ay)), (3, .int (Int32.ofInt bx)), (4, .int (Int32.ofInt bY))]) hx hb dX4_addHair_101 hl (by decide) rfl (fun ls hl => ?_)
    refine lv_iload hx hb dX4_addHair_103 (lv_at hl 0 rfl) ?_
    refine q_if_eq (tgt := 112) hx hb (by omega) dX4_addHair_105 (by decide) (fun h_105 => by omega) (fun h_105 => ?_)
    refine lv_iconst (v := nI 0) hx hb dX4_addHair_108 (by decide) ?_
    refine lv_goto (tgt := 115) hx hb dX4_addHair_109 (by decide) ?_
    refine lv_istore (lv' := [(6, .int (nI 0)), (5, .int (nI 1)), (0, .ref o0), (1, .int (Int32.ofInt ax)), (2, .int (Int32.ofInt ay)), (3, .int (Int32.ofInt bx)), (4, .int (Int32.ofInt bY))]) hx hb dX4_addHair_115 hl (by decide) rfl (fun ls hl => ?_)
    refine lv_iload hx hb dX4_addHair_117 (lv_at hl 1 rfl) ?_
    refine q_if_eq (tgt := 128) hx hb (by omega) dX4_addHair_119 (by decide) (fun h_119 => by omega) (fun h_119 => ?_)
    refine lv_sipush (v := nI 128) hx hb dX4_addHair_122 (by decide) ?_
    refine lv_goto (tgt := 129) hx hb dX4_addHair_125 (by decide) ?_
    refine lv_istore (lv' := [(7, .int (nI 128)), (6, .int (nI 0)), (5, .int (nI 1)), (0, .ref o0), (1, .int (Int32.ofInt ax)), (2, .int (Int32.ofInt ay)), (3, .int (Int32.ofInt bx)), (4, .int (Int32.ofInt bY))]) hx hb dX4_addHair_129 hl (by decide) rfl (fun ls hl => ?_)
    refine lv_aload_n hx hb dX4_addHair_131 rfl (lv_at hl 3 rfl) ?_
    refine va_get (D := D) (ci := 4) (v := .ref h0) (C := RX4) (T := TX4) (N := 12) hx hb hts iX4 hown hK hP 0 rfl rfl 6 (by decide) f_37 (fun _ h9 => h9) rfl dX4_addHair_132 ?_
    refine lv_iload_n hx hb dX4_addHair_135 rfl (lv_at hl 4 rfl) ?_
    refine lv_iload hx hb dX4_addHair_136 (lv_at hl 1 rfl) ?_
    refine lv_isub hx hb dX4_addHair_138 ?_
    refine q_eqi (y := Int32.ofInt (ax - 0)) (by rw [nI_z]; exact z_sub _ _) ?_
    refine lv_iload_n hx hb dX4_addHair_139 rfl (lv_at hl 5 rfl) ?_
    refine lv_iload hx hb dX4_addHair_140 (lv_at hl 0 rfl) ?_
    refine lv_isub hx hb dX4_addHair_142 ?_
    refine q_eqi (y := Int32.ofInt (ay - 128)) (by rw [nI_z]; exact z_sub _ _) ?_
    refine q_v0 (wr := [(o0, .inr (4, [.int (nI wd), .int (nI ht), .int (nI pn), .ref o1, .ref o2, .ref o3, .ref h0, .ref r0, .ref k0, .int (nI bf), .int (nI bt), .int fl]))]) (va_runVN (As := [.int (Int32.ofInt (ax - 0)), .int (Int32.ofInt (ay - 128))]) (rest := []) ⟨hx, hb, hml, hown, hts⟩ (c_X2_begin l D cI cZ cB cJ H.size h0 h1 h2 h3 cn fx fy fb (Int32.ofInt (ax - 0)) (Int32.ofInt (ay - 128)) (by omega)) ⟨va_cnB 2 hts gX4_addHair_X2_begin_n79 rfl rfl rfl (NW.w hN 15 rfl) in_X2 (by decide +kernel) ⟨Nat.le_of_ble_eq_true rfl, Nat.le_of_ble_eq_true rfl⟩, im_79, se_79⟩ (q_preV (q_pre (wc := [(h0, .inr (2, [.ref h1, .ref h2, .ref h3, .int (nI cn)])), (h1, .inl (cI, 100, .inl fx)), (h2, .inl (cI, 100, .inl fy)), (h3, .inl (cZ, 100, .inl fb))]) hP hD hK hN [1, 2, 3, 4] (by decide) rfl) (va_recv hK hP (ci := 2) (q0 := 1) rfl rfl)) rfl rfl hl.1 rfl (lv_room (Nat.le_of_ble_eq_true rfl)) dX4_addHair_143 ⟨Nat.zero_le _, Nat.zero_le _⟩) hS hA hP hD [1, 2, 3, 4] [0] rfl rfl (by decide) (by decide) (fun u H locs hp_143 hP hD hS => ?_)
    have hP : va_P D qCl [(o0, .inr (4, [.int (nI wd), .int (nI ht), .int (nI pn), .ref o1, .ref o2, .ref o3, .ref h0, .ref r0, .ref k0, .int (nI bf), .int (nI bt), .int fl])), (h0, .inr (2, [.ref h1, .ref h2, .ref h3, .int (nI (cn + 1))])), (h1, .inl (cI, 100, .inl (upd fx cn (Int32.ofInt (ax - 0))))), (h2, .inl (cI, 100, .inl (upd fy cn (Int32.ofInt (ay - 128))))), (h3, .inl (cZ, 100, .inl (upd fb cn 1)))] H := hP
    have hD : va_D A [(o0, .inr (4, [.int (nI wd), .int (nI ht), .int (nI pn), .ref o1, .ref o2, .ref o3, .ref h0, .ref r0, .ref k0, .int (nI bf), .int (nI bt), .int fl])), (h0, .inr (2, [.ref h1, .ref h2, .ref h3, .int (nI (cn + 1))])), (h1, .inl (cI, 100, .inl (upd fx cn (Int32.ofInt (ax - 0))))), (h2, .inl (cI, 100, .inl (upd fy cn (Int32.ofInt (ay - 128))))), (h3, .inl (cZ, 100, .inl (upd fb cn 1)))] := hD
    refine lv_aload_n hx hb dX4_addHair_146 rfl (lv_at hl 3 rfl) ?_
    refine va_get (D := D) (ci := 4) (v := .ref h0) (C := RX4) (T := TX4) (N := 12) hx hb hts iX4 hown hK hP 0 rfl rfl 6 (by decide) f_37 (fun _ h9 => h9) rfl dX4_addHair_147 ?_
    refine lv_iload_n hx hb dX4_addHair_150 rfl (lv_at hl 6 rfl) ?_
    refine lv_iload hx hb dX4_addHair_151 (lv_at hl 1 rfl) ?_
    refine lv_isub hx hb dX4_addHair_153 ?_
    refine q_eqi (y := Int32.ofInt (bx - 0)) (by rw [nI_z]; exact z_sub _ _) ?_
    refine lv_iload hx hb dX4_addHair_154 (lv_at hl 7 rfl) ?_
    refine lv_iload hx hb dX4_addHair_156 (lv_at hl 0 rfl) ?_
    refine lv_isub hx hb dX4_addHair_158 ?_
    refine q_eqi (y := Int32.ofInt (bY - 128)) (by rw [nI_z]; exact z_sub _ _) ?_
    refine q_v0 (wr := [(o0, .inr (4, [.int (nI wd), .int (nI ht), .int (nI pn), .ref o1, .ref o2, .ref o3, .ref h0, .ref r0, .ref k0, .int (nI bf), .int (nI bt), .int fl]))]) (va_runVN (As := [.int (Int32.ofInt (bx - 0)), .int (Int32.ofInt (bY - 128))]) (rest := []) ⟨hx, hb, hml, hown, hts⟩ (c_X2_join l D cI cZ cB cJ H.size h0 h1 h2 h3 (cn + 1) (upd fx cn (Int32.ofInt (ax - 0))) (upd fy cn (Int32.ofInt (ay - 128))) (upd fb cn 1) (Int32.ofInt (bx - 0)) (Int32.ofInt (bY - 128)) (by omega)) ⟨va_cnB 2 hts gX4_addHair_X2_join_n93 rfl rfl rfl (NW.w hN 16 rfl) in_X2 (by decide +kernel) ⟨Nat.le_of_ble_eq_true rfl, Nat.le_of_ble_eq_true rfl⟩, im_93, se_93⟩ (q_preV (q_pre (wc := [(h0, .inr (2, [.ref h1, .ref h2, .ref h3, .int (nI (cn + 1))])), (h1, .inl (cI, 100, .inl (upd fx cn (Int32.ofInt (ax - 0))))), (h2, .inl (cI, 100, .inl (upd fy cn (Int32.ofInt (ay - 128))))), (h3, .inl (cZ, 100, .inl (upd fb cn 1)))]) hP hD hK hN [1, 2, 3, 4] (by decide) rfl) (va_recv hK hP (ci := 2) (q0 := 1) rfl rfl)) rfl rfl hl.1 rfl (lv_room (Nat.le_of_ble_eq_true rfl)) dX4_addHair_159 ⟨Nat.zero_le _, Nat.zero_le _⟩) hS hA hP hD [1, 2, 3, 4] [0] rfl rfl (by decide) (by decide) (fun u H locs hp_159 hP hD hS => ?_)
    have hP : va_P D qCl [(o0, .inr (4, [.int (nI wd), .int (nI ht), .int (nI pn), .ref o1, .ref o2, .ref o3, .ref h0, .ref r0, .ref k0, .int (nI bf), .int (nI bt), .int fl])), (h0, .inr (2, [.ref h1, .ref h2, .ref h3, .int (nI ((cn + 1) + 1))])), (h1, .inl (cI, 100, .inl (upd (upd fx cn (Int32.ofInt (ax - 0))) (cn + 1) (Int32.ofInt (bx - 0))))), (h2, .inl (cI, 100, .inl (upd (upd fy cn (Int32.ofInt (ay - 128))) (cn + 1) (Int32.ofInt (bY - 128))))), (h3, .inl (cZ, 100, .inl (upd (upd fb cn 1) (cn + 1) 0)))] H := hP
    have hD : va_D A [(o0, .inr (4, [.int (nI wd), .int (nI ht), .int (nI pn), .ref o1, .ref o2, .ref o3, .ref h0, .ref r0, .ref k0, .int (nI bf), .int (nI bt), .int fl])), (h0, .inr (2, [.ref h1, .ref h2, .ref h3, .int (nI ((cn + 1) + 1))])), (h1, .inl (cI, 100, .inl (upd (upd fx cn (Int32.ofInt (ax - 0))) (cn + 1) (Int32.ofInt (bx - 0))))), (h2, .inl (cI, 100, .inl (upd (upd fy cn (Int32.ofInt (ay - 128))) (cn + 1) (Int32.ofInt (bY - 128))))), (h3, .inl (cZ, 100, .inl (upd (upd fb cn 1) (cn + 1) 0)))] := hD
    refine lv_aload_n hx hb dX4_addHair_162 rfl (lv_at hl 3 rfl) ?_
    refine va_get (D := D) (ci := 4) (v := .ref h0) (C := RX4) (T := TX4) (N := 12) hx hb hts iX4 hown hK hP 0 rfl rfl 6 (by decide) f_37 (fun _ h9 => h9) rfl dX4_addHair_163 ?_
    refine lv_iload_n hx hb dX4_addHair_166 rfl (lv_at hl 6 rfl) ?_
    refine lv_iload hx hb dX4_addHair_167 (lv_at hl 1 rfl) ?_
    refine lv_iadd hx hb dX4_addHair_169 ?_
    refine q_eqi (y := Int32.ofInt (bx + 0)) (by rw [nI_z]; exact z_add _ _) ?_
    refine lv_iload hx hb dX4_addHair_170 (lv_at hl 7 rfl) ?_
    refine lv_iload hx hb dX4_addHair_172 (lv_at hl 0 rfl) ?_
    refine lv_iadd hx hb dX4_addHair_174 ?_
    refine q_eqi (y := Int32.ofInt (bY + 128)) (by rw [nI_z]; exact z_add _ _) ?_
    refine q_v0 (wr := [(o0, .inr (4, [.int (nI wd), .int (nI ht), .int (nI pn), .ref o1, .ref o2, .ref o3, .ref h0, .ref r0, .ref k0, .int (nI bf), .int (nI bt), .int fl]))]) (va_runVN (As := [.int (Int32.ofInt (bx + 0)), .int (Int32.ofInt (bY + 128))]) (rest := []) ⟨hx, hb, hml, hown, hts⟩ (c_X2_join l D cI cZ cB cJ H.size h0 h1 h2 h3 ((cn + 1) + 1) (upd (upd fx cn (Int32.ofInt (ax - 0))) (cn + 1) (Int32.ofInt (bx - 0))) (upd (upd fy cn (Int32.ofInt (ay - 128))) (cn + 1) (Int32.ofInt (bY - 128))) (upd (upd fb cn 1) (cn + 1) 0) (Int32.ofInt (bx + 0)) (Int32.ofInt (bY + 128)) (by omega)) ⟨va_cnB 2 hts gX4_addHair_X2_join_n93 rfl rfl rfl (NW.w hN 16 rfl) in_X2 (by decide +kernel) ⟨Nat.le_of_ble_eq_true rfl, Nat.le_of_ble_eq_true rfl⟩, im_93, se_93⟩ (q_preV (q_pre (wc := [(h0, .inr (2, [.ref h1, .ref h2, .ref h3, .int (nI ((cn + 1) + 1))])), (h1, .inl (cI, 100, .inl (upd (upd fx cn (Int32.ofInt (ax - 0))) (cn + 1) (Int32.ofInt (bx - 0))))), (h2, .inl (cI, 100, .inl (upd (upd fy cn (Int32.ofInt (ay - 128))) (cn + 1) (Int32.ofInt (bY - 128))))), (h3, .inl (cZ, 100, .inl (upd (upd fb cn 1) (cn + 1) 0)))]) hP hD hK hN [1, 2, 3, 4] (by decide) rfl) (va_recv hK hP (ci := 2) (q0 := 1) rfl rfl)) rfl rfl hl.1 rfl (lv_room (Nat.le_of_ble_eq_true rfl)) dX4_addHair_175 ⟨Nat.zero_le _, Nat.zero_le _⟩) hS hA hP hD [1, 2, 3, 4] [0] rfl rfl (by decide) (by decide) (fun u H locs hp_175 hP hD hS => ?_)
    have hP : va_P D qCl [(o0, .inr (4, [.int (nI wd), .int (nI ht), .int (nI pn), .ref o1, .ref o2, .ref o3, .ref h0, .ref r0, .ref k0, .int (nI bf), .int (nI bt), .int fl])), (h0, .inr (2, [.ref h1, .ref h2, .ref h3, .int (nI (((cn + 1) + 1) + 1))])), (h1, .inl (cI, 100, .inl (upd (upd (upd fx cn (Int32.ofInt (ax - 0))) (cn + 1) (Int32.ofInt (bx - 0))) ((cn + 1) + 1) (Int32.ofInt (bx + 0))))), (h2, .inl (cI, 100, .inl (upd (upd (upd fy cn (Int32.ofInt (ay - 128))) (cn + 1) (Int32.ofInt (bY - 128))) ((cn + 1) + 1) (Int32.ofInt (bY + 128))))), (h3, .inl (cZ, 100, .inl (upd (upd (upd fb cn 1) (cn + 1) 0) ((cn + 1) + 1) 0)))] H := hP
    have hD : va_D A [(o0, .inr (4, [.int (nI wd), .int (nI ht), .int (nI pn), .ref o1, .ref o2, .ref o3, .ref h0, .ref r0, .ref k0, .int (nI bf), .int (nI bt), .int fl])), (h0, .inr (2, [.ref h1, .ref h2, .ref h3, .int (nI (((cn + 1) + 1) + 1))])), (h1, .inl (cI, 100, .inl (upd (upd (upd fx cn (Int32.ofInt (ax - 0))) (cn + 1) (Int32.ofInt (bx - 0))) ((cn + 1) + 1) (Int32.ofInt (bx + 0))))), (h2, .inl (cI, 100, .inl (upd (upd (upd fy cn (Int32.ofInt (ay - 128))) (cn + 1) (Int32.ofInt (bY - 128))) ((cn + 1) + 1) (Int32.ofInt (bY + 128))))), (h3, .inl (cZ, 100, .inl (upd (upd (upd fb cn 1) (cn + 1) 0) ((cn + 1) + 1) 0)))] := hD
    refine lv_aload_n hx hb dX4_addHair_178 rfl (lv_at hl 3 rfl) ?_
    refine va_get (D := D) (ci := 4) (v := .ref h0) (C := RX4) (T := TX4) (N := 12) hx hb hts iX4 hown hK hP 0 rfl rfl 6 (by decide) f_37 (fun _ h9 => h9) rfl dX4_addHair_179 ?_
    refine lv_iload_n hx hb dX4_addHair_182 rfl (lv_at hl 4 rfl) ?_
    refine lv_iload hx hb dX4_addHair_183 (lv_at hl 1 rfl) ?_
    refine lv_iadd hx hb dX4_addHair_185 ?_
    refine q_eqi (y := Int32.ofInt (ax + 0)) (by rw [nI_z]; exact z_add _ _) ?_
    refine lv_iload_n hx hb dX4_addHair_186 rfl (lv_at hl 5 rfl) ?_
    refine lv_iload hx hb dX4_addHair_187 (lv_at hl 0 rfl) ?_
    refine lv_iadd hx hb dX4_addHair_189 ?_
    refine q_eqi (y := Int32.ofInt (ay + 128)) (by rw [nI_z]; exact z_add _ _) ?_
    refine q_v0 (wr := [(o0, .inr (4, [.int (nI wd), .int (nI ht), .int (nI pn), .ref o1, .ref o2, .ref o3, .ref h0, .ref r0, .ref k0, .int (nI bf), .int (nI bt), .int fl]))]) (va_runVN (As := [.int (Int32.ofInt (ax + 0)), .int (Int32.ofInt (ay + 128))]) (rest := []) ⟨hx, hb, hml, hown, hts⟩ (c_X2_join l D cI cZ cB cJ H.size h0 h1 h2 h3 (((cn + 1) + 1) + 1) (upd (upd (upd fx cn (Int32.ofInt (ax - 0))) (cn + 1) (Int32.ofInt (bx - 0))) ((cn + 1) + 1) (Int32.ofInt (bx + 0))) (upd (upd (upd fy cn (Int32.ofInt (ay - 128))) (cn + 1) (Int32.ofInt (bY - 128))) ((cn + 1) + 1) (Int32.ofInt (bY + 128))) (upd (upd (upd fb cn 1) (cn + 1) 0) ((cn + 1) + 1) 0) (Int32.ofInt (ax + 0)) (Int32.ofInt (ay + 128)) (by omega)) ⟨va_cnB 2 hts gX4_addHair_X2_join_n93 rfl rfl rfl (NW.w hN 16 rfl) in_X2 (by decide +kernel) ⟨Nat.le_of_ble_eq_true rfl, Nat.le_of_ble_eq_true rfl⟩, im_93, se_93⟩ (q_preV (q_pre (wc := [(h0, .inr (2, [.ref h1, .ref h2, .ref h3, .int (nI (((cn + 1) + 1) + 1))])), (h1, .inl (cI, 100, .inl (upd (upd (upd fx cn (Int32.ofInt (ax - 0))) (cn + 1) (Int32.ofInt (bx - 0))) ((cn + 1) + 1) (Int32.ofInt (bx + 0))))), (h2, .inl (cI, 100, .inl (upd (upd (upd fy cn (Int32.ofInt (ay - 128))) (cn + 1) (Int32.ofInt (bY - 128))) ((cn + 1) + 1) (Int32.ofInt (bY + 128))))), (h3, .inl (cZ, 100, .inl (upd (upd (upd fb cn 1) (cn + 1) 0) ((cn + 1) + 1) 0)))]) hP hD hK hN [1, 2, 3, 4] (by decide) rfl) (va_recv hK hP (ci := 2) (q0 := 1) rfl rfl)) rfl rfl hl.1 rfl (lv_room (Nat.le_of_ble_eq_true rfl)) dX4_addHair_190 ⟨Nat.zero_le _, Nat.zero_le _⟩) hS hA hP hD [1, 2, 3, 4] [0] rfl rfl (by decide) (by decide) (fun u H locs hp_190 hP hD hS => ?_)
    have hP : va_P D qCl [(o0, .inr (4, [.int (nI wd), .int (nI ht), .int (nI pn), .ref o1, .ref o2, .ref o3, .ref h0, .ref r0, .ref k0, .int (nI bf), .int (nI bt), .int fl])), (h0, .inr (2, [.ref h1, .ref h2, .ref h3, .int (nI ((((cn + 1) + 1) + 1) + 1))])), (h1, .inl (cI, 100, .inl (upd (upd (upd (upd fx cn (Int32.ofInt (ax - 0))) (cn + 1) (Int32.ofInt (bx - 0))) ((cn + 1) + 1) (Int32.ofInt (bx + 0))) (((cn + 1) + 1) + 1) (Int32.ofInt (ax + 0))))), (h2, .inl (cI, 100, .inl (upd (upd (upd (upd fy cn (Int32.ofInt (ay - 128))) (cn + 1) (Int32.ofInt (bY - 128))) ((cn + 1) + 1) (Int32.ofInt (bY + 128))) (((cn + 1) + 1) + 1) (Int32.ofInt (ay + 128))))), (h3, .inl (cZ, 100, .inl (upd (upd (upd (upd fb cn 1) (cn + 1) 0) ((cn + 1) + 1) 0) (((cn + 1) + 1) + 1) 0)))] H := hP
    have hD : va_D A [(o0, .inr (4, [.int (nI wd), .int (nI ht), .int (nI pn), .ref o1, .ref o2, .ref o3, .ref h0, .ref r0, .ref k0, .int (nI bf), .int (nI bt), .int fl])), (h0, .inr (2, [.ref h1, .ref h2, .ref h3, .int (nI ((((cn + 1) + 1) + 1) + 1))])), (h1, .inl (cI, 100, .inl (upd (upd (upd (upd fx cn (Int32.ofInt (ax - 0))) (cn + 1) (Int32.ofInt (bx - 0))) ((cn + 1) + 1) (Int32.ofInt (bx + 0))) (((cn + 1) + 1) + 1) (Int32.ofInt (ax + 0))))), (h2, .inl (cI, 100, .inl (upd (upd (upd (upd fy cn (Int32.ofInt (ay - 128))) (cn + 1) (Int32.ofInt (bY - 128))) ((cn + 1) + 1) (Int32.ofInt (bY + 128))) (((cn + 1) + 1) + 1) (Int32.ofInt (ay + 128))))), (h3, .inl (cZ, 100, .inl (upd (upd (upd (upd fb cn 1) (cn + 1) 0) ((cn + 1) + 1) 0) (((cn + 1) + 1) + 1) 0)))] := hD
    have hr9 : PathR (upd (upd (upd (upd fx cn (Int32.ofInt (ax - 0))) (cn + 1) (Int32.ofInt (bx - 0))) ((cn + 1) + 1) (Int32.ofInt (bx + 0))) (((cn + 1) + 1) + 1) (Int32.ofInt (ax + 0))) (upd (upd (upd (upd fy cn (Int32.ofInt (ay - 128))) (cn + 1) (Int32.ofInt (bY - 128))) ((cn + 1) + 1) (Int32.ofInt (bY + 128))) (((cn + 1) + 1) + 1) (Int32.ofInt (ay + 128))) (upd (upd (upd (upd fb cn 1) (cn + 1) 0) ((cn + 1) + 1) 0) (((cn + 1) + 1) + 1) 0) (hairX X cn ax ay bx bY) (hairY Y cn ax ay bx bY) (hrB bg cn) (cn + 1 + 1 + 1 + 1) := (by rw [(hair_flat hne h_93 X Y cn).1, (hair_flat hne h_93 X Y cn).2]; exact PathR_add4 hR hc4 (by constructor <;> omega) (by constructor <;> omega) (by constructor <;> omega) (by constructor <;> omega) (by constructor <;> omega) (by constructor <;> omega) (by constructor <;> omega) (by constructor <;> omega))
    exact hQ _ _ _ _ (upd (upd (upd (upd fx cn (Int32.ofInt (ax - 0))) (cn + 1) (Int32.ofInt (bx - 0))) ((cn + 1) + 1) (Int32.ofInt (bx + 0))) (((cn + 1) + 1) + 1) (Int32.ofInt (ax + 0)), upd (upd (upd (upd fy cn (Int32.ofInt (ay - 128))) (cn + 1) (Int32.ofInt (bY - 128))) ((cn + 1) + 1) (Int32.ofInt (bY + 128))) (((cn + 1) + 1) + 1) (Int32.ofInt (ay + 128)), upd (upd (upd (upd fb cn 1) (cn + 1) 0) ((cn + 1) + 1) 0) (((cn + 1) + 1) + 1) 0) _ _ dX4_addHair_193 (Nat.le_refl _) (Nat.le_refl _) hr9 (hP.sub [0, 1, 2, 3, 4] rfl) hK (hD.sub [0, 1, 2, 3, 4] (by decide) rfl) hS
  refine lv_iload_n hx hb dX4_addHair_0 rfl (lv_at hl 1 rfl) ?_
  refine lv_iload_n hx hb dX4_addHair_1 rfl (lv_at hl 3 rfl) ?_
  refine lv_icmp_ne (tgt := 80) hx hb dX4_addHair_2 (by decide) (fun h_2 => ?_) (fun h_2 => ?_)
  · rw [i_eq, z_t (by omega) (by omega), z_t (by omega) (by omega)] at h_2
    exact J_80 (fun q => h_2 q.1) _ _ _ (hP.sub [0, 1, 2, 3, 4] rfl) (hD.sub [0, 1, 2, 3, 4] (by decide) rfl) hS (lv_sub hl [0, 1, 2, 3, 4] rfl)
  rw [i_eq, z_t (by omega) (by omega), z_t (by omega) (by omega)] at h_2
  refine lv_iload_n hx hb dX4_addHair_5 rfl (lv_at hl 2 rfl) ?_
  refine lv_iload hx hb dX4_addHair_6 (lv_at hl 4 rfl) ?_
  refine lv_icmp_ne (tgt := 80) hx hb dX4_addHair_8 (by decide) (fun h_8 => ?_) (fun h_8 => ?_)
  · rw [i_eq, z_t (by omega) (by omega), z_t (by omega) (by omega)] at h_8
    exact J_80 (fun q => h_8 q.2) _ _ _ (hP.sub [0, 1, 2, 3, 4] rfl) (hD.sub [0, 1, 2, 3, 4] (by decide) rfl) hS (lv_sub hl [0, 1, 2, 3, 4] rfl)
  rw [i_eq, z_t (by omega) (by omega), z_t (by omega) (by omega)] at h_8
  refine lv_aload_n hx hb dX4_addHair_11 rfl (lv_at hl 0 rfl) ?_
  refine va_get (D := D) (ci := 4) (v := .ref h0) (C := RX4) (T := TX4) (N := 12) hx hb hts iX4 hown hK hP 0 rfl rfl 6 (by decide) f_37 (fun _ h9 => h9) rfl dX4_addHair_12 ?_
  refine lv_iload_n hx hb dX4_addHair_15 rfl (lv_at hl 1 rfl) ?_
  refine lv_sipush (v := nI 128) hx hb dX4_addHair_16 (by decide) ?_
  refine lv_isub hx hb dX4_addHair_19 ?_
  refine q_eqi (y := Int32.ofInt (ax - 128)) (by rw [nI_z]; exact z_sub _ _) ?_
  refine lv_iload_n hx hb dX4_addHair_20 rfl (lv_at hl 2 rfl) ?_
  refine lv_sipush (v := nI 128) hx hb dX4_addHair_21 (by decide) ?_
  refine lv_isub hx hb dX4_addHair_24 ?_
  refine q_eqi (y := Int32.ofInt (ay - 128)) (by rw [nI_z]; exact z_sub _ _) ?_
  refine q_v0 (wr := [(o0, .inr (4, [.int (nI wd), .int (nI ht), .int (nI pn), .ref o1, .ref o2, .ref o3, .ref h0, .ref r0, .ref k0, .int (nI bf), .int (nI bt), .int fl]))]) (va_runVN (As := [.int (Int32.ofInt (ax - 128)), .int (Int32.ofInt (ay - 128))]) (rest := []) ⟨hx, hb, hml, hown, hts⟩ (c_X2_begin l D cI cZ cB cJ H.size h0 h1 h2 h3 cn fx fy fb (Int32.ofInt (ax - 128)) (Int32.ofInt (ay - 128)) (by omega)) ⟨va_cnB 2 hts gX4_addHair_X2_begin_n79 rfl rfl rfl (NW.w hN 15 rfl) in_X2 (by decide +kernel) ⟨Nat.le_of_ble_eq_true rfl, Nat.le_of_ble_eq_true rfl⟩, im_79, se_79⟩ (q_preV (q_pre (wc := [(h0, .inr (2, [.ref h1, .ref h2, .ref h3, .int (nI cn)])), (h1, .inl (cI, 100, .inl fx)), (h2, .inl (cI, 100, .inl fy)), (h3, .inl (cZ, 100, .inl fb))]) hP hD hK hN [1, 2, 3, 4] (by decide) rfl) (va_recv hK hP (ci := 2) (q0 := 1) rfl rfl)) rfl rfl hl.1 rfl (lv_room (Nat.le_of_ble_eq_true rfl)) dX4_addHair_25 ⟨Nat.zero_le _, Nat.zero_le _⟩) hS hA hP hD [1, 2, 3, 4] [0] rfl rfl (by decide) (by decide) (fun u H locs hp_25 hP hD hS => ?_)
  have hP : va_P D qCl [(o0, .inr (4, [.int (nI wd), .int (nI ht), .int (nI pn), .ref o1, .ref o2, .ref o3, .ref h0, .ref r0, .ref k0, .int (nI bf), .int (nI bt), .int fl])), (h0, .inr (2, [.ref h1, .ref h2, .ref h3, .int (nI (cn + 1))])), (h1, .inl (cI, 100, .inl (upd fx cn (Int32.ofInt (ax - 128))))), (h2, .inl (cI, 100, .inl (upd fy cn (Int32.ofInt (ay - 128))))), (h3, .inl (cZ, 100, .inl (upd fb cn 1)))] H := hP
  have hD : va_D A [(o0, .inr (4, [.int (nI wd), .int (nI ht), .int (nI pn), .ref o1, .ref o2, .ref o3, .ref h0, .ref r0, .ref k0, .int (nI bf), .int (nI bt), .int fl])), (h0, .inr (2, [.ref h1, .ref h2, .ref h3, .int (nI (cn + 1))])), (h1, .inl (cI, 100, .inl (upd fx cn (Int32.ofInt (ax - 128))))), (h2, .inl (cI, 100, .inl (upd fy cn (Int32.ofInt (ay - 128))))), (h3, .inl (cZ, 100, .inl (upd fb cn 1)))] := hD
  refine lv_aload_n hx hb dX4_addHair_28 rfl (lv_at hl 0 rfl) ?_
  refine va_get (D := D) (ci := 4) (v := .ref h0) (C := RX4) (T := TX4) (N := 12) hx hb hts iX4 hown hK hP 0 rfl rfl 6 (by decide) f_37 (fun _ h9 => h9) rfl dX4_addHair_29 ?_
  refine lv_iload_n hx hb dX4_addHair_32 rfl (lv_at hl 1 rfl) ?_
  refine lv_sipush (v := nI 128) hx hb dX4_addHair_33 (by decide) ?_
  refine lv_iadd hx hb dX4_addHair_36 ?_
  refine q_eqi (y := Int32.ofInt (ax + 128)) (by rw [nI_z]; exact z_add _ _) ?_
  refine lv_iload_n hx hb dX4_addHair_37 rfl (lv_at hl 2 rfl) ?_
  refine lv_sipush (v := nI 128) hx hb dX4_addHair_38 (by decide) ?_
  refine lv_isub hx hb dX4_addHair_41 ?_
  refine q_eqi (y := Int32.ofInt (ay - 128)) (by rw [nI_z]; exact z_sub _ _) ?_
  refine q_v0 (wr := [(o0, .inr (4, [.int (nI wd), .int (nI ht), .int (nI pn), .ref o1, .ref o2, .ref o3, .ref h0, .ref r0, .ref k0, .int (nI bf), .int (nI bt), .int fl]))]) (va_runVN (As := [.int (Int32.ofInt (ax + 128)), .int (Int32.ofInt (ay - 128))]) (rest := []) ⟨hx, hb, hml, hown, hts⟩ (c_X2_join l D cI cZ cB cJ H.size h0 h1 h2 h3 (cn + 1) (upd fx cn (Int32.ofInt (ax - 128))) (upd fy cn (Int32.ofInt (ay - 128))) (upd fb cn 1) (Int32.ofInt (ax + 128)) (Int32.ofInt (ay - 128)) (by omega)) ⟨va_cnB 2 hts gX4_addHair_X2_join_n93 rfl rfl rfl (NW.w hN 16 rfl) in_X2 (by decide +kernel) ⟨Nat.le_of_ble_eq_true rfl, Nat.le_of_ble_eq_true rfl⟩, im_93, se_93⟩ (q_preV (q_pre (wc := [(h0, .inr (2, [.ref h1, .ref h2, .ref h3, .int (nI (cn + 1))])), (h1, .inl (cI, 100, .inl (upd fx cn (Int32.ofInt (ax - 128))))), (h2, .inl (cI, 100, .inl (upd fy cn (Int32.ofInt (ay - 128))))), (h3, .inl (cZ, 100, .inl (upd fb cn 1)))]) hP hD hK hN [1, 2, 3, 4] (by decide) rfl) (va_recv hK hP (ci := 2) (q0 := 1) rfl rfl)) rfl rfl hl.1 rfl (lv_room (Nat.le_of_ble_eq_true rfl)) dX4_addHair_42 ⟨Nat.zero_le _, Nat.zero_le _⟩) hS hA hP hD [1, 2, 3, 4] [0] rfl rfl (by decide) (by decide) (fun u H locs hp_42 hP hD hS => ?_)
  have hP : va_P D qCl [(o0, .inr (4, [.int (nI wd), .int (nI ht), .int (nI pn), .ref o1, .ref o2, .ref o3, .ref h0, .ref r0, .ref k0, .int (nI bf), .int (nI bt), .int fl])), (h0, .inr (2, [.ref h1, .ref h2, .ref h3, .int (nI ((cn + 1) + 1))])), (h1, .inl (cI, 100, .inl (upd (upd fx cn (Int32.ofInt (ax - 128))) (cn + 1) (Int32.ofInt (ax + 128))))), (h2, .inl (cI, 100, .inl (upd (upd fy cn (Int32.ofInt (ay - 128))) (cn + 1) (Int32.ofInt (ay - 128))))), (h3, .inl (cZ, 100, .inl (upd (upd fb cn 1) (cn + 1) 0)))] H := hP
  have hD : va_D A [(o0, .inr (4, [.int (nI wd), .int (nI ht), .int (nI pn), .ref o1, .ref o2, .ref o3, .ref h0, .ref r0, .ref k0, .int (nI bf), .int (nI bt), .int fl])), (h0, .inr (2, [.ref h1, .ref h2, .ref h3, .int (nI ((cn + 1) + 1))])), (h1, .inl (cI, 100, .inl (upd (upd fx cn (Int32.ofInt (ax - 128))) (cn + 1) (Int32.ofInt (ax + 128))))), (h2, .inl (cI, 100, .inl (upd (upd fy cn (Int32.ofInt (ay - 128))) (cn + 1) (Int32.ofInt (ay - 128))))), (h3, .inl (cZ, 100, .inl (upd (upd fb cn 1) (cn + 1) 0)))] := hD
  refine lv_aload_n hx hb dX4_addHair_45 rfl (lv_at hl 0 rfl) ?_
  refine va_get (D := D) (ci := 4) (v := .ref h0) (C := RX4) (T := TX4) (N := 12) hx hb hts iX4 hown hK hP 0 rfl rfl 6 (by decide) f_37 (fun _ h9 => h9) rfl dX4_addHair_46 ?_
  refine lv_iload_n hx hb dX4_addHair_49 rfl (lv_at hl 1 rfl) ?_
  refine lv_sipush (v := nI 128) hx hb dX4_addHair_50 (by decide) ?_
  refine lv_iadd hx hb dX4_addHair_53 ?_
  refine q_eqi (y := Int32.ofInt (ax + 128)) (by rw [nI_z]; exact z_add _ _) ?_
  refine lv_iload_n hx hb dX4_addHair_54 rfl (lv_at hl 2 rfl) ?_
  refine lv_sipush (v := nI 128) hx hb dX4_addHair_55 (by decide) ?_
  refine lv_iadd hx hb dX4_addHair_58 ?_
  refine q_eqi (y := Int32.ofInt (ay + 128)) (by rw [nI_z]; exact z_add _ _) ?_
  refine q_v0 (wr := [(o0, .inr (4, [.int (nI wd), .int (nI ht), .int (nI pn), .ref o1, .ref o2, .ref o3, .ref h0, .ref r0, .ref k0, .int (nI bf), .int (nI bt), .int fl]))]) (va_runVN (As := [.int (Int32.ofInt (ax + 128)), .int (Int32.ofInt (ay + 128))]) (rest := []) ⟨hx, hb, hml, hown, hts⟩ (c_X2_join l D cI cZ cB cJ H.size h0 h1 h2 h3 ((cn + 1) + 1) (upd (upd fx cn (Int32.ofInt (ax - 128))) (cn + 1) (Int32.ofInt (ax + 128))) (upd (upd fy cn (Int32.ofInt (ay - 128))) (cn + 1) (Int32.ofInt (ay - 128))) (upd (upd fb cn 1) (cn + 1) 0) (Int32.ofInt (ax + 128)) (Int32.ofInt (ay + 128)) (by omega)) ⟨va_cnB 2 hts gX4_addHair_X2_join_n93 rfl rfl rfl (NW.w hN 16 rfl) in_X2 (by decide +kernel) ⟨Nat.le_of_ble_eq_true rfl, Nat.le_of_ble_eq_true rfl⟩, im_93, se_93⟩ (q_preV (q_pre (wc := [(h0, .inr (2, [.ref h1, .ref h2, .ref h3, .int (nI ((cn + 1) + 1))])), (h1, .inl (cI, 100, .inl (upd (upd fx cn (Int32.ofInt (ax - 128))) (cn + 1) (Int32.ofInt (ax + 128))))), (h2, .inl (cI, 100, .inl (upd (upd fy cn (Int32.ofInt (ay - 128))) (cn + 1) (Int32.ofInt (ay - 128))))), (h3, .inl (cZ, 100, .inl (upd (upd fb cn 1) (cn + 1) 0)))]) hP hD hK hN [1, 2, 3, 4] (by decide) rfl) (va_recv hK hP (ci := 2) (q0 := 1) rfl rfl)) rfl rfl hl.1 rfl (lv_room (Nat.le_of_ble_eq_true rfl)) dX4_addHair_59 ⟨Nat.zero_le _, Nat.zero_le _⟩) hS hA hP hD [1, 2, 3, 4] [0] rfl rfl (by decide) (by decide) (fun u H locs hp_59 hP hD hS => ?_)
  have hP : va_P D qCl [(o0, .inr (4, [.int (nI wd), .int (nI ht), .int (nI pn), .ref o1, .ref o2, .ref o3, .ref h0, .ref r0, .ref k0, .int (nI bf), .int (nI bt), .int fl])), (h0, .inr (2, [.ref h1, .ref h2, .ref h3, .int (nI (((cn + 1) + 1) + 1))])), (h1, .inl (cI, 100, .inl (upd (upd (upd fx cn (Int32.ofInt (ax - 128))) (cn + 1) (Int32.ofInt (ax + 128))) ((cn + 1) + 1) (Int32.ofInt (ax + 128))))), (h2, .inl (cI, 100, .inl (upd (upd (upd fy cn (Int32.ofInt (ay - 128))) (cn + 1) (Int32.ofInt (ay - 128))) ((cn + 1) + 1) (Int32.ofInt (ay + 128))))), (h3, .inl (cZ, 100, .inl (upd (upd (upd fb cn 1) (cn + 1) 0) ((cn + 1) + 1) 0)))] H := hP
  have hD : va_D A [(o0, .inr (4, [.int (nI wd), .int (nI ht), .int (nI pn), .ref o1, .ref o2, .ref o3, .ref h0, .ref r0, .ref k0, .int (nI bf), .int (nI bt), .int fl])), (h0, .inr (2, [.ref h1, .ref h2, .ref h3, .int (nI (((cn + 1) + 1) + 1))])), (h1, .inl (cI, 100, .inl (upd (upd (upd fx cn (Int32.ofInt (ax - 128))) (cn + 1) (Int32.ofInt (ax + 128))) ((cn + 1) + 1) (Int32.ofInt (ax + 128))))), (h2, .inl (cI, 100, .inl (upd (upd (upd fy cn (Int32.ofInt (ay - 128))) (cn + 1) (Int32.ofInt (ay - 128))) ((cn + 1) + 1) (Int32.ofInt (ay + 128))))), (h3, .inl (cZ, 100, .inl (upd (upd (upd fb cn 1) (cn + 1) 0) ((cn + 1) + 1) 0)))] := hD
  refine lv_aload_n hx hb dX4_addHair_62 rfl (lv_at hl 0 rfl) ?_
  refine va_get (D := D) (ci := 4) (v := .ref h0) (C := RX4) (T := TX4) (N := 12) hx hb hts iX4 hown hK hP 0 rfl rfl 6 (by decide) f_37 (fun _ h9 => h9) rfl dX4_addHair_63 ?_
  refine lv_iload_n hx hb dX4_addHair_66 rfl (lv_at hl 1 rfl) ?_
  refine lv_sipush (v := nI 128) hx hb dX4_addHair_67 (by decide) ?_
  refine lv_isub hx hb dX4_addHair_70 ?_
  refine q_eqi (y := Int32.ofInt (ax - 128)) (by rw [nI_z]; exact z_sub _ _) ?_
  refine lv_iload_n hx hb dX4_addHair_71 rfl (lv_at hl 2 rfl) ?_
  refine lv_sipush (v := nI 128) hx hb dX4_addHair_72 (by decide) ?_
  refine lv_iadd hx hb dX4_addHair_75 ?_
  refine q_eqi (y := Int32.ofInt (ay + 128)) (by rw [nI_z]; exact z_add _ _) ?_
  refine q_v0 (wr := [(o0, .inr (4, [.int (nI wd), .int (nI ht), .int (nI pn), .ref o1, .ref o2, .ref o3, .ref h0, .ref r0, .ref k0, .int (nI bf), .int (nI bt), .int fl]))]) (va_runVN (As := [.int (Int32.ofInt (ax - 128)), .int (Int32.ofInt (ay + 128))]) (rest := []) ⟨hx, hb, hml, hown, hts⟩ (c_X2_join l D cI cZ cB cJ H.size h0 h1 h2 h3 (((cn + 1) + 1) + 1) (upd (upd (upd fx cn (Int32.ofInt (ax - 128))) (cn + 1) (Int32.ofInt (ax + 128))) ((cn + 1) + 1) (Int32.ofInt (ax + 128))) (upd (upd (upd fy cn (Int32.ofInt (ay - 128))) (cn + 1) (Int32.ofInt (ay - 128))) ((cn + 1) + 1) (Int32.ofInt (ay + 128))) (upd (upd (upd fb cn 1) (cn + 1) 0) ((cn + 1) + 1) 0) (Int32.ofInt (ax - 128)) (Int32.ofInt (ay + 128)) (by omega)) ⟨va_cnB 2 hts gX4_addHair_X2_join_n93 rfl rfl rfl (NW.w hN 16 rfl) in_X2 (by decide +kernel) ⟨Nat.le_of_ble_eq_true rfl, Nat.le_of_ble_eq_true rfl⟩, im_93, se_93⟩ (q_preV (q_pre (wc := [(h0, .inr (2, [.ref h1, .ref h2, .ref h3, .int (nI (((cn + 1) + 1) + 1))])), (h1, .inl (cI, 100, .inl (upd (upd (upd fx cn (Int32.ofInt (ax - 128))) (cn + 1) (Int32.ofInt (ax + 128))) ((cn + 1) + 1) (Int32.ofInt (ax + 128))))), (h2, .inl (cI, 100, .inl (upd (upd (upd fy cn (Int32.ofInt (ay - 128))) (cn + 1) (Int32.ofInt (ay - 128))) ((cn + 1) + 1) (Int32.ofInt (ay + 128))))), (h3, .inl (cZ, 100, .inl (upd (upd (upd fb cn 1) (cn + 1) 0) ((cn + 1) + 1) 0)))]) hP hD hK hN [1, 2, 3, 4] (by decide) rfl) (va_recv hK hP (ci := 2) (q0 := 1) rfl rfl)) rfl rfl hl.1 rfl (lv_room (Nat.le_of_ble_eq_true rfl)) dX4_addHair_76 ⟨Nat.zero_le _, Nat.zero_le _⟩) hS hA hP hD [1, 2, 3, 4] [0] rfl rfl (by decide) (by decide) (fun u H locs hp_76 hP hD hS => ?_)
  have hP : va_P D qCl [(o0, .inr (4, [.int (nI wd), .int (nI ht), .int (nI pn), .ref o1, .ref o2, .ref o3, .ref h0, .ref r0, .ref k0, .int (nI bf), .int (nI bt), .int fl])), (h0, .inr (2, [.ref h1, .ref h2, .ref h3, .int (nI ((((cn + 1) + 1) + 1) + 1))])), (h1, .inl (cI, 100, .inl (upd (upd (upd (upd fx cn (Int32.ofInt (ax - 128))) (cn + 1) (Int32.ofInt (ax + 128))) ((cn + 1) + 1) (Int32.ofInt (ax + 128))) (((cn + 1) + 1) + 1) (Int32.ofInt (ax - 128))))), (h2, .inl (cI, 100, .inl (upd (upd (upd (upd fy cn (Int32.ofInt (ay - 128))) (cn + 1) (Int32.ofInt (ay - 128))) ((cn + 1) + 1) (Int32.ofInt (ay + 128))) (((cn + 1) + 1) + 1) (Int32.ofInt (ay + 128))))), (h3, .inl (cZ, 100, .inl (upd (upd (upd (upd fb cn 1) (cn + 1) 0) ((cn + 1) + 1) 0) (((cn + 1) + 1) + 1) 0)))] H := hP
  have hD : va_D A [(o0, .inr (4, [.int (nI wd), .int (nI ht), .int (nI pn), .ref o1, .ref o2, .ref o3, .ref h0, .ref r0, .ref k0, .int (nI bf), .int (nI bt), .int fl])), (h0, .inr (2, [.ref h1, .ref h2, .ref h3, .int (nI ((((cn + 1) + 1) + 1) + 1))])), (h1, .inl (cI, 100, .inl (upd (upd (upd (upd fx cn (Int32.ofInt (ax - 128))) (cn + 1) (Int32.ofInt (ax + 128))) ((cn + 1) + 1) (Int32.ofInt (ax + 128))) (((cn + 1) + 1) + 1) (Int32.ofInt (ax - 128))))), (h2, .inl (cI, 100, .inl (upd (upd (upd (upd fy cn (Int32.ofInt (ay - 128))) (cn + 1) (Int32.ofInt (ay - 128))) ((cn + 1) + 1) (Int32.ofInt (ay + 128))) (((cn + 1) + 1) + 1) (Int32.ofInt (ay + 128))))), (h3, .inl (cZ, 100, .inl (upd (upd (upd (upd fb cn 1) (cn + 1) 0) ((cn + 1) + 1) 0) (((cn + 1) + 1) + 1) 0)))] := hD
  have hr9 : PathR (upd (upd (upd (upd fx cn (Int32.ofInt (ax - 128))) (cn + 1) (Int32.ofInt (ax + 128))) ((cn + 1) + 1) (Int32.ofInt (ax + 128))) (((cn + 1) + 1) + 1) (Int32.ofInt (ax - 128))) (upd (upd (upd (upd fy cn (Int32.ofInt (ay - 128))) (cn + 1) (Int32.ofInt (ay - 128))) ((cn + 1) + 1) (Int32.ofInt (ay + 128))) (((cn + 1) + 1) + 1) (Int32.ofInt (ay + 128))) (upd (upd (upd (upd fb cn 1) (cn + 1) 0) ((cn + 1) + 1) 0) (((cn + 1) + 1) + 1) 0) (hairX X cn ax ay bx bY) (hairY Y cn ax ay bx bY) (hrB bg cn) (cn + 1 + 1 + 1 + 1) := (by rw [(hair_one ⟨h_2, h_8⟩ X Y cn).1, (hair_one ⟨h_2, h_8⟩ X Y cn).2]; exact PathR_add4 hR hc4 (by constructor <;> omega) (by constructor <;> omega) (by constructor <;> omega) (by constructor <;> omega) (by constructor <;> omega) (by constructor <;> omega) (by constructor <;> omega) (by constructor <;> omega))
  exact hQ _ _ _ _ (upd (upd (upd (upd fx cn (Int32.ofInt (ax - 128))) (cn + 1) (Int32.ofInt (ax + 128))) ((cn + 1) + 1) (Int32.ofInt (ax + 128))) (((cn + 1) + 1) + 1) (Int32.ofInt (ax - 128)), upd (upd (upd (upd fy cn (Int32.ofInt (ay - 128))) (cn + 1) (Int32.ofInt (ay - 128))) ((cn + 1) + 1) (Int32.ofInt (ay + 128))) (((cn + 1) + 1) + 1) (Int32.ofInt (ay + 128)), upd (upd (upd (upd fb cn 1) (cn + 1) 0) ((cn + 1) + 1) 0) (((cn + 1) + 1) + 1) 0) _ _ dX4_addHair_79 (Nat.le_refl _) (Nat.le_refl _) hr9 (hP.sub [0, 1, 2, 3, 4] rfl) hK (hD.sub [0, 1, 2, 3, 4] (by decide) rfl) hS

abbrev rm_X4_paintPoint : Room := { frames := 1, cells := 0, slots := 0, locals := 22 }
set_option maxHeartbeats 4000000 in
set_option maxRecDepth 100000 in
/-- RasterCover.paintPoint -/
theorem c_X4_paintPoint (l : Launch) (D : va_G) (cI cZ cB cJ : ClassId) (sz : Nat) (o0 : Nat) (o1 : Nat) (o2 : Nat) (o3 : Nat) (h0 : Nat) (r0 : Nat) (k0 : Nat) (wd : Nat) (ht : Nat) (pn : Nat) (bf : Nat) (bt : Nat) (fl : Int32) (pt : Nat) (pl : Nat) (v : Int32) (a : Int32) (fB : Nat → Int32) (fO : Nat → Int32) (hpn : pn ≤ 4) (hht : ht ≤ 48) (hwd : wd ≤ 48) (hpl : pl < 100) (hpt : pt < ht * wd) : Met l yX4_paintPoint wsX4_paintPoint rm_X4_paintPoint (va_Pc [.ref o0, .int (nI pt), .int (nI pl), .int v, .int a] (PC D (qT cI cZ cB cJ) [(o0, .inr (4, [.int (nI wd), .int (nI ht), .int (nI pn), .ref o1, .ref o2, .ref o3, .ref h0, .ref r0, .ref k0, .int (nI bf), .int (nI bt), .int fl])), (o1, .inl (cI, pn * ht * wd, .inl fB)), (o3, .inl (cZ, pn, .inl fO))] sz)) (va_Qv (fun (u : Unit) => True) (fun (u : Unit) => PO D (qT cI cZ cB cJ) (va_A [(o0, .inr (4, [.int (nI wd), .int (nI ht), .int (nI pn), .ref o1, .ref o2, .ref o3, .ref h0, .ref r0, .ref k0, .int (nI bf), .int (nI bt), .int fl])), (o1, .inl (cI, pn * ht * wd, .inl fB)), (o3, .inl (cZ, pn, .inl fO))] sz) [(o0, .inr (4, [.int (nI wd), .int (nI ht), .int (nI pn), .ref o1, .ref o2, .ref o3, .ref h0, .ref r0, .ref k0, .int (nI bf), .int (nI bt), .int fl])), (o1, .inl (cI, pn * ht * wd, .inl (ppt (fun zk => zk * ht * wd + pt) fO pl v a fB pn))), (o3, .inl (cZ, pn, .inl fO))]) (va_A [(o0, .inr (4, [.int (nI wd), .int (nI ht), .int (nI pn), .ref o1, .ref o2, .ref o3, .ref h0, .ref r0, .ref k0, .int (nI bf), .int (nI bt), .int fl])), (o1, .inl (cI, pn * ht * wd, .inl fB)), (o3, .inl (cZ, pn, .inl fO))] sz)) 0 0 (va_A [(o0, .inr (4, [.int (nI wd), .int (nI ht), .int (nI pn), .ref o1, .ref o2, .ref o3, .ref h0, .ref r0, .ref k0, .int (nI bf), .int (nI bt), .int fl])), (o1, .inl (cI, pn * ht * wd, .inl fB)), (o3, .inl (cZ, pn, .inl fO))] sz) := by
  refine q_entV (cc := cX4_paintPoint) (maxL := 7) (by decide +kernel) rfl (Nat.le_of_ble_eq_true rfl) ?_
  intro p e s m below meth c A Q ls hq hl hQ
  obtain ⟨hx, hb, hml, hts, hown, hin, hN, hK, hsz, hA, hP, hD, hS⟩ := hq
  have hown : s.vm.findClass RX4 = some m.cls := hown
  obtain ⟨H, hH⟩ : ∃ H, H = s.heap := ⟨_, rfl⟩
  rw [← hH] at hP ⊢
  have hS : va_S A s.heap H [] := by rw [hH]; exact va_S.rf
  clear hH
  have hl : lv_has ls 7 [(0, .ref o0), (1, .int (nI pt)), (2, .int (nI pl)), (3, .int v), (4, .int a)] := hl
  have iX4 : ∀ w ∈ wsX40, w ∈ wsX4_paintPoint := by decide +kernel
  have f_20 := hts (.fieldLink RX4 20 "RasterCover" "planes" "I") (by decide +kernel)
  have f_17 := hts (.fieldLink RX4 17 "RasterCover" "height" "I") (by decide +kernel)
  have f_13 := hts (.fieldLink RX4 13 "RasterCover" "width" "I") (by decide +kernel)
  have f_30 := hts (.fieldLink RX4 30 "RasterCover" "overs" "[Z") (by decide +kernel)
  have f_23 := hts (.fieldLink RX4 23 "RasterCover" "bytes" "[I") (by decide +kernel)
  have hb1 := Nat.mul_le_mul hht hwd
  have hb2 : pn * ht * wd ≤ 4 * 48 * 48 := Nat.mul_le_mul (Nat.mul_le_mul hpn hht) hwd
  refine lv_iconst (v := nI 0) hx hb dX4_paintPoint_0 (by decide) ?_
  refine lv_istore (lv' := [(5, .int (nI 0)), (0, .ref o0), (1, .int (nI pt)), (2, .int (nI pl)), (3, .int v), (4, .int a)]) hx hb dX4_paintPoint_1 hl (by decide) rfl (fun ls hl => ?_)
  have L_3 : ∀ (fuel : Nat) (k : Nat) (g : Nat → Int32), pn - k < fuel → (k ≤ pn) → (g = ppt (fun zk => zk * ht * wd + pt) fO pl v a fB k) → ∀ (H : Heap) (locs : List Loc) (ls : Array Slot), va_P D qCl [(o0, .inr (4, [.int (nI wd), .int (nI ht), .int (nI pn), .ref o1, .ref o2, .ref o3, .ref h0, .ref r0, .ref k0, .int (nI bf), .int (nI bt), .int fl])), (o1, .inl (cI, pn * ht * wd, .inl g)), (o3, .inl (cZ, pn, .inl fO))] H → va_D A [(o0, .inr (4, [.int (nI wd), .int (nI ht), .int (nI pn), .ref o1, .ref o2, .ref o3, .ref h0, .ref r0, .ref k0, .int (nI bf), .int (nI bt), .int fl])), (o1, .inl (cI, pn * ht * wd, .inl g)), (o3, .inl (cZ, pn, .inl fO))] → va_S A s.heap H locs → lv_has ls 7 [(5, .int (nI k)), (0, .ref o0), (1, .int (nI pt)), (2, .int (nI pl)), (3, .int v), (4, .int a)] → W p l e rm_X4_paintPoint s m ([.ref o0, .int (nI pt), .int (nI pl), .int v, .int a] : List Value).toArray below meth c H locs 0 0 Q (F0 m 3 ls []) := by
    intro fuel
    induction fuel with
    | zero =>
      intro k g hm
      exact absurd hm (Nat.not_lt_zero _)
    | succ fuel ih_3 =>
      intro k g hm_3 hk hg H locs ls hP hD hS hl
      refine lv_iload hx hb dX4_paintPoint_3 (lv_at hl 0 rfl) ?_
      refine lv_aload_n hx hb dX4_paintPoint_5 rfl (lv_at hl 1 rfl) ?_
      refine va_get (D := D) (ci := 4) (v := .int (nI pn)) (C := RX4) (T := TX4) (N := 12) hx hb hts iX4 hown hK hP 0 rfl rfl 2 (by decide) f_20 (fun _ h9 => h9) rfl dX4_paintPoint_6 ?_
      refine q_ge (tgt := 93) hx hb (by omega) (by omega) dX4_paintPoint_9 (by decide) (fun h_9 => ?_) (fun h_9 => ?_)
      · have e9 : k = pn := by omega
        rw [e9] at hg
        subst hg
        exact hQ _ _ _ _ () _ _ dX4_paintPoint_93 (Nat.le_refl _) (Nat.le_refl _) trivial (hP.sub [0, 1, 2] rfl) hK (hD.sub [0, 1, 2] (by decide) rfl) hS
      have hb3 : (k + 1) * (ht * wd) ≤ pn * (ht * wd) := Nat.mul_le_mul_right _ (show k + 1 ≤ pn by omega)
      rw [Nat.add_mul, Nat.one_mul, ← Nat.mul_assoc, ← Nat.mul_assoc] at hb3
      refine lv_iload hx hb dX4_paintPoint_12 (lv_at hl 0 rfl) ?_
      refine lv_aload_n hx hb dX4_paintPoint_14 rfl (lv_at hl 1 rfl) ?_
      refine va_get (D := D) (ci := 4) (v := .int (nI ht)) (C := RX4) (T := TX4) (N := 12) hx hb hts iX4 hown hK hP 0 rfl rfl 1 (by decide) f_17 (fun _ h9 => h9) rfl dX4_paintPoint_15 ?_
      refine lv_imul hx hb dX4_paintPoint_18 ?_
      refine q_eqi (pk_mul _ _) ?_
      refine lv_aload_n hx hb dX4_paintPoint_19 rfl (lv_at hl 1 rfl) ?_
      refine va_get (D := D) (ci := 4) (v := .int (nI wd)) (C := RX4) (T := TX4) (N := 12) hx hb hts iX4 hown hK hP 0 rfl rfl 0 (by decide) f_13 (fun _ h9 => h9) rfl dX4_paintPoint_20 ?_
      refine lv_imul hx hb dX4_paintPoint_23 ?_
      refine q_eqi (pk_mul _ _) ?_
      refine lv_iload_n hx hb dX4_paintPoint_24 rfl (lv_at hl 2 rfl) ?_
      refine lv_iadd hx hb dX4_paintPoint_25 ?_
      refine q_eqi (nI_add _ _) ?_
      refine lv_istore (lv' := [(6, .int (nI (((k * ht) * wd) + pt))), (5, .int (nI k)), (0, .ref o0), (1, .int (nI pt)), (2, .int (nI pl)), (3, .int v), (4, .int a)]) hx hb dX4_paintPoint_26 hl (by decide) rfl (fun ls hl => ?_)
      refine lv_iload hx hb dX4_paintPoint_28 (lv_at hl 1 rfl) ?_
      refine lv_iload_n hx hb dX4_paintPoint_30 rfl (lv_at hl 4 rfl) ?_
      refine q_ne (tgt := 57) hx hb (by omega) (by omega) dX4_paintPoint_31 (by decide) (fun h_31 => ?_) (fun h_31 => ?_)
      · refine lv_aload_n hx hb dX4_paintPoint_57 rfl (lv_at hl 2 rfl) ?_
        refine va_get (D := D) (ci := 4) (v := .ref o3) (C := RX4) (T := TX4) (N := 12) hx hb hts iX4 hown hK hP 0 rfl rfl 5 (by decide) f_30 (fun _ h9 => h9) rfl dX4_paintPoint_58 ?_
        refine lv_iload hx hb dX4_paintPoint_61 (lv_at hl 1 rfl) ?_
        refine q_zald hx hb hK hP 2 1 rfl rfl (k := k) (by omega) (by omega) dX4_paintPoint_63 ?_
        refine lv_if_ne (tgt := 87) hx hb dX4_paintPoint_64 (by decide) (fun h_64 => ?_) (fun h_64 => ?_)
        · refine lv_iinc (v := nI (k + 1)) (lv' := [(5, .int (nI (k + 1))), (6, .int (nI (((k * ht) * wd) + pt))), (0, .ref o0), (1, .int (nI pt)), (2, .int (nI pl)), (3, .int v), (4, .int a)]) hx hb dX4_paintPoint_87 hl (k := 1) rfl (q_inc _) (by decide) rfl (fun ls hl => ?_)
          refine lv_goto (tgt := 3) hx hb dX4_paintPoint_90 (by decide) ?_
          exact ih_3 (k + 1) g (by omega) (by omega) (by rw [hg]; show _ = (if k = pl then _ else if fO k = 0 then _ else _); rw [if_neg h_31, if_neg h_64]) _ _ _ (hP.sub [0, 1, 2] rfl) (hD.sub [0, 1, 2] (by decide) rfl) hS (lv_sub hl [0, 2, 3, 4, 5, 6] rfl)
        refine lv_aload_n hx hb dX4_paintPoint_67 rfl (lv_at hl 2 rfl) ?_
        refine va_get (D := D) (ci := 4) (v := .ref o1) (C := RX4) (T := TX4) (N := 12) hx hb hts iX4 hown hK hP 0 rfl rfl 3 (by decide) f_23 (fun _ h9 => h9) rfl dX4_paintPoint_68 ?_
        refine lv_iload hx hb dX4_paintPoint_71 (lv_at hl 0 rfl) ?_
        refine lv_aload_n hx hb dX4_paintPoint_73 rfl (lv_at hl 2 rfl) ?_
        refine va_get (D := D) (ci := 4) (v := .ref o1) (C := RX4) (T := TX4) (N := 12) hx hb hts iX4 hown hK hP 0 rfl rfl 3 (by decide) f_23 (fun _ h9 => h9) rfl dX4_paintPoint_74 ?_
        refine lv_iload hx hb dX4_paintPoint_77 (lv_at hl 0 rfl) ?_
        refine q_iald hx hb hK hP 1 0 rfl rfl (k := (((k * ht) * wd) + pt)) (by omega) (by omega) dX4_paintPoint_79 ?_
        refine lv_iconst (v := nI 0) hx hb dX4_paintPoint_80 (by decide) ?_
        refine lv_iload hx hb dX4_paintPoint_81 (lv_at hl 6 rfl) ?_
        refine q_i0 (wr := [(o0, .inr (4, [.int (nI wd), .int (nI ht), .int (nI pn), .ref o1, .ref o2, .ref o3, .ref h0, .ref r0, .ref k0, .int (nI bf), .int (nI bt), .int fl])), (o1, .inl (cI, pn * ht * wd, .inl g)), (o3, .inl (cZ, pn, .inl fO))]) (va_runS (As := [.int (g (((k * ht) * wd) + pt)), .int (nI 0), .int a]) (rest := [.int (nI (((k * ht) * wd) + pt)), .ref o1]) ⟨hx, hb, hml, hown, hts⟩ (c_X4_blend l D cI cZ cB cJ H.size (g (((k * ht) * wd) + pt)) (nI 0) a) (va_cwS 3 hts gX4_paintPoint_X4_blend rfl rfl rfl (by decide +kernel) ⟨Nat.le_of_ble_eq_true rfl, Nat.le_of_ble_eq_true rfl⟩) (q_pre (wc := []) hP hD hK hN [] (by decide) rfl) rfl rfl hl.1 rfl (lv_room (Nat.le_of_ble_eq_true rfl)) dX4_paintPoint_83 ⟨Nat.zero_le _, Nat.zero_le _⟩) hS hA hP hD [] [0, 1, 2] rfl rfl (by decide) (by decide) (fun r_83 u H locs hp_83 hP hD hS => ?_)
        have hP : va_P D qCl [(o0, .inr (4, [.int (nI wd), .int (nI ht), .int (nI pn), .ref o1, .ref o2, .ref o3, .ref h0, .ref r0, .ref k0, .int (nI bf), .int (nI bt), .int fl])), (o1, .inl (cI, pn * ht * wd, .inl g)), (o3, .inl (cZ, pn, .inl fO))] H := hP
        have hD : va_D A [(o0, .inr (4, [.int (nI wd), .int (nI ht), .int (nI pn), .ref o1, .ref o2, .ref o3, .ref h0, .ref r0, .ref k0, .int (nI bf), .int (nI bt), .int fl])), (o1, .inl (cI, pn * ht * wd, .inl g)), (o3, .inl (cZ, pn, .inl fO))] := hD
        have hp_83 : r_83 = bldv (g (((k * ht) * wd) + pt)) (nI 0) a := hp_83
        subst hp_83
        refine q_iast hx hb hK hP hD hS 1 0 rfl rfl (k := (((k * ht) * wd) + pt)) (by omega) (by omega) dX4_paintPoint_86 (fun H locs hP hD hS => ?_)
        have hP : va_P D qCl [(o0, .inr (4, [.int (nI wd), .int (nI ht), .int (nI pn), .ref o1, .ref o2, .ref o3, .ref h0, .ref r0, .ref k0, .int (nI bf), .int (nI bt), .int fl])), (o1, .inl (cI, pn * ht * wd, .inl (upd g (((k * ht) * wd) + pt) (bldv (g (((k * ht) * wd) + pt)) (nI 0) a)))), (o3, .inl (cZ, pn, .inl fO))] H := hP
        have hD : va_D A [(o0, .inr (4, [.int (nI wd), .int (nI ht), .int (nI pn), .ref o1, .ref o2, .ref o3, .ref h0, .ref r0, .ref k0, .int (nI bf), .int (nI bt), .int fl])), (o1, .inl (cI, pn * ht * wd, .inl (upd g (((k * ht) * wd) + pt) (bldv (g (((k * ht) * wd) + pt)) (nI 0) a)))), (o3, .inl (cZ, pn, .inl fO))] := hD
        refine lv_iinc (v := nI (k + 1)) (lv' := [(5, .int (nI (k + 1))), (6, .int (nI (((k * ht) * wd) + pt))), (0, .ref o0), (1, .int (nI pt)), (2, .int (nI pl)), (3, .int v), (4, .int a)]) hx hb dX4_paintPoint_87 hl (k := 1) rfl (q_inc _) (by decide) rfl (fun ls hl => ?_)
        refine lv_goto (tgt := 3) hx hb dX4_paintPoint_90 (by decide) ?_
        exact ih_3 (k + 1) (upd g (((k * ht) * wd) + pt) (bldv (g (((k * ht) * wd) + pt)) (nI 0) a)) (by omega) (by omega) (by rw [hg]; show _ = (if k = pl then _ else if fO k = 0 then _ else _); rw [if_neg h_31, if_pos h_64]) _ _ _ (hP.sub [0, 1, 2] rfl) (hD.sub [0, 1, 2] (by decide) rfl) hS (lv_sub hl [0, 2, 3, 4, 5, 6] rfl)
      refine lv_aload_n hx hb dX4_paintPoint_34 rfl (lv_at hl 2 rfl) ?_
      refine va_get (D := D) (ci := 4) (v := .ref o1) (C := RX4) (T := TX4) (N := 12) hx hb hts iX4 hown hK hP 0 rfl rfl 3 (by decide) f_23 (fun _ h9 => h9) rfl dX4_paintPoint_35 ?_
      refine lv_iload hx hb dX4_paintPoint_38 (lv_at hl 0 rfl) ?_
      refine lv_aload_n hx hb dX4_paintPoint_40 rfl (lv_at hl 2 rfl) ?_
      refine va_get (D := D) (ci := 4) (v := .ref o1) (C := RX4) (T := TX4) (N := 12) hx hb hts iX4 hown hK hP 0 rfl rfl 3 (by decide) f_23 (fun _ h9 => h9) rfl dX4_paintPoint_41 ?_
      refine lv_iload hx hb dX4_paintPoint_44 (lv_at hl 0 rfl) ?_
      refine q_iald hx hb hK hP 1 0 rfl rfl (k := (((k * ht) * wd) + pt)) (by omega) (by omega) dX4_paintPoint_46 ?_
      refine lv_iload_n hx hb dX4_paintPoint_47 rfl (lv_at hl 5 rfl) ?_
      refine lv_iload hx hb dX4_paintPoint_48 (lv_at hl 6 rfl) ?_
      refine q_i0 (wr := [(o0, .inr (4, [.int (nI wd), .int (nI ht), .int (nI pn), .ref o1, .ref o2, .ref o3, .ref h0, .ref r0, .ref k0, .int (nI bf), .int (nI bt), .int fl])), (o1, .inl (cI, pn * ht * wd, .inl g)), (o3, .inl (cZ, pn, .inl fO))]) (va_runS (As := [.int (g (((k * ht) * wd) + pt)), .int v, .int a]) (rest := [.int (nI (((k * ht) * wd) + pt)), .ref o1]) ⟨hx, hb, hml, hown, hts⟩ (c_X4_blend l D cI cZ cB cJ H.size (g (((k * ht) * wd) + pt)) v a) (va_cwS 3 hts gX4_paintPoint_X4_blend rfl rfl rfl (by decide +kernel) ⟨Nat.le_of_ble_eq_true rfl, Nat.le_of_ble_eq_true rfl⟩) (q_pre (wc := []) hP hD hK hN [] (by decide) rfl) rfl rfl hl.1 rfl (lv_room (Nat.le_of_ble_eq_true rfl)) dX4_paintPoint_50 ⟨Nat.zero_le _, Nat.zero_le _⟩) hS hA hP hD [] [0, 1, 2] rfl rfl (by decide) (by decide) (fun r_50 u H locs hp_50 hP hD hS => ?_)
      have hP : va_P D qCl [(o0, .inr (4, [.int (nI wd), .int (nI ht), .int (nI pn), .ref o1, .ref o2, .ref o3, .ref h0, .ref r0, .ref k0, .int (nI bf), .int (nI bt), .int fl])), (o1, .inl (cI, pn * ht * wd, .inl g)), (o3, .inl (cZ, pn, .inl fO))] H := hP
      have hD : va_D A [(o0, .inr (4, [.int (nI wd), .int (nI ht), .int (nI pn), .ref o1, .ref o2, .ref o3, .ref h0, .ref r0, .ref k0, .int (nI bf), .int (nI bt), .int fl])), (o1, .inl (cI, pn * ht * wd, .inl g)), (o3, .inl (cZ, pn, .inl fO))] := hD
      have hp_50 : r_50 = bldv (g (((k * ht) * wd) + pt)) v a := hp_50
      subst hp_50
      refine q_iast hx hb hK hP hD hS 1 0 rfl rfl (k := (((k * ht) * wd) + pt)) (by omega) (by omega) dX4_paintPoint_53 (fun H locs hP hD hS => ?_)
      have hP : va_P D qCl [(o0, .inr (4, [.int (nI wd), .int (nI ht), .int (nI pn), .ref o1, .ref o2, .ref o3, .ref h0, .ref r0, .ref k0, .int (nI bf), .int (nI bt), .int fl])), (o1, .inl (cI, pn * ht * wd, .inl (upd g (((k * ht) * wd) + pt) (bldv (g (((k * ht) * wd) + pt)) v a)))), (o3, .inl (cZ, pn, .inl fO))] H := hP
      have hD : va_D A [(o0, .inr (4, [.int (nI wd), .int (nI ht), .int (nI pn), .ref o1, .ref o2, .ref o3, .ref h0, .ref r0, .ref k0, .int (nI bf), .int (nI bt), .int fl])), (o1, .inl (cI, pn * ht * wd, .inl (upd g (((k * ht) * wd) + pt) (bldv (g (((k * ht) * wd) + pt)) v a)))), (o3, .inl (cZ, pn, .inl fO))] := hD
      refine lv_goto (tgt := 87) hx hb dX4_paintPoint_54 (by decide) ?_
      refine lv_iinc (v := nI (k + 1)) (lv' := [(5, .int (nI (k + 1))), (6, .int (nI (((k * ht) * wd) + pt))), (0, .ref o0), (1, .int (nI pt)), (2, .int (nI pl)), (3, .int v), (4, .int a)]) hx hb dX4_paintPoint_87 hl (k := 1) rfl (q_inc _) (by decide) rfl (fun ls hl => ?_)
      refine lv_goto (tgt := 3) hx hb dX4_paintPoint_90 (by decide) ?_
      exact ih_3 (k + 1) (upd g (((k * ht) * wd) + pt) (bldv (g (((k * ht) * wd) + pt)) v a)) (by omega) (by omega) (by rw [hg]; show _ = (if k = pl then _ else if fO k = 0 then _ else _); rw [if_pos h_31]) _ _ _ (hP.sub [0, 1, 2] rfl) (hD.sub [0, 1, 2] (by decide) rfl) hS (lv_sub hl [0, 2, 3, 4, 5, 6] rfl)
  exact L_3 _ 0 fB (Nat.lt_succ_self _) (Nat.zero_le _) rfl _ _ _ (hP.sub [0, 1, 2] rfl) (hD.sub [0, 1, 2] (by decide) rfl) hS (lv_sub hl [0, 1, 2, 3, 4, 5] rfl)

abbrev rm_X4_paintRow : Room := { frames := 2, cells := 0, slots := 0, locals := 48 }
set_option maxHeartbeats 4000000 in
set_option maxRecDepth 100000 in
/-- RasterCover.paintRow -/
theorem c_X4_paintRow (l : Launch) (D : va_G) (cI cZ cB cJ : ClassId) (sz : Nat) (o0 : Nat) (o1 : Nat) (o2 : Nat) (o3 : Nat) (h0 : Nat) (r0 : Nat) (k0 : Nat) (wd : Nat) (ht : Nat) (pn : Nat) (bf : Nat) (bt : Nat) (fl : Int32) (r1 : Nat) (z0 : Nat) (un : Nat → Int32) (y : Nat) (pl : Nat) (v : Int32) (fB : Nat → Int32) (fC : Nat → Int32) (fO : Nat → Int32) (hpn : pn ≤ 4) (hht : ht ≤ 48) (hwd : wd ≤ 48) (hpl : pl < 100) (hy : y < ht) : Met l yX4_paintRow wsX4_paintRow rm_X4_paintRow (va_Pc [.ref o0, .int (nI y), .int (nI pl), .int v] (PC D (qT cI cZ cB cJ) [(o0, .inr (4, [.int (nI wd), .int (nI ht), .int (nI pn), .ref o1, .ref o2, .ref o3, .ref h0, .ref r0, .ref k0, .int (nI bf), .int (nI bt), .int fl])), (o1, .inl (cI, pn * ht * wd, .inl fB)), (o2, .inl (cI, ht * wd, .inl fC)), (o3, .inl (cZ, pn, .inl fO)), (r0, .inr (3, [.ref r1, .ref z0])), (r1, .inl (cI, wd, .inl un))] sz)) (va_Qi (fun (r : Int32) (u : Unit) => r = nI ((prow (fun zx => mulv (cvv (un zx)) (fC (y * wd + zx))) (fun zx zk => zk * ht * wd + (y * wd + zx)) fO pl pn v fB wd).2)) (fun (u : Unit) => PO D (qT cI cZ cB cJ) (va_A [(o0, .inr (4, [.int (nI wd), .int (nI ht), .int (nI pn), .ref o1, .ref o2, .ref o3, .ref h0, .ref r0, .ref k0, .int (nI bf), .int (nI bt), .int fl])), (o1, .inl (cI, pn * ht * wd, .inl fB)), (o2, .inl (cI, ht * wd, .inl fC)), (o3, .inl (cZ, pn, .inl fO)), (r0, .inr (3, [.ref r1, .ref z0])), (r1, .inl (cI, wd, .inl un))] sz) [(o0, .inr (4, [.int (nI wd), .int (nI ht), .int (nI pn), .ref o1, .ref o2, .ref o3, .ref h0, .ref r0, .ref k0, .int (nI bf), .int (nI bt), .int fl])), (o1, .inl (cI, pn * ht * wd, .inl ((prow (fun zx => mulv (cvv (un zx)) (fC (y * wd + zx))) (fun zx zk => zk * ht * wd + (y * wd + zx)) fO pl pn v fB wd).1))), (o2, .inl (cI, ht * wd, .inl fC)), (o3, .inl (cZ, pn, .inl fO)), (r0, .inr (3, [.ref r1, .ref z0])), (r1, .inl (cI, wd, .inl un))]) (va_A [(o0, .inr (4, [.int (nI wd), .int (nI ht), .int (nI pn), .ref o1, .ref o2, .ref o3, .ref h0, .ref r0, .ref k0, .int (nI bf), .int (nI bt), .int fl])), (o1, .inl (cI, pn * ht * wd, .inl fB)), (o2, .inl (cI, ht * wd, .inl fC)), (o3, .inl (cZ, pn, .inl fO)), (r0, .inr (3, [.ref r1, .ref z0])), (r1, .inl (cI, wd, .inl un))] sz)) 0 0 (va_A [(o0, .inr (4, [.int (nI wd), .int (nI ht), .int (nI pn), .ref o1, .ref o2, .ref o3, .ref h0, .ref r0, .ref k0, .int (nI bf), .int (nI bt), .int fl])), (o1, .inl (cI, pn * ht * wd, .inl fB)), (o2, .inl (cI, ht * wd, .inl fC)), (o3, .inl (cZ, pn, .inl fO)), (r0, .inr (3, [.ref r1, .ref z0])), (r1, .inl (cI, wd, .inl un))] sz) := by
  refine q_entI (cc := cX4_paintRow) (maxL := 8) (by decide +kernel) rfl (Nat.le_of_ble_eq_true rfl) ?_
  intro p e s m below meth c A Q ls hq hl hQ
  obtain ⟨hx, hb, hml, hts, hown, hin, hN, hK, hsz, hA, hP, hD, hS⟩ := hq
  have hown : s.vm.findClass RX4 = some m.cls := hown
  obtain ⟨H, hH⟩ : ∃ H, H = s.heap := ⟨_, rfl⟩
  rw [← hH] at hP ⊢
  have hS : va_S A s.heap H [] := by rw [hH]; exact va_S.rf
  clear hH
  have hl : lv_has ls 8 [(0, .ref o0), (1, .int (nI y)), (2, .int (nI pl)), (3, .int v)] := hl
  have iX4 : ∀ w ∈ wsX40, w ∈ wsX4_paintRow := by decide +kernel
  have f_13 := hts (.fieldLink RX4 13 "RasterCover" "width" "I") (by decide +kernel)
  have f_46 := hts (.fieldLink RX4 46 "RasterCover" "rowCover" "LRasterCover$RowCover;") (by decide +kernel)
  have in_X3 := hts (.initialized RX3) (by decide +kernel)
  have im_124 := hts (.instanceMethod yX3_at) (by decide +kernel)
  have se_124 := hts (.selects RX3 yX3_at yX3_at) (by decide +kernel)
  have f_27 := hts (.fieldLink RX4 27 "RasterCover" "clips" "[I") (by decide +kernel)
  have hb1 := Nat.mul_le_mul hht hwd
  have hb3 : (y + 1) * wd ≤ ht * wd := Nat.mul_le_mul_right _ (show y + 1 ≤ ht by omega)
  rw [Nat.add_mul, Nat.one_mul] at hb3
  refine lv_iconst (v := nI 0) hx hb dX4_paintRow_0 (by decide) ?_
  refine lv_istore (lv' := [(4, .int (nI 0)), (0, .ref o0), (1, .int (nI y)), (2, .int (nI pl)), (3, .int v)]) hx hb dX4_paintRow_1 hl (by decide) rfl (fun ls hl => ?_)
  refine lv_iconst (v := nI 0) hx hb dX4_paintRow_3 (by decide) ?_
  refine lv_istore (lv' := [(5, .int (nI 0)), (4, .int (nI 0)), (0, .ref o0), (1, .int (nI y)), (2, .int (nI pl)), (3, .int v)]) hx hb dX4_paintRow_4 hl (by decide) rfl (fun ls hl => ?_)
  have L_6 : ∀ (fuel : Nat) (k : Nat) (g : Nat → Int32) (q : Nat), wd - k < fuel → (k ≤ wd) → (q ≤ k) → (g = (prow (fun zx => mulv (cvv (un zx)) (fC (y * wd + zx))) (fun zx zk => zk * ht * wd + (y * wd + zx)) fO pl pn v fB k).1) → (q = (prow (fun zx => mulv (cvv (un zx)) (fC (y * wd + zx))) (fun zx zk => zk * ht * wd + (y * wd + zx)) fO pl pn v fB k).2) → ∀ (H : Heap) (locs : List Loc) (ls : Array Slot), va_P D qCl [(o0, .inr (4, [.int (nI wd), .int (nI ht), .int (nI pn), .ref o1, .ref o2, .ref o3, .ref h0, .ref r0, .ref k0, .int (nI bf), .int (nI bt), .int fl])), (o1, .inl (cI, pn * ht * wd, .inl g)), (o2, .inl (cI, ht * wd, .inl fC)), (o3, .inl (cZ, pn, .inl fO)), (r0, .inr (3, [.ref r1, .ref z0])), (r1, .inl (cI, wd, .inl un))] H → va_D A [(o0, .inr (4, [.int (nI wd), .int (nI ht), .int (nI pn), .ref o1, .ref o2, .ref o3, .ref h0, .ref r0, .ref k0, .int (nI bf), .int (nI bt), .int fl])), (o1, .inl (cI, pn * ht * wd, .inl g)), (o2, .inl (cI, ht * wd, .inl fC)), (o3, .inl (cZ, pn, .inl fO)), (r0, .inr (3, [.ref r1, .ref z0])), (r1, .inl (cI, wd, .inl un))] → va_S A s.heap H locs → lv_has ls 8 [(5, .int (nI k)), (4, .int (nI q)), (0, .ref o0), (1, .int (nI y)), (2, .int (nI pl)), (3, .int v)] → W p l e rm_X4_paintRow s m ([.ref o0, .int (nI y), .int (nI pl), .int v] : List Value).toArray below meth c H locs 0 0 Q (F0 m 6 ls []) := by
    intro fuel
    induction fuel with
    | zero =>
      intro k g q hm
      exact absurd hm (Nat.not_lt_zero _)
    | succ fuel ih_6 =>
      intro k g q hm_6 hk hq9 hg hq H locs ls hP hD hS hl
      refine lv_iload hx hb dX4_paintRow_6 (lv_at hl 0 rfl) ?_
      refine lv_aload_n hx hb dX4_paintRow_8 rfl (lv_at hl 2 rfl) ?_
      refine va_get (D := D) (ci := 4) (v := .int (nI wd)) (C := RX4) (T := TX4) (N := 12) hx hb hts iX4 hown hK hP 0 rfl rfl 0 (by decide) f_13 (fun _ h9 => h9) rfl dX4_paintRow_9 ?_
      refine q_ge (tgt := 71) hx hb (by omega) (by omega) dX4_paintRow_12 (by decide) (fun h_12 => ?_) (fun h_12 => ?_)
      · refine lv_iload hx hb dX4_paintRow_71 (lv_at hl 1 rfl) ?_
        have e9 : k = wd := by omega
        rw [e9] at hg hq
        subst hg
        have hr9 : (nI q) = nI ((prow (fun zx => mulv (cvv (un zx)) (fC (y * wd + zx))) (fun zx zk => zk * ht * wd + (y * wd + zx)) fO pl pn v fB wd).2) := (congrArg nI hq)
        exact hQ _ _ _ _ (nI q) () _ _ dX4_paintRow_73 (Nat.le_refl _) (Nat.le_refl _) hr9 (hP.sub [0, 1, 2, 3, 4, 5] rfl) hK (hD.sub [0, 1, 2, 3, 4, 5] (by decide) rfl) hS
      refine lv_iload_n hx hb dX4_paintRow_15 rfl (lv_at hl 3 rfl) ?_
      refine lv_aload_n hx hb dX4_paintRow_16 rfl (lv_at hl 2 rfl) ?_
      refine va_get (D := D) (ci := 4) (v := .int (nI wd)) (C := RX4) (T := TX4) (N := 12) hx hb hts iX4 hown hK hP 0 rfl rfl 0 (by decide) f_13 (fun _ h9 => h9) rfl dX4_paintRow_17 ?_
      refine lv_imul hx hb dX4_paintRow_20 ?_
      refine q_eqi (pk_mul _ _) ?_
      refine lv_iload hx hb dX4_paintRow_21 (lv_at hl 0 rfl) ?_
      refine lv_iadd hx hb dX4_paintRow_23 ?_
      refine q_eqi (nI_add _ _) ?_
      refine lv_istore (lv' := [(6, .int (nI ((y * wd) + k))), (5, .int (nI k)), (4, .int (nI q)), (0, .ref o0), (1, .int (nI y)), (2, .int (nI pl)), (3, .int v)]) hx hb dX4_paintRow_24 hl (by decide) rfl (fun ls hl => ?_)
      have J_65 : ∀ (g2 : Nat → Int32) (q2 : Nat), (q2 ≤ k + 1) → (g2 = (prow (fun zx => mulv (cvv (un zx)) (fC (y * wd + zx))) (fun zx zk => zk * ht * wd + (y * wd + zx)) fO pl pn v fB (k + 1)).1) → (q2 = (prow (fun zx => mulv (cvv (un zx)) (fC (y * wd + zx))) (fun zx zk => zk * ht * wd + (y * wd + zx)) fO pl pn v fB (k + 1)).2) → ∀ (H : Heap) (locs : List Loc) (ls : Array Slot), va_P D qCl [(o0, .inr (4, [.int (nI wd), .int (nI ht), .int (nI pn), .ref o1, .ref o2, .ref o3, .ref h0, .ref r0, .ref k0, .int (nI bf), .int (nI bt), .int fl])), (o1, .inl (cI, pn * ht * wd, .inl g2)), (o2, .inl (cI, ht * wd, .inl fC)), (o3, .inl (cZ, pn, .inl fO)), (r0, .inr (3, [.ref r1, .ref z0])), (r1, .inl (cI, wd, .inl un))] H → va_D A [(o0, .inr (4, [.int (nI wd), .int (nI ht), .int (nI pn), .ref o1, .ref o2, .ref o3, .ref h0, .ref r0, .ref k0, .int (nI bf), .int (nI bt), .int fl])), (o1, .inl (cI, pn * ht * wd, .inl g2)), (o2, .inl (cI, ht * wd, .inl fC)), (o3, .inl (cZ, pn, .inl fO)), (r0, .inr (3, [.ref r1, .ref z0])), (r1, .inl (cI, wd, .inl un))] → va_S A s.heap H locs → lv_has ls 8 [(6, .int (nI ((y * wd) + k))), (5, .int (nI k)), (4, .int (nI q2)), (0, .ref o0), (1, .int (nI y)), (2, .int (nI pl)), (3, .int v)] → W p l e rm_X4_paintRow s m ([.ref o0, .int (nI y), .int (nI pl), .int v] : List Value).toArray below meth c H locs 0 0 Q (F0 m 65 ls []) := by
        intro g2 q2 hq8 hg2 hq2 H locs ls hP hD hS hl
        refine lv_iinc (v := nI (k + 1)) (lv' := [(5, .int (nI (k + 1))), (6, .int (nI ((y * wd) + k))), (4, .int (nI q2)), (0, .ref o0), (1, .int (nI y)), (2, .int (nI pl)), (3, .int v)]) hx hb dX4_paintRow_65 hl (k := 1) rfl (q_inc _) (by decide) rfl (fun ls hl => ?_)
        refine lv_goto (tgt := 6) hx hb dX4_paintRow_68 (by decide) ?_
        exact ih_6 (k + 1) g2 q2 (by omega) (by omega) (by omega) hg2 hq2 _ _ _ (hP.sub [0, 1, 2, 3, 4, 5] rfl) (hD.sub [0, 1, 2, 3, 4, 5] (by decide) rfl) hS (lv_sub hl [0, 2, 3, 4, 5, 6] rfl)
      refine lv_aload_n hx hb dX4_paintRow_26 rfl (lv_at hl 3 rfl) ?_
      refine va_get (D := D) (ci := 4) (v := .ref r0) (C := RX4) (T := TX4) (N := 12) hx hb hts iX4 hown hK hP 0 rfl rfl 7 (by decide) f_46 (fun _ h9 => h9) rfl dX4_paintRow_27 ?_
      refine lv_iload hx hb dX4_paintRow_30 (lv_at hl 1 rfl) ?_
      refine q_i0 (wr := [(o0, .inr (4, [.int (nI wd), .int (nI ht), .int (nI pn), .ref o1, .ref o2, .ref o3, .ref h0, .ref r0, .ref k0, .int (nI bf), .int (nI bt), .int fl])), (o1, .inl (cI, pn * ht * wd, .inl g)), (o2, .inl (cI, ht * wd, .inl fC)), (o3, .inl (cZ, pn, .inl fO))]) (va_runVN (As := [.int (nI k)]) (rest := []) ⟨hx, hb, hml, hown, hts⟩ (c_X3_at l D cI cZ cB cJ H.size r0 r1 z0 wd un k (by omega) (by omega)) ⟨va_cnB 1 hts gX4_paintRow_X3_at_n124 rfl rfl rfl (NW.w hN 19 rfl) in_X3 (by decide +kernel) ⟨Nat.le_of_ble_eq_true rfl, Nat.le_of_ble_eq_true rfl⟩, im_124, se_124⟩ (q_preV (q_pre (wc := [(r0, .inr (3, [.ref r1, .ref z0])), (r1, .inl (cI, wd, .inl un))]) hP hD hK hN [4, 5] (by decide) rfl) (va_recv hK hP (ci := 3) (q0 := 4) rfl rfl)) rfl rfl hl.1 rfl (lv_room (Nat.le_of_ble_eq_true rfl)) dX4_paintRow_32 ⟨Nat.zero_le _, Nat.zero_le _⟩) hS hA hP hD [4, 5] [0, 1, 2, 3] rfl rfl (by decide) (by decide) (fun r_32 u H locs hp_32 hP hD hS => ?_)
      have hP : va_P D qCl [(o0, .inr (4, [.int (nI wd), .int (nI ht), .int (nI pn), .ref o1, .ref o2, .ref o3, .ref h0, .ref r0, .ref k0, .int (nI bf), .int (nI bt), .int fl])), (o1, .inl (cI, pn * ht * wd, .inl g)), (o2, .inl (cI, ht * wd, .inl fC)), (o3, .inl (cZ, pn, .inl fO)), (r0, .inr (3, [.ref r1, .ref z0])), (r1, .inl (cI, wd, .inl un))] H := hP
      have hD : va_D A [(o0, .inr (4, [.int (nI wd), .int (nI ht), .int (nI pn), .ref o1, .ref o2, .ref o3, .ref h0, .ref r0, .ref k0, .int (nI bf), .int (nI bt), .int fl])), (o1, .inl (cI, pn * ht * wd, .inl g)), (o2, .inl (cI, ht * wd, .inl fC)), (o3, .inl (cZ, pn, .inl fO)), (r0, .inr (3, [.ref r1, .ref z0])), (r1, .inl (cI, wd, .inl un))] := hD
      have hp_32 : r_32 = cvv (un k) := hp_32
      subst hp_32
      refine lv_aload_n hx hb dX4_paintRow_35 rfl (lv_at hl 3 rfl) ?_
      refine va_get (D := D) (ci := 4) (v := .ref o2) (C := RX4) (T := TX4) (N := 12) hx hb hts iX4 hown hK hP 0 rfl rfl 4 (by decide) f_27 (fun _ h9 => h9) rfl dX4_paintRow_36 ?_
      refine lv_iload hx hb dX4_paintRow_39 (lv_at hl 0 rfl) ?_
      refine q_iald hx hb hK hP 2 0 rfl rfl (k := ((y * wd) + k)) (by omega) (by omega) dX4_paintRow_41 ?_
      refine q_i0 (wr := [(o0, .inr (4, [.int (nI wd), .int (nI ht), .int (nI pn), .ref o1, .ref o2, .ref o3, .ref h0, .ref r0, .ref k0, .int (nI bf), .int (nI bt), .int fl])), (o1, .inl (cI, pn * ht * wd, .inl g)), (o2, .inl (cI, ht * wd, .inl fC)), (o3, .inl (cZ, pn, .inl fO)), (r0, .inr (3, [.ref r1, .ref z0])), (r1, .inl (cI, wd, .inl un))]) (va_runS (As := [.int (cvv (un k)), .int (fC ((y * wd) + k))]) (rest := []) ⟨hx, hb, hml, hown, hts⟩ (c_X4_mul l D cI cZ cB cJ H.size (cvv (un k)) (fC ((y * wd) + k))) (va_cwS 2 hts gX4_paintRow_X4_mul rfl rfl rfl (by decide +kernel) ⟨Nat.le_of_ble_eq_true rfl, Nat.le_of_ble_eq_true rfl⟩) (q_pre (wc := []) hP hD hK hN [] (by decide) rfl) rfl rfl hl.1 rfl (lv_room (Nat.le_of_ble_eq_true rfl)) dX4_paintRow_42 ⟨Nat.zero_le _, Nat.zero_le _⟩) hS hA hP hD [] [0, 1, 2, 3, 4, 5] rfl rfl (by decide) (by decide) (fun r_42 u H locs hp_42 hP hD hS => ?_)
      have hP : va_P D qCl [(o0, .inr (4, [.int (nI wd), .int (nI ht), .int (nI pn), .ref o1, .ref o2, .ref o3, .ref h0, .ref r0, .ref k0, .int (nI bf), .int (nI bt), .int fl])), (o1, .inl (cI, pn * ht * wd, .inl g)), (o2, .inl (cI, ht * wd, .inl fC)), (o3, .inl (cZ, pn, .inl fO)), (r0, .inr (3, [.ref r1, .ref z0])), (r1, .inl (cI, wd, .inl un))] H := hP
      have hD : va_D A [(o0, .inr (4, [.int (nI wd), .int (nI ht), .int (nI pn), .ref o1, .ref o2, .ref o3, .ref h0, .ref r0, .ref k0, .int (nI bf), .int (nI bt), .int fl])), (o1, .inl (cI, pn * ht * wd, .inl g)), (o2, .inl (cI, ht * wd, .inl fC)), (o3, .inl (cZ, pn, .inl fO)), (r0, .inr (3, [.ref r1, .ref z0])), (r1, .inl (cI, wd, .inl un))] := hD
      have hp_42 : r_42 = mulv (cvv (un k)) (fC ((y * wd) + k)) := hp_42
      subst hp_42
      refine lv_istore (lv' := [(7, .int (mulv (cvv (un k)) (fC ((y * wd) + k)))), (6, .int (nI ((y * wd) + k))), (5, .int (nI k)), (4, .int (nI q)), (0, .ref o0), (1, .int (nI y)), (2, .int (nI pl)), (3, .int v)]) hx hb dX4_paintRow_45 hl (by decide) rfl (fun ls hl => ?_)
      refine lv_iload hx hb dX4_paintRow_47 (lv_at hl 0 rfl) ?_
      refine lv_if_le (tgt := 65) hx hb dX4_paintRow_49 (by decide) (fun h_49 => ?_) (fun h_49 => ?_)
      · have h_49 : ¬ 0 < mulv (cvv (un k)) (fC (y * wd + k)) := fun z => by rw [i_le] at h_49; rw [i_lt] at z; omega
        exact J_65 g q (by omega) (by show _ = (if 0 < mulv (cvv (un k)) (fC (y * wd + k)) then _ else _ : (Nat → Int32) × Nat).1; rw [if_neg h_49]; exact hg) (by show _ = (if 0 < mulv (cvv (un k)) (fC (y * wd + k)) then _ else _ : (Nat → Int32) × Nat).2; rw [if_neg h_49]; exact hq) _ _ _ (hP.sub [0, 1, 2, 3, 4, 5] rfl) (hD.sub [0, 1, 2, 3, 4, 5] (by decide) rfl) hS (lv_sub hl [1, 2, 3, 4, 5, 6, 7] rfl)
      have h_49 : 0 < mulv (cvv (un k)) (fC (y * wd + k)) := by rw [i_le] at h_49; rw [i_lt]; omega
      refine lv_aload_n hx hb dX4_paintRow_52 rfl (lv_at hl 4 rfl) ?_
      refine lv_iload hx hb dX4_paintRow_53 (lv_at hl 1 rfl) ?_
      refine lv_iload_n hx hb dX4_paintRow_55 rfl (lv_at hl 6 rfl) ?_
      refine lv_iload_n hx hb dX4_paintRow_56 rfl (lv_at hl 7 rfl) ?_
      refine lv_iload hx hb dX4_paintRow_57 (lv_at hl 0 rfl) ?_
      refine q_v0 (wr := [(o2, .inl (cI, ht * wd, .inl fC)), (r0, .inr (3, [.ref r1, .ref z0])), (r1, .inl (cI, wd, .inl un))]) (va_runV (As := [.int (nI ((y * wd) + k)), .int (nI pl), .int v, .int (mulv (cvv (un k)) (fC ((y * wd) + k)))]) (rest := []) ⟨hx, hb, hml, hown, hts⟩ (c_X4_paintPoint l D cI cZ cB cJ H.size o0 o1 o2 o3 h0 r0 k0 wd ht pn bf bt fl ((y * wd) + k) pl v (mulv (cvv (un k)) (fC ((y * wd) + k))) g fO hpn hht hwd hpl (by omega)) (cwV 4 hts gX4_paintRow_X4_paintPoint rfl rfl rfl (by decide +kernel) ⟨Nat.le_of_ble_eq_true rfl, Nat.le_of_ble_eq_true rfl⟩) (q_preV (q_pre (wc := [(o0, .inr (4, [.int (nI wd), .int (nI ht), .int (nI pn), .ref o1, .ref o2, .ref o3, .ref h0, .ref r0, .ref k0, .int (nI bf), .int (nI bt), .int fl])), (o1, .inl (cI, pn * ht * wd, .inl g)), (o3, .inl (cZ, pn, .inl fO))]) hP hD hK hN [0, 1, 3] (by decide) rfl) (va_recv hK hP (ci := 4) (q0 := 0) rfl rfl)) rfl rfl hl.1 rfl (lv_room (Nat.le_of_ble_eq_true rfl)) dX4_paintRow_59 ⟨Nat.zero_le _, Nat.zero_le _⟩) hS hA hP hD [0, 1, 3] [2, 4, 5] rfl rfl (by decide) (by decide) (fun u H locs hp_59 hP hD hS => ?_)
      have hP : va_P D qCl [(o2, .inl (cI, ht * wd, .inl fC)), (r0, .inr (3, [.ref r1, .ref z0])), (r1, .inl (cI, wd, .inl un)), (o0, .inr (4, [.int (nI wd), .int (nI ht), .int (nI pn), .ref o1, .ref o2, .ref o3, .ref h0, .ref r0, .ref k0, .int (nI bf), .int (nI bt), .int fl])), (o1, .inl (cI, pn * ht * wd, .inl (ppt (fun zk => zk * ht * wd + ((y * wd) + k)) fO pl v (mulv (cvv (un k)) (fC ((y * wd) + k))) g pn))), (o3, .inl (cZ, pn, .inl fO))] H := hP
      have hD : va_D A [(o2, .inl (cI, ht * wd, .inl fC)), (r0, .inr (3, [.ref r1, .ref z0])), (r1, .inl (cI, wd, .inl un)), (o0, .inr (4, [.int (nI wd), .int (nI ht), .int (nI pn), .ref o1, .ref o2, .ref o3, .ref h0, .ref r0, .ref k0, .int (nI bf), .int (nI bt), .int fl])), (o1, .inl (cI, pn * ht * wd, .inl (ppt (fun zk => zk * ht * wd + ((y * wd) + k)) fO pl v (mulv (cvv (un k)) (fC ((y * wd) + k))) g pn))), (o3, .inl (cZ, pn, .inl fO))] := hD
      refine lv_iinc (v := nI (q + 1)) (lv' := [(4, .int (nI (q + 1))), (7, .int (mulv (cvv (un k)) (fC ((y * wd) + k)))), (6, .int (nI ((y * wd) + k))), (5, .int (nI k)), (0, .ref o0), (1, .int (nI y)), (2, .int (nI pl)), (3, .int v)]) hx hb dX4_paintRow_62 hl (k := 3) rfl (q_inc _) (by decide) rfl (fun ls hl => ?_)
      exact J_65 (ppt (fun zk => zk * ht * wd + ((y * wd) + k)) fO pl v (mulv (cvv (un k)) (fC ((y * wd) + k))) g pn) (q + 1) (by omega) (by show _ = (if 0 < mulv (cvv (un k)) (fC (y * wd + k)) then _ else _ : (Nat → Int32) × Nat).1; rw [if_pos h_49, hg]) (by show _ = (if 0 < mulv (cvv (un k)) (fC (y * wd + k)) then _ else _ : (Nat → Int32) × Nat).2; rw [if_pos h_49, hq]) _ _ _ (hP.sub [3, 4, 0, 5, 1, 2] rfl) (hD.sub [3, 4, 0, 5, 1, 2] (by decide) rfl) hS (lv_sub hl [2, 3, 0, 4, 5, 6, 7] rfl)
  exact L_6 _ 0 fB 0 (Nat.lt_succ_self _) (Nat.zero_le _) (Nat.le_refl _) rfl rfl _ _ _ (hP.sub [0, 1, 2, 3, 4, 5] rfl) (hD.sub [0, 1, 2, 3, 4, 5] (by decide) rfl) hS (lv_sub hl [0, 1, 2, 3, 4, 5] rfl)

abbrev rm_X4_clipRow : Room := { frames := 1, cells := 0, slots := 0, locals := 21 }
set_option maxHeartbeats 4000000 in
set_option maxRecDepth 100000 in
/-- RasterCover.clipRow -/
theorem c_X4_clipRow (l : Launch) (D : va_G) (cI cZ cB cJ : ClassId) (sz : Nat) (o0 : Nat) (o1 : Nat) (o2 : Nat) (o3 : Nat) (h0 : Nat) (r0 : Nat) (k0 : Nat) (wd : Nat) (ht : Nat) (pn : Nat) (bf : Nat) (bt : Nat) (fl : Int32) (r1 : Nat) (z0 : Nat) (un : Nat → Int32) (y : Nat) (fC : Nat → Int32) (hht : ht ≤ 48) (hwd : wd ≤ 48) (hy : y < ht) : Met l yX4_clipRow wsX4_clipRow rm_X4_clipRow (va_Pc [.ref o0, .int (nI y)] (PC D (qT cI cZ cB cJ) [(o0, .inr (4, [.int (nI wd), .int (nI ht), .int (nI pn), .ref o1, .ref o2, .ref o3, .ref h0, .ref r0, .ref k0, .int (nI bf), .int (nI bt), .int fl])), (o2, .inl (cI, ht * wd, .inl fC)), (r0, .inr (3, [.ref r1, .ref z0])), (r1, .inl (cI, wd, .inl un))] sz)) (va_Qi (fun (r : Int32) (u : Unit) => r = nI ((crow (fun zx => cvv (un zx)) (fun zx => y * wd + zx) fC wd).2)) (fun (u : Unit) => PO D (qT cI cZ cB cJ) (va_A [(o0, .inr (4, [.int (nI wd), .int (nI ht), .int (nI pn), .ref o1, .ref o2, .ref o3, .ref h0, .ref r0, .ref k0, .int (nI bf), .int (nI bt), .int fl])), (o2, .inl (cI, ht * wd, .inl fC)), (r0, .inr (3, [.ref r1, .ref z0])), (r1, .inl (cI, wd, .inl un))] sz) [(o0, .inr (4, [.int (nI wd), .int (nI ht), .int (nI pn), .ref o1, .ref o2, .ref o3, .ref h0, .ref r0, .ref k0, .int (nI bf), .int (nI bt), .int fl])), (o2, .inl (cI, ht * wd, .inl ((crow (fun zx => cvv (un zx)) (fun zx => y * wd + zx) fC wd).1))), (r0, .inr (3, [.ref r1, .ref z0])), (r1, .inl (cI, wd, .inl un))]) (va_A [(o0, .inr (4, [.int (nI wd), .int (nI ht), .int (nI pn), .ref o1, .ref o2, .ref o3, .ref h0, .ref r0, .ref k0, .int (nI bf), .int (nI bt), .int fl])), (o2, .inl (cI, ht * wd, .inl fC)), (r0, .inr (3, [.ref r1, .ref z0])), (r1, .inl (cI, wd, .inl un))] sz)) 0 0 (va_A [(o0, .inr (4, [.int (nI wd), .int (nI ht), .int (nI pn), .ref o1, .ref o2, .ref o3, .ref h0, .ref r0, .ref k0, .int (nI bf), .int (nI bt), .int fl])), (o2, .inl (cI, ht * wd, .inl fC)), (r0, .inr (3, [.ref r1, .ref z0])), (r1, .inl (cI, wd, .inl un))] sz) := by
  refine q_entI (cc := cX4_clipRow) (maxL := 5) (by decide +kernel) rfl (Nat.le_of_ble_eq_true rfl) ?_
  intro p e s m below meth c A Q ls hq hl hQ
  obtain ⟨hx, hb, hml, hts, hown, hin, hN, hK, hsz, hA, hP, hD, hS⟩ := hq
  have hown : s.vm.findClass RX4 = some m.cls := hown
  obtain ⟨H, hH⟩ : ∃ H, H = s.heap := ⟨_, rfl⟩
  rw [← hH] at hP ⊢
  have hS : va_S A s.heap H [] := by rw [hH]; exact va_S.rf
  clear hH
  have hl : lv_has ls 5 [(0, .ref o0), (1, .int (nI y))] := hl
  have iX4 : ∀ w ∈ wsX40, w ∈ wsX4_clipRow := by decide +kernel
  have f_13 := hts (.fieldLink RX4 13 "RasterCover" "width" "I") (by decide +kernel)
  have f_27 := hts (.fieldLink RX4 27 "RasterCover" "clips" "[I") (by decide +kernel)
  have f_46 := hts (.fieldLink RX4 46 "RasterCover" "rowCover" "LRasterCover$RowCover;") (by decide +kernel)
  have in_X3 := hts (.initialized RX3) (by decide +kernel)
  have im_124 := hts (.instanceMethod yX3_at) (by decide +kernel)
  have se_124 := hts (.selects RX3 yX3_at yX3_at) (by decide +kernel)
  have hb1 := Nat.mul_le_mul hht hwd
  have hb3 : (y + 1) * wd ≤ ht * wd := Nat.mul_le_mul_right _ (show y + 1 ≤ ht by omega)
  rw [Nat.add_mul, Nat.one_mul] at hb3
  refine lv_iconst (v := nI 0) hx hb dX4_clipRow_0 (by decide) ?_
  refine lv_istore_n (lv' := [(2, .int (nI 0)), (0, .ref o0), (1, .int (nI y))]) hx hb dX4_clipRow_1 rfl hl (by decide) rfl (fun ls hl => ?_)
  refine lv_iconst (v := nI 0) hx hb dX4_clipRow_2 (by decide) ?_
  refine lv_istore_n (lv' := [(3, .int (nI 0)), (2, .int (nI 0)), (0, .ref o0), (1, .int (nI y))]) hx hb dX4_clipRow_3 rfl hl (by decide) rfl (fun ls hl => ?_)
  have L_4 : ∀ (fuel : Nat) (k : Nat) (g : Nat → Int32) (q : Nat), wd - k < fuel → (k ≤ wd) → (q ≤ k) → (g = (crow (fun zx => cvv (un zx)) (fun zx => y * wd + zx) fC k).1) → (q = (crow (fun zx => cvv (un zx)) (fun zx => y * wd + zx) fC k).2) → ∀ (H : Heap) (locs : List Loc) (ls : Array Slot), va_P D qCl [(o0, .inr (4, [.int (nI wd), .int (nI ht), .int (nI pn), .ref o1, .ref o2, .ref o3, .ref h0, .ref r0, .ref k0, .int (nI bf), .int (nI bt), .int fl])), (o2, .inl (cI, ht * wd, .inl g)), (r0, .inr (3, [.ref r1, .ref z0])), (r1, .inl (cI, wd, .inl un))] H → va_D A [(o0, .inr (4, [.int (nI wd), .int (nI ht), .int (nI pn), .ref o1, .ref o2, .ref o3, .ref h0, .ref r0, .ref k0, .int (nI bf), .int (nI bt), .int fl])), (o2, .inl (cI, ht * wd, .inl g)), (r0, .inr (3, [.ref r1, .ref z0])), (r1, .inl (cI, wd, .inl un))] → va_S A s.heap H locs → lv_has ls 5 [(3, .int (nI k)), (2, .int (nI q)), (0, .ref o0), (1, .int (nI y))] → W p l e rm_X4_clipRow s m ([.ref o0, .int (nI y)] : List Value).toArray below meth c H locs 0 0 Q (F0 m 4 ls []) := by
    intro fuel
    induction fuel with
    | zero =>
      intro k g q hm
      exact absurd hm (Nat.not_lt_zero _)
    | succ fuel ih_4 =>
      intro k g q hm_4 hk hq9 hg hq H locs ls hP hD hS hl
      refine lv_iload_n hx hb dX4_clipRow_4 rfl (lv_at hl 0 rfl) ?_
      refine lv_aload_n hx hb dX4_clipRow_5 rfl (lv_at hl 2 rfl) ?_
      refine va_get (D := D) (ci := 4) (v := .int (nI wd)) (C := RX4) (T := TX4) (N := 12) hx hb hts iX4 hown hK hP 0 rfl rfl 0 (by decide) f_13 (fun _ h9 => h9) rfl dX4_clipRow_6 ?_
      refine q_ge (tgt := 66) hx hb (by omega) (by omega) dX4_clipRow_9 (by decide) (fun h_9 => ?_) (fun h_9 => ?_)
      · refine lv_iload_n hx hb dX4_clipRow_66 rfl (lv_at hl 1 rfl) ?_
        have e9 : k = wd := by omega
        rw [e9] at hg hq
        subst hg
        have hr9 : (nI q) = nI ((crow (fun zx => cvv (un zx)) (fun zx => y * wd + zx) fC wd).2) := (congrArg nI hq)
        exact hQ _ _ _ _ (nI q) () _ _ dX4_clipRow_67 (Nat.le_refl _) (Nat.le_refl _) hr9 (hP.sub [0, 1, 2, 3] rfl) hK (hD.sub [0, 1, 2, 3] (by decide) rfl) hS
      refine lv_iload_n hx hb dX4_clipRow_12 rfl (lv_at hl 3 rfl) ?_
      refine lv_aload_n hx hb dX4_clipRow_13 rfl (lv_at hl 2 rfl) ?_
      refine va_get (D := D) (ci := 4) (v := .int (nI wd)) (C := RX4) (T := TX4) (N := 12) hx hb hts iX4 hown hK hP 0 rfl rfl 0 (by decide) f_13 (fun _ h9 => h9) rfl dX4_clipRow_14 ?_
      refine lv_imul hx hb dX4_clipRow_17 ?_
      refine q_eqi (pk_mul _ _) ?_
      refine lv_iload_n hx hb dX4_clipRow_18 rfl (lv_at hl 0 rfl) ?_
      refine lv_iadd hx hb dX4_clipRow_19 ?_
      refine q_eqi (nI_add _ _) ?_
      refine lv_istore (lv' := [(4, .int (nI ((y * wd) + k))), (3, .int (nI k)), (2, .int (nI q)), (0, .ref o0), (1, .int (nI y))]) hx hb dX4_clipRow_20 hl (by decide) rfl (fun ls hl => ?_)
      have J_60 : ∀ (g2 : Nat → Int32) (q2 : Nat), (q2 ≤ k + 1) → (g2 = (crow (fun zx => cvv (un zx)) (fun zx => y * wd + zx) fC (k + 1)).1) → (q2 = (crow (fun zx => cvv (un zx)) (fun zx => y * wd + zx) fC (k + 1)).2) → ∀ (H : Heap) (locs : List Loc) (ls : Array Slot), va_P D qCl [(o0, .inr (4, [.int (nI wd), .int (nI ht), .int (nI pn), .ref o1, .ref o2, .ref o3, .ref h0, .ref r0, .ref k0, .int (nI bf), .int (nI bt), .int fl])), (o2, .inl (cI, ht * wd, .inl g2)), (r0, .inr (3, [.ref r1, .ref z0])), (r1, .inl (cI, wd, .inl un))] H → va_D A [(o0, .inr (4, [.int (nI wd), .int (nI ht), .int (nI pn), .ref o1, .ref o2, .ref o3, .ref h0, .ref r0, .ref k0, .int (nI bf), .int (nI bt), .int fl])), (o2, .inl (cI, ht * wd, .inl g2)), (r0, .inr (3, [.ref r1, .ref z0])), (r1, .inl (cI, wd, .inl un))] → va_S A s.heap H locs → lv_has ls 5 [(4, .int (nI ((y * wd) + k))), (3, .int (nI k)), (2, .int (nI q2)), (0, .ref o0), (1, .int (nI y))] → W p l e rm_X4_clipRow s m ([.ref o0, .int (nI y)] : List Value).toArray below meth c H locs 0 0 Q (F0 m 60 ls []) := by
        intro g2 q2 hq8 hg2 hq2 H locs ls hP hD hS hl
        refine lv_iinc (v := nI (k + 1)) (lv' := [(3, .int (nI (k + 1))), (4, .int (nI ((y * wd) + k))), (2, .int (nI q2)), (0, .ref o0), (1, .int (nI y))]) hx hb dX4_clipRow_60 hl (k := 1) rfl (q_inc _) (by decide) rfl (fun ls hl => ?_)
        refine lv_goto (tgt := 4) hx hb dX4_clipRow_63 (by decide) ?_
        exact ih_4 (k + 1) g2 q2 (by omega) (by omega) (by omega) hg2 hq2 _ _ _ (hP.sub [0, 1, 2, 3] rfl) (hD.sub [0, 1, 2, 3] (by decide) rfl) hS (lv_sub hl [0, 2, 3, 4] rfl)
      refine lv_aload_n hx hb dX4_clipRow_22 rfl (lv_at hl 3 rfl) ?_
      refine va_get (D := D) (ci := 4) (v := .ref o2) (C := RX4) (T := TX4) (N := 12) hx hb hts iX4 hown hK hP 0 rfl rfl 4 (by decide) f_27 (fun _ h9 => h9) rfl dX4_clipRow_23 ?_
      refine lv_iload hx hb dX4_clipRow_26 (lv_at hl 0 rfl) ?_
      refine lv_aload_n hx hb dX4_clipRow_28 rfl (lv_at hl 3 rfl) ?_
      refine va_get (D := D) (ci := 4) (v := .ref o2) (C := RX4) (T := TX4) (N := 12) hx hb hts iX4 hown hK hP 0 rfl rfl 4 (by decide) f_27 (fun _ h9 => h9) rfl dX4_clipRow_29 ?_
      refine lv_iload hx hb dX4_clipRow_32 (lv_at hl 0 rfl) ?_
      refine q_iald hx hb hK hP 1 0 rfl rfl (k := ((y * wd) + k)) (by omega) (by omega) dX4_clipRow_34 ?_
      refine lv_aload_n hx hb dX4_clipRow_35 rfl (lv_at hl 3 rfl) ?_
      refine va_get (D := D) (ci := 4) (v := .ref r0) (C := RX4) (T := TX4) (N := 12) hx hb hts iX4 hown hK hP 0 rfl rfl 7 (by decide) f_46 (fun _ h9 => h9) rfl dX4_clipRow_36 ?_
      refine lv_iload_n hx hb dX4_clipRow_39 rfl (lv_at hl 1 rfl) ?_
      refine q_i0 (wr := [(o0, .inr (4, [.int (nI wd), .int (nI ht), .int (nI pn), .ref o1, .ref o2, .ref o3, .ref h0, .ref r0, .ref k0, .int (nI bf), .int (nI bt), .int fl])), (o2, .inl (cI, ht * wd, .inl g))]) (va_runVN (As := [.int (nI k)]) (rest := [.int (g ((y * wd) + k)), .int (nI ((y * wd) + k)), .ref o2]) ⟨hx, hb, hml, hown, hts⟩ (c_X3_at l D cI cZ cB cJ H.size r0 r1 z0 wd un k (by omega) (by omega)) ⟨va_cnB 1 hts gX4_clipRow_X3_at_n124 rfl rfl rfl (NW.w hN 19 rfl) in_X3 (by decide +kernel) ⟨Nat.le_of_ble_eq_true rfl, Nat.le_of_ble_eq_true rfl⟩, im_124, se_124⟩ (q_preV (q_pre (wc := [(r0, .inr (3, [.ref r1, .ref z0])), (r1, .inl (cI, wd, .inl un))]) hP hD hK hN [2, 3] (by decide) rfl) (va_recv hK hP (ci := 3) (q0 := 2) rfl rfl)) rfl rfl hl.1 rfl (lv_room (Nat.le_of_ble_eq_true rfl)) dX4_clipRow_40 ⟨Nat.zero_le _, Nat.zero_le _⟩) hS hA hP hD [2, 3] [0, 1] rfl rfl (by decide) (by decide) (fun r_40 u H locs hp_40 hP hD hS => ?_)
      have hP : va_P D qCl [(o0, .inr (4, [.int (nI wd), .int (nI ht), .int (nI pn), .ref o1, .ref o2, .ref o3, .ref h0, .ref r0, .ref k0, .int (nI bf), .int (nI bt), .int fl])), (o2, .inl (cI, ht * wd, .inl g)), (r0, .inr (3, [.ref r1, .ref z0])), (r1, .inl (cI, wd, .inl un))] H := hP
      have hD : va_D A [(o0, .inr (4, [.int (nI wd), .int (nI ht), .int (nI pn), .ref o1, .ref o2, .ref o3, .ref h0, .ref r0, .ref k0, .int (nI bf), .int (nI bt), .int fl])), (o2, .inl (cI, ht * wd, .inl g)), (r0, .inr (3, [.ref r1, .ref z0])), (r1, .inl (cI, wd, .inl un))] := hD
      have hp_40 : r_40 = cvv (un k) := hp_40
      subst hp_40
      refine q_i0 (wr := [(o0, .inr (4, [.int (nI wd), .int (nI ht), .int (nI pn), .ref o1, .ref o2, .ref o3, .ref h0, .ref r0, .ref k0, .int (nI bf), .int (nI bt), .int fl])), (o2, .inl (cI, ht * wd, .inl g)), (r0, .inr (3, [.ref r1, .ref z0])), (r1, .inl (cI, wd, .inl un))]) (va_runS (As := [.int (g ((y * wd) + k)), .int (cvv (un k))]) (rest := [.int (nI ((y * wd) + k)), .ref o2]) ⟨hx, hb, hml, hown, hts⟩ (c_X4_mul l D cI cZ cB cJ H.size (g ((y * wd) + k)) (cvv (un k))) (va_cwS 2 hts gX4_clipRow_X4_mul rfl rfl rfl (by decide +kernel) ⟨Nat.le_of_ble_eq_true rfl, Nat.le_of_ble_eq_true rfl⟩) (q_pre (wc := []) hP hD hK hN [] (by decide) rfl) rfl rfl hl.1 rfl (lv_room (Nat.le_of_ble_eq_true rfl)) dX4_clipRow_43 ⟨Nat.zero_le _, Nat.zero_le _⟩) hS hA hP hD [] [0, 1, 2, 3] rfl rfl (by decide) (by decide) (fun r_43 u H locs hp_43 hP hD hS => ?_)
      have hP : va_P D qCl [(o0, .inr (4, [.int (nI wd), .int (nI ht), .int (nI pn), .ref o1, .ref o2, .ref o3, .ref h0, .ref r0, .ref k0, .int (nI bf), .int (nI bt), .int fl])), (o2, .inl (cI, ht * wd, .inl g)), (r0, .inr (3, [.ref r1, .ref z0])), (r1, .inl (cI, wd, .inl un))] H := hP
      have hD : va_D A [(o0, .inr (4, [.int (nI wd), .int (nI ht), .int (nI pn), .ref o1, .ref o2, .ref o3, .ref h0, .ref r0, .ref k0, .int (nI bf), .int (nI bt), .int fl])), (o2, .inl (cI, ht * wd, .inl g)), (r0, .inr (3, [.ref r1, .ref z0])), (r1, .inl (cI, wd, .inl un))] := hD
      have hp_43 : r_43 = mulv (g ((y * wd) + k)) (cvv (un k)) := hp_43
      subst hp_43
      refine q_iast hx hb hK hP hD hS 1 0 rfl rfl (k := ((y * wd) + k)) (by omega) (by omega) dX4_clipRow_46 (fun H locs hP hD hS => ?_)
      have hP : va_P D qCl [(o0, .inr (4, [.int (nI wd), .int (nI ht), .int (nI pn), .ref o1, .ref o2, .ref o3, .ref h0, .ref r0, .ref k0, .int (nI bf), .int (nI bt), .int fl])), (o2, .inl (cI, ht * wd, .inl (upd g ((y * wd) + k) (mulv (g ((y * wd) + k)) (cvv (un k)))))), (r0, .inr (3, [.ref r1, .ref z0])), (r1, .inl (cI, wd, .inl un))] H := hP
      have hD : va_D A [(o0, .inr (4, [.int (nI wd), .int (nI ht), .int (nI pn), .ref o1, .ref o2, .ref o3, .ref h0, .ref r0, .ref k0, .int (nI bf), .int (nI bt), .int fl])), (o2, .inl (cI, ht * wd, .inl (upd g ((y * wd) + k) (mulv (g ((y * wd) + k)) (cvv (un k)))))), (r0, .inr (3, [.ref r1, .ref z0])), (r1, .inl (cI, wd, .inl un))] := hD
      refine lv_aload_n hx hb dX4_clipRow_47 rfl (lv_at hl 3 rfl) ?_
      refine va_get (D := D) (ci := 4) (v := .ref o2) (C := RX4) (T := TX4) (N := 12) hx hb hts iX4 hown hK hP 0 rfl rfl 4 (by decide) f_27 (fun _ h9 => h9) rfl dX4_clipRow_48 ?_
      refine lv_iload hx hb dX4_clipRow_51 (lv_at hl 0 rfl) ?_
      refine q_iald hx hb hK hP 1 0 rfl rfl (k := ((y * wd) + k)) (by omega) (by omega) dX4_clipRow_53 ?_
      refine q_eqi (y := mulv (g (y * wd + k)) (cvv (un k))) (by unfold upd; rw [if_pos rfl]) ?_
      refine lv_if_le (tgt := 60) hx hb dX4_clipRow_54 (by decide) (fun h_54 => ?_) (fun h_54 => ?_)
      · have h_54 : ¬ 0 < mulv (g (y * wd + k)) (cvv (un k)) := fun z => by rw [i_le] at h_54; rw [i_lt] at z; omega
        exact J_60 (upd g ((y * wd) + k) (mulv (g ((y * wd) + k)) (cvv (un k)))) q (by omega) (by rw [hg]; rfl) (by show q = (if 0 < mulv ((crow (fun zx => cvv (un zx)) (fun zx => y * wd + zx) fC k).1 (y * wd + k)) (cvv (un k)) then _ else _ : Nat); rw [← hg, if_neg h_54]; exact hq) _ _ _ (hP.sub [0, 1, 2, 3] rfl) (hD.sub [0, 1, 2, 3] (by decide) rfl) hS (lv_sub hl [0, 1, 2, 3, 4] rfl)
      have h_54 : 0 < mulv (g (y * wd + k)) (cvv (un k)) := by rw [i_le] at h_54; rw [i_lt]; omega
      refine lv_iinc (v := nI (q + 1)) (lv' := [(2, .int (nI (q + 1))), (4, .int (nI ((y * wd) + k))), (3, .int (nI k)), (0, .ref o0), (1, .int (nI y))]) hx hb dX4_clipRow_57 hl (k := 2) rfl (q_inc _) (by decide) rfl (fun ls hl => ?_)
      exact J_60 (upd g ((y * wd) + k) (mulv (g ((y * wd) + k)) (cvv (un k)))) (q + 1) (by omega) (by rw [hg]; rfl) (by show q + 1 = (if 0 < mulv ((crow (fun zx => cvv (un zx)) (fun zx => y * wd + zx) fC k).1 (y * wd + k)) (cvv (un k)) then _ else _ : Nat); rw [← hg, if_pos h_54, hq]) _ _ _ (hP.sub [0, 1, 2, 3] rfl) (hD.sub [0, 1, 2, 3] (by decide) rfl) hS (lv_sub hl [1, 2, 0, 3, 4] rfl)
  exact L_4 _ 0 fC 0 (Nat.lt_succ_self _) (Nat.zero_le _) (Nat.le_refl _) rfl rfl _ _ _ (hP.sub [0, 1, 2, 3] rfl) (hD.sub [0, 1, 2, 3] (by decide) rfl) hS (lv_sub hl [0, 1, 2, 3] rfl)
end
section
abbrev rm_X1_put : Room := { frames := 0, cells := 0, slots := 0, locals := 0 }
set_option maxHeartbeats 4000000 in
set_option maxRecDepth 100000 in
theorem c_X1_put (l : Launch) (D : va_G) (cI cZ cB cJ : ClassId) (sz : Nat) (k0 : Nat) (k1 : Nat) (wd : Nat) (ps : Nat) (sg : Nat → Int32) (v : Int32) (hwd : wd ≤ 48) (hps : ps < 2 * wd) : Met l yX1_put wsX1_put rm_X1_put (va_Pc [.ref k0, .int v] (PC D (qT cI cZ cB cJ) [(k0, .inr (1, [.ref k1, .int (nI ps)])), (k1, .inl (cB, 2 * wd, .inl sg))] sz)) (va_Qv (fun (u : Unit) => True) (fun (u : Unit) => PO D (qT cI cZ cB cJ) (va_A [(k0, .inr (1, [.ref k1, .int (nI ps)])), (k1, .inl (cB, 2 * wd, .inl sg))] sz) [(k0, .inr (1, [.ref k1, .int (nI (ps + 1))])), (k1, .inl (cB, 2 * wd, .inl (upd sg ps (b8 v))))]) (va_A [(k0, .inr (1, [.ref k1, .int (nI ps)])), (k1, .inl (cB, 2 * wd, .inl sg))] sz)) 0 0 (va_A [(k0, .inr (1, [.ref k1, .int (nI ps)])), (k1, .inl (cB, 2 * wd, .inl sg))] sz) := by
  refine q_entV (cc := cX1_put) (maxL := 2) (by decide +kernel) rfl (Nat.le_of_ble_eq_true rfl) ?_
  intro p e s m below meth c A Q ls hq hl hQ
  obtain ⟨hx, hb, hml, hts, hown, hin, hN, hK, hsz, hA, hP, hD, hS⟩ := hq
  have hown : s.vm.findClass RX1 = some m.cls := hown
  obtain ⟨H, hH⟩ : ∃ H, H = s.heap := ⟨_, rfl⟩
  rw [← hH] at hP ⊢
  have hS : va_S A s.heap H [] := by rw [hH]; exact va_S.rf
  clear hH
  have hl : lv_has ls 2 [(0, .ref k0), (1, .int v)] := hl
  have iX1 : ∀ w ∈ wsX10, w ∈ wsX1_put := by decide +kernel
  have f_7 := hts (.fieldLink RX1 7 "RasterCover$PackedRow" "size" "I") (by decide +kernel)
  have f_13 := hts (.fieldLink RX1 13 "RasterCover$PackedRow" "signs" "[B") (by decide +kernel)
  refine lv_aload_n hx hb dX1_put_0 rfl (lv_at hl 0 rfl) ?_
  refine va_get (D := D) (ci := 1) (v := .int (nI ps)) (C := RX1) (T := TX1) (N := 2) hx hb hts iX1 hown hK hP 0 rfl rfl 1 (by decide) f_7 (fun _ h9 => h9) rfl dX1_put_1 ?_
  refine lv_aload_n hx hb dX1_put_4 rfl (lv_at hl 0 rfl) ?_
  refine va_get (D := D) (ci := 1) (v := .ref k1) (C := RX1) (T := TX1) (N := 2) hx hb hts iX1 hown hK hP 0 rfl rfl 0 (by decide) f_13 (fun _ h9 => h9) rfl dX1_put_5 ?_
  refine va_alen hx hb hK hP 1 2 rfl rfl (v := nI (2 * wd)) rfl dX1_put_8 ?_
  refine q_ge (tgt := 33) hx hb (by omega) (by omega) dX1_put_9 (by decide) (fun h_9 => by omega) (fun h_9 => ?_)
  refine lv_aload_n hx hb dX1_put_12 rfl (lv_at hl 0 rfl) ?_
  refine va_get (D := D) (ci := 1) (v := .ref k1) (C := RX1) (T := TX1) (N := 2) hx hb hts iX1 hown hK hP 0 rfl rfl 0 (by decide) f_13 (fun _ h9 => h9) rfl dX1_put_13 ?_
  refine lv_aload_n hx hb dX1_put_16 rfl (lv_at hl 0 rfl) ?_
  refine va_get (D := D) (ci := 1) (v := .int (nI ps)) (C := RX1) (T := TX1) (N := 2) hx hb hts iX1 hown hK hP 0 rfl rfl 1 (by decide) f_7 (fun _ h9 => h9) rfl dX1_put_17 ?_
  refine lv_iload_n hx hb dX1_put_20 rfl (lv_at hl 1 rfl) ?_
  refine lv_i2b hx hb dX1_put_21 rfl ?_
  refine q_eqi (y := b8 v) rfl ?_
  refine q_bastv hx hb hK hP hD hS 1 2 rfl rfl (k := ps) (b8_b8 _) (by omega) (by omega) dX1_put_22 (fun H locs hP hD hS => ?_)
  have hP : va_P D qCl [(k0, .inr (1, [.ref k1, .int (nI ps)])), (k1, .inl (cB, 2 * wd, .inl (upd sg ps (b8 v))))] H := hP
  have hD : va_D A [(k0, .inr (1, [.ref k1, .int (nI ps)])), (k1, .inl (cB, 2 * wd, .inl (upd sg ps (b8 v))))] := hD
  refine lv_aload_n hx hb dX1_put_23 rfl (lv_at hl 0 rfl) ?_
  refine lv_dup hx hb dX1_put_24 rfl ?_
  refine va_get (D := D) (ci := 1) (v := .int (nI ps)) (C := RX1) (T := TX1) (N := 2) hx hb hts iX1 hown hK hP 0 rfl rfl 1 (by decide) f_7 (fun _ h9 => h9) rfl dX1_put_25 ?_
  refine lv_iconst (v := nI 1) hx hb dX1_put_28 (by decide) ?_
  refine lv_iadd hx hb dX1_put_29 ?_
  refine q_eqi (nI_add _ _) ?_
  refine va_put (D := D) (ci := 1) (v := .int (nI (ps + 1))) (ty := .int) (C := RX1) (T := TX1) (N := 2) hx hb hts iX1 tyX1 tyX1_ok nmX1 hown hK hP hD hS 0 rfl rfl 1 (by decide) f_7 (fun _ h9 => h9) rfl (by decide +kernel) rfl rfl (Nat.le_of_ble_eq_true rfl) dX1_put_30 (fun H locs hP hD hS => ?_)
  have hP : va_P D qCl [(k0, .inr (1, [.ref k1, .int (nI (ps + 1))])), (k1, .inl (cB, 2 * wd, .inl (upd sg ps (b8 v))))] H := hP
  have hD : va_D A [(k0, .inr (1, [.ref k1, .int (nI (ps + 1))])), (k1, .inl (cB, 2 * wd, .inl (upd sg ps (b8 v))))] := hD
  exact hQ _ _ _ _ () _ _ dX1_put_33 (Nat.le_refl _) (Nat.le_refl _) trivial (hP.sub [0, 1] rfl) hK (hD.sub [0, 1] (by decide) rfl) hS

abbrev rm_X1_pack : Room := { frames := 1, cells := 0, slots := 0, locals := 21 }
set_option maxHeartbeats 4000000 in
set_option maxRecDepth 100000 in
/-- PackedRow.pack -/
theorem c_X1_pack (l : Launch) (D : va_G) (cI cZ cB cJ : ClassId) (sz : Nat) (k0 : Nat) (k1 : Nat) (wd : Nat) (ps : Nat) (sg : Nat → Int32) (o1 : Nat) (bl : Nat) (fB : Nat → Int32) (st : Nat) (en : Nat) (hwd : wd ≤ 48) (hse : st ≤ en) (hew : en ≤ st + wd) (heb : en ≤ bl) (hbl : bl < 2 ^ 31) : Met l yX1_pack wsX1_pack rm_X1_pack (va_Pc [.ref k0, .ref o1, .int (nI st), .int (nI en)] (PC D (qT cI cZ cB cJ) [(k0, .inr (1, [.ref k1, .int (nI ps)])), (k1, .inl (cB, 2 * wd, .inl sg)), (o1, .inl (cI, bl, .inl fB))] sz)) (va_Qv (fun (u : (Nat → Int32) × Nat) => u.1 = (pkS fB st en sg (en - st)).1 ∧ u.2 = (pkS fB st en sg (en - st)).2.1 ∧ u.2 ≤ 2 * (en - st)) (fun (u : (Nat → Int32) × Nat) => PO D (qT cI cZ cB cJ) (va_A [(k0, .inr (1, [.ref k1, .int (nI ps)])), (k1, .inl (cB, 2 * wd, .inl sg)), (o1, .inl (cI, bl, .inl fB))] sz) [(k0, .inr (1, [.ref k1, .int (nI u.2)])), (k1, .inl (cB, 2 * wd, .inl u.1)), (o1, .inl (cI, bl, .inl fB))]) (va_A [(k0, .inr (1, [.ref k1, .int (nI ps)])), (k1, .inl (cB, 2 * wd, .inl sg)), (o1, .inl (cI, bl, .inl fB))] sz)) 0 0 (va_A [(k0, .inr (1, [.ref k1, .int (nI ps)])), (k1, .inl (cB, 2 * wd, .inl sg)), (o1, .inl (cI, bl, .inl fB))] sz) := by
  refine q_entV (cc := cX1_pack) (maxL := 7) (by decide +kernel) rfl (Nat.le_of_ble_eq_true rfl) ?_
  intro p e s m below meth c A Q ls hq hl hQ
  obtain ⟨hx, hb, hml, hts, hown, hin, hN, hK, hsz, hA, hP, hD, hS⟩ := hq
  have hown : s.vm.findClass RX1 = some m.cls := hown
  obtain ⟨H, hH⟩ : ∃ H, H = s.heap := ⟨_, rfl⟩
  rw [← hH] at hP ⊢
  have hS : va_S A s.heap H [] := by rw [hH]; exact va_S.rf
  clear hH
  have hl : lv_has ls 7 [(0, .ref k0), (1, .ref o1), (2, .int (nI st)), (3, .int (nI en))] := hl
  have iX1 : ∀ w ∈ wsX10, w ∈ wsX1_pack := by decide +kernel
  have f_7 := hts (.fieldLink RX1 7 "RasterCover$PackedRow" "size" "I") (by decide +kernel)
  have f_13 := hts (.fieldLink RX1 13 "RasterCover$PackedRow" "signs" "[B") (by decide +kernel)
  refine lv_aload_n hx hb dX1_pack_0 rfl (lv_at hl 0 rfl) ?_
  refine lv_iconst (v := nI 0) hx hb dX1_pack_1 (by decide) ?_
  refine va_put (D := D) (ci := 1) (v := .int (nI 0)) (ty := .int) (C := RX1) (T := TX1) (N := 2) hx hb hts iX1 tyX1 tyX1_ok nmX1 hown hK hP hD hS 0 rfl rfl 1 (by decide) f_7 (fun _ h9 => h9) rfl (by decide +kernel) rfl rfl (Nat.le_of_ble_eq_true rfl) dX1_pack_2 (fun H locs hP hD hS => ?_)
  have hP : va_P D qCl [(k0, .inr (1, [.ref k1, .int (nI 0)])), (k1, .inl (cB, 2 * wd, .inl sg)), (o1, .inl (cI, bl, .inl fB))] H := hP
  have hD : va_D A [(k0, .inr (1, [.ref k1, .int (nI 0)])), (k1, .inl (cB, 2 * wd, .inl sg)), (o1, .inl (cI, bl, .inl fB))] := hD
  refine lv_iconst (v := nI 0) hx hb dX1_pack_5 (by decide) ?_
  refine lv_istore (lv' := [(4, .int (nI 0)), (0, .ref k0), (1, .ref o1), (2, .int (nI st)), (3, .int (nI en))]) hx hb dX1_pack_6 hl (by decide) rfl (fun ls hl => ?_)
  refine lv_iconst (v := nI 0) hx hb dX1_pack_8 (by decide) ?_
  refine lv_istore (lv' := [(5, .int (nI 0)), (4, .int (nI 0)), (0, .ref k0), (1, .ref o1), (2, .int (nI st)), (3, .int (nI en))]) hx hb dX1_pack_9 hl (by decide) rfl (fun ls hl => ?_)
  refine lv_iload_n hx hb dX1_pack_11 rfl (lv_at hl 4 rfl) ?_
  refine lv_istore (lv' := [(6, .int (nI st)), (5, .int (nI 0)), (4, .int (nI 0)), (0, .ref k0), (1, .ref o1), (2, .int (nI st)), (3, .int (nI en))]) hx hb dX1_pack_12 hl (by decide) rfl (fun ls hl => ?_)
  have L_14 : ∀ (fuel : Nat) (k : Nat) (sg1 : Nat → Int32) (qs : Nat) (hd : Nat) (af : Nat), en - (st + k) < fuel → (st + k ≤ en) → (pkS fB st en sg k = (sg1, qs, hd, af)) → (qs ≤ 2 * k) → (k = 0 ∨ hd < qs) → (af = 0 ∨ (af = 1 ∧ hd < qs)) → ∀ (H : Heap) (locs : List Loc) (ls : Array Slot), va_P D qCl [(k0, .inr (1, [.ref k1, .int (nI qs)])), (k1, .inl (cB, 2 * wd, .inl sg1)), (o1, .inl (cI, bl, .inl fB))] H → va_D A [(k0, .inr (1, [.ref k1, .int (nI qs)])), (k1, .inl (cB, 2 * wd, .inl sg1)), (o1, .inl (cI, bl, .inl fB))] → va_S A s.heap H locs → lv_has ls 7 [(6, .int (nI (st + k))), (5, .int (nI af)), (4, .int (nI hd)), (0, .ref k0), (1, .ref o1), (2, .int (nI st)), (3, .int (nI en))] → W p l e rm_X1_pack s m ([.ref k0, .ref o1, .int (nI st), .int (nI en)] : List Value).toArray below meth c H locs 0 0 Q (F0 m 14 ls []) := by
    intro fuel
    induction fuel with
    | zero =>
      intro k sg1 qs hd af hm
      exact absurd hm (Nat.not_lt_zero _)
    | succ fuel ih_14 =>
      intro k sg1 qs hd af hm_14 hk hS4 hqs hhd haf H locs ls hP hD hS hl
      refine lv_iload hx hb dX1_pack_14 (lv_at hl 0 rfl) ?_
      refine lv_iload_n hx hb dX1_pack_16 rfl (lv_at hl 6 rfl) ?_
      refine q_ge (tgt := 146) hx hb (by omega) (by omega) dX1_pack_17 (by decide) (fun h_17 => ?_) (fun h_17 => ?_)
      · have e9 : k = en - st := by omega
        rw [e9] at hS4
        have hr9 : sg1 = (pkS fB st en sg (en - st)).1 ∧ qs = (pkS fB st en sg (en - st)).2.1 ∧ qs ≤ 2 * (en - st) := ⟨by rw [hS4], by rw [hS4], by omega⟩
        exact hQ _ _ _ _ (sg1, qs) _ _ dX1_pack_146 (Nat.le_refl _) (Nat.le_refl _) hr9 (hP.sub [0, 1, 2] rfl) hK (hD.sub [0, 1, 2] (by decide) rfl) hS
      have J_54 : (¬ (0 < k ∧ fB (st + k) = fB (st + k - 1))) → ∀ (H : Heap) (locs : List Loc) (ls : Array Slot), va_P D qCl [(k0, .inr (1, [.ref k1, .int (nI qs)])), (k1, .inl (cB, 2 * wd, .inl sg1)), (o1, .inl (cI, bl, .inl fB))] H → va_D A [(k0, .inr (1, [.ref k1, .int (nI qs)])), (k1, .inl (cB, 2 * wd, .inl sg1)), (o1, .inl (cI, bl, .inl fB))] → va_S A s.heap H locs → lv_has ls 7 [(6, .int (nI (st + k))), (5, .int (nI af)), (4, .int (nI hd)), (0, .ref k0), (1, .ref o1), (2, .int (nI st)), (3, .int (nI en))] → W p l e rm_X1_pack s m ([.ref k0, .ref o1, .int (nI st), .int (nI en)] : List Value).toArray below meth c H locs 0 0 Q (F0 m 54 ls []) := by
        intro  hn54 H locs ls hP hD hS hl
        have J_101 : (¬ (st + k + 1 < en ∧ fB (st + k) = fB (st + k + 1))) → ∀ (H : Heap) (locs : List Loc) (ls : Array Slot), va_P D qCl [(k0, .inr (1, [.ref k1, .int (nI qs)])), (k1, .inl (cB, 2 * wd, .inl sg1)), (o1, .inl (cI, bl, .inl fB))] H → va_D A [(k0, .inr (1, [.ref k1, .int (nI qs)])), (k1, .inl (cB, 2 * wd, .inl sg1)), (o1, .inl (cI, bl, .inl fB))] → va_S A s.heap H locs → lv_has ls 7 [(6, .int (nI (st + k))), (5, .int (nI af)), (4, .int (nI hd)), (0, .ref k0), (1, .ref o1), (2, .int (nI st)), (3, .int (nI en))] → W p l e rm_X1_pack s m ([.ref k0, .ref o1, .int (nI st), .int (nI en)] : List Value).toArray below meth c H locs 0 0 Q (F0 m 101 ls []) := by
          intro  hn101 H locs ls hP hD hS hl
          refine lv_iload hx hb dX1_pack_101 (lv_at hl 1 rfl) ?_
          refine q_if_ne (tgt := 117) hx hb (by omega) dX1_pack_103 (by decide) (fun h_103 => ?_) (fun h_103 => ?_)
          · refine lv_aload_n hx hb dX1_pack_117 rfl (lv_at hl 3 rfl) ?_
            refine va_get (D := D) (ci := 1) (v := .ref k1) (C := RX1) (T := TX1) (N := 2) hx hb hts iX1 hown hK hP 0 rfl rfl 0 (by decide) f_13 (fun _ h9 => h9) rfl dX1_pack_118 ?_
            refine lv_iload hx hb dX1_pack_121 (lv_at hl 2 rfl) ?_
            refine lv_dup2_11 hx hb dX1_pack_123 rfl rfl ?_
            refine q_bald hx hb hK hP 1 2 rfl rfl (k := hd) (by omega) (by omega) dX1_pack_124 ?_
            refine lv_iconst (v := nI 1) hx hb dX1_pack_125 (by decide) ?_
            refine lv_iadd hx hb dX1_pack_126 ?_
            refine lv_i2b hx hb dX1_pack_127 rfl ?_
            refine q_eqi (y := b8 ((sg1 hd) + (nI 1))) rfl ?_
            refine q_bastv hx hb hK hP hD hS 1 2 rfl rfl (k := hd) (b8_b8 _) (by omega) (by omega) dX1_pack_128 (fun H locs hP hD hS => ?_)
            have hP : va_P D qCl [(k0, .inr (1, [.ref k1, .int (nI qs)])), (k1, .inl (cB, 2 * wd, .inl (upd sg1 hd (b8 ((sg1 hd) + (nI 1)))))), (o1, .inl (cI, bl, .inl fB))] H := hP
            have hD : va_D A [(k0, .inr (1, [.ref k1, .int (nI qs)])), (k1, .inl (cB, 2 * wd, .inl (upd sg1 hd (b8 ((sg1 hd) + (nI 1)))))), (o1, .inl (cI, bl, .inl fB))] := hD
            refine lv_aload_n hx hb dX1_pack_129 rfl (lv_at hl 3 rfl) ?_
            refine lv_aload_n hx hb dX1_pack_130 rfl (lv_at hl 4 rfl) ?_
            refine lv_iload hx hb dX1_pack_131 (lv_at hl 0 rfl) ?_
            refine q_iald hx hb hK hP 2 0 rfl rfl (k := (st + k)) (by omega) (by omega) dX1_pack_133 ?_
            refine q_v0 (wr := [(o1, .inl (cI, bl, .inl fB))]) (va_runV (As := [.int (fB (st + k))]) (rest := []) ⟨hx, hb, hml, hown, hts⟩ (c_X1_put l D cI cZ cB cJ H.size k0 k1 wd qs (upd sg1 hd (b8 ((sg1 hd) + (nI 1)))) (fB (st + k)) (by omega) (by omega)) (cwV 1 hts gX1_pack_X1_put rfl rfl rfl (by decide +kernel) ⟨Nat.le_of_ble_eq_true rfl, Nat.le_of_ble_eq_true rfl⟩) (q_preV (q_pre (wc := [(k0, .inr (1, [.ref k1, .int (nI qs)])), (k1, .inl (cB, 2 * wd, .inl (upd sg1 hd (b8 ((sg1 hd) + (nI 1))))))]) hP hD hK hN [0, 1] (by decide) rfl) (va_recv hK hP (ci := 1) (q0 := 0) rfl rfl)) rfl rfl hl.1 rfl (lv_room (Nat.le_of_ble_eq_true rfl)) dX1_pack_134 ⟨Nat.zero_le _, Nat.zero_le _⟩) hS hA hP hD [0, 1] [2] rfl rfl (by decide) (by decide) (fun u H locs hp_134 hP hD hS => ?_)
            have hP : va_P D qCl [(o1, .inl (cI, bl, .inl fB)), (k0, .inr (1, [.ref k1, .int (nI (qs + 1))])), (k1, .inl (cB, 2 * wd, .inl (upd (upd sg1 hd (b8 ((sg1 hd) + (nI 1)))) qs (b8 (fB (st + k))))))] H := hP
            have hD : va_D A [(o1, .inl (cI, bl, .inl fB)), (k0, .inr (1, [.ref k1, .int (nI (qs + 1))])), (k1, .inl (cB, 2 * wd, .inl (upd (upd sg1 hd (b8 ((sg1 hd) + (nI 1)))) qs (b8 (fB (st + k))))))] := hD
            refine lv_iconst (v := nI 1) hx hb dX1_pack_137 (by decide) ?_
            refine lv_istore (lv' := [(5, .int (nI 1)), (6, .int (nI (st + k))), (4, .int (nI hd)), (0, .ref k0), (1, .ref o1), (2, .int (nI st)), (3, .int (nI en))]) hx hb dX1_pack_138 hl (by decide) rfl (fun ls hl => ?_)
            refine lv_iinc (v := nI (st + k + 1)) (lv' := [(6, .int (nI (st + k + 1))), (5, .int (nI 1)), (4, .int (nI hd)), (0, .ref k0), (1, .ref o1), (2, .int (nI st)), (3, .int (nI en))]) hx hb dX1_pack_140 hl (k := 1) rfl (q_inc _) (by decide) rfl (fun ls hl => ?_)
            refine lv_goto (tgt := 14) hx hb dX1_pack_143 (by decide) ?_
            exact ih_14 (k + 1) (upd (upd sg1 hd (b8 ((sg1 hd) + (nI 1)))) qs (b8 (fB (st + k)))) (qs + 1) hd 1 (by omega) (by omega) (by show pkSt fB st en k (pkS fB st en sg k) = _; rw [hS4]; exact (if_neg hn54).trans ((if_neg hn101).trans (if_neg (show ¬ af = 0 by omega)))) (by omega) (by omega) (by omega) _ _ _ (hP.sub [1, 2, 0] rfl) (hD.sub [1, 2, 0] (by decide) rfl) hS (lv_sub hl [0, 1, 2, 3, 4, 5, 6] rfl)
          refine lv_aload_n hx hb dX1_pack_106 rfl (lv_at hl 3 rfl) ?_
          refine va_get (D := D) (ci := 1) (v := .int (nI qs)) (C := RX1) (T := TX1) (N := 2) hx hb hts iX1 hown hK hP 0 rfl rfl 1 (by decide) f_7 (fun _ h9 => h9) rfl dX1_pack_107 ?_
          refine lv_istore (lv' := [(4, .int (nI qs)), (6, .int (nI (st + k))), (5, .int (nI af)), (0, .ref k0), (1, .ref o1), (2, .int (nI st)), (3, .int (nI en))]) hx hb dX1_pack_110 hl (by decide) rfl (fun ls hl => ?_)
          refine lv_aload_n hx hb dX1_pack_112 rfl (lv_at hl 3 rfl) ?_
          refine lv_iconst (v := nI 0) hx hb dX1_pack_113 (by decide) ?_
          refine q_v0 (wr := [(o1, .inl (cI, bl, .inl fB))]) (va_runV (As := [.int (nI 0)]) (rest := []) ⟨hx, hb, hml, hown, hts⟩ (c_X1_put l D cI cZ cB cJ H.size k0 k1 wd qs sg1 (nI 0) (by omega) (by omega)) (cwV 1 hts gX1_pack_X1_put rfl rfl rfl (by decide +kernel) ⟨Nat.le_of_ble_eq_true rfl, Nat.le_of_ble_eq_true rfl⟩) (q_preV (q_pre (wc := [(k0, .inr (1, [.ref k1, .int (nI qs)])), (k1, .inl (cB, 2 * wd, .inl sg1))]) hP hD hK hN [0, 1] (by decide) rfl) (va_recv hK hP (ci := 1) (q0 := 0) rfl rfl)) rfl rfl hl.1 rfl (lv_room (Nat.le_of_ble_eq_true rfl)) dX1_pack_114 ⟨Nat.zero_le _, Nat.zero_le _⟩) hS hA hP hD [0, 1] [2] rfl rfl (by decide) (by decide) (fun u H locs hp_114 hP hD hS => ?_)
          have hP : va_P D qCl [(o1, .inl (cI, bl, .inl fB)), (k0, .inr (1, [.ref k1, .int (nI (qs + 1))])), (k1, .inl (cB, 2 * wd, .inl (upd sg1 qs (b8 (nI 0)))))] H := hP
          have hD : va_D A [(o1, .inl (cI, bl, .inl fB)), (k0, .inr (1, [.ref k1, .int (nI (qs + 1))])), (k1, .inl (cB, 2 * wd, .inl (upd sg1 qs (b8 (nI 0)))))] := hD
          refine lv_aload_n hx hb dX1_pack_117 rfl (lv_at hl 3 rfl) ?_
          refine va_get (D := D) (ci := 1) (v := .ref k1) (C := RX1) (T := TX1) (N := 2) hx hb hts iX1 hown hK hP 1 rfl rfl 0 (by decide) f_13 (fun _ h9 => h9) rfl dX1_pack_118 ?_
          refine lv_iload hx hb dX1_pack_121 (lv_at hl 0 rfl) ?_
          refine lv_dup2_11 hx hb dX1_pack_123 rfl rfl ?_
          refine q_bald hx hb hK hP 2 2 rfl rfl (k := qs) (by omega) (by omega) dX1_pack_124 ?_
          refine lv_iconst (v := nI 1) hx hb dX1_pack_125 (by decide) ?_
          refine lv_iadd hx hb dX1_pack_126 ?_
          refine lv_i2b hx hb dX1_pack_127 rfl ?_
          refine q_eqi (y := b8 (((upd sg1 qs (b8 (nI 0))) qs) + (nI 1))) rfl ?_
          refine q_bastv hx hb hK hP hD hS 2 2 rfl rfl (k := qs) (b8_b8 _) (by omega) (by omega) dX1_pack_128 (fun H locs hP hD hS => ?_)
          have hP : va_P D qCl [(o1, .inl (cI, bl, .inl fB)), (k0, .inr (1, [.ref k1, .int (nI (qs + 1))])), (k1, .inl (cB, 2 * wd, .inl (upd (upd sg1 qs (b8 (nI 0))) qs (b8 (((upd sg1 qs (b8 (nI 0))) qs) + (nI 1))))))] H := hP
          have hD : va_D A [(o1, .inl (cI, bl, .inl fB)), (k0, .inr (1, [.ref k1, .int (nI (qs + 1))])), (k1, .inl (cB, 2 * wd, .inl (upd (upd sg1 qs (b8 (nI 0))) qs (b8 (((upd sg1 qs (b8 (nI 0))) qs) + (nI 1))))))] := hD
          refine lv_aload_n hx hb dX1_pack_129 rfl (lv_at hl 3 rfl) ?_
          refine lv_aload_n hx hb dX1_pack_130 rfl (lv_at hl 4 rfl) ?_
          refine lv_iload hx hb dX1_pack_131 (lv_at hl 1 rfl) ?_
          refine q_iald hx hb hK hP 0 0 rfl rfl (k := (st + k)) (by omega) (by omega) dX1_pack_133 ?_
          refine q_v0 (wr := [(o1, .inl (cI, bl, .inl fB))]) (va_runV (As := [.int (fB (st + k))]) (rest := []) ⟨hx, hb, hml, hown, hts⟩ (c_X1_put l D cI cZ cB cJ H.size k0 k1 wd (qs + 1) (upd (upd sg1 qs (b8 (nI 0))) qs (b8 (((upd sg1 qs (b8 (nI 0))) qs) + (nI 1)))) (fB (st + k)) (by omega) (by omega)) (cwV 1 hts gX1_pack_X1_put rfl rfl rfl (by decide +kernel) ⟨Nat.le_of_ble_eq_true rfl, Nat.le_of_ble_eq_true rfl⟩) (q_preV (q_pre (wc := [(k0, .inr (1, [.ref k1, .int (nI (qs + 1))])), (k1, .inl (cB, 2 * wd, .inl (upd (upd sg1 qs (b8 (nI 0))) qs (b8 (((upd sg1 qs (b8 (nI 0))) qs) + (nI 1))))))]) hP hD hK hN [1, 2] (by decide) rfl) (va_recv hK hP (ci := 1) (q0 := 1) rfl rfl)) rfl rfl hl.1 rfl (lv_room (Nat.le_of_ble_eq_true rfl)) dX1_pack_134 ⟨Nat.zero_le _, Nat.zero_le _⟩) hS hA hP hD [1, 2] [0] rfl rfl (by decide) (by decide) (fun u H locs hp_134 hP hD hS => ?_)
          have hP : va_P D qCl [(o1, .inl (cI, bl, .inl fB)), (k0, .inr (1, [.ref k1, .int (nI ((qs + 1) + 1))])), (k1, .inl (cB, 2 * wd, .inl (upd (upd (upd sg1 qs (b8 (nI 0))) qs (b8 (((upd sg1 qs (b8 (nI 0))) qs) + (nI 1)))) (qs + 1) (b8 (fB (st + k))))))] H := hP
          have hD : va_D A [(o1, .inl (cI, bl, .inl fB)), (k0, .inr (1, [.ref k1, .int (nI ((qs + 1) + 1))])), (k1, .inl (cB, 2 * wd, .inl (upd (upd (upd sg1 qs (b8 (nI 0))) qs (b8 (((upd sg1 qs (b8 (nI 0))) qs) + (nI 1)))) (qs + 1) (b8 (fB (st + k))))))] := hD
          refine lv_iconst (v := nI 1) hx hb dX1_pack_137 (by decide) ?_
          refine lv_istore (lv' := [(5, .int (nI 1)), (4, .int (nI qs)), (6, .int (nI (st + k))), (0, .ref k0), (1, .ref o1), (2, .int (nI st)), (3, .int (nI en))]) hx hb dX1_pack_138 hl (by decide) rfl (fun ls hl => ?_)
          refine lv_iinc (v := nI (st + k + 1)) (lv' := [(6, .int (nI (st + k + 1))), (5, .int (nI 1)), (4, .int (nI qs)), (0, .ref k0), (1, .ref o1), (2, .int (nI st)), (3, .int (nI en))]) hx hb dX1_pack_140 hl (k := 2) rfl (q_inc _) (by decide) rfl (fun ls hl => ?_)
          refine lv_goto (tgt := 14) hx hb dX1_pack_143 (by decide) ?_
          exact ih_14 (k + 1) (upd (upd (upd sg1 qs (b8 (nI 0))) qs (b8 (((upd sg1 qs (b8 (nI 0))) qs) + (nI 1)))) (qs + 1) (b8 (fB (st + k)))) ((qs + 1) + 1) qs 1 (by omega) (by omega) (by show pkSt fB st en k (pkS fB st en sg k) = _; rw [hS4]; exact (if_neg hn54).trans ((if_neg hn101).trans (if_pos h_103))) (by omega) (by omega) (by omega) _ _ _ (hP.sub [1, 2, 0] rfl) (hD.sub [1, 2, 0] (by decide) rfl) hS (lv_sub hl [0, 1, 2, 3, 4, 5, 6] rfl)
        refine lv_iload hx hb dX1_pack_54 (lv_at hl 0 rfl) ?_
        refine lv_iconst (v := nI 1) hx hb dX1_pack_56 (by decide) ?_
        refine lv_iadd hx hb dX1_pack_57 ?_
        refine q_eqi (nI_add _ _) ?_
        refine lv_iload_n hx hb dX1_pack_58 rfl (lv_at hl 6 rfl) ?_
        refine q_ge (tgt := 101) hx hb (by omega) (by omega) dX1_pack_59 (by decide) (fun h_59 => ?_) (fun h_59 => ?_)
        · exact J_101 (fun z => by omega) _ _ _ (hP.sub [0, 1, 2] rfl) (hD.sub [0, 1, 2] (by decide) rfl) hS (lv_sub hl [0, 1, 2, 3, 4, 5, 6] rfl)
        refine lv_aload_n hx hb dX1_pack_62 rfl (lv_at hl 4 rfl) ?_
        refine lv_iload hx hb dX1_pack_63 (lv_at hl 0 rfl) ?_
        refine q_iald hx hb hK hP 2 0 rfl rfl (k := (st + k)) (by omega) (by omega) dX1_pack_65 ?_
        refine lv_aload_n hx hb dX1_pack_66 rfl (lv_at hl 4 rfl) ?_
        refine lv_iload hx hb dX1_pack_67 (lv_at hl 0 rfl) ?_
        refine lv_iconst (v := nI 1) hx hb dX1_pack_69 (by decide) ?_
        refine lv_iadd hx hb dX1_pack_70 ?_
        refine q_eqi (nI_add _ _) ?_
        refine q_iald hx hb hK hP 2 0 rfl rfl (k := ((st + k) + 1)) (by omega) (by omega) dX1_pack_71 ?_
        refine lv_icmp_ne (tgt := 101) hx hb dX1_pack_72 (by decide) (fun h_72 => ?_) (fun h_72 => ?_)
        · exact J_101 (fun z => h_72 z.2) _ _ _ (hP.sub [0, 1, 2] rfl) (hD.sub [0, 1, 2] (by decide) rfl) hS (lv_sub hl [0, 1, 2, 3, 4, 5, 6] rfl)
        refine lv_aload_n hx hb dX1_pack_75 rfl (lv_at hl 3 rfl) ?_
        refine va_get (D := D) (ci := 1) (v := .int (nI qs)) (C := RX1) (T := TX1) (N := 2) hx hb hts iX1 hown hK hP 0 rfl rfl 1 (by decide) f_7 (fun _ h9 => h9) rfl dX1_pack_76 ?_
        refine lv_istore (lv' := [(4, .int (nI qs)), (6, .int (nI (st + k))), (5, .int (nI af)), (0, .ref k0), (1, .ref o1), (2, .int (nI st)), (3, .int (nI en))]) hx hb dX1_pack_79 hl (by decide) rfl (fun ls hl => ?_)
        refine lv_aload_n hx hb dX1_pack_81 rfl (lv_at hl 3 rfl) ?_
        refine lv_bipush (v := nI 127) hx hb dX1_pack_82 (by decide) ?_
        refine q_v0 (wr := [(o1, .inl (cI, bl, .inl fB))]) (va_runV (As := [.int (nI 127)]) (rest := []) ⟨hx, hb, hml, hown, hts⟩ (c_X1_put l D cI cZ cB cJ H.size k0 k1 wd qs sg1 (nI 127) (by omega) (by omega)) (cwV 1 hts gX1_pack_X1_put rfl rfl rfl (by decide +kernel) ⟨Nat.le_of_ble_eq_true rfl, Nat.le_of_ble_eq_true rfl⟩) (q_preV (q_pre (wc := [(k0, .inr (1, [.ref k1, .int (nI qs)])), (k1, .inl (cB, 2 * wd, .inl sg1))]) hP hD hK hN [0, 1] (by decide) rfl) (va_recv hK hP (ci := 1) (q0 := 0) rfl rfl)) rfl rfl hl.1 rfl (lv_room (Nat.le_of_ble_eq_true rfl)) dX1_pack_84 ⟨Nat.zero_le _, Nat.zero_le _⟩) hS hA hP hD [0, 1] [2] rfl rfl (by decide) (by decide) (fun u H locs hp_84 hP hD hS => ?_)
        have hP : va_P D qCl [(o1, .inl (cI, bl, .inl fB)), (k0, .inr (1, [.ref k1, .int (nI (qs + 1))])), (k1, .inl (cB, 2 * wd, .inl (upd sg1 qs (b8 (nI 127)))))] H := hP
        have hD : va_D A [(o1, .inl (cI, bl, .inl fB)), (k0, .inr (1, [.ref k1, .int (nI (qs + 1))])), (k1, .inl (cB, 2 * wd, .inl (upd sg1 qs (b8 (nI 127)))))] := hD
        refine lv_aload_n hx hb dX1_pack_87 rfl (lv_at hl 3 rfl) ?_
        refine lv_aload_n hx hb dX1_pack_88 rfl (lv_at hl 4 rfl) ?_
        refine lv_iload hx hb dX1_pack_89 (lv_at hl 1 rfl) ?_
        refine q_iald hx hb hK hP 0 0 rfl rfl (k := (st + k)) (by omega) (by omega) dX1_pack_91 ?_
        refine q_v0 (wr := [(o1, .inl (cI, bl, .inl fB))]) (va_runV (As := [.int (fB (st + k))]) (rest := []) ⟨hx, hb, hml, hown, hts⟩ (c_X1_put l D cI cZ cB cJ H.size k0 k1 wd (qs + 1) (upd sg1 qs (b8 (nI 127))) (fB (st + k)) (by omega) (by omega)) (cwV 1 hts gX1_pack_X1_put rfl rfl rfl (by decide +kernel) ⟨Nat.le_of_ble_eq_true rfl, Nat.le_of_ble_eq_true rfl⟩) (q_preV (q_pre (wc := [(k0, .inr (1, [.ref k1, .int (nI (qs + 1))])), (k1, .inl (cB, 2 * wd, .inl (upd sg1 qs (b8 (nI 127)))))]) hP hD hK hN [1, 2] (by decide) rfl) (va_recv hK hP (ci := 1) (q0 := 1) rfl rfl)) rfl rfl hl.1 rfl (lv_room (Nat.le_of_ble_eq_true rfl)) dX1_pack_92 ⟨Nat.zero_le _, Nat.zero_le _⟩) hS hA hP hD [1, 2] [0] rfl rfl (by decide) (by decide) (fun u H locs hp_92 hP hD hS => ?_)
        have hP : va_P D qCl [(o1, .inl (cI, bl, .inl fB)), (k0, .inr (1, [.ref k1, .int (nI ((qs + 1) + 1))])), (k1, .inl (cB, 2 * wd, .inl (upd (upd sg1 qs (b8 (nI 127))) (qs + 1) (b8 (fB (st + k))))))] H := hP
        have hD : va_D A [(o1, .inl (cI, bl, .inl fB)), (k0, .inr (1, [.ref k1, .int (nI ((qs + 1) + 1))])), (k1, .inl (cB, 2 * wd, .inl (upd (upd sg1 qs (b8 (nI 127))) (qs + 1) (b8 (fB (st + k))))))] := hD
        refine lv_iconst (v := nI 0) hx hb dX1_pack_95 (by decide) ?_
        refine lv_istore (lv' := [(5, .int (nI 0)), (4, .int (nI qs)), (6, .int (nI (st + k))), (0, .ref k0), (1, .ref o1), (2, .int (nI st)), (3, .int (nI en))]) hx hb dX1_pack_96 hl (by decide) rfl (fun ls hl => ?_)
        refine lv_goto (tgt := 140) hx hb dX1_pack_98 (by decide) ?_
        refine lv_iinc (v := nI (st + k + 1)) (lv' := [(6, .int (nI (st + k + 1))), (5, .int (nI 0)), (4, .int (nI qs)), (0, .ref k0), (1, .ref o1), (2, .int (nI st)), (3, .int (nI en))]) hx hb dX1_pack_140 hl (k := 2) rfl (q_inc _) (by decide) rfl (fun ls hl => ?_)
        refine lv_goto (tgt := 14) hx hb dX1_pack_143 (by decide) ?_
        exact ih_14 (k + 1) (upd (upd sg1 qs (b8 (nI 127))) (qs + 1) (b8 (fB (st + k)))) ((qs + 1) + 1) qs 0 (by omega) (by omega) (by show pkSt fB st en k (pkS fB st en sg k) = _; rw [hS4]; exact (if_neg hn54).trans (if_pos ⟨by omega, h_72⟩)) (by omega) (by omega) (by omega) _ _ _ (hP.sub [1, 2, 0] rfl) (hD.sub [1, 2, 0] (by decide) rfl) hS (lv_sub hl [0, 1, 2, 3, 4, 5, 6] rfl)
      refine lv_iload hx hb dX1_pack_20 (lv_at hl 0 rfl) ?_
      refine lv_iload_n hx hb dX1_pack_22 rfl (lv_at hl 5 rfl) ?_
      refine q_le (tgt := 54) hx hb (by omega) (by omega) dX1_pack_23 (by decide) (fun h_23 => ?_) (fun h_23 => ?_)
      · exact J_54 (fun z => by omega) _ _ _ (hP.sub [0, 1, 2] rfl) (hD.sub [0, 1, 2] (by decide) rfl) hS (lv_sub hl [0, 1, 2, 3, 4, 5, 6] rfl)
      refine lv_aload_n hx hb dX1_pack_26 rfl (lv_at hl 4 rfl) ?_
      refine lv_iload hx hb dX1_pack_27 (lv_at hl 0 rfl) ?_
      refine q_iald hx hb hK hP 2 0 rfl rfl (k := (st + k)) (by omega) (by omega) dX1_pack_29 ?_
      refine lv_aload_n hx hb dX1_pack_30 rfl (lv_at hl 4 rfl) ?_
      refine lv_iload hx hb dX1_pack_31 (lv_at hl 0 rfl) ?_
      refine lv_iconst (v := nI 1) hx hb dX1_pack_33 (by decide) ?_
      refine lv_isub hx hb dX1_pack_34 ?_
      refine q_eqi (y := nI (st + k - 1)) (pk_sub (by omega)) ?_
      refine q_iald hx hb hK hP 2 0 rfl rfl (k := (st + k - 1)) (by omega) (by omega) dX1_pack_35 ?_
      refine lv_icmp_ne (tgt := 54) hx hb dX1_pack_36 (by decide) (fun h_36 => ?_) (fun h_36 => ?_)
      · exact J_54 (fun z => h_36 z.2) _ _ _ (hP.sub [0, 1, 2] rfl) (hD.sub [0, 1, 2] (by decide) rfl) hS (lv_sub hl [0, 1, 2, 3, 4, 5, 6] rfl)
      refine lv_aload_n hx hb dX1_pack_39 rfl (lv_at hl 3 rfl) ?_
      refine va_get (D := D) (ci := 1) (v := .ref k1) (C := RX1) (T := TX1) (N := 2) hx hb hts iX1 hown hK hP 0 rfl rfl 0 (by decide) f_13 (fun _ h9 => h9) rfl dX1_pack_40 ?_
      refine lv_iload hx hb dX1_pack_43 (lv_at hl 2 rfl) ?_
      refine lv_dup2_11 hx hb dX1_pack_45 rfl rfl ?_
      refine q_bald hx hb hK hP 1 2 rfl rfl (k := hd) (by omega) (by omega) dX1_pack_46 ?_
      refine lv_iconst (v := nI 1) hx hb dX1_pack_47 (by decide) ?_
      refine lv_isub hx hb dX1_pack_48 ?_
      refine lv_i2b hx hb dX1_pack_49 rfl ?_
      refine q_eqi (y := b8 (sg1 hd - nI 1)) rfl ?_
      refine q_bastv hx hb hK hP hD hS 1 2 rfl rfl (k := hd) (b8_b8 _) (by omega) (by omega) dX1_pack_50 (fun H locs hP hD hS => ?_)
      have hP : va_P D qCl [(k0, .inr (1, [.ref k1, .int (nI qs)])), (k1, .inl (cB, 2 * wd, .inl (upd sg1 hd (b8 (sg1 hd - nI 1))))), (o1, .inl (cI, bl, .inl fB))] H := hP
      have hD : va_D A [(k0, .inr (1, [.ref k1, .int (nI qs)])), (k1, .inl (cB, 2 * wd, .inl (upd sg1 hd (b8 (sg1 hd - nI 1))))), (o1, .inl (cI, bl, .inl fB))] := hD
      refine lv_goto (tgt := 140) hx hb dX1_pack_51 (by decide) ?_
      refine lv_iinc (v := nI (st + k + 1)) (lv' := [(6, .int (nI (st + k + 1))), (5, .int (nI af)), (4, .int (nI hd)), (0, .ref k0), (1, .ref o1), (2, .int (nI st)), (3, .int (nI en))]) hx hb dX1_pack_140 hl (k := 0) rfl (q_inc _) (by decide) rfl (fun ls hl => ?_)
      refine lv_goto (tgt := 14) hx hb dX1_pack_143 (by decide) ?_
      exact ih_14 (k + 1) (upd sg1 hd (b8 (sg1 hd - nI 1))) qs hd af (by omega) (by omega) (by show pkSt fB st en k (pkS fB st en sg k) = _; rw [hS4]; exact if_pos ⟨by omega, h_36⟩) (by omega) (by omega) (by omega) _ _ _ (hP.sub [0, 1, 2] rfl) (hD.sub [0, 1, 2] (by decide) rfl) hS (lv_sub hl [0, 1, 2, 3, 4, 5, 6] rfl)
  exact L_14 _ 0 sg 0 0 0 (Nat.lt_succ_self _) (by omega) rfl (by omega) (Or.inl rfl) (Or.inl rfl) _ _ _ (hP.sub [0, 1, 2] rfl) (hD.sub [0, 1, 2] (by decide) rfl) hS (lv_sub hl [0, 1, 2, 3, 4, 5, 6] rfl)
end
section
/-! methods that may throw: their start, end and calls -/
def XC1 (D : va_G) (tys : List (ClassId × FieldType)) (A : Nat → Prop) (w0 : va_W) (XE : String → Prop) : String → State → State → Prop := vx_X (fun (_ : Unit) => True) (fun E (_ : Unit) t => XE E ∧ PO D tys A w0 t) A
theorem at_hat {ic : Nat} {cls : String} {names : List String} {ws : List Cond} {args : Array Value} {s : State} (hts : ∀ w ∈ ws, w.before args s = true) (hin : ∀ w ∈ (vx_atS RX4 ic cls names).filter goodWord, w ∈ ws) (hN : NW s) (h2 : ∀ w ∈ (vx_atS RX4 ic cls names).filter (fun w => !goodWord w), w ∈ nwL) : ∀ w ∈ vx_atS RX4 ic cls names, w.before args s = true :=
  vx_hat (fun w hw => hts w (hin w hw)) h2 (fun w hw => va_Nw.use (nwOk_tab (nwL_ok w hw)) (hN.1 w hw))
theorem ng_152 : ∀ w ∈ (vx_atS RX4 152 qUOE nmRE).filter (fun w => !goodWord w), w ∈ nwL := by decide +kernel
theorem ng_90 : ∀ w ∈ (vx_atS RX4 90 qISE nmRE).filter (fun w => !goodWord w), w ∈ nwL := by decide +kernel
theorem ng_157 : ∀ w ∈ (vx_atS RX4 157 qIAE nmRE).filter (fun w => !goodWord w), w ∈ nwL := by decide +kernel
theorem ot_152 : ∀ w ∈ Cond.classLink RX4 148 qUOE :: Cond.initialized qUOE :: vx_atS RX4 152 qUOE nmRE, vx_ot w = true := by decide +kernel
theorem ot_90 : ∀ w ∈ Cond.classLink RX4 86 qISE :: Cond.initialized qISE :: vx_atS RX4 90 qISE nmRE, vx_ot w = true := by decide +kernel
theorem ot_157 : ∀ w ∈ Cond.classLink RX4 153 qIAE :: Cond.initialized qIAE :: vx_atS RX4 157 qIAE nmRE, vx_ot w = true := by decide +kernel
theorem ot_147 : ∀ w ∈ Cond.classLink RX4 143 qAIO :: Cond.initialized qAIO :: vx_atS RX4 147 qAIO nmIO, vx_ot w = true := by decide +kernel
section XE1
variable {l : Launch} {y : MethodName} {ws ws' : List Cond} {rm : Room} {D : va_G} {tys : List (ClassId × FieldType)} {w0 : va_W} {sz mc ms : Nat} {av : List Value} {cc : ByteArray} {maxL : Nat} {S : Type}
/-- the throw of a method's body: 'throw new E("text")' -/
def QThrow (p : Program) (l : Launch) (e : Env) (rm : Room) (s : State) (m : MethodId) (av : List Value) (below : List Frame) (meth : Method) (c : Code) (cc : ByteArray) (D : va_G) (w0 : va_W) (A : Nat → Prop) (XE : String → Prop) (mc ms : Nat) (Q : State → Prop) : Prop :=
  ∀ (own cls text : String) (names : List String) (ik is ic pc k n : Nat) (H : Heap) (locs : List Loc) (ls : Array Slot),
    s.vm.findClass own = some m.cls → Bundle.fit cls = true → (∀ q ∈ names, Bundle.fit q = true) → (Cond.classLink own ik cls).before av.toArray s = true → (Cond.initialized cls).before av.toArray s = true → (∃ sa, vk_R own is text sa s) → (∀ w ∈ vx_atS own ic cls names, w.before av.toArray s = true) →
    (∀ w ∈ Cond.classLink own ik cls :: Cond.initialized cls :: vx_atS own ic cls names, vx_ot w = true) → ls.size = c.maxLocals →
    decode cc pc = .ok (.new ik, 3) → decode cc (pc + 3) = .ok (.dup, 1) → decode cc (pc + 4) = .ok (.ldc is, 2) → decode cc (pc + 6) = .ok (.invokespecial ic, 3) → decode cc (pc + 9) = .ok (.athrow, 1) →
    names.length + 3 < rm.frames → 13 * (names.length + 1) + 43 ≤ rm.locals → k + 1 ≤ rm.cells → n + 6 ≤ rm.slots → k + 1 ≤ mc → n + 6 ≤ ms → XE cls →
    va_P D qCl w0 H → va_D A w0 → va_S A s.heap H locs → W p l e rm s m av.toArray below meth c H locs k n Q (F0 m pc ls [])
/-- an exception of a callee goes on -/
def QPass (p : Program) (l : Launch) (e : Env) (rm : Room) (s : State) (m : MethodId) (av : List Value) (below : List Frame) (meth : Method) (c : Code) (D : va_G) (w0 : va_W) (A : Nat → Prop) (XE : String → Prop) (mc ms : Nat) (Q : State → Prop) : Prop :=
  ∀ (E : String) (ce : Cell) (q9 : Addr) (pc k n : Nat) (H : Heap) (locs : List Loc) (ls : Array Slot) (rest : List Value), XE E → va_P D qCl w0 H → va_D A w0 → va_S A s.heap H locs → H[q9]? = some ce → ce.vm = .none → s.vm.findClass E = some ce.cls → k ≤ mc → n ≤ ms → vx_W p l e rm s m av.toArray below meth c H locs k n Q (F0 m pc ls rest) q9
theorem q_throw {p : Program} {e : Env} {s : State} {m : MethodId} {below : List Frame} {meth : Method} {c : Code} {A : Nat → Prop} {XE : String → Prop} {Qc : Array Value → State → Outcome → State → Prop} (hst : l.stackTraces = false) (hx : p.tables.exec = Jvm.exec) (hb : c.code = cc) (hno : ∀ x ∈ c.exceptionTable.toList, False) (hlocks : meth.locks = false) (hZ : ZZ A s s.heap) (hA : ∀ q : Nat, s.heap.size ≤ q → A q) (hK : va_K D qCl tys s) :
    QThrow p l e rm s m av below meth c cc D w0 A XE mc ms (vx_MQ below Qc (XC1 D tys A w0 XE) av.toArray s mc ms A) := by
  intro own cls text names ik is ic pc k n H locs ls hown hcls hnames hk hini hstr hat hgood hsize d0 d3 d4 d6 d9 hf hlo hc1 hs1 hc2 hs2 hXE hP hD hS
  obtain ⟨sa, hstr⟩ := hstr
  refine vx_throwS hx hb hst (A := A) hown hcls hnames hk hini hstr hat hgood hZ.1 hZ.2 hS hsize d0 d3 d4 d6 d9 (fun x h => (hno x h).elim) hf (by simp only [List.map_nil, List.sum_nil]; omega) hc1 hs1 hlocks ?_ hS.2.2 hc2 hs2
  intro t hal hz hk9
  have hF : va_F A s t := ⟨Nat.le_trans hS.1 hz, fun q h1 h2 => (hk9 q (Nat.lt_of_lt_of_le h1 hS.1)).trans (hS.2.1 q h1 h2)⟩
  exact ⟨(), trivial, ⟨hXE, hP.kept (fun k q hq => hk9 q.1 (hP k q hq).lt), va_K.moved hal hK, hD⟩, hF⟩
theorem q_pass {p : Program} {e : Env} {s : State} {m : MethodId} {below : List Frame} {meth : Method} {c : Code} {A : Nat → Prop} {XE : String → Prop} {Qc : Array Value → State → Outcome → State → Prop} (hno : ∀ x ∈ c.exceptionTable.toList, False) (hlocks : meth.locks = false) (hK : va_K D qCl tys s) :
    QPass p l e rm s m av below meth c D w0 A XE mc ms (vx_MQ below Qc (XC1 D tys A w0 XE) av.toArray s mc ms A) := by
  intro E ce q9 pc k n H locs ls rest hXE hP hD hS hce hcv hcl hk hn
  exact vx_out (fun x h => (hno x h).elim) hlocks hce hcv hcl (fun t ht hal => ⟨(), trivial, ⟨hXE, by rw [ht]; exact hP, va_K.moved hal hK, hD⟩, hS.F ht⟩) hS.2.2 hk hn
theorem q_entXV (hst : l.stackTraces = false) (hy : plainName y.cls = true) (hw : ws = Cond.code y cc maxL none :: ws') (hlen : (lg_sl av).length ≤ maxL) {post : S → Prop} {w1 : S → va_W} {XE : String → Prop}
    (body : ∀ (p : Program) (e : Env) (s : State) (m : MethodId) (below : List Frame) (meth : Method) (c : Code) (A : Nat → Prop) (Q : State → Prop) (ls : Array Slot), QAt p y ws D tys w0 sz av cc maxL s m meth c A → lv_has ls maxL (lv_args 0 av) → ZZ A s s.heap →
      (∀ (H : Heap) (locs : List Loc) (pc : Nat) (ls : Array Slot) (u : S) (k n : Nat), decode cc pc = .ok (.return_, 1) → k ≤ mc → n ≤ ms → post u → va_P D qCl (w1 u) H → va_K D qCl tys s → va_D A (w1 u) → va_S A s.heap H locs → W p l e rm s m av.toArray below meth c H locs k n Q (F0 m pc ls [])) →
      QThrow p l e rm s m av below meth c cc D w0 A XE mc ms Q → QPass p l e rm s m av below meth c D w0 A XE mc ms Q →
      W p l e rm s m av.toArray below meth c s.heap [] 0 0 Q (F0 m 0 ls [])) :
    vx_Met l y ws rm (va_Pc av (PZ D tys w0 sz)) (va_Qv post (fun u => PO D tys (va_A w0 sz) (w1 u)) (va_A w0 sz)) (XC1 D tys (va_A w0 sz) w0 XE) mc ms (va_A w0 sz) := by
  refine vx_ofW (cc := cc) (maxL := maxL) (ret := none) hy hw ?_
  intro p e s m args below meth c s₁ B hml hno hv
  obtain ⟨hv1, hv2, hZ⟩ := hv
  obtain ⟨rfl, hq⟩ := q_at (av := av) B hml ⟨hv1, hv2⟩
  rw [lg_entry_eq]
  refine q_ls hlen (Pr := fun ls => W p l e rm s m av.toArray below meth c s.heap [] 0 0 (vx_MQ below (va_Qv post (fun u => PO D tys (va_A w0 sz) (w1 u)) (va_A w0 sz)) (XC1 D tys (va_A w0 sz) w0 XE) av.toArray s mc ms (va_A w0 sz)) (F0 m 0 ls [])) (fun ls hl => ?_)
  have hK : va_K D qCl tys s := hq.2.2.2.2.2.2.2.1
  have hA : ∀ q : Nat, s.heap.size ≤ q → va_A w0 sz q := hq.2.2.2.2.2.2.2.2.2.1
  refine body p e s m below meth c (va_A w0 sz) _ ls hq hl hZ ?_ (q_throw hst hq.1 hq.2.1 hno B.notSynchronized hZ hA hK) (q_pass hno B.notSynchronized hK)
  intro H locs pc ls u k n hd hk hn hp hP hK hD hS
  refine W.widen hk hn ?_
  refine vx_ret ?_
  exact W.vret hq.1 hq.2.1 B.returns (fun t ht hW => ⟨⟨u, rfl, hp, by rw [ht]; exact hP, va_K.moved hW.alike hK, hD⟩, hS.F ht⟩) hS.2.2 hd B.notSynchronized
theorem q_entXI (hst : l.stackTraces = false) (hy : plainName y.cls = true) (hw : ws = Cond.code y cc maxL (some .int) :: ws') (hlen : (lg_sl av).length ≤ maxL) {post : Int32 → S → Prop} {w1 : S → va_W} {XE : String → Prop}
    (body : ∀ (p : Program) (e : Env) (s : State) (m : MethodId) (below : List Frame) (meth : Method) (c : Code) (A : Nat → Prop) (Q : State → Prop) (ls : Array Slot), QAt p y ws D tys w0 sz av cc maxL s m meth c A → lv_has ls maxL (lv_args 0 av) → ZZ A s s.heap →
      (∀ (H : Heap) (locs : List Loc) (pc : Nat) (ls : Array Slot) (r : Int32) (u : S) (k n : Nat), decode cc pc = .ok (.ireturn, 1) → k ≤ mc → n ≤ ms → post r u → va_P D qCl (w1 u) H → va_K D qCl tys s → va_D A (w1 u) → va_S A s.heap H locs → W p l e rm s m av.toArray below meth c H locs k n Q (F0 m pc ls [.int r])) →
      QThrow p l e rm s m av below meth c cc D w0 A XE mc ms Q → QPass p l e rm s m av below meth c D w0 A XE mc ms Q →
      W p l e rm s m av.toArray below meth c s.heap [] 0 0 Q (F0 m 0 ls [])) :
    vx_Met l y ws rm (va_Pc av (PZ D tys w0 sz)) (va_Qi post (fun u => PO D tys (va_A w0 sz) (w1 u)) (va_A w0 sz)) (XC1 D tys (va_A w0 sz) w0 XE) mc ms (va_A w0 sz) := by
  refine vx_ofW (cc := cc) (maxL := maxL) (ret := some .int) hy hw ?_
  intro p e s m args below meth c s₁ B hml hno hv
  obtain ⟨hv1, hv2, hZ⟩ := hv
  obtain ⟨rfl, hq⟩ := q_at (av := av) B hml ⟨hv1, hv2⟩
  rw [lg_entry_eq]
  refine q_ls hlen (Pr := fun ls => W p l e rm s m av.toArray below meth c s.heap [] 0 0 (vx_MQ below (va_Qi post (fun u => PO D tys (va_A w0 sz) (w1 u)) (va_A w0 sz)) (XC1 D tys (va_A w0 sz) w0 XE) av.toArray s mc ms (va_A w0 sz)) (F0 m 0 ls [])) (fun ls hl => ?_)
  have hK : va_K D qCl tys s := hq.2.2.2.2.2.2.2.1
  have hA : ∀ q : Nat, s.heap.size ≤ q → va_A w0 sz q := hq.2.2.2.2.2.2.2.2.2.1
  refine body p e s m below meth c (va_A w0 sz) _ ls hq hl hZ ?_ (q_throw hst hq.1 hq.2.1 hno B.notSynchronized hZ hA hK) (q_pass hno B.notSynchronized hK)
  intro H locs pc ls r u k n hd hk hn hp hP hK hD hS
  refine W.widen hk hn ?_
  refine vx_ret ?_
  exact W.iret (v := r) hq.1 hq.2.1 B.returns (fun t ht hW => ⟨⟨r, u, rfl, hp, by rw [ht]; exact hP, va_K.moved hW.alike hK, hD⟩, hS.F ht⟩) hS.2.2 hd B.notSynchronized
theorem q_entXZ {ty : FieldType} (hst : l.stackTraces = false) (hy : plainName y.cls = true) (hw : ws = Cond.code y cc maxL (some ty) :: ws') (hlen : (lg_sl av).length ≤ maxL) {post : Int32 → S → Prop} {w1 : S → va_W} {XE : String → Prop}
    (body : ∀ (p : Program) (e : Env) (s : State) (m : MethodId) (below : List Frame) (meth : Method) (c : Code) (A : Nat → Prop) (Q : State → Prop) (ls : Array Slot), QAt p y ws D tys w0 sz av cc maxL s m meth c A → lv_has ls maxL (lv_args 0 av) → ZZ A s s.heap →
      (∀ (H : Heap) (locs : List Loc) (pc : Nat) (ls : Array Slot) (r : Int32) (u : S) (k n : Nat), narrow ty (.int r) = .int r → decode cc pc = .ok (.ireturn, 1) → k ≤ mc → n ≤ ms → post r u → va_P D qCl (w1 u) H → va_K D qCl tys s → va_D A (w1 u) → va_S A s.heap H locs → W p l e rm s m av.toArray below meth c H locs k n Q (F0 m pc ls [.int r])) →
      QThrow p l e rm s m av below meth c cc D w0 A XE mc ms Q → QPass p l e rm s m av below meth c D w0 A XE mc ms Q →
      W p l e rm s m av.toArray below meth c s.heap [] 0 0 Q (F0 m 0 ls [])) :
    vx_Met l y ws rm (va_Pc av (PZ D tys w0 sz)) (va_Qi post (fun u => PO D tys (va_A w0 sz) (w1 u)) (va_A w0 sz)) (XC1 D tys (va_A w0 sz) w0 XE) mc ms (va_A w0 sz) := by
  refine vx_ofW (cc := cc) (maxL := maxL) (ret := some ty) hy hw ?_
  intro p e s m args below meth c s₁ B hml hno hv
  obtain ⟨hv1, hv2, hZ⟩ := hv
  obtain ⟨rfl, hq⟩ := q_at (av := av) B hml ⟨hv1, hv2⟩
  rw [lg_entry_eq]
  refine q_ls hlen (Pr := fun ls => W p l e rm s m av.toArray below meth c s.heap [] 0 0 (vx_MQ below (va_Qi post (fun u => PO D tys (va_A w0 sz) (w1 u)) (va_A w0 sz)) (XC1 D tys (va_A w0 sz) w0 XE) av.toArray s mc ms (va_A w0 sz)) (F0 m 0 ls [])) (fun ls hl => ?_)
  have hK : va_K D qCl tys s := hq.2.2.2.2.2.2.2.1
  have hA : ∀ q : Nat, s.heap.size ≤ q → va_A w0 sz q := hq.2.2.2.2.2.2.2.2.2.1
  refine body p e s m below meth c (va_A w0 sz) _ ls hq hl hZ ?_ (q_throw hst hq.1 hq.2.1 hno B.notSynchronized hZ hA hK) (q_pass hno B.notSynchronized hK)
  intro H locs pc ls r u k n hnr hd hk hn hp hP hK hD hS
  refine W.widen hk hn ?_
  refine vx_ret ?_
  exact W.zret (v := r) hq.1 hq.2.1 B.returns hnr (fun t ht hW => ⟨⟨r, u, rfl, hp, by rw [ht]; exact hP, va_K.moved hW.alike hK, hD⟩, hS.F ht⟩) hS.2.2 hd B.notSynchronized
end XE1
section XE2
variable {p : Program} {l : Launch} {e : Env} {R : Room} {s : State} {m : MethodId} {args : Array Value} {below : List Frame} {meth : Method} {c : Code} {H : Heap} {locs : List Loc} {cells slots : Nat} {Q : State → Prop}
variable {cc : ByteArray} {pc : Nat} {ls : Array Slot} {rest st0 : List Value} {D : va_G} {A A0 : Nat → Prop} {a : Nat} {tys : List (ClassId × FieldType)} {ws wc wr : va_W} {H0 : Heap} {cl : List vw_C}
/-- behind a call that may throw -/
theorem q_xv {S : Type} {post : S → Prop} {w1 : S → va_W} {XE : String → Prop} {va : Array Value} {mc ms : Nat} (hr : vx_Run p l e R s m args below meth c H locs cells slots mc ms (F0 m pc ls st0) rest (va_Qv post (fun u => PO D tys (va_A wc H.size) (w1 u)) (va_A wc H.size) va) (XC1 D tys (va_A wc H.size) wc XE) (va_A wc H.size)) (hS : va_S A H0 H locs) (hA : ∀ q, H0.size ≤ q → A q) (hP : va_P D qCl ws H) (hD : va_D A ws) (isC isR : List Nat) (hC : isC.map (fun i => ws[i]?) = wc.map some) (hR : isR.map (fun i => ws[i]?) = wr.map some) (hn : va_nd isR = true) (hdis : ∀ i ∈ isR, i ∉ isC)
    (kx : ∀ (E : String) (ce : Cell) (q9 : Addr) (H1 : Heap) (locs1 : List Loc), XE E → va_P D qCl (wr ++ wc) H1 → va_D A (wr ++ wc) → va_S A H0 H1 locs1 → H1[q9]? = some ce → ce.vm = .none → s.vm.findClass E = some ce.cls → vx_W p l e R s m args below meth c H1 locs1 (cells + mc) (slots + ms) Q (F0 m pc ls rest) q9)
    (kk : ∀ (u : S) (H1 : Heap) (locs1 : List Loc), post u → va_P D qCl (wr ++ w1 u) H1 → va_D A (wr ++ w1 u) → va_S A H0 H1 locs1 → W p l e R s m args below meth c H1 locs1 (cells + mc) (slots + ms) Q (F0 m (pc + 3) ls rest)) : W p l e R s m args below meth c H locs cells slots Q (F0 m pc ls st0) := by
  have hF := va_free hD hS hA isC hC
  refine vx_callv hr hS (fun q _ h => hF q h) hF (fun q _ h => hF q h) (fun E ce q9 u t H1 locs1 ht hvm hp hB hz hk hS1 hce hcv hcl => ?_) (fun u t H1 locs1 ht hvm hp hB hz hk hS1 => ?_)
  · obtain ⟨hXE, hP1, hK1, hD1⟩ := hB
    rw [ht] at hP1
    obtain ⟨hP2, hD2⟩ := va_join hP hD isC isR hC hR hn hdis hk hF hP1 hD1
    exact kx E ce q9 H1 locs1 hXE hP2 hD2 hS1 hce hcv hcl
  · obtain ⟨hP1, hK1, hD1⟩ := hB
    rw [ht] at hP1
    obtain ⟨hP2, hD2⟩ := va_join hP hD isC isR hC hR hn hdis hk hF hP1 hD1
    exact kk u H1 locs1 hp hP2 hD2 hS1
theorem q_xi {S : Type} {post : Int32 → S → Prop} {w1 : S → va_W} {XE : String → Prop} {va : Array Value} {mc ms : Nat} (hr : vx_Run p l e R s m args below meth c H locs cells slots mc ms (F0 m pc ls st0) rest (va_Qi post (fun u => PO D tys (va_A wc H.size) (w1 u)) (va_A wc H.size) va) (XC1 D tys (va_A wc H.size) wc XE) (va_A wc H.size)) (hS : va_S A H0 H locs) (hA : ∀ q, H0.size ≤ q → A q) (hP : va_P D qCl ws H) (hD : va_D A ws) (isC isR : List Nat) (hC : isC.map (fun i => ws[i]?) = wc.map some) (hR : isR.map (fun i => ws[i]?) = wr.map some) (hn : va_nd isR = true) (hdis : ∀ i ∈ isR, i ∉ isC)
    (kx : ∀ (E : String) (ce : Cell) (q9 : Addr) (H1 : Heap) (locs1 : List Loc), XE E → va_P D qCl (wr ++ wc) H1 → va_D A (wr ++ wc) → va_S A H0 H1 locs1 → H1[q9]? = some ce → ce.vm = .none → s.vm.findClass E = some ce.cls → vx_W p l e R s m args below meth c H1 locs1 (cells + mc) (slots + ms) Q (F0 m pc ls rest) q9)
    (kk : ∀ (r : Int32) (u : S) (H1 : Heap) (locs1 : List Loc), post r u → va_P D qCl (wr ++ w1 u) H1 → va_D A (wr ++ w1 u) → va_S A H0 H1 locs1 → W p l e R s m args below meth c H1 locs1 (cells + mc) (slots + ms) Q (F0 m (pc + 3) ls (.int r :: rest))) : W p l e R s m args below meth c H locs cells slots Q (F0 m pc ls st0) := by
  have hF := va_free hD hS hA isC hC
  refine vx_calli hr hS (fun q _ h => hF q h) hF (fun q _ h => hF q h) (fun E ce q9 u t H1 locs1 ht hvm hp hB hz hk hS1 hce hcv hcl => ?_) (fun r u t H1 locs1 ht hvm hp hB hz hk hS1 => ?_)
  · obtain ⟨hXE, hP1, hK1, hD1⟩ := hB
    rw [ht] at hP1
    obtain ⟨hP2, hD2⟩ := va_join hP hD isC isR hC hR hn hdis hk hF hP1 hD1
    exact kx E ce q9 H1 locs1 hXE hP2 hD2 hS1 hce hcv hcl
  · obtain ⟨hP1, hK1, hD1⟩ := hB
    rw [ht] at hP1
    obtain ⟨hP2, hD2⟩ := va_join hP hD isC isR hC hR hn hdis hk hF hP1 hD1
    exact kk r u H1 locs1 hp hP2 hD2 hS1
end XE2
end
section
abbrev rm_X4_needRoom : Room := { frames := 7, cells := 1, slots := 6, locals := 100 }
set_option maxHeartbeats 4000000 in
set_option maxRecDepth 100000 in
/-- needRoom -/
theorem c_X4_needRoom (l : Launch) (D : va_G) (cI cZ cB cJ : ClassId) (sz : Nat) (hst : l.stackTraces = false) (o0 : Nat) (o1 : Nat) (o2 : Nat) (o3 : Nat) (h0 : Nat) (r0 : Nat) (k0 : Nat) (wd : Nat) (ht : Nat) (pn : Nat) (bf : Nat) (bt : Nat) (fl : Int32) (h1 : Nat) (h2 : Nat) (h3 : Nat) (n : Nat) (fx : Nat → Int32) (fy : Nat → Int32) (fb : Nat → Int32) (k : Nat) (hn : n ≤ 100) (hk : k ≤ 100) : vx_Met l yX4_needRoom wsX4_needRoom rm_X4_needRoom (va_Pc [.ref o0, .int (nI k)] (PZ D (qT cI cZ cB cJ) [(o0, .inr (4, [.int (nI wd), .int (nI ht), .int (nI pn), .ref o1, .ref o2, .ref o3, .ref h0, .ref r0, .ref k0, .int (nI bf), .int (nI bt), .int fl])), (h0, .inr (2, [.ref h1, .ref h2, .ref h3, .int (nI n)])), (h1, .inl (cI, 100, .inl fx)), (h2, .inl (cI, 100, .inl fy)), (h3, .inl (cZ, 100, .inl fb))] sz)) (va_Qv (fun (u : Unit) => n + k ≤ 100) (fun (u : Unit) => PO D (qT cI cZ cB cJ) (va_A [(o0, .inr (4, [.int (nI wd), .int (nI ht), .int (nI pn), .ref o1, .ref o2, .ref o3, .ref h0, .ref r0, .ref k0, .int (nI bf), .int (nI bt), .int fl])), (h0, .inr (2, [.ref h1, .ref h2, .ref h3, .int (nI n)])), (h1, .inl (cI, 100, .inl fx)), (h2, .inl (cI, 100, .inl fy)), (h3, .inl (cZ, 100, .inl fb))] sz) [(o0, .inr (4, [.int (nI wd), .int (nI ht), .int (nI pn), .ref o1, .ref o2, .ref o3, .ref h0, .ref r0, .ref k0, .int (nI bf), .int (nI bt), .int fl])), (h0, .inr (2, [.ref h1, .ref h2, .ref h3, .int (nI n)])), (h1, .inl (cI, 100, .inl fx)), (h2, .inl (cI, 100, .inl fy)), (h3, .inl (cZ, 100, .inl fb))]) (va_A [(o0, .inr (4, [.int (nI wd), .int (nI ht), .int (nI pn), .ref o1, .ref o2, .ref o3, .ref h0, .ref r0, .ref k0, .int (nI bf), .int (nI bt), .int fl])), (h0, .inr (2, [.ref h1, .ref h2, .ref h3, .int (nI n)])), (h1, .inl (cI, 100, .inl fx)), (h2, .inl (cI, 100, .inl fy)), (h3, .inl (cZ, 100, .inl fb))] sz)) (XC1 D (qT cI cZ cB cJ) (va_A [(o0, .inr (4, [.int (nI wd), .int (nI ht), .int (nI pn), .ref o1, .ref o2, .ref o3, .ref h0, .ref r0, .ref k0, .int (nI bf), .int (nI bt), .int fl])), (h0, .inr (2, [.ref h1, .ref h2, .ref h3, .int (nI n)])), (h1, .inl (cI, 100, .inl fx)), (h2, .inl (cI, 100, .inl fy)), (h3, .inl (cZ, 100, .inl fb))] sz) [(o0, .inr (4, [.int (nI wd), .int (nI ht), .int (nI pn), .ref o1, .ref o2, .ref o3, .ref h0, .ref r0, .ref k0, .int (nI bf), .int (nI bt), .int fl])), (h0, .inr (2, [.ref h1, .ref h2, .ref h3, .int (nI n)])), (h1, .inl (cI, 100, .inl fx)), (h2, .inl (cI, 100, .inl fy)), (h3, .inl (cZ, 100, .inl fb))] (fun E => E = qUOE ∧ 100 < n + k)) 1 6 (va_A [(o0, .inr (4, [.int (nI wd), .int (nI ht), .int (nI pn), .ref o1, .ref o2, .ref o3, .ref h0, .ref r0, .ref k0, .int (nI bf), .int (nI bt), .int fl])), (h0, .inr (2, [.ref h1, .ref h2, .ref h3, .int (nI n)])), (h1, .inl (cI, 100, .inl fx)), (h2, .inl (cI, 100, .inl fy)), (h3, .inl (cZ, 100, .inl fb))] sz) := by
  refine q_entXV (cc := cX4_needRoom) (maxL := 2) hst (by decide +kernel) rfl (Nat.le_of_ble_eq_true rfl) ?_
  intro p e s m below meth c A Q ls hq hl hZ hQ hT hX
  obtain ⟨hx, hb, hml, hts, hown, hin, hN, hK, hsz, hA, hP, hD, hS⟩ := hq
  have hown : s.vm.findClass RX4 = some m.cls := hown
  obtain ⟨H, hH⟩ : ∃ H, H = s.heap := ⟨_, rfl⟩
  rw [← hH] at hP ⊢
  have hS : va_S A s.heap H [] := by rw [hH]; exact va_S.rf
  clear hH
  have hl : lv_has ls 2 [(0, .ref o0), (1, .int (nI k))] := hl
  have iX2 : ∀ w ∈ wsX20, w ∈ wsX4_needRoom := by decide +kernel
  have iX4 : ∀ w ∈ wsX40, w ∈ wsX4_needRoom := by decide +kernel
  have f_37 := hts (.fieldLink RX4 37 "RasterCover" "path" "LRasterCover$Path;") (by decide +kernel)
  have cl_148 := hts (.classLink RX4 148 "java/lang/UnsupportedOperationException") (by decide +kernel)
  have in_qUOE := hts (.initialized "java/lang/UnsupportedOperationException") (by decide +kernel)
  refine lv_aload_n hx hb dX4_needRoom_0 rfl (lv_at hl 0 rfl) ?_
  refine va_get (D := D) (ci := 4) (v := .ref h0) (C := RX4) (T := TX4) (N := 12) hx hb hts iX4 hown hK hP 0 rfl rfl 6 (by decide) f_37 (fun _ h9 => h9) rfl dX4_needRoom_1 ?_
  refine va_getN (D := D) (ci := 2) (v := .int (nI n)) (C := RX2) (T := TX2) (N := 4) hx hb hts iX2 hown hK hP 1 rfl rfl 3 (by decide) (nw_4 hN) (fun _ h9 => h9) rfl dX4_needRoom_4 ?_
  refine lv_iload_n hx hb dX4_needRoom_7 rfl (lv_at hl 1 rfl) ?_
  refine lv_iadd hx hb dX4_needRoom_8 ?_
  refine q_eqi (nI_add _ _) ?_
  refine lv_bipush (v := nI 100) hx hb dX4_needRoom_9 (by decide) ?_
  refine q_le (tgt := 24) hx hb (by omega) (by omega) dX4_needRoom_11 (by decide) (fun h_11 => ?_) (fun h_11 => ?_)
  · have hr9 : n + k ≤ 100 := (by omega)
    exact hQ _ _ _ _ () _ _ dX4_needRoom_24 (by first | decide | omega) (by first | decide | omega) hr9 (hP.sub [0, 1, 2, 3, 4] rfl) hK (hD.sub [0, 1, 2, 3, 4] (by decide) rfl) hS
  exact hT RX4 qUOE "the path is full" nmRE 148 150 152 14 0 0 H _ ls hown (by decide +kernel) (by decide +kernel) cl_148 in_qUOE hN.2.1.1 (at_hat hts (fun _ h => List.mem_cons_of_mem _ (List.mem_append_right _ h)) hN ng_152) ot_152 (hl.1.trans hml.symm) dX4_needRoom_14 dX4_needRoom_17 dX4_needRoom_18 dX4_needRoom_20 dX4_needRoom_23 (by decide) (by decide) (by decide) (by decide) (by decide) (by decide) ⟨rfl, by omega⟩ (hP.sub [0, 1, 2, 3, 4] rfl) (hD.sub [0, 1, 2, 3, 4] (by decide) rfl) hS

abbrev rm_X4_needRule : Room := { frames := 7, cells := 1, slots := 6, locals := 100 }
set_option maxHeartbeats 4000000 in
set_option maxRecDepth 100000 in
/-- needRule -/
theorem c_X4_needRule (l : Launch) (D : va_G) (cI cZ cB cJ : ClassId) (sz : Nat) (hst : l.stackTraces = false) (rl : Int32) : vx_Met l yX4_needRule wsX4_needRule rm_X4_needRule (va_Pc [.int rl] (PZ D (qT cI cZ cB cJ) [] sz)) (va_Qv (fun (u : Unit) => rl = 0 ∨ rl = 1) (fun (u : Unit) => PO D (qT cI cZ cB cJ) (va_A [] sz) []) (va_A [] sz)) (XC1 D (qT cI cZ cB cJ) (va_A [] sz) [] (fun E => E = qIAE ∧ ¬ (rl = 0 ∨ rl = 1))) 1 6 (va_A [] sz) := by
  refine q_entXV (cc := cX4_needRule) (maxL := 1) hst (by decide +kernel) rfl (Nat.le_of_ble_eq_true rfl) ?_
  intro p e s m below meth c A Q ls hq hl hZ hQ hT hX
  obtain ⟨hx, hb, hml, hts, hown, hin, hN, hK, hsz, hA, hP, hD, hS⟩ := hq
  have hown : s.vm.findClass RX4 = some m.cls := hown
  obtain ⟨H, hH⟩ : ∃ H, H = s.heap := ⟨_, rfl⟩
  rw [← hH] at hP ⊢
  have hS : va_S A s.heap H [] := by rw [hH]; exact va_S.rf
  clear hH
  have hl : lv_has ls 1 [(0, .int rl)] := hl
  have cl_153 := hts (.classLink RX4 153 "java/lang/IllegalArgumentException") (by decide +kernel)
  have in_qIAE := hts (.initialized "java/lang/IllegalArgumentException") (by decide +kernel)
  refine lv_iload_n hx hb dX4_needRule_0 rfl (lv_at hl 0 rfl) ?_
  refine lv_if_eq (tgt := 19) hx hb dX4_needRule_1 (by decide) (fun h_1 => ?_) (fun h_1 => ?_)
  · have hr9 : rl = 0 ∨ rl = 1 := (by first | exact Or.inl h_1 | exact Or.inr h_6)
    exact hQ _ _ _ _ () _ _ dX4_needRule_19 (by first | decide | omega) (by first | decide | omega) hr9 (hP.sub [] rfl) hK (hD.sub [] (by decide) rfl) hS
  refine lv_iload_n hx hb dX4_needRule_4 rfl (lv_at hl 0 rfl) ?_
  refine lv_iconst (v := nI 1) hx hb dX4_needRule_5 (by decide) ?_
  refine q_eqi (y := 1) (by decide) ?_
  refine lv_icmp_eq (tgt := 19) hx hb dX4_needRule_6 (by decide) (fun h_6 => ?_) (fun h_6 => ?_)
  · have hr9 : rl = 0 ∨ rl = 1 := (by first | exact Or.inl h_1 | exact Or.inr h_6)
    exact hQ _ _ _ _ () _ _ dX4_needRule_19 (by first | decide | omega) (by first | decide | omega) hr9 (hP.sub [] rfl) hK (hD.sub [] (by decide) rfl) hS
  exact hT RX4 qIAE "no such rule" nmRE 153 155 157 9 0 0 H _ ls hown (by decide +kernel) (by decide +kernel) cl_153 in_qIAE hN.2.1.2.2.1 (at_hat hts (fun _ h => List.mem_cons_of_mem _ (List.mem_append_right _ h)) hN ng_157) ot_157 (hl.1.trans hml.symm) dX4_needRule_9 dX4_needRule_12 dX4_needRule_13 dX4_needRule_15 dX4_needRule_18 (by decide) (by decide) (by decide) (by decide) (by decide) (by decide) ⟨rfl, (fun z => by rcases z with z | z; (· exact h_1 z); (· exact h_6 z))⟩ (hP.sub [] rfl) (hD.sub [] (by decide) rfl) hS

abbrev rm_X4_needPlane : Room := { frames := 8, cells := 1, slots := 6, locals := 120 }
set_option maxHeartbeats 4000000 in
set_option maxRecDepth 100000 in
/-- needPlane -/
theorem c_X4_needPlane (l : Launch) (D : va_G) (cI cZ cB cJ : ClassId) (sz : Nat) (hst : l.stackTraces = false) (o0 : Nat) (o1 : Nat) (o2 : Nat) (o3 : Nat) (h0 : Nat) (r0 : Nat) (k0 : Nat) (wd : Nat) (ht : Nat) (pn : Nat) (bf : Nat) (bt : Nat) (fl : Int32) (pl : Int32) (hpn : pn ≤ 4) : vx_Met l yX4_needPlane wsX4_needPlane rm_X4_needPlane (va_Pc [.ref o0, .int pl] (PZ D (qT cI cZ cB cJ) [(o0, .inr (4, [.int (nI wd), .int (nI ht), .int (nI pn), .ref o1, .ref o2, .ref o3, .ref h0, .ref r0, .ref k0, .int (nI bf), .int (nI bt), .int fl]))] sz)) (va_Qv (fun (u : Unit) => 0 ≤ pl.toInt ∧ pl.toInt < pn) (fun (u : Unit) => PO D (qT cI cZ cB cJ) (va_A [(o0, .inr (4, [.int (nI wd), .int (nI ht), .int (nI pn), .ref o1, .ref o2, .ref o3, .ref h0, .ref r0, .ref k0, .int (nI bf), .int (nI bt), .int fl]))] sz) [(o0, .inr (4, [.int (nI wd), .int (nI ht), .int (nI pn), .ref o1, .ref o2, .ref o3, .ref h0, .ref r0, .ref k0, .int (nI bf), .int (nI bt), .int fl]))]) (va_A [(o0, .inr (4, [.int (nI wd), .int (nI ht), .int (nI pn), .ref o1, .ref o2, .ref o3, .ref h0, .ref r0, .ref k0, .int (nI bf), .int (nI bt), .int fl]))] sz)) (XC1 D (qT cI cZ cB cJ) (va_A [(o0, .inr (4, [.int (nI wd), .int (nI ht), .int (nI pn), .ref o1, .ref o2, .ref o3, .ref h0, .ref r0, .ref k0, .int (nI bf), .int (nI bt), .int fl]))] sz) [(o0, .inr (4, [.int (nI wd), .int (nI ht), .int (nI pn), .ref o1, .ref o2, .ref o3, .ref h0, .ref r0, .ref k0, .int (nI bf), .int (nI bt), .int fl]))] (fun E => E = qAIO ∧ ¬ (0 ≤ pl.toInt ∧ pl.toInt < pn))) 1 6 (va_A [(o0, .inr (4, [.int (nI wd), .int (nI ht), .int (nI pn), .ref o1, .ref o2, .ref o3, .ref h0, .ref r0, .ref k0, .int (nI bf), .int (nI bt), .int fl]))] sz) := by
  refine q_entXV (cc := cX4_needPlane) (maxL := 2) hst (by decide +kernel) rfl (Nat.le_of_ble_eq_true rfl) ?_
  intro p e s m below meth c A Q ls hq hl hZ hQ hT hX
  obtain ⟨hx, hb, hml, hts, hown, hin, hN, hK, hsz, hA, hP, hD, hS⟩ := hq
  have hown : s.vm.findClass RX4 = some m.cls := hown
  obtain ⟨H, hH⟩ : ∃ H, H = s.heap := ⟨_, rfl⟩
  rw [← hH] at hP ⊢
  have hS : va_S A s.heap H [] := by rw [hH]; exact va_S.rf
  clear hH
  have hl : lv_has ls 2 [(0, .ref o0), (1, .int pl)] := hl
  have iX4 : ∀ w ∈ wsX40, w ∈ wsX4_needPlane := by decide +kernel
  have cl_143 := hts (.classLink RX4 143 "java/lang/ArrayIndexOutOfBoundsException") (by decide +kernel)
  have in_qAIO := hts (.initialized "java/lang/ArrayIndexOutOfBoundsException") (by decide +kernel)
  have f_20 := hts (.fieldLink RX4 20 "RasterCover" "planes" "I") (by decide +kernel)
  refine lv_iload_n hx hb dX4_needPlane_0 rfl (lv_at hl 1 rfl) ?_
  refine lv_if_lt (tgt := 12) hx hb dX4_needPlane_1 (by decide) (fun h_1 => ?_) (fun h_1 => ?_)
  · rw [i_lt, show (0 : Int32).toInt = 0 from by decide] at h_1
    exact hT RX4 qAIO "no such plane" nmIO 143 158 147 12 0 0 H _ ls hown (by decide +kernel) (by decide +kernel) cl_143 in_qAIO hN.2.1.2.2.2.1 hN.at147 ot_147 (hl.1.trans hml.symm) dX4_needPlane_12 dX4_needPlane_15 dX4_needPlane_16 dX4_needPlane_18 dX4_needPlane_21 (by decide) (by decide) (by decide) (by decide) (by decide) (by decide) ⟨rfl, by omega⟩ (hP.sub [0] rfl) (hD.sub [0] (by decide) rfl) hS
  rw [i_lt, show (0 : Int32).toInt = 0 from by decide] at h_1
  refine lv_iload_n hx hb dX4_needPlane_4 rfl (lv_at hl 1 rfl) ?_
  refine lv_aload_n hx hb dX4_needPlane_5 rfl (lv_at hl 0 rfl) ?_
  refine va_get (D := D) (ci := 4) (v := .int (nI pn)) (C := RX4) (T := TX4) (N := 12) hx hb hts iX4 hown hK hP 0 rfl rfl 2 (by decide) f_20 (fun _ h9 => h9) rfl dX4_needPlane_6 ?_
  refine lv_icmp_lt (tgt := 22) hx hb dX4_needPlane_9 (by decide) (fun h_9 => ?_) (fun h_9 => ?_)
  · rw [i_lt, nI_toInt (by omega)] at h_9
    have hr9 : 0 ≤ pl.toInt ∧ pl.toInt < pn := (by omega)
    exact hQ _ _ _ _ () _ _ dX4_needPlane_22 (by first | decide | omega) (by first | decide | omega) hr9 (hP.sub [0] rfl) hK (hD.sub [0] (by decide) rfl) hS
  rw [i_lt, nI_toInt (by omega)] at h_9
  exact hT RX4 qAIO "no such plane" nmIO 143 158 147 12 0 0 H _ ls hown (by decide +kernel) (by decide +kernel) cl_143 in_qAIO hN.2.1.2.2.2.1 hN.at147 ot_147 (hl.1.trans hml.symm) dX4_needPlane_12 dX4_needPlane_15 dX4_needPlane_16 dX4_needPlane_18 dX4_needPlane_21 (by decide) (by decide) (by decide) (by decide) (by decide) (by decide) ⟨rfl, by omega⟩ (hP.sub [0] rfl) (hD.sub [0] (by decide) rfl) hS

abbrev rm_X4_needPoint : Room := { frames := 8, cells := 1, slots := 6, locals := 120 }
set_option maxHeartbeats 4000000 in
set_option maxRecDepth 100000 in
/-- needPoint -/
theorem c_X4_needPoint (l : Launch) (D : va_G) (cI cZ cB cJ : ClassId) (sz : Nat) (hst : l.stackTraces = false) (o0 : Nat) (o1 : Nat) (o2 : Nat) (o3 : Nat) (h0 : Nat) (r0 : Nat) (k0 : Nat) (wd : Nat) (ht : Nat) (pn : Nat) (bf : Nat) (bt : Nat) (fl : Int32) (vx : Int32) (vy : Int32) (hwd : wd ≤ 48) (hht : ht ≤ 48) : vx_Met l yX4_needPoint wsX4_needPoint rm_X4_needPoint (va_Pc [.ref o0, .int vx, .int vy] (PZ D (qT cI cZ cB cJ) [(o0, .inr (4, [.int (nI wd), .int (nI ht), .int (nI pn), .ref o1, .ref o2, .ref o3, .ref h0, .ref r0, .ref k0, .int (nI bf), .int (nI bt), .int fl]))] sz)) (va_Qv (fun (u : Unit) => (0 ≤ vx.toInt ∧ vx.toInt < wd) ∧ 0 ≤ vy.toInt ∧ vy.toInt < ht) (fun (u : Unit) => PO D (qT cI cZ cB cJ) (va_A [(o0, .inr (4, [.int (nI wd), .int (nI ht), .int (nI pn), .ref o1, .ref o2, .ref o3, .ref h0, .ref r0, .ref k0, .int (nI bf), .int (nI bt), .int fl]))] sz) [(o0, .inr (4, [.int (nI wd), .int (nI ht), .int (nI pn), .ref o1, .ref o2, .ref o3, .ref h0, .ref r0, .ref k0, .int (nI bf), .int (nI bt), .int fl]))]) (va_A [(o0, .inr (4, [.int (nI wd), .int (nI ht), .int (nI pn), .ref o1, .ref o2, .ref o3, .ref h0, .ref r0, .ref k0, .int (nI bf), .int (nI bt), .int fl]))] sz)) (XC1 D (qT cI cZ cB cJ) (va_A [(o0, .inr (4, [.int (nI wd), .int (nI ht), .int (nI pn), .ref o1, .ref o2, .ref o3, .ref h0, .ref r0, .ref k0, .int (nI bf), .int (nI bt), .int fl]))] sz) [(o0, .inr (4, [.int (nI wd), .int (nI ht), .int (nI pn), .ref o1, .ref o2, .ref o3, .ref h0, .ref r0, .ref k0, .int (nI bf), .int (nI bt), .int fl]))] (fun E => E = qAIO ∧ ¬ ((0 ≤ vx.toInt ∧ vx.toInt < wd) ∧ 0 ≤ vy.toInt ∧ vy.toInt < ht))) 1 6 (va_A [(o0, .inr (4, [.int (nI wd), .int (nI ht), .int (nI pn), .ref o1, .ref o2, .ref o3, .ref h0, .ref r0, .ref k0, .int (nI bf), .int (nI bt), .int fl]))] sz) := by
  refine q_entXV (cc := cX4_needPoint) (maxL := 3) hst (by decide +kernel) rfl (Nat.le_of_ble_eq_true rfl) ?_
  intro p e s m below meth c A Q ls hq hl hZ hQ hT hX
  obtain ⟨hx, hb, hml, hts, hown, hin, hN, hK, hsz, hA, hP, hD, hS⟩ := hq
  have hown : s.vm.findClass RX4 = some m.cls := hown
  obtain ⟨H, hH⟩ : ∃ H, H = s.heap := ⟨_, rfl⟩
  rw [← hH] at hP ⊢
  have hS : va_S A s.heap H [] := by rw [hH]; exact va_S.rf
  clear hH
  have hl : lv_has ls 3 [(0, .ref o0), (1, .int vx), (2, .int vy)] := hl
  have iX4 : ∀ w ∈ wsX40, w ∈ wsX4_needPoint := by decide +kernel
  have cl_143 := hts (.classLink RX4 143 "java/lang/ArrayIndexOutOfBoundsException") (by decide +kernel)
  have in_qAIO := hts (.initialized "java/lang/ArrayIndexOutOfBoundsException") (by decide +kernel)
  have f_13 := hts (.fieldLink RX4 13 "RasterCover" "width" "I") (by decide +kernel)
  have f_17 := hts (.fieldLink RX4 17 "RasterCover" "height" "I") (by decide +kernel)
  refine lv_iload_n hx hb dX4_needPoint_0 rfl (lv_at hl 1 rfl) ?_
  refine lv_if_lt (tgt := 24) hx hb dX4_needPoint_1 (by decide) (fun h_1 => ?_) (fun h_1 => ?_)
  · rw [i_lt, show (0 : Int32).toInt = 0 from by decide] at h_1
    exact hT RX4 qAIO "no such point" nmIO 143 160 147 24 0 0 H _ ls hown (by decide +kernel) (by decide +kernel) cl_143 in_qAIO hN.2.1.2.2.2.2.1 hN.at147 ot_147 (hl.1.trans hml.symm) dX4_needPoint_24 dX4_needPoint_27 dX4_needPoint_28 dX4_needPoint_30 dX4_needPoint_33 (by decide) (by decide) (by decide) (by decide) (by decide) (by decide) ⟨rfl, by omega⟩ (hP.sub [0] rfl) (hD.sub [0] (by decide) rfl) hS
  rw [i_lt, show (0 : Int32).toInt = 0 from by decide] at h_1
  refine lv_iload_n hx hb dX4_needPoint_4 rfl (lv_at hl 1 rfl) ?_
  refine lv_aload_n hx hb dX4_needPoint_5 rfl (lv_at hl 0 rfl) ?_
  refine va_get (D := D) (ci := 4) (v := .int (nI wd)) (C := RX4) (T := TX4) (N := 12) hx hb hts iX4 hown hK hP 0 rfl rfl 0 (by decide) f_13 (fun _ h9 => h9) rfl dX4_needPoint_6 ?_
  refine lv_icmp_ge (tgt := 24) hx hb dX4_needPoint_9 (by decide) (fun h_9 => ?_) (fun h_9 => ?_)
  · rw [i_le, nI_toInt (by omega)] at h_9
    exact hT RX4 qAIO "no such point" nmIO 143 160 147 24 0 0 H _ ls hown (by decide +kernel) (by decide +kernel) cl_143 in_qAIO hN.2.1.2.2.2.2.1 hN.at147 ot_147 (hl.1.trans hml.symm) dX4_needPoint_24 dX4_needPoint_27 dX4_needPoint_28 dX4_needPoint_30 dX4_needPoint_33 (by decide) (by decide) (by decide) (by decide) (by decide) (by decide) ⟨rfl, by omega⟩ (hP.sub [0] rfl) (hD.sub [0] (by decide) rfl) hS
  rw [i_le, nI_toInt (by omega)] at h_9
  refine lv_iload_n hx hb dX4_needPoint_12 rfl (lv_at hl 2 rfl) ?_
  refine lv_if_lt (tgt := 24) hx hb dX4_needPoint_13 (by decide) (fun h_13 => ?_) (fun h_13 => ?_)
  · rw [i_lt, show (0 : Int32).toInt = 0 from by decide] at h_13
    exact hT RX4 qAIO "no such point" nmIO 143 160 147 24 0 0 H _ ls hown (by decide +kernel) (by decide +kernel) cl_143 in_qAIO hN.2.1.2.2.2.2.1 hN.at147 ot_147 (hl.1.trans hml.symm) dX4_needPoint_24 dX4_needPoint_27 dX4_needPoint_28 dX4_needPoint_30 dX4_needPoint_33 (by decide) (by decide) (by decide) (by decide) (by decide) (by decide) ⟨rfl, by omega⟩ (hP.sub [0] rfl) (hD.sub [0] (by decide) rfl) hS
  rw [i_lt, show (0 : Int32).toInt = 0 from by decide] at h_13
  refine lv_iload_n hx hb dX4_needPoint_16 rfl (lv_at hl 2 rfl) ?_
  refine lv_aload_n hx hb dX4_needPoint_17 rfl (lv_at hl 0 rfl) ?_
  refine va_get (D := D) (ci := 4) (v := .int (nI ht)) (C := RX4) (T := TX4) (N := 12) hx hb hts iX4 hown hK hP 0 rfl rfl 1 (by decide) f_17 (fun _ h9 => h9) rfl dX4_needPoint_18 ?_
  refine lv_icmp_lt (tgt := 34) hx hb dX4_needPoint_21 (by decide) (fun h_21 => ?_) (fun h_21 => ?_)
  · rw [i_lt, nI_toInt (by omega)] at h_21
    have hr9 : (0 ≤ vx.toInt ∧ vx.toInt < wd) ∧ 0 ≤ vy.toInt ∧ vy.toInt < ht := (by omega)
    exact hQ _ _ _ _ () _ _ dX4_needPoint_34 (by first | decide | omega) (by first | decide | omega) hr9 (hP.sub [0] rfl) hK (hD.sub [0] (by decide) rfl) hS
  rw [i_lt, nI_toInt (by omega)] at h_21
  exact hT RX4 qAIO "no such point" nmIO 143 160 147 24 0 0 H _ ls hown (by decide +kernel) (by decide +kernel) cl_143 in_qAIO hN.2.1.2.2.2.2.1 hN.at147 ot_147 (hl.1.trans hml.symm) dX4_needPoint_24 dX4_needPoint_27 dX4_needPoint_28 dX4_needPoint_30 dX4_needPoint_33 (by decide) (by decide) (by decide) (by decide) (by decide) (by decide) ⟨rfl, by omega⟩ (hP.sub [0] rfl) (hD.sub [0] (by decide) rfl) hS
end
