/-! my own rows: one world, one list of array classes, the words beside the tables -/
abbrev qCl : List vw_C := [(RX0, TX0, 3), (RX1, TX1, 2), (RX2, TX2, 4), (RX3, TX3, 2), (RX4, TX4, 12), (RX5, TX5, 21)]
abbrev qT (cI cZ cB cJ : ClassId) : List (ClassId × FieldType) := [(cI, .int), (cZ, .boolean), (cB, .byte), (cJ, .long)]
abbrev qUOE : String := "java/lang/UnsupportedOperationException"
abbrev qISE : String := "java/lang/IllegalStateException"
abbrev qIAE : String := "java/lang/IllegalArgumentException"
abbrev qAIO : String := "java/lang/ArrayIndexOutOfBoundsException"
/-- words that warm up with the machine: private members of nest mates, and what a throw asks -/
def nwL : List Cond := [
  .fieldLinkNest RX0 34 "RasterCover$Path" "xs" "[I" "RasterCover", .fieldLinkNest RX0 27 "RasterCover$Path" "ys" "[I" "RasterCover", .fieldLinkNest RX0 23 "RasterCover$Path" "begins" "[Z" "RasterCover", .fieldLinkNest RX0 22 "RasterCover$Path" "count" "I" "RasterCover",
  .fieldLinkNest RX4 83 "RasterCover$Path" "count" "I" "RasterCover", .fieldLinkNest RX3 43 "RasterCover$Crossings" "xs" "[I" "RasterCover", .fieldLinkNest RX3 40 "RasterCover$Crossings" "turns" "[I" "RasterCover", .fieldLinkNest RX3 36 "RasterCover$Crossings" "count" "I" "RasterCover",
  .fieldLinkNest RX4 139 "RasterCover$PackedRow" "signs" "[B" "RasterCover", .fieldLinkNest RX4 136 "RasterCover$PackedRow" "size" "I" "RasterCover",
  .methodLinkNest RX4 36 yX2_init "RasterCover", .methodLinkNest RX4 43 yX3_init "RasterCover", .methodLinkNest RX3 11 yX0_init "RasterCover", .methodLinkNest RX4 52 yX1_init "RasterCover", .methodLinkNest RX4 114 yX2_clear "RasterCover", .methodLinkNest RX4 79 yX2_begin "RasterCover", .methodLinkNest RX4 93 yX2_join "RasterCover",
  .methodLinkNest RX4 106 yX3_measure "RasterCover", .methodLinkNest RX3 28 yX0_collect "RasterCover", .methodLinkNest RX4 124 yX3_at "RasterCover", .methodLinkNest RX4 132 yX1_pack "RasterCover",
  .declares (Bundle.initS "java/lang/RuntimeException"), .declares (Bundle.initS "java/lang/Exception"), .declares (Bundle.initS "java/lang/IndexOutOfBoundsException"), .declares (Bundle.initS Bundle.tN),
  .castable qUOE qUOE, .castable qISE qISE, .castable qIAE qIAE, .castable qAIO qAIO]
def nwOk : Cond → Bool
  | .fieldLinkNest .. => true
  | .methodLinkNest .. => true
  | .declares _ => true
  | .castable .. => true
  | _ => false
theorem nwL_ok : ∀ w ∈ nwL, nwOk w = true := by decide +kernel
theorem nwOk_warm {w : Cond} (h : nwOk w = true) {s U : State} (hW : s.WarmedH U.vm) (hZ : va_Nw w s) : va_Nw w U := by
  cases w <;> first | exact va_Nw.warmF hW hZ | exact va_Nw.warmM hW hZ | exact va_Nw.warmD hW hZ | exact va_Nw.warmC hW hZ | cases h
theorem nwOk_tab {w : Cond} (h : nwOk w = true) : w.onTables = true := by
  cases w <;> first | rfl | cases h
abbrev nmRE : List String := ["java/lang/RuntimeException", "java/lang/Exception"]
abbrev nmIO : List String := ["java/lang/IndexOutOfBoundsException", "java/lang/RuntimeException", "java/lang/Exception"]
theorem at147_ok : ∀ w ∈ vx_atS RX4 147 qAIO nmIO, (nwOk w || goodWord w) = true := by decide +kernel
theorem nwG_warm {w : Cond} (h : (nwOk w || goodWord w) = true) {args : Array Value} {s U : State} (hW : s.WarmedH U.vm) (hZ : va_Nw w s) : w.before args U = true := by
  rcases (Bool.or_eq_true _ _).mp h with h | h
  · exact va_Nw.use (nwOk_tab h) (nwOk_warm h hW hZ)
  · exact word_at hW (good_of_word h) hZ
def NW (U : State) : Prop := (∀ w ∈ nwL, va_Nw w U) ∧ ((∃ a, vk_R RX4 150 "the path is full" a U) ∧ (∃ a, vk_R RX4 88 "no point to draw a line from" a U) ∧ (∃ a, vk_R RX4 155 "no such rule" a U) ∧ (∃ a, vk_R RX4 158 "no such plane" a U) ∧ (∃ a, vk_R RX4 160 "no such point" a U) ∧ (∃ a, vk_R RX4 145 "no such byte" a U)) ∧ va_Nc qUOE qISE U ∧ va_Nc qAIO qIAE U ∧ (∀ w ∈ vx_atS RX4 147 qAIO nmIO, va_Nw w U)
theorem NW.warm {s U : State} (hW : s.WarmedH U.vm) (h : NW s) : NW U := by
  obtain ⟨h1, ⟨⟨a1, g1⟩, ⟨a2, g2⟩, ⟨a3, g3⟩, ⟨a4, g4⟩, ⟨a5, g5⟩, ⟨a6, g6⟩⟩, h3, h4, h5⟩ := h
  exact ⟨fun w hw => nwOk_warm (nwL_ok w hw) hW (h1 w hw), ⟨⟨a1, vk_R.warm hW g1⟩, ⟨a2, vk_R.warm hW g2⟩, ⟨a3, vk_R.warm hW g3⟩, ⟨a4, vk_R.warm hW g4⟩, ⟨a5, vk_R.warm hW g5⟩, ⟨a6, vk_R.warm hW g6⟩⟩, va_Nc.moved hW.alike h3, va_Nc.moved hW.alike h4, fun w hw => nwG_warm (at147_ok w hw) hW (h5 w hw)⟩
theorem NW.same {u U : State} (hv : u.vm = U.vm) (h : NW u) : NW U := NW.warm (by rw [← hv]; exact State.WarmedH.refl u) h
theorem NW.at147 {s : State} {args : Array Value} (h : NW s) : ∀ w ∈ vx_atS RX4 147 qAIO nmIO, w.before args s = true := fun w hw => nwG_warm (at147_ok w hw) (State.WarmedH.refl s) (h.2.2.2.2 w hw)
theorem NW.w {s : State} (h : NW s) (i : Nat) {w : Cond} (hi : nwL[i]? = some w) : va_Nw w s := h.1 w (List.mem_of_getElem? hi)
theorem NW.u {s : State} {args : Array Value} (h : NW s) (i : Nat) {w : Cond} (hi : nwL[i]? = some w) : w.before args s = true := va_Nw.use (nwOk_tab (nwL_ok w (List.mem_of_getElem? hi))) (NW.w h i hi)
/-- a contract's start, and its end -/
def PC (D : va_G) (tys : List (ClassId × FieldType)) (w0 : va_W) (sz : Nat) (U : State) : Prop := U.heap.size = sz ∧ va_P D qCl w0 U.heap ∧ va_K D qCl tys U ∧ va_D (fun _ => True) w0 ∧ NW U
def PO (D : va_G) (tys : List (ClassId × FieldType)) (A : Nat → Prop) (w1 : va_W) (t : State) : Prop := va_P D qCl w1 t.heap ∧ va_K D qCl tys t ∧ va_D A w1
theorem PC.fb {D : va_G} {tys : List (ClassId × FieldType)} {w0 : va_W} {sz : Nat} {av : List Value} : FrameBlind (va_Pc av (PC D tys w0 sz)) := fun a U g mk q => by
  obtain ⟨q0, q1, qP, qK, qD, qN⟩ := q
  exact ⟨q0, q1, qP, va_K.moved (u := U) (U := U.calling g mk a) (Vm.Alike.refl U.vm) qK, qD, NW.same (u := U) (U := U.calling g mk a) rfl qN⟩
/-- the statics of Throwable that a throw reads -/
def ZZ (A : Nat → Prop) (U : State) (H : Heap) : Prop := vx_Zq Bundle.tN "UNASSIGNED_STACK" Bundle.steD A U H ∧ vx_Zq Bundle.tN "SUPPRESSED_SENTINEL" Bundle.listD A U H
theorem ZZ.moved {A : Nat → Prop} {u U : State} {H : Heap} (hvm : u.vm.Alike U.vm) (h : ZZ A u H) : ZZ A U H := ⟨vx_Zq.moved hvm h.1, vx_Zq.moved hvm h.2⟩
theorem ZZ.kept {A : Nat → Prop} {U : State} {H H1 : Heap} (h : ZZ A U H) (hq : ∀ a : Nat, a < H.size → ¬ A a → H1[a]? = H[a]?) : ZZ A U H1 := ⟨vx_Zq.kept h.1 hq, vx_Zq.kept h.2 hq⟩
theorem ZZ.narrow {A B : Nat → Prop} {U : State} {H : Heap} (h : ZZ A U H) (hAB : ∀ q, B q → A q) : ZZ B U H := ⟨vx_Zq.narrow h.1 hAB, vx_Zq.narrow h.2 hAB⟩
def PZ (D : va_G) (tys : List (ClassId × FieldType)) (w0 : va_W) (sz : Nat) (U : State) : Prop := PC D tys w0 sz U ∧ ZZ (va_A w0 sz) U U.heap
theorem PZ.fb {D : va_G} {tys : List (ClassId × FieldType)} {w0 : va_W} {sz : Nat} {av : List Value} : FrameBlind (va_Pc av (PZ D tys w0 sz)) := fun a U g mk q => by
  obtain ⟨q0, ⟨q1, qP, qK, qD, qN⟩, qZ⟩ := q
  exact ⟨q0, ⟨q1, qP, va_K.moved (u := U) (U := U.calling g mk a) (Vm.Alike.refl U.vm) qK, qD, NW.same (u := U) (U := U.calling g mk a) rfl qN⟩, ZZ.moved (u := U) (U := U.calling g mk a) (Vm.Alike.refl U.vm) qZ⟩
section QE
variable {l : Launch} {y : MethodName} {ws ws' : List Cond} {rm : Room} {D : va_G} {tys : List (ClassId × FieldType)} {w0 : va_W} {sz mc ms : Nat} {av : List Value} {cc : ByteArray} {maxL : Nat} {ret : Option FieldType} {S : Type}
/-- what a method's body has at its entry -/
def QAt (p : Program) (y : MethodName) (ws : List Cond) (D : va_G) (tys : List (ClassId × FieldType)) (w0 : va_W) (sz : Nat) (av : List Value) (cc : ByteArray) (maxL : Nat) (s : State) (m : MethodId) (meth : Method) (c : Code) (A : Nat → Prop) : Prop :=
  p.tables.exec = Jvm.exec ∧ c.code = cc ∧ c.maxLocals = maxL ∧ (∀ w ∈ ws, w.before av.toArray s = true) ∧ s.vm.findClass y.cls = some m.cls ∧ meth.name = y.name ∧ NW s ∧ va_K D qCl tys s ∧ s.heap.size = sz ∧ (∀ q : Nat, s.heap.size ≤ q → A q) ∧ va_P D qCl w0 s.heap ∧ va_D A w0 ∧ va_S A s.heap s.heap []
theorem q_at {p : Program} {e : Env} {s s₁ : State} {m : MethodId} {args : Array Value} {below : List Frame} {meth : Method} {c : Code} (B : BodyLoose p l y (headSpec ws rm) cc maxL ret e s m args below meth c s₁) (hml : c.maxLocals = maxL) (hv : va_Pc av (PC D tys w0 sz) args s) : args = av.toArray ∧ QAt p y ws D tys w0 sz av cc maxL s m meth c (va_A w0 sz) := by
  obtain ⟨rfl, hsz, hP, hK, hD0, hN⟩ := hv
  exact ⟨rfl, B.exec, B.bytes, hml, atoms_spec (ws := ws) B.pre, findClass_of_methodNamed B.named, (name_of_methodNamed B.named B.method).1, hN, hK, hsz, fun q h => Or.inr (by rw [← hsz]; exact h), hP, hD0.self, va_S.rf⟩
theorem q_ls (h : (lg_sl av).length ≤ maxL) {Pr : Array Slot → Prop} (k : ∀ ls, lv_has ls maxL (lv_args 0 av) → Pr ls) : Pr ((lg_sl av ++ List.replicate (maxL - (lg_sl av).length) Slot.unset).toArray) := k _ (lv_entry av h)
/-- entry of a method that returns an int (or boolean, byte: 'q_entZ') -/
theorem q_entI (hy : plainName y.cls = true) (hw : ws = Cond.code y cc maxL (some .int) :: ws') (hlen : (lg_sl av).length ≤ maxL) {post : Int32 → S → Prop} {w1 : S → va_W} {tys1 : List (ClassId × FieldType)}
    (body : ∀ (p : Program) (e : Env) (s : State) (m : MethodId) (below : List Frame) (meth : Method) (c : Code) (A : Nat → Prop) (Q : State → Prop) (ls : Array Slot), QAt p y ws D tys w0 sz av cc maxL s m meth c A → lv_has ls maxL (lv_args 0 av) →
      (∀ (H : Heap) (locs : List Loc) (pc : Nat) (ls : Array Slot) (r : Int32) (u : S) (k n : Nat), decode cc pc = .ok (.ireturn, 1) → k ≤ mc → n ≤ ms → post r u → va_P D qCl (w1 u) H → va_K D qCl tys1 s → va_D A (w1 u) → va_S A s.heap H locs → W p l e rm s m av.toArray below meth c H locs k n Q (F0 m pc ls [.int r])) →
      W p l e rm s m av.toArray below meth c s.heap [] 0 0 Q (F0 m 0 ls [])) :
    Met l y ws rm (va_Pc av (PC D tys w0 sz)) (va_Qi post (fun u => PO D tys1 (va_A w0 sz) (w1 u)) (va_A w0 sz)) mc ms (va_A w0 sz) := by
  refine Met.ofW (cc := cc) (maxL := maxL) (ret := some .int) hy hw ?_
  intro p e s m args below meth c s₁ B hml hv
  obtain ⟨rfl, hq⟩ := q_at B hml hv
  rw [lg_entry_eq]
  refine q_ls hlen (Pr := fun ls => W p l e rm s m av.toArray below meth c s.heap [] 0 0 (MQ below (va_Qi post (fun u => PO D tys1 (va_A w0 sz) (w1 u)) (va_A w0 sz)) av.toArray s mc ms (va_A w0 sz)) (F0 m 0 ls [])) (fun ls hl => ?_)
  refine body p e s m below meth c (va_A w0 sz) _ ls hq hl ?_
  intro H locs pc ls r u k n hd hk hn hp hP hK hD hS
  refine W.widen hk hn ?_
  exact W.iret (v := r) hq.1 hq.2.1 B.returns (fun t ht hW => ⟨⟨r, u, rfl, hp, by rw [ht]; exact hP, va_K.moved hW.alike hK, hD⟩, hS.F ht⟩) hS.2.2 hd B.notSynchronized
theorem q_entZ {ty : FieldType} (hy : plainName y.cls = true) (hw : ws = Cond.code y cc maxL (some ty) :: ws') (hlen : (lg_sl av).length ≤ maxL) {post : Int32 → S → Prop} {w1 : S → va_W} {tys1 : List (ClassId × FieldType)}
    (body : ∀ (p : Program) (e : Env) (s : State) (m : MethodId) (below : List Frame) (meth : Method) (c : Code) (A : Nat → Prop) (Q : State → Prop) (ls : Array Slot), QAt p y ws D tys w0 sz av cc maxL s m meth c A → lv_has ls maxL (lv_args 0 av) →
      (∀ (H : Heap) (locs : List Loc) (pc : Nat) (ls : Array Slot) (r : Int32) (u : S) (k n : Nat), narrow ty (.int r) = .int r → decode cc pc = .ok (.ireturn, 1) → k ≤ mc → n ≤ ms → post r u → va_P D qCl (w1 u) H → va_K D qCl tys1 s → va_D A (w1 u) → va_S A s.heap H locs → W p l e rm s m av.toArray below meth c H locs k n Q (F0 m pc ls [.int r])) →
      W p l e rm s m av.toArray below meth c s.heap [] 0 0 Q (F0 m 0 ls [])) :
    Met l y ws rm (va_Pc av (PC D tys w0 sz)) (va_Qi post (fun u => PO D tys1 (va_A w0 sz) (w1 u)) (va_A w0 sz)) mc ms (va_A w0 sz) := by
  refine Met.ofW (cc := cc) (maxL := maxL) (ret := some ty) hy hw ?_
  intro p e s m args below meth c s₁ B hml hv
  obtain ⟨rfl, hq⟩ := q_at B hml hv
  rw [lg_entry_eq]
  refine q_ls hlen (Pr := fun ls => W p l e rm s m av.toArray below meth c s.heap [] 0 0 (MQ below (va_Qi post (fun u => PO D tys1 (va_A w0 sz) (w1 u)) (va_A w0 sz)) av.toArray s mc ms (va_A w0 sz)) (F0 m 0 ls [])) (fun ls hl => ?_)
  refine body p e s m below meth c (va_A w0 sz) _ ls hq hl ?_
  intro H locs pc ls r u k n hnr hd hk hn hp hP hK hD hS
  refine W.widen hk hn ?_
  exact W.zret (v := r) hq.1 hq.2.1 B.returns hnr (fun t ht hW => ⟨⟨r, u, rfl, hp, by rw [ht]; exact hP, va_K.moved hW.alike hK, hD⟩, hS.F ht⟩) hS.2.2 hd B.notSynchronized
theorem q_entL (hy : plainName y.cls = true) (hw : ws = Cond.code y cc maxL (some .long) :: ws') (hlen : (lg_sl av).length ≤ maxL) {post : Int64 → S → Prop} {w1 : S → va_W} {tys1 : List (ClassId × FieldType)}
    (body : ∀ (p : Program) (e : Env) (s : State) (m : MethodId) (below : List Frame) (meth : Method) (c : Code) (A : Nat → Prop) (Q : State → Prop) (ls : Array Slot), QAt p y ws D tys w0 sz av cc maxL s m meth c A → lv_has ls maxL (lv_args 0 av) →
      (∀ (H : Heap) (locs : List Loc) (pc : Nat) (ls : Array Slot) (r : Int64) (u : S) (k n : Nat), decode cc pc = .ok (.lreturn, 1) → k ≤ mc → n ≤ ms → post r u → va_P D qCl (w1 u) H → va_K D qCl tys1 s → va_D A (w1 u) → va_S A s.heap H locs → W p l e rm s m av.toArray below meth c H locs k n Q (F0 m pc ls [.long r])) →
      W p l e rm s m av.toArray below meth c s.heap [] 0 0 Q (F0 m 0 ls [])) :
    Met l y ws rm (va_Pc av (PC D tys w0 sz)) (va_Ql post (fun u => PO D tys1 (va_A w0 sz) (w1 u)) (va_A w0 sz)) mc ms (va_A w0 sz) := by
  refine Met.ofW (cc := cc) (maxL := maxL) (ret := some .long) hy hw ?_
  intro p e s m args below meth c s₁ B hml hv
  obtain ⟨rfl, hq⟩ := q_at B hml hv
  rw [lg_entry_eq]
  refine q_ls hlen (Pr := fun ls => W p l e rm s m av.toArray below meth c s.heap [] 0 0 (MQ below (va_Ql post (fun u => PO D tys1 (va_A w0 sz) (w1 u)) (va_A w0 sz)) av.toArray s mc ms (va_A w0 sz)) (F0 m 0 ls [])) (fun ls hl => ?_)
  refine body p e s m below meth c (va_A w0 sz) _ ls hq hl ?_
  intro H locs pc ls r u k n hd hk hn hp hP hK hD hS
  refine W.widen hk hn ?_
  exact W.lret (v := r) hq.1 hq.2.1 B.returns (fun t ht hW => ⟨⟨r, u, rfl, hp, by rw [ht]; exact hP, va_K.moved hW.alike hK, hD⟩, hS.F ht⟩) hS.2.2 hd B.notSynchronized
theorem q_entLF (hy : plainFor y = true) (hw : ws = Cond.code y cc maxL (some .long) :: ws') (hlen : (lg_sl av).length ≤ maxL) {post : Int64 → S → Prop} {w1 : S → va_W} {tys1 : List (ClassId × FieldType)}
    (body : ∀ (p : Program) (e : Env) (s : State) (m : MethodId) (below : List Frame) (meth : Method) (c : Code) (A : Nat → Prop) (Q : State → Prop) (ls : Array Slot), QAt p y ws D tys w0 sz av cc maxL s m meth c A → lv_has ls maxL (lv_args 0 av) →
      (∀ (H : Heap) (locs : List Loc) (pc : Nat) (ls : Array Slot) (r : Int64) (u : S) (k n : Nat), decode cc pc = .ok (.lreturn, 1) → k ≤ mc → n ≤ ms → post r u → va_P D qCl (w1 u) H → va_K D qCl tys1 s → va_D A (w1 u) → va_S A s.heap H locs → W p l e rm s m av.toArray below meth c H locs k n Q (F0 m pc ls [.long r])) →
      W p l e rm s m av.toArray below meth c s.heap [] 0 0 Q (F0 m 0 ls [])) :
    Met l y ws rm (va_Pc av (PC D tys w0 sz)) (va_Ql post (fun u => PO D tys1 (va_A w0 sz) (w1 u)) (va_A w0 sz)) mc ms (va_A w0 sz) := by
  refine va_MetF (cc := cc) (maxL := maxL) (ret := some .long) hy hw ?_
  intro p e s m args below meth c s₁ B hml hv
  obtain ⟨rfl, hq⟩ := q_at B hml hv
  rw [lg_entry_eq]
  refine q_ls hlen (Pr := fun ls => W p l e rm s m av.toArray below meth c s.heap [] 0 0 (MQ below (va_Ql post (fun u => PO D tys1 (va_A w0 sz) (w1 u)) (va_A w0 sz)) av.toArray s mc ms (va_A w0 sz)) (F0 m 0 ls [])) (fun ls hl => ?_)
  refine body p e s m below meth c (va_A w0 sz) _ ls hq hl ?_
  intro H locs pc ls r u k n hd hk hn hp hP hK hD hS
  refine W.widen hk hn ?_
  exact W.lret (v := r) hq.1 hq.2.1 B.returns (fun t ht hW => ⟨⟨r, u, rfl, hp, by rw [ht]; exact hP, va_K.moved hW.alike hK, hD⟩, hS.F ht⟩) hS.2.2 hd B.notSynchronized
theorem q_entV (hy : plainName y.cls = true) (hw : ws = Cond.code y cc maxL none :: ws') (hlen : (lg_sl av).length ≤ maxL) {post : S → Prop} {w1 : S → va_W} {tys1 : List (ClassId × FieldType)}
    (body : ∀ (p : Program) (e : Env) (s : State) (m : MethodId) (below : List Frame) (meth : Method) (c : Code) (A : Nat → Prop) (Q : State → Prop) (ls : Array Slot), QAt p y ws D tys w0 sz av cc maxL s m meth c A → lv_has ls maxL (lv_args 0 av) →
      (∀ (H : Heap) (locs : List Loc) (pc : Nat) (ls : Array Slot) (u : S) (k n : Nat), decode cc pc = .ok (.return_, 1) → k ≤ mc → n ≤ ms → post u → va_P D qCl (w1 u) H → va_K D qCl tys1 s → va_D A (w1 u) → va_S A s.heap H locs → W p l e rm s m av.toArray below meth c H locs k n Q (F0 m pc ls [])) →
      W p l e rm s m av.toArray below meth c s.heap [] 0 0 Q (F0 m 0 ls [])) :
    Met l y ws rm (va_Pc av (PC D tys w0 sz)) (va_Qv post (fun u => PO D tys1 (va_A w0 sz) (w1 u)) (va_A w0 sz)) mc ms (va_A w0 sz) := by
  refine Met.ofW (cc := cc) (maxL := maxL) (ret := none) hy hw ?_
  intro p e s m args below meth c s₁ B hml hv
  obtain ⟨rfl, hq⟩ := q_at B hml hv
  rw [lg_entry_eq]
  refine q_ls hlen (Pr := fun ls => W p l e rm s m av.toArray below meth c s.heap [] 0 0 (MQ below (va_Qv post (fun u => PO D tys1 (va_A w0 sz) (w1 u)) (va_A w0 sz)) av.toArray s mc ms (va_A w0 sz)) (F0 m 0 ls [])) (fun ls hl => ?_)
  refine body p e s m below meth c (va_A w0 sz) _ ls hq hl ?_
  intro H locs pc ls u k n hd hk hn hp hP hK hD hS
  refine W.widen hk hn ?_
  exact W.vret hq.1 hq.2.1 B.returns (fun t ht hW => ⟨⟨u, rfl, hp, by rw [ht]; exact hP, va_K.moved hW.alike hK, hD⟩, hS.F ht⟩) hS.2.2 hd B.notSynchronized
end QE
section QC
variable {p : Program} {l : Launch} {e : Env} {R : Room} {s : State} {m : MethodId} {args : Array Value} {below : List Frame} {meth : Method} {c : Code} {H : Heap} {locs : List Loc} {cells slots : Nat} {Q : State → Prop}
variable {cc : ByteArray} {pc : Nat} {ls : Array Slot} {rest st0 : List Value} {D : va_G} {A A0 : Nat → Prop} {a : Nat} {tys : List (ClassId × FieldType)} {ws wc wr : va_W} {H0 : Heap} {cl : List vw_C}
theorem q_eqi {x y : Int32} (h : x = y) (k : W p l e R s m args below meth c H locs cells slots Q (F0 m pc ls (.int y :: rest))) : W p l e R s m args below meth c H locs cells slots Q (F0 m pc ls (.int x :: rest)) := by rw [h]; exact k
theorem q_eql {x y : Int64} (h : x = y) (k : W p l e R s m args below meth c H locs cells slots Q (F0 m pc ls (.long y :: rest))) : W p l e R s m args below meth c H locs cells slots Q (F0 m pc ls (.long x :: rest)) := by rw [h]; exact k
/-- a callee's start -/
theorem q_pre (hP : va_P D qCl ws H) (hD : va_D A ws) (hK : va_K D qCl tys s) (hN : NW s) (isC : List Nat) (hn : va_nd isC = true) (hC : isC.map (fun i => ws[i]?) = wc.map some) {av : List Value} : PreS s H (va_Pc av (PC D tys wc H.size)) av := by
  have hD' := hD.sub isC hn hC
  have hP' : va_P D qCl wc H := by
    intro k q hq
    have h1 : (isC.map (fun i => ws[i]?))[k]? = some (some q) := by rw [hC, List.getElem?_map, hq]; rfl
    rw [List.getElem?_map] at h1
    cases hi : isC[k]? with
    | none => rw [hi] at h1; cases h1
    | some i => rw [hi] at h1; exact hP i q (Option.some.inj h1)
  exact ⟨PC.fb, fun U hU hW => ⟨rfl, by rw [hU], by rw [hU]; exact hP', va_K.moved hW.alike hK, hD'.weaken (fun _ _ _ _ => trivial), NW.warm hW hN⟩⟩
theorem q_preZ (hP : va_P D qCl ws H) (hD : va_D A ws) (hK : va_K D qCl tys s) (hN : NW s) (hS : va_S A H0 H locs) (hA : ∀ q, H0.size ≤ q → A q) (hZ : ZZ A s H0) (isC : List Nat) (hn : va_nd isC = true) (hC : isC.map (fun i => ws[i]?) = wc.map some) {av : List Value} : PreS s H (va_Pc av (PZ D tys wc H.size)) av := by
  have h := q_pre (av := av) hP hD hK hN isC hn hC
  have hF := va_free hD hS hA isC hC
  refine ⟨PZ.fb, fun U hU hW => ⟨rfl, (h.2 U hU hW).2, ?_⟩⟩
  rw [hU]
  exact ZZ.moved hW.alike ((hZ.kept hS.2.1).narrow hF)
theorem q_preV {C : String} {b : Addr} {As : List Value} {Pc : Array Value → State → Prop} (h : PreS s H Pc (.ref b :: As)) (hr : ∃ cell : Cell, H[b]? = some cell ∧ cell.vm.isStatics = false ∧ s.vm.findClass C = some cell.cls) : PreV s H C b Pc As := ⟨h.1, hr, h.2⟩
/-- behind a call of no making: the caller's other cells, and what the callee left -/
theorem q_i0 {S : Type} {post : Int32 → S → Prop} {w1 : S → va_W} {va : Array Value} (hr : va_Run p l e R s m args below meth c H locs cells slots 0 0 (F0 m pc ls st0) rest (va_Qi post (fun u => PO D tys (va_A wc H.size) (w1 u)) (va_A wc H.size) va) (va_A wc H.size)) (hS : va_S A H0 H locs) (hA : ∀ q, H0.size ≤ q → A q) (hP : va_P D qCl ws H) (hD : va_D A ws) (isC isR : List Nat) (hC : isC.map (fun i => ws[i]?) = wc.map some) (hR : isR.map (fun i => ws[i]?) = wr.map some) (hn : va_nd isR = true) (hdis : ∀ i ∈ isR, i ∉ isC)
    (kk : ∀ (r : Int32) (u : S) (H1 : Heap) (locs1 : List Loc), post r u → va_P D qCl (wr ++ w1 u) H1 → va_D A (wr ++ w1 u) → va_S A H0 H1 locs1 → W p l e R s m args below meth c H1 locs1 cells slots Q (F0 m (pc + 3) ls (.int r :: rest))) : W p l e R s m args below meth c H locs cells slots Q (F0 m pc ls st0) := by
  have hF := va_free hD hS hA isC hC
  refine va_calli hr hS (fun q _ h => hF q h) hF (fun r u t H1 locs1 ht hvm hp hB hz hk hS1 => ?_)
  obtain ⟨hP1, hK1, hD1⟩ := hB
  rw [ht] at hP1
  obtain ⟨hP2, hD2⟩ := va_join hP hD isC isR hC hR hn hdis hk hF hP1 hD1
  exact kk r u H1 locs1 hp hP2 hD2 hS1
theorem q_l0 {S : Type} {post : Int64 → S → Prop} {w1 : S → va_W} {va : Array Value} (hr : va_Run p l e R s m args below meth c H locs cells slots 0 0 (F0 m pc ls st0) rest (va_Ql post (fun u => PO D tys (va_A wc H.size) (w1 u)) (va_A wc H.size) va) (va_A wc H.size)) (hS : va_S A H0 H locs) (hA : ∀ q, H0.size ≤ q → A q) (hP : va_P D qCl ws H) (hD : va_D A ws) (isC isR : List Nat) (hC : isC.map (fun i => ws[i]?) = wc.map some) (hR : isR.map (fun i => ws[i]?) = wr.map some) (hn : va_nd isR = true) (hdis : ∀ i ∈ isR, i ∉ isC)
    (kk : ∀ (r : Int64) (u : S) (H1 : Heap) (locs1 : List Loc), post r u → va_P D qCl (wr ++ w1 u) H1 → va_D A (wr ++ w1 u) → va_S A H0 H1 locs1 → W p l e R s m args below meth c H1 locs1 cells slots Q (F0 m (pc + 3) ls (.long r :: rest))) : W p l e R s m args below meth c H locs cells slots Q (F0 m pc ls st0) := by
  have hF := va_free hD hS hA isC hC
  refine va_calll hr hS (fun q _ h => hF q h) hF (fun r u t H1 locs1 ht hvm hp hB hz hk hS1 => ?_)
  obtain ⟨hP1, hK1, hD1⟩ := hB
  rw [ht] at hP1
  obtain ⟨hP2, hD2⟩ := va_join hP hD isC isR hC hR hn hdis hk hF hP1 hD1
  exact kk r u H1 locs1 hp hP2 hD2 hS1
theorem q_v {S : Type} {post : S → Prop} {w1 : S → va_W} {va : Array Value} {mc ms : Nat} (hr : va_Run p l e R s m args below meth c H locs cells slots mc ms (F0 m pc ls st0) rest (va_Qv post (fun u => PO D tys (va_A wc H.size) (w1 u)) (va_A wc H.size) va) (va_A wc H.size)) (hS : va_S A H0 H locs) (hA : ∀ q, H0.size ≤ q → A q) (hP : va_P D qCl ws H) (hD : va_D A ws) (isC isR : List Nat) (hC : isC.map (fun i => ws[i]?) = wc.map some) (hR : isR.map (fun i => ws[i]?) = wr.map some) (hn : va_nd isR = true) (hdis : ∀ i ∈ isR, i ∉ isC)
    (kk : ∀ (u : S) (H1 : Heap) (locs1 : List Loc), post u → va_P D qCl (wr ++ w1 u) H1 → va_D A (wr ++ w1 u) → va_S A H0 H1 locs1 → W p l e R s m args below meth c H1 locs1 (cells + mc) (slots + ms) Q (F0 m (pc + 3) ls rest)) : W p l e R s m args below meth c H locs cells slots Q (F0 m pc ls st0) := by
  have hF := va_free hD hS hA isC hC
  refine va_callv hr hS (fun q _ h => hF q h) hF (fun u t H1 locs1 ht hvm hp hB hz hk hS1 => ?_)
  obtain ⟨hP1, hK1, hD1⟩ := hB
  rw [ht] at hP1
  obtain ⟨hP2, hD2⟩ := va_join hP hD isC isR hC hR hn hdis hk hF hP1 hD1
  exact kk u H1 locs1 hp hP2 hD2 hS1
theorem q_v0 {S : Type} {post : S → Prop} {w1 : S → va_W} {va : Array Value} (hr : va_Run p l e R s m args below meth c H locs cells slots 0 0 (F0 m pc ls st0) rest (va_Qv post (fun u => PO D tys (va_A wc H.size) (w1 u)) (va_A wc H.size) va) (va_A wc H.size)) (hS : va_S A H0 H locs) (hA : ∀ q, H0.size ≤ q → A q) (hP : va_P D qCl ws H) (hD : va_D A ws) (isC isR : List Nat) (hC : isC.map (fun i => ws[i]?) = wc.map some) (hR : isR.map (fun i => ws[i]?) = wr.map some) (hn : va_nd isR = true) (hdis : ∀ i ∈ isR, i ∉ isC)
    (kk : ∀ (u : S) (H1 : Heap) (locs1 : List Loc), post u → va_P D qCl (wr ++ w1 u) H1 → va_D A (wr ++ w1 u) → va_S A H0 H1 locs1 → W p l e R s m args below meth c H1 locs1 cells slots Q (F0 m (pc + 3) ls rest)) : W p l e R s m args below meth c H locs cells slots Q (F0 m pc ls st0) := q_v hr hS hA hP hD isC isR hC hR hn hdis kk
/-- array places by a number -/
theorem q_iald (hexec : p.tables.exec = Jvm.exec) (hb : c.code = cc) (hK : va_K D cl tys s) (hP : va_P D cl ws H) (q0 t0 : Nat) {cA : ClassId} {n : Nat} {f : Nat → Int32} (ha : ws[q0]? = some (a, .inl (cA, n, .inl f))) (ht : tys[t0]? = some (cA, .int)) {k : Nat} (hk : k < n) (h31 : n < 2 ^ 31) (hdg : decode cc pc = .ok (.iaload, 1))
    (kk : W p l e R s m args below meth c H locs cells slots Q (F0 m (pc + 1) ls (.int (f k) :: rest))) : W p l e R s m args below meth c H locs cells slots Q (F0 m pc ls (.int (nI k) :: .ref a :: rest)) := by
  refine va_iald hexec hb hK hP q0 t0 ha ht (vp_in_nI hk h31) hdg ?_
  rw [nI_clamp (Nat.lt_trans hk h31)]; exact kk
theorem q_zald (hexec : p.tables.exec = Jvm.exec) (hb : c.code = cc) (hK : va_K D cl tys s) (hP : va_P D cl ws H) (q0 t0 : Nat) {cA : ClassId} {n : Nat} {f : Nat → Int32} (ha : ws[q0]? = some (a, .inl (cA, n, .inl f))) (ht : tys[t0]? = some (cA, .boolean)) {k : Nat} (hk : k < n) (h31 : n < 2 ^ 31) (hdg : decode cc pc = .ok (.baload, 1))
    (kk : W p l e R s m args below meth c H locs cells slots Q (F0 m (pc + 1) ls (.int (f k) :: rest))) : W p l e R s m args below meth c H locs cells slots Q (F0 m pc ls (.int (nI k) :: .ref a :: rest)) := by
  refine va_zald hexec hb hK hP q0 t0 ha ht (vp_in_nI hk h31) hdg ?_
  rw [nI_clamp (Nat.lt_trans hk h31)]; exact kk
theorem q_bald (hexec : p.tables.exec = Jvm.exec) (hb : c.code = cc) (hK : va_K D cl tys s) (hP : va_P D cl ws H) (q0 t0 : Nat) {cA : ClassId} {n : Nat} {f : Nat → Int32} (ha : ws[q0]? = some (a, .inl (cA, n, .inl f))) (ht : tys[t0]? = some (cA, .byte)) {k : Nat} (hk : k < n) (h31 : n < 2 ^ 31) (hdg : decode cc pc = .ok (.baload, 1))
    (kk : W p l e R s m args below meth c H locs cells slots Q (F0 m (pc + 1) ls (.int (f k) :: rest))) : W p l e R s m args below meth c H locs cells slots Q (F0 m pc ls (.int (nI k) :: .ref a :: rest)) := by
  refine va_bald hexec hb hK hP q0 t0 ha ht (vp_in_nI hk h31) hdg ?_
  rw [nI_clamp (Nat.lt_trans hk h31)]; exact kk
theorem q_lald (hexec : p.tables.exec = Jvm.exec) (hb : c.code = cc) (hK : va_K D cl tys s) (hP : va_P D cl ws H) (q0 t0 : Nat) {cA : ClassId} {n : Nat} {f : Nat → Int64} (ha : ws[q0]? = some (a, .inl (cA, n, .inr (.inl f)))) (ht : tys[t0]? = some (cA, .long)) {k : Nat} (hk : k < n) (h31 : n < 2 ^ 31) (hdg : decode cc pc = .ok (.laload, 1))
    (kk : W p l e R s m args below meth c H locs cells slots Q (F0 m (pc + 1) ls (.long (f k) :: rest))) : W p l e R s m args below meth c H locs cells slots Q (F0 m pc ls (.int (nI k) :: .ref a :: rest)) := by
  refine va_lald hexec hb hK hP q0 t0 ha ht (vp_in_nI hk h31) hdg ?_
  rw [nI_clamp (Nat.lt_trans hk h31)]; exact kk
theorem q_iast (hexec : p.tables.exec = Jvm.exec) (hb : c.code = cc) (hK : va_K D cl tys s) (hP : va_P D cl ws H) (hD : va_D A ws) (hS : va_S A H0 H locs) (q0 t0 : Nat) {cA : ClassId} {n : Nat} {f : Nat → Int32} (ha : ws[q0]? = some (a, .inl (cA, n, .inl f))) (ht : tys[t0]? = some (cA, .int)) {k : Nat} {x : Int32} (hk : k < n) (h31 : n < 2 ^ 31) (hdg : decode cc pc = .ok (.iastore, 1))
    (kk : ∀ (H1 : Heap) (locs1 : List Loc), va_P D cl (ws.set q0 (a, .inl (cA, n, .inl (upd f k x)))) H1 → va_D A (ws.set q0 (a, .inl (cA, n, .inl (upd f k x)))) → va_S A H0 H1 locs1 → W p l e R s m args below meth c H1 locs1 cells slots Q (F0 m (pc + 1) ls rest)) : W p l e R s m args below meth c H locs cells slots Q (F0 m pc ls (.int x :: .int (nI k) :: .ref a :: rest)) := by
  refine va_iast hexec hb hK hP hD hS q0 t0 ha ht (vp_in_nI hk h31) hdg ?_
  rw [nI_clamp (Nat.lt_trans hk h31)]; exact kk
theorem q_zast (hexec : p.tables.exec = Jvm.exec) (hb : c.code = cc) (hK : va_K D cl tys s) (hP : va_P D cl ws H) (hD : va_D A ws) (hS : va_S A H0 H locs) (q0 t0 : Nat) {cA : ClassId} {n : Nat} {f : Nat → Int32} (ha : ws[q0]? = some (a, .inl (cA, n, .inl f))) (ht : tys[t0]? = some (cA, .boolean)) {k : Nat} {x : Int32} (hx : vp_nar .boolean x = x) (hk : k < n) (h31 : n < 2 ^ 31) (hdg : decode cc pc = .ok (.bastore, 1))
    (kk : ∀ (H1 : Heap) (locs1 : List Loc), va_P D cl (ws.set q0 (a, .inl (cA, n, .inl (upd f k x)))) H1 → va_D A (ws.set q0 (a, .inl (cA, n, .inl (upd f k x)))) → va_S A H0 H1 locs1 → W p l e R s m args below meth c H1 locs1 cells slots Q (F0 m (pc + 1) ls rest)) : W p l e R s m args below meth c H locs cells slots Q (F0 m pc ls (.int x :: .int (nI k) :: .ref a :: rest)) := by
  refine va_zast hexec hb hK hP hD hS q0 t0 ha ht (vp_in_nI hk h31) hdg ?_
  rw [nI_clamp (Nat.lt_trans hk h31), hx]; exact kk
theorem q_bast (hexec : p.tables.exec = Jvm.exec) (hb : c.code = cc) (hK : va_K D cl tys s) (hP : va_P D cl ws H) (hD : va_D A ws) (hS : va_S A H0 H locs) (q0 t0 : Nat) {cA : ClassId} {n : Nat} {f : Nat → Int32} (ha : ws[q0]? = some (a, .inl (cA, n, .inl f))) (ht : tys[t0]? = some (cA, .byte)) {k : Nat} {x : Int32} (hk : k < n) (h31 : n < 2 ^ 31) (hdg : decode cc pc = .ok (.bastore, 1))
    (kk : ∀ (H1 : Heap) (locs1 : List Loc), va_P D cl (ws.set q0 (a, .inl (cA, n, .inl (upd f k x.toInt8.toInt32)))) H1 → va_D A (ws.set q0 (a, .inl (cA, n, .inl (upd f k x.toInt8.toInt32)))) → va_S A H0 H1 locs1 → W p l e R s m args below meth c H1 locs1 cells slots Q (F0 m (pc + 1) ls rest)) : W p l e R s m args below meth c H locs cells slots Q (F0 m pc ls (.int x :: .int (nI k) :: .ref a :: rest)) := by
  refine va_bast hexec hb hK hP hD hS q0 t0 ha ht (vp_in_nI hk h31) hdg ?_
  rw [nI_clamp (Nat.lt_trans hk h31), vp_nar_byte]; exact kk
theorem q_last (hexec : p.tables.exec = Jvm.exec) (hb : c.code = cc) (hK : va_K D cl tys s) (hP : va_P D cl ws H) (hD : va_D A ws) (hS : va_S A H0 H locs) (q0 t0 : Nat) {cA : ClassId} {n : Nat} {f : Nat → Int64} (ha : ws[q0]? = some (a, .inl (cA, n, .inr (.inl f)))) (ht : tys[t0]? = some (cA, .long)) {k : Nat} {x : Int64} (hk : k < n) (h31 : n < 2 ^ 31) (hdg : decode cc pc = .ok (.lastore, 1))
    (kk : ∀ (H1 : Heap) (locs1 : List Loc), va_P D cl (ws.set q0 (a, .inl (cA, n, .inr (.inl (vp_updL f k x))))) H1 → va_D A (ws.set q0 (a, .inl (cA, n, .inr (.inl (vp_updL f k x))))) → va_S A H0 H1 locs1 → W p l e R s m args below meth c H1 locs1 cells slots Q (F0 m (pc + 1) ls rest)) : W p l e R s m args below meth c H locs cells slots Q (F0 m pc ls (.long x :: .int (nI k) :: .ref a :: rest)) := by
  refine va_last hexec hb hK hP hD hS q0 t0 ha ht (vp_in_nI hk h31) hdg ?_
  rw [nI_clamp (Nat.lt_trans hk h31)]; exact kk
/-- compares of numbers -/
theorem q_ge (hexec : p.tables.exec = Jvm.exec) (hb : c.code = cc) {x y : Nat} (h1 : x < 2 ^ 31) (h2 : y < 2 ^ 31) {off : Int} {tgt : Nat} (hdg : decode cc pc = .ok (.if_icmp .ge off, 3)) (ht : (pc : Int) + off = (tgt : Int)) (kt : y ≤ x → W p l e R s m args below meth c H locs cells slots Q (F0 m tgt ls rest)) (kf : x < y → W p l e R s m args below meth c H locs cells slots Q (F0 m (pc + 3) ls rest)) : W p l e R s m args below meth c H locs cells slots Q (F0 m pc ls (.int (nI y) :: .int (nI x) :: rest)) :=
  lv_icmp_ge hexec hb hdg ht (fun h => kt ((nI_leI h2 h1).mp h)) (fun h => kf (Nat.lt_of_not_le fun z => h ((nI_leI h2 h1).mpr z)))
theorem q_lt (hexec : p.tables.exec = Jvm.exec) (hb : c.code = cc) {x y : Nat} (h1 : x < 2 ^ 31) (h2 : y < 2 ^ 31) {off : Int} {tgt : Nat} (hdg : decode cc pc = .ok (.if_icmp .lt off, 3)) (ht : (pc : Int) + off = (tgt : Int)) (kt : x < y → W p l e R s m args below meth c H locs cells slots Q (F0 m tgt ls rest)) (kf : y ≤ x → W p l e R s m args below meth c H locs cells slots Q (F0 m (pc + 3) ls rest)) : W p l e R s m args below meth c H locs cells slots Q (F0 m pc ls (.int (nI y) :: .int (nI x) :: rest)) :=
  lv_icmp_lt hexec hb hdg ht (fun h => kt ((nI_ltI h1 h2).mp h)) (fun h => kf (Nat.le_of_not_lt fun z => h ((nI_ltI h1 h2).mpr z)))
theorem q_gt (hexec : p.tables.exec = Jvm.exec) (hb : c.code = cc) {x y : Nat} (h1 : x < 2 ^ 31) (h2 : y < 2 ^ 31) {off : Int} {tgt : Nat} (hdg : decode cc pc = .ok (.if_icmp .gt off, 3)) (ht : (pc : Int) + off = (tgt : Int)) (kt : y < x → W p l e R s m args below meth c H locs cells slots Q (F0 m tgt ls rest)) (kf : x ≤ y → W p l e R s m args below meth c H locs cells slots Q (F0 m (pc + 3) ls rest)) : W p l e R s m args below meth c H locs cells slots Q (F0 m pc ls (.int (nI y) :: .int (nI x) :: rest)) :=
  lv_icmp_gt hexec hb hdg ht (fun h => kt ((nI_ltI h2 h1).mp h)) (fun h => kf (Nat.le_of_not_lt fun z => h ((nI_ltI h2 h1).mpr z)))
theorem q_le (hexec : p.tables.exec = Jvm.exec) (hb : c.code = cc) {x y : Nat} (h1 : x < 2 ^ 31) (h2 : y < 2 ^ 31) {off : Int} {tgt : Nat} (hdg : decode cc pc = .ok (.if_icmp .le off, 3)) (ht : (pc : Int) + off = (tgt : Int)) (kt : x ≤ y → W p l e R s m args below meth c H locs cells slots Q (F0 m tgt ls rest)) (kf : y < x → W p l e R s m args below meth c H locs cells slots Q (F0 m (pc + 3) ls rest)) : W p l e R s m args below meth c H locs cells slots Q (F0 m pc ls (.int (nI y) :: .int (nI x) :: rest)) :=
  lv_icmp_le hexec hb hdg ht (fun h => kt ((nI_leI h1 h2).mp h)) (fun h => kf (Nat.lt_of_not_le fun z => h ((nI_leI h1 h2).mpr z)))
theorem q_eq (hexec : p.tables.exec = Jvm.exec) (hb : c.code = cc) {x y : Nat} (h1 : x < 2 ^ 31) (h2 : y < 2 ^ 31) {off : Int} {tgt : Nat} (hdg : decode cc pc = .ok (.if_icmp .eq off, 3)) (ht : (pc : Int) + off = (tgt : Int)) (kt : x = y → W p l e R s m args below meth c H locs cells slots Q (F0 m tgt ls rest)) (kf : x ≠ y → W p l e R s m args below meth c H locs cells slots Q (F0 m (pc + 3) ls rest)) : W p l e R s m args below meth c H locs cells slots Q (F0 m pc ls (.int (nI y) :: .int (nI x) :: rest)) :=
  lv_icmp_eq hexec hb hdg ht (fun h => kt ((nI_eq h1 h2).mp h)) (fun h => kf (fun z => h ((nI_eq h1 h2).mpr z)))
theorem q_ne (hexec : p.tables.exec = Jvm.exec) (hb : c.code = cc) {x y : Nat} (h1 : x < 2 ^ 31) (h2 : y < 2 ^ 31) {off : Int} {tgt : Nat} (hdg : decode cc pc = .ok (.if_icmp .ne off, 3)) (ht : (pc : Int) + off = (tgt : Int)) (kt : x ≠ y → W p l e R s m args below meth c H locs cells slots Q (F0 m tgt ls rest)) (kf : x = y → W p l e R s m args below meth c H locs cells slots Q (F0 m (pc + 3) ls rest)) : W p l e R s m args below meth c H locs cells slots Q (F0 m pc ls (.int (nI y) :: .int (nI x) :: rest)) :=
  lv_icmp_ne hexec hb hdg ht (fun h => kt (fun z => h ((nI_eq h1 h2).mpr z))) (fun h => kf ((nI_eq h1 h2).mp h))
end QC
theorem nw_0 {s : State} {args : Array Value} (h : NW s) : (Cond.fieldLinkNest RX0 34 "RasterCover$Path" "xs" "[I" "RasterCover").before args s = true := NW.u h 0 rfl
theorem nw_1 {s : State} {args : Array Value} (h : NW s) : (Cond.fieldLinkNest RX0 27 "RasterCover$Path" "ys" "[I" "RasterCover").before args s = true := NW.u h 1 rfl
theorem nw_2 {s : State} {args : Array Value} (h : NW s) : (Cond.fieldLinkNest RX0 23 "RasterCover$Path" "begins" "[Z" "RasterCover").before args s = true := NW.u h 2 rfl
theorem nw_3 {s : State} {args : Array Value} (h : NW s) : (Cond.fieldLinkNest RX0 22 "RasterCover$Path" "count" "I" "RasterCover").before args s = true := NW.u h 3 rfl
theorem nw_4 {s : State} {args : Array Value} (h : NW s) : (Cond.fieldLinkNest RX4 83 "RasterCover$Path" "count" "I" "RasterCover").before args s = true := NW.u h 4 rfl
theorem nw_5 {s : State} {args : Array Value} (h : NW s) : (Cond.fieldLinkNest RX3 43 "RasterCover$Crossings" "xs" "[I" "RasterCover").before args s = true := NW.u h 5 rfl
theorem nw_6 {s : State} {args : Array Value} (h : NW s) : (Cond.fieldLinkNest RX3 40 "RasterCover$Crossings" "turns" "[I" "RasterCover").before args s = true := NW.u h 6 rfl
theorem nw_7 {s : State} {args : Array Value} (h : NW s) : (Cond.fieldLinkNest RX3 36 "RasterCover$Crossings" "count" "I" "RasterCover").before args s = true := NW.u h 7 rfl
theorem nw_8 {s : State} {args : Array Value} (h : NW s) : (Cond.fieldLinkNest RX4 139 "RasterCover$PackedRow" "signs" "[B" "RasterCover").before args s = true := NW.u h 8 rfl
theorem nw_9 {s : State} {args : Array Value} (h : NW s) : (Cond.fieldLinkNest RX4 136 "RasterCover$PackedRow" "size" "I" "RasterCover").before args s = true := NW.u h 9 rfl
theorem q_inc (k : Nat) : nI k + Int32.ofInt 1 = nI (k + 1) := by
  rw [show Int32.ofInt 1 = 1 from by decide]
  exact nI_1 k
theorem q_pred (k : Nat) : nI (k + 1) - nI 1 = nI k := (pk_sub (Nat.le_add_left 1 k)).trans (by rw [Nat.add_sub_cancel])
theorem q_dec (k : Nat) : nI (k + 1) + Int32.ofInt (-1) = nI k := by
  rw [show Int32.ofInt (-1) = -1 from by decide]
  exact pk_m1 k
section QC2
variable {p : Program} {l : Launch} {e : Env} {R : Room} {s : State} {m : MethodId} {args : Array Value} {below : List Frame} {meth : Method} {c : Code} {H : Heap} {locs : List Loc} {cells slots : Nat} {Q : State → Prop}
variable {cc : ByteArray} {pc : Nat} {ls : Array Slot} {rest : List Value}
theorem q_if_le (hexec : p.tables.exec = Jvm.exec) (hb : c.code = cc) {x : Nat} (h1 : x < 2 ^ 31) {off : Int} {tgt : Nat} (hdg : decode cc pc = .ok (.ifCond .le off, 3)) (ht : (pc : Int) + off = (tgt : Int)) (kt : x = 0 → W p l e R s m args below meth c H locs cells slots Q (F0 m tgt ls rest)) (kf : 0 < x → W p l e R s m args below meth c H locs cells slots Q (F0 m (pc + 3) ls rest)) : W p l e R s m args below meth c H locs cells slots Q (F0 m pc ls (.int (nI x) :: rest)) :=
  lv_if_le hexec hb hdg ht (fun h => kt (Nat.eq_zero_of_not_pos fun z => nI_nle z h1 h)) (fun h => kf (Nat.pos_of_ne_zero fun z => h (by rw [z, nI_0]; decide)))
theorem q_if_gt (hexec : p.tables.exec = Jvm.exec) (hb : c.code = cc) {x : Nat} (h1 : x < 2 ^ 31) {off : Int} {tgt : Nat} (hdg : decode cc pc = .ok (.ifCond .gt off, 3)) (ht : (pc : Int) + off = (tgt : Int)) (kt : 0 < x → W p l e R s m args below meth c H locs cells slots Q (F0 m tgt ls rest)) (kf : x = 0 → W p l e R s m args below meth c H locs cells slots Q (F0 m (pc + 3) ls rest)) : W p l e R s m args below meth c H locs cells slots Q (F0 m pc ls (.int (nI x) :: rest)) :=
  lv_if_gt hexec hb hdg ht (fun h => kt (Nat.pos_of_ne_zero fun z => by rw [z, nI_0] at h; exact absurd h (by decide))) (fun h => kf (Nat.eq_zero_of_not_pos fun z => h (by rw [← nI_0]; exact nI_lt z h1)))
theorem q_if_eq (hexec : p.tables.exec = Jvm.exec) (hb : c.code = cc) {x : Nat} (h1 : x < 2 ^ 31) {off : Int} {tgt : Nat} (hdg : decode cc pc = .ok (.ifCond .eq off, 3)) (ht : (pc : Int) + off = (tgt : Int)) (kt : x = 0 → W p l e R s m args below meth c H locs cells slots Q (F0 m tgt ls rest)) (kf : 0 < x → W p l e R s m args below meth c H locs cells slots Q (F0 m (pc + 3) ls rest)) : W p l e R s m args below meth c H locs cells slots Q (F0 m pc ls (.int (nI x) :: rest)) :=
  lv_if_eq hexec hb hdg ht (fun h => kt (Nat.eq_zero_of_not_pos fun z => nI_ne0 z h1 h)) (fun h => kf (Nat.pos_of_ne_zero fun z => h (by rw [z, nI_0])))
theorem q_if_ne (hexec : p.tables.exec = Jvm.exec) (hb : c.code = cc) {x : Nat} (h1 : x < 2 ^ 31) {off : Int} {tgt : Nat} (hdg : decode cc pc = .ok (.ifCond .ne off, 3)) (ht : (pc : Int) + off = (tgt : Int)) (kt : 0 < x → W p l e R s m args below meth c H locs cells slots Q (F0 m tgt ls rest)) (kf : x = 0 → W p l e R s m args below meth c H locs cells slots Q (F0 m (pc + 3) ls rest)) : W p l e R s m args below meth c H locs cells slots Q (F0 m pc ls (.int (nI x) :: rest)) :=
  lv_if_ne hexec hb hdg ht (fun h => kt (Nat.pos_of_ne_zero fun z => h (by rw [z, nI_0]))) (fun h => kf (Nat.eq_zero_of_not_pos fun z => nI_ne0 z h1 h))
end QC2
