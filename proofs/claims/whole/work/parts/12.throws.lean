/-! methods that may throw: their start, end and calls -/
def XC1 (D : va_G) (tys : List (ClassId × FieldType)) (A : Nat → Prop) (w0 : va_W) (XE : String → Prop) : String → State → State → Prop := vx_X (fun (_ : Unit) => True) (fun E (_ : Unit) t => XE E ∧ PO D tys A w0 t) A
theorem at_hat {ic : Nat} {cls : String} {names : List String} {ws : List Cond} {args : Array Value} {s : State} (hts : ∀ w ∈ ws, w.before args s = true) (hin : ∀ w ∈ (vx_atS RX4 ic cls names).filter goodWord, w ∈ ws) (hN : NW s) (h2 : ∀ w ∈ (vx_atS RX4 ic cls names).filter (fun w => !goodWord w), w ∈ nwL) : ∀ w ∈ vx_atS RX4 ic cls names, w.before args s = true :=
  vx_hat (fun w hw => hts w (hin w hw)) h2 (fun w hw => va_Nw.use (nwOk_tab (nwL_ok w hw)) (hN.1 w hw))
theorem ng_152 : ∀ w ∈ (vx_atS RX4 152 qUOE nmRE).filter (fun w => !goodWord w), w ∈ nwL := by decide +kernel
theorem ng_90 : ∀ w ∈ (vx_atS RX4 90 qISE nmRE).filter (fun w => !goodWord w), w ∈ nwL := by decide +kernel
theorem ng_157 : ∀ w ∈ (vx_atS RX4 157 qIAE nmRE).filter (fun w => !goodWord w), w ∈ nwL := by decide +kernel
theorem ot_152 : ∀ w ∈ Cond.classLink RX4 148 qUOE :: Cond.initialized qUOE :: vx_atS RX4 152 qUOE nmRE, vx_ot w = true := by decide +kernel
theorem ot_90 : ∀ w ∈ Cond.classLink RX4 86 qISE :: Cond.initialized qISE :: vx_atS RX4 90 qISE nmRE, vx_ot w = true := by decide +kernel
theorem ot_157 : ∀ w ∈ Cond.classLink RX4 153 qIAE :: Cond.initialized qIAE :: vx_atS RX4 157 qIAE nmRE, vx_ot w = true := by decide +kernel
theorem ot_147 : ∀ w ∈ Cond.classLink RX4 143 qAIO :: Cond.initialized qAIO :: vx_atS RX4 147 qAIO nmIO, vx_ot w = true := by decide +kernel
section XE1
variable {l : Launch} {y : MethodName} {ws ws' : List Cond} {rm : Room} {D : va_G} {tys : List (ClassId × FieldType)} {w0 : va_W} {sz mc ms : Nat} {av : List Value} {cc : ByteArray} {maxL : Nat} {S : Type}
/-- the throw of a method's body: 'throw new E("text")' -/
def QThrow (p : Program) (l : Launch) (e : Env) (rm : Room) (s : State) (m : MethodId) (av : List Value) (below : List Frame) (meth : Method) (c : Code) (cc : ByteArray) (D : va_G) (w0 : va_W) (A : Nat → Prop) (XE : String → Prop) (mc ms : Nat) (Q : State → Prop) : Prop :=
  ∀ (own cls text : String) (names : List String) (ik is ic pc k n : Nat) (H : Heap) (locs : List Loc) (ls : Array Slot),
    s.vm.findClass own = some m.cls → Bundle.fit cls = true → (∀ q ∈ names, Bundle.fit q = true) → (Cond.classLink own ik cls).before av.toArray s = true → (Cond.initialized cls).before av.toArray s = true → (∃ sa, vk_R own is text sa s) → (∀ w ∈ vx_atS own ic cls names, w.before av.toArray s = true) →
    (∀ w ∈ Cond.classLink own ik cls :: Cond.initialized cls :: vx_atS own ic cls names, vx_ot w = true) → ls.size = c.maxLocals →
    decode cc pc = .ok (.new ik, 3) → decode cc (pc + 3) = .ok (.dup, 1) → decode cc (pc + 4) = .ok (.ldc is, 2) → decode cc (pc + 6) = .ok (.invokespecial ic, 3) → decode cc (pc + 9) = .ok (.athrow, 1) →
    names.length + 3 < rm.frames → 13 * (names.length + 1) + 43 ≤ rm.locals → k + 1 ≤ rm.cells → n + 6 ≤ rm.slots → k + 1 ≤ mc → n + 6 ≤ ms → XE cls →
    va_P D qCl w0 H → va_D A w0 → va_S A s.heap H locs → W p l e rm s m av.toArray below meth c H locs k n Q (F0 m pc ls [])
/-- an exception of a callee goes on -/
def QPass (p : Program) (l : Launch) (e : Env) (rm : Room) (s : State) (m : MethodId) (av : List Value) (below : List Frame) (meth : Method) (c : Code) (D : va_G) (w0 : va_W) (A : Nat → Prop) (XE : String → Prop) (mc ms : Nat) (Q : State → Prop) : Prop :=
  ∀ (E : String) (ce : Cell) (q9 : Addr) (pc k n : Nat) (H : Heap) (locs : List Loc) (ls : Array Slot) (rest : List Value), XE E → va_P D qCl w0 H → va_D A w0 → va_S A s.heap H locs → H[q9]? = some ce → ce.vm = .none → s.vm.findClass E = some ce.cls → k ≤ mc → n ≤ ms → vx_W p l e rm s m av.toArray below meth c H locs k n Q (F0 m pc ls rest) q9
theorem q_throw {p : Program} {e : Env} {s : State} {m : MethodId} {below : List Frame} {meth : Method} {c : Code} {A : Nat → Prop} {XE : String → Prop} {Qc : Array Value → State → Outcome → State → Prop} (hst : l.stackTraces = false) (hx : p.tables.exec = Jvm.exec) (hb : c.code = cc) (hno : ∀ x ∈ c.exceptionTable.toList, False) (hlocks : meth.locks = false) (hZ : ZZ A s s.heap) (hA : ∀ q : Nat, s.heap.size ≤ q → A q) (hK : va_K D qCl tys s) :
    QThrow p l e rm s m av below meth c cc D w0 A XE mc ms (vx_MQ below Qc (XC1 D tys A w0 XE) av.toArray s mc ms A) := by
  intro own cls text names ik is ic pc k n H locs ls hown hcls hnames hk hini hstr hat hgood hsize d0 d3 d4 d6 d9 hf hlo hc1 hs1 hc2 hs2 hXE hP hD hS
  obtain ⟨sa, hstr⟩ := hstr
  refine vx_throwS hx hb hst (A := A) hown hcls hnames hk hini hstr hat hgood hZ.1 hZ.2 hS hsize d0 d3 d4 d6 d9 (fun x h => (hno x h).elim) hf (by simp only [List.map_nil, List.sum_nil]; omega) hc1 hs1 hlocks ?_ hS.2.2 hc2 hs2
  intro t hal hz hk9
  have hF : va_F A s t := ⟨Nat.le_trans hS.1 hz, fun q h1 h2 => (hk9 q (Nat.lt_of_lt_of_le h1 hS.1)).trans (hS.2.1 q h1 h2)⟩
  exact ⟨(), trivial, ⟨hXE, hP.kept (fun k q hq => hk9 q.1 (hP k q hq).lt), va_K.moved hal hK, hD⟩, hF⟩
theorem q_pass {p : Program} {e : Env} {s : State} {m : MethodId} {below : List Frame} {meth : Method} {c : Code} {A : Nat → Prop} {XE : String → Prop} {Qc : Array Value → State → Outcome → State → Prop} (hno : ∀ x ∈ c.exceptionTable.toList, False) (hlocks : meth.locks = false) (hK : va_K D qCl tys s) :
    QPass p l e rm s m av below meth c D w0 A XE mc ms (vx_MQ below Qc (XC1 D tys A w0 XE) av.toArray s mc ms A) := by
  intro E ce q9 pc k n H locs ls rest hXE hP hD hS hce hcv hcl hk hn
  exact vx_out (fun x h => (hno x h).elim) hlocks hce hcv hcl (fun t ht hal => ⟨(), trivial, ⟨hXE, by rw [ht]; exact hP, va_K.moved hal hK, hD⟩, hS.F ht⟩) hS.2.2 hk hn
theorem q_entXV (hst : l.stackTraces = false) (hy : plainName y.cls = true) (hw : ws = Cond.code y cc maxL none :: ws') (hlen : (lg_sl av).length ≤ maxL) {post : S → Prop} {w1 : S → va_W} {XE : String → Prop}
    (body : ∀ (p : Program) (e : Env) (s : State) (m : MethodId) (below : List Frame) (meth : Method) (c : Code) (A : Nat → Prop) (Q : State → Prop) (ls : Array Slot), QAt p y ws D tys w0 sz av cc maxL s m meth c A → lv_has ls maxL (lv_args 0 av) → ZZ A s s.heap →
      (∀ (H : Heap) (locs : List Loc) (pc : Nat) (ls : Array Slot) (u : S) (k n : Nat), decode cc pc = .ok (.return_, 1) → k ≤ mc → n ≤ ms → post u → va_P D qCl (w1 u) H → va_K D qCl tys s → va_D A (w1 u) → va_S A s.heap H locs → W p l e rm s m av.toArray below meth c H locs k n Q (F0 m pc ls [])) →
      QThrow p l e rm s m av below meth c cc D w0 A XE mc ms Q → QPass p l e rm s m av below meth c D w0 A XE mc ms Q →
      W p l e rm s m av.toArray below meth c s.heap [] 0 0 Q (F0 m 0 ls [])) :
    vx_Met l y ws rm (va_Pc av (PZ D tys w0 sz)) (va_Qv post (fun u => PO D tys (va_A w0 sz) (w1 u)) (va_A w0 sz)) (XC1 D tys (va_A w0 sz) w0 XE) mc ms (va_A w0 sz) := by
  refine vx_ofW (cc := cc) (maxL := maxL) (ret := none) hy hw ?_
  intro p e s m args below meth c s₁ B hml hno hv
  obtain ⟨hv1, hv2, hZ⟩ := hv
  obtain ⟨rfl, hq⟩ := q_at (av := av) B hml ⟨hv1, hv2⟩
  rw [lg_entry_eq]
  refine q_ls hlen (Pr := fun ls => W p l e rm s m av.toArray below meth c s.heap [] 0 0 (vx_MQ below (va_Qv post (fun u => PO D tys (va_A w0 sz) (w1 u)) (va_A w0 sz)) (XC1 D tys (va_A w0 sz) w0 XE) av.toArray s mc ms (va_A w0 sz)) (F0 m 0 ls [])) (fun ls hl => ?_)
  have hK : va_K D qCl tys s := hq.2.2.2.2.2.2.2.1
  have hA : ∀ q : Nat, s.heap.size ≤ q → va_A w0 sz q := hq.2.2.2.2.2.2.2.2.2.1
  refine body p e s m below meth c (va_A w0 sz) _ ls hq hl hZ ?_ (q_throw hst hq.1 hq.2.1 hno B.notSynchronized hZ hA hK) (q_pass hno B.notSynchronized hK)
  intro H locs pc ls u k n hd hk hn hp hP hK hD hS
  refine W.widen hk hn ?_
  refine vx_ret ?_
  exact W.vret hq.1 hq.2.1 B.returns (fun t ht hW => ⟨⟨u, rfl, hp, by rw [ht]; exact hP, va_K.moved hW.alike hK, hD⟩, hS.F ht⟩) hS.2.2 hd B.notSynchronized
theorem q_entXI (hst : l.stackTraces = false) (hy : plainName y.cls = true) (hw : ws = Cond.code y cc maxL (some .int) :: ws') (hlen : (lg_sl av).length ≤ maxL) {post : Int32 → S → Prop} {w1 : S → va_W} {XE : String → Prop}
    (body : ∀ (p : Program) (e : Env) (s : State) (m : MethodId) (below : List Frame) (meth : Method) (c : Code) (A : Nat → Prop) (Q : State → Prop) (ls : Array Slot), QAt p y ws D tys w0 sz av cc maxL s m meth c A → lv_has ls maxL (lv_args 0 av) → ZZ A s s.heap →
      (∀ (H : Heap) (locs : List Loc) (pc : Nat) (ls : Array Slot) (r : Int32) (u : S) (k n : Nat), decode cc pc = .ok (.ireturn, 1) → k ≤ mc → n ≤ ms → post r u → va_P D qCl (w1 u) H → va_K D qCl tys s → va_D A (w1 u) → va_S A s.heap H locs → W p l e rm s m av.toArray below meth c H locs k n Q (F0 m pc ls [.int r])) →
      QThrow p l e rm s m av below meth c cc D w0 A XE mc ms Q → QPass p l e rm s m av below meth c D w0 A XE mc ms Q →
      W p l e rm s m av.toArray below meth c s.heap [] 0 0 Q (F0 m 0 ls [])) :
    vx_Met l y ws rm (va_Pc av (PZ D tys w0 sz)) (va_Qi post (fun u => PO D tys (va_A w0 sz) (w1 u)) (va_A w0 sz)) (XC1 D tys (va_A w0 sz) w0 XE) mc ms (va_A w0 sz) := by
  refine vx_ofW (cc := cc) (maxL := maxL) (ret := some .int) hy hw ?_
  intro p e s m args below meth c s₁ B hml hno hv
  obtain ⟨hv1, hv2, hZ⟩ := hv
  obtain ⟨rfl, hq⟩ := q_at (av := av) B hml ⟨hv1, hv2⟩
  rw [lg_entry_eq]
  refine q_ls hlen (Pr := fun ls => W p l e rm s m av.toArray below meth c s.heap [] 0 0 (vx_MQ below (va_Qi post (fun u => PO D tys (va_A w0 sz) (w1 u)) (va_A w0 sz)) (XC1 D tys (va_A w0 sz) w0 XE) av.toArray s mc ms (va_A w0 sz)) (F0 m 0 ls [])) (fun ls hl => ?_)
  have hK : va_K D qCl tys s := hq.2.2.2.2.2.2.2.1
  have hA : ∀ q : Nat, s.heap.size ≤ q → va_A w0 sz q := hq.2.2.2.2.2.2.2.2.2.1
  refine body p e s m below meth c (va_A w0 sz) _ ls hq hl hZ ?_ (q_throw hst hq.1 hq.2.1 hno B.notSynchronized hZ hA hK) (q_pass hno B.notSynchronized hK)
  intro H locs pc ls r u k n hd hk hn hp hP hK hD hS
  refine W.widen hk hn ?_
  refine vx_ret ?_
  exact W.iret (v := r) hq.1 hq.2.1 B.returns (fun t ht hW => ⟨⟨r, u, rfl, hp, by rw [ht]; exact hP, va_K.moved hW.alike hK, hD⟩, hS.F ht⟩) hS.2.2 hd B.notSynchronized
theorem q_entXZ {ty : FieldType} (hst : l.stackTraces = false) (hy : plainName y.cls = true) (hw : ws = Cond.code y cc maxL (some ty) :: ws') (hlen : (lg_sl av).length ≤ maxL) {post : Int32 → S → Prop} {w1 : S → va_W} {XE : String → Prop}
    (body : ∀ (p : Program) (e : Env) (s : State) (m : MethodId) (below : List Frame) (meth : Method) (c : Code) (A : Nat → Prop) (Q : State → Prop) (ls : Array Slot), QAt p y ws D tys w0 sz av cc maxL s m meth c A → lv_has ls maxL (lv_args 0 av) → ZZ A s s.heap →
      (∀ (H : Heap) (locs : List Loc) (pc : Nat) (ls : Array Slot) (r : Int32) (u : S) (k n : Nat), narrow ty (.int r) = .int r → decode cc pc = .ok (.ireturn, 1) → k ≤ mc → n ≤ ms → post r u → va_P D qCl (w1 u) H → va_K D qCl tys s → va_D A (w1 u) → va_S A s.heap H locs → W p l e rm s m av.toArray below meth c H locs k n Q (F0 m pc ls [.int r])) →
      QThrow p l e rm s m av below meth c cc D w0 A XE mc ms Q → QPass p l e rm s m av below meth c D w0 A XE mc ms Q →
      W p l e rm s m av.toArray below meth c s.heap [] 0 0 Q (F0 m 0 ls [])) :
    vx_Met l y ws rm (va_Pc av (PZ D tys w0 sz)) (va_Qi post (fun u => PO D tys (va_A w0 sz) (w1 u)) (va_A w0 sz)) (XC1 D tys (va_A w0 sz) w0 XE) mc ms (va_A w0 sz) := by
  refine vx_ofW (cc := cc) (maxL := maxL) (ret := some ty) hy hw ?_
  intro p e s m args below meth c s₁ B hml hno hv
  obtain ⟨hv1, hv2, hZ⟩ := hv
  obtain ⟨rfl, hq⟩ := q_at (av := av) B hml ⟨hv1, hv2⟩
  rw [lg_entry_eq]
  refine q_ls hlen (Pr := fun ls => W p l e rm s m av.toArray below meth c s.heap [] 0 0 (vx_MQ below (va_Qi post (fun u => PO D tys (va_A w0 sz) (w1 u)) (va_A w0 sz)) (XC1 D tys (va_A w0 sz) w0 XE) av.toArray s mc ms (va_A w0 sz)) (F0 m 0 ls [])) (fun ls hl => ?_)
  have hK : va_K D qCl tys s := hq.2.2.2.2.2.2.2.1
  have hA : ∀ q : Nat, s.heap.size ≤ q → va_A w0 sz q := hq.2.2.2.2.2.2.2.2.2.1
  refine body p e s m below meth c (va_A w0 sz) _ ls hq hl hZ ?_ (q_throw hst hq.1 hq.2.1 hno B.notSynchronized hZ hA hK) (q_pass hno B.notSynchronized hK)
  intro H locs pc ls r u k n hnr hd hk hn hp hP hK hD hS
  refine W.widen hk hn ?_
  refine vx_ret ?_
  exact W.zret (v := r) hq.1 hq.2.1 B.returns hnr (fun t ht hW => ⟨⟨r, u, rfl, hp, by rw [ht]; exact hP, va_K.moved hW.alike hK, hD⟩, hS.F ht⟩) hS.2.2 hd B.notSynchronized
end XE1
section XE2
variable {p : Program} {l : Launch} {e : Env} {R : Room} {s : State} {m : MethodId} {args : Array Value} {below : List Frame} {meth : Method} {c : Code} {H : Heap} {locs : List Loc} {cells slots : Nat} {Q : State → Prop}
variable {cc : ByteArray} {pc : Nat} {ls : Array Slot} {rest st0 : List Value} {D : va_G} {A A0 : Nat → Prop} {a : Nat} {tys : List (ClassId × FieldType)} {ws wc wr : va_W} {H0 : Heap} {cl : List vw_C}
/-- behind a call that may throw -/
theorem q_xv {S : Type} {post : S → Prop} {w1 : S → va_W} {XE : String → Prop} {va : Array Value} {mc ms : Nat} (hr : vx_Run p l e R s m args below meth c H locs cells slots mc ms (F0 m pc ls st0) rest (va_Qv post (fun u => PO D tys (va_A wc H.size) (w1 u)) (va_A wc H.size) va) (XC1 D tys (va_A wc H.size) wc XE) (va_A wc H.size)) (hS : va_S A H0 H locs) (hA : ∀ q, H0.size ≤ q → A q) (hP : va_P D qCl ws H) (hD : va_D A ws) (isC isR : List Nat) (hC : isC.map (fun i => ws[i]?) = wc.map some) (hR : isR.map (fun i => ws[i]?) = wr.map some) (hn : va_nd isR = true) (hdis : ∀ i ∈ isR, i ∉ isC)
    (kx : ∀ (E : String) (ce : Cell) (q9 : Addr) (H1 : Heap) (locs1 : List Loc), XE E → va_P D qCl (wr ++ wc) H1 → va_D A (wr ++ wc) → va_S A H0 H1 locs1 → H1[q9]? = some ce → ce.vm = .none → s.vm.findClass E = some ce.cls → vx_W p l e R s m args below meth c H1 locs1 (cells + mc) (slots + ms) Q (F0 m pc ls rest) q9)
    (kk : ∀ (u : S) (H1 : Heap) (locs1 : List Loc), post u → va_P D qCl (wr ++ w1 u) H1 → va_D A (wr ++ w1 u) → va_S A H0 H1 locs1 → W p l e R s m args below meth c H1 locs1 (cells + mc) (slots + ms) Q (F0 m (pc + 3) ls rest)) : W p l e R s m args below meth c H locs cells slots Q (F0 m pc ls st0) := by
  have hF := va_free hD hS hA isC hC
  refine vx_callv hr hS (fun q _ h => hF q h) hF (fun q _ h => hF q h) (fun E ce q9 u t H1 locs1 ht hvm hp hB hz hk hS1 hce hcv hcl => ?_) (fun u t H1 locs1 ht hvm hp hB hz hk hS1 => ?_)
  · obtain ⟨hXE, hP1, hK1, hD1⟩ := hB
    rw [ht] at hP1
    obtain ⟨hP2, hD2⟩ := va_join hP hD isC isR hC hR hn hdis hk hF hP1 hD1
    exact kx E ce q9 H1 locs1 hXE hP2 hD2 hS1 hce hcv hcl
  · obtain ⟨hP1, hK1, hD1⟩ := hB
    rw [ht] at hP1
    obtain ⟨hP2, hD2⟩ := va_join hP hD isC isR hC hR hn hdis hk hF hP1 hD1
    exact kk u H1 locs1 hp hP2 hD2 hS1
theorem q_xi {S : Type} {post : Int32 → S → Prop} {w1 : S → va_W} {XE : String → Prop} {va : Array Value} {mc ms : Nat} (hr : vx_Run p l e R s m args below meth c H locs cells slots mc ms (F0 m pc ls st0) rest (va_Qi post (fun u => PO D tys (va_A wc H.size) (w1 u)) (va_A wc H.size) va) (XC1 D tys (va_A wc H.size) wc XE) (va_A wc H.size)) (hS : va_S A H0 H locs) (hA : ∀ q, H0.size ≤ q → A q) (hP : va_P D qCl ws H) (hD : va_D A ws) (isC isR : List Nat) (hC : isC.map (fun i => ws[i]?) = wc.map some) (hR : isR.map (fun i => ws[i]?) = wr.map some) (hn : va_nd isR = true) (hdis : ∀ i ∈ isR, i ∉ isC)
    (kx : ∀ (E : String) (ce : Cell) (q9 : Addr) (H1 : Heap) (locs1 : List Loc), XE E → va_P D qCl (wr ++ wc) H1 → va_D A (wr ++ wc) → va_S A H0 H1 locs1 → H1[q9]? = some ce → ce.vm = .none → s.vm.findClass E = some ce.cls → vx_W p l e R s m args below meth c H1 locs1 (cells + mc) (slots + ms) Q (F0 m pc ls rest) q9)
    (kk : ∀ (r : Int32) (u : S) (H1 : Heap) (locs1 : List Loc), post r u → va_P D qCl (wr ++ w1 u) H1 → va_D A (wr ++ w1 u) → va_S A H0 H1 locs1 → W p l e R s m args below meth c H1 locs1 (cells + mc) (slots + ms) Q (F0 m (pc + 3) ls (.int r :: rest))) : W p l e R s m args below meth c H locs cells slots Q (F0 m pc ls st0) := by
  have hF := va_free hD hS hA isC hC
  refine vx_calli hr hS (fun q _ h => hF q h) hF (fun q _ h => hF q h) (fun E ce q9 u t H1 locs1 ht hvm hp hB hz hk hS1 hce hcv hcl => ?_) (fun r u t H1 locs1 ht hvm hp hB hz hk hS1 => ?_)
  · obtain ⟨hXE, hP1, hK1, hD1⟩ := hB
    rw [ht] at hP1
    obtain ⟨hP2, hD2⟩ := va_join hP hD isC isR hC hR hn hdis hk hF hP1 hD1
    exact kx E ce q9 H1 locs1 hXE hP2 hD2 hS1 hce hcv hcl
  · obtain ⟨hP1, hK1, hD1⟩ := hB
    rw [ht] at hP1
    obtain ⟨hP2, hD2⟩ := va_join hP hD isC isR hC hR hn hdis hk hF hP1 hD1
    exact kk r u H1 locs1 hp hP2 hD2 hS1
end XE2
