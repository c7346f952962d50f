/-! a throw that leaves other contents behind (PackedRow's place); entries of methods with a table of handlers -/
def XC2 {S : Type} (D : va_G) (tys : List (ClassId × FieldType)) (A : Nat → Prop) (w : S → va_W) (XE : String → Prop) : String → State → State → Prop := vx_X (fun (_ : S) => True) (fun E (u : S) t => XE E ∧ PO D tys A (w u) t) A
section XE3
variable {l : Launch} {y : MethodName} {ws ws' : List Cond} {rm : Room} {D : va_G} {tys : List (ClassId × FieldType)} {w0 : va_W} {sz mc ms : Nat} {av : List Value} {cc : ByteArray} {maxL : Nat} {S : Type}
/-- the throw of a method's body: 'throw new E("text")' -/
def QThrow2 {S : Type} (p : Program) (l : Launch) (e : Env) (rm : Room) (s : State) (m : MethodId) (av : List Value) (below : List Frame) (meth : Method) (c : Code) (cc : ByteArray) (D : va_G) (w : S → va_W) (A : Nat → Prop) (XE : String → Prop) (mc ms : Nat) (Q : State → Prop) : Prop :=
  ∀ (u : S) (own cls text : String) (names : List String) (ik is ic pc k n : Nat) (H : Heap) (locs : List Loc) (ls : Array Slot),
    s.vm.findClass own = some m.cls → Bundle.fit cls = true → (∀ q ∈ names, Bundle.fit q = true) → (Cond.classLink own ik cls).before av.toArray s = true → (Cond.initialized cls).before av.toArray s = true → (∃ sa, vk_R own is text sa s) → (∀ w ∈ vx_atS own ic cls names, w.before av.toArray s = true) →
    (∀ w ∈ Cond.classLink own ik cls :: Cond.initialized cls :: vx_atS own ic cls names, vx_ot w = true) → ls.size = c.maxLocals →
    decode cc pc = .ok (.new ik, 3) → decode cc (pc + 3) = .ok (.dup, 1) → decode cc (pc + 4) = .ok (.ldc is, 2) → decode cc (pc + 6) = .ok (.invokespecial ic, 3) → decode cc (pc + 9) = .ok (.athrow, 1) →
    names.length + 3 < rm.frames → 13 * (names.length + 1) + 43 ≤ rm.locals → k + 1 ≤ rm.cells → n + 6 ≤ rm.slots → k + 1 ≤ mc → n + 6 ≤ ms → XE cls →
    va_P D qCl (w u) H → va_D A (w u) → va_S A s.heap H locs → W p l e rm s m av.toArray below meth c H locs k n Q (F0 m pc ls [])
theorem q_throw2 {w : S → va_W} {p : Program} {e : Env} {s : State} {m : MethodId} {below : List Frame} {meth : Method} {c : Code} {A : Nat → Prop} {XE : String → Prop} {Qc : Array Value → State → Outcome → State → Prop} (hst : l.stackTraces = false) (hx : p.tables.exec = Jvm.exec) (hb : c.code = cc) (hno : ∀ x ∈ c.exceptionTable.toList, False) (hlocks : meth.locks = false) (hZ : ZZ A s s.heap) (hA : ∀ q : Nat, s.heap.size ≤ q → A q) (hK : va_K D qCl tys s) :
    QThrow2 p l e rm s m av below meth c cc D w A XE mc ms (vx_MQ below Qc (XC2 D tys A w XE) av.toArray s mc ms A) := by
  intro u own cls text names ik is ic pc k n H locs ls hown hcls hnames hk hini hstr hat hgood hsize d0 d3 d4 d6 d9 hf hlo hc1 hs1 hc2 hs2 hXE hP hD hS
  obtain ⟨sa, hstr⟩ := hstr
  refine vx_throwS hx hb hst (A := A) hown hcls hnames hk hini hstr hat hgood hZ.1 hZ.2 hS hsize d0 d3 d4 d6 d9 (fun x h => (hno x h).elim) hf (by simp only [List.map_nil, List.sum_nil]; omega) hc1 hs1 hlocks ?_ hS.2.2 hc2 hs2
  intro t hal hz hk9
  have hF : va_F A s t := ⟨Nat.le_trans hS.1 hz, fun q h1 h2 => (hk9 q (Nat.lt_of_lt_of_le h1 hS.1)).trans (hS.2.1 q h1 h2)⟩
  exact ⟨u, trivial, ⟨hXE, hP.kept (fun k q hq => hk9 q.1 (hP k q hq).lt), va_K.moved hal hK, hD⟩, hF⟩
theorem q_entXZ2 {w : S → va_W} {ty : FieldType} (hst : l.stackTraces = false) (hy : plainName y.cls = true) (hw : ws = Cond.code y cc maxL (some ty) :: ws') (hlen : (lg_sl av).length ≤ maxL) {post : Int32 → S → Prop} {w1 : S → va_W} {XE : String → Prop}
    (body : ∀ (p : Program) (e : Env) (s : State) (m : MethodId) (below : List Frame) (meth : Method) (c : Code) (A : Nat → Prop) (Q : State → Prop) (ls : Array Slot), QAt p y ws D tys w0 sz av cc maxL s m meth c A → lv_has ls maxL (lv_args 0 av) → ZZ A s s.heap →
      (∀ (H : Heap) (locs : List Loc) (pc : Nat) (ls : Array Slot) (r : Int32) (u : S) (k n : Nat), narrow ty (.int r) = .int r → decode cc pc = .ok (.ireturn, 1) → k ≤ mc → n ≤ ms → post r u → va_P D qCl (w1 u) H → va_K D qCl tys s → va_D A (w1 u) → va_S A s.heap H locs → W p l e rm s m av.toArray below meth c H locs k n Q (F0 m pc ls [.int r])) →
      QThrow2 p l e rm s m av below meth c cc D w A XE mc ms Q →
      W p l e rm s m av.toArray below meth c s.heap [] 0 0 Q (F0 m 0 ls [])) :
    vx_Met l y ws rm (va_Pc av (PZ D tys w0 sz)) (va_Qi post (fun u => PO D tys (va_A w0 sz) (w1 u)) (va_A w0 sz)) (XC2 D tys (va_A w0 sz) w XE) mc ms (va_A w0 sz) := by
  refine vx_ofW (cc := cc) (maxL := maxL) (ret := some ty) hy hw ?_
  intro p e s m args below meth c s₁ B hml hno hv
  obtain ⟨hv1, hv2, hZ⟩ := hv
  obtain ⟨rfl, hq⟩ := q_at (av := av) B hml ⟨hv1, hv2⟩
  rw [lg_entry_eq]
  refine q_ls hlen (Pr := fun ls => W p l e rm s m av.toArray below meth c s.heap [] 0 0 (vx_MQ below (va_Qi post (fun u => PO D tys (va_A w0 sz) (w1 u)) (va_A w0 sz)) (XC2 D tys (va_A w0 sz) w XE) av.toArray s mc ms (va_A w0 sz)) (F0 m 0 ls [])) (fun ls hl => ?_)
  have hK : va_K D qCl tys s := hq.2.2.2.2.2.2.2.1
  have hA : ∀ q : Nat, s.heap.size ≤ q → va_A w0 sz q := hq.2.2.2.2.2.2.2.2.2.1
  refine body p e s m below meth c (va_A w0 sz) _ ls hq hl hZ ?_ (q_throw2 hst hq.1 hq.2.1 hno B.notSynchronized hZ hA hK)
  intro H locs pc ls r u k n hnr hd hk hn hp hP hK hD hS
  refine W.widen hk hn ?_
  refine vx_ret ?_
  exact W.zret (v := r) hq.1 hq.2.1 B.returns hnr (fun t ht hW => ⟨⟨r, u, rfl, hp, by rw [ht]; exact hP, va_K.moved hW.alike hK, hD⟩, hS.F ht⟩) hS.2.2 hd B.notSynchronized
theorem q_ofWH {Pc : Array Value → State → Prop} {Qc : Array Value → State → Outcome → State → Prop} {free : Addr → Prop} {ret : Option FieldType} {hh : List (Nat × Nat × Nat × Nat)}
    (hy : plainName y.cls = true) (hw : ws = Cond.codeWith y cc maxL ret hh :: ws')
    (body : ∀ p e s m args below meth c s₁, BodyLoose p l y (headSpec ws rm) cc maxL ret e s m args below meth c s₁ → c.maxLocals = maxL → Pc args s →
      W p l e (headSpec ws rm).room s m args below meth c s.heap [] 0 0 (MQ below Qc args s mc ms free) (entryFrame m args maxL)) : Met l y ws rm Pc Qc mc ms free := by
  refine MetFree.of_bodyS (code := cc) (maxLocals := maxL) (ret := ret) hy ?_ ?_
  · intro args s m h hn
    obtain ⟨m9, meth, c, hn9, h1, h2, h3, h4, -, h5, h6, -⟩ := Cond.codeWith_spec (atoms_spec (ws := ws) h _ (by rw [hw]; exact List.mem_cons_self))
    cases hn.symm.trans hn9
    exact ⟨meth, c, h1, h2, h3, h4, h5, h6⟩
  · intro p e s m args below meth c s₁ B hml hP _
    have hh0 : s₁.heap = s.heap := by rw [B.state]; rfl
    obtain ⟨t, a1, o, b1, b2, b3⟩ := body p e s m args below meth c s₁ B hml hP s₁ hh0 (Stand.of_body B)
    exact ⟨t, o, a1, b1, b2, ⟨b3.1, b3.2⟩⟩
theorem q_entWI {hh : List (Nat × Nat × Nat × Nat)} (hy : plainName y.cls = true) (hw : ws = Cond.codeWith y cc maxL (some .int) hh :: ws') (hlen : (lg_sl av).length ≤ maxL) {post : Int32 → S → Prop} {w1 : S → va_W} {tys1 : List (ClassId × FieldType)}
    (body : ∀ (p : Program) (e : Env) (s : State) (m : MethodId) (below : List Frame) (meth : Method) (c : Code) (A : Nat → Prop) (Q : State → Prop) (ls : Array Slot), QAt p y ws D tys w0 sz av cc maxL s m meth c A → lv_has ls maxL (lv_args 0 av) → ZZ A s s.heap → c.exceptionTable.toList = tableOf hh →
      (∀ (H : Heap) (locs : List Loc) (pc : Nat) (ls : Array Slot) (r : Int32) (u : S) (k n : Nat), decode cc pc = .ok (.ireturn, 1) → k ≤ mc → n ≤ ms → post r u → va_P D qCl (w1 u) H → va_K D qCl tys1 s → va_D A (w1 u) → va_S A s.heap H locs → W p l e rm s m av.toArray below meth c H locs k n Q (F0 m pc ls [.int r])) →
      W p l e rm s m av.toArray below meth c s.heap [] 0 0 Q (F0 m 0 ls [])) :
    Met l y ws rm (va_Pc av (PZ D tys w0 sz)) (va_Qi post (fun u => PO D tys1 (va_A w0 sz) (w1 u)) (va_A w0 sz)) mc ms (va_A w0 sz) := by
  refine q_ofWH (cc := cc) (maxL := maxL) (ret := some .int) hy hw ?_
  intro p e s m args below meth c s₁ B hml hv
  obtain ⟨hv1, hv2, hZ⟩ := hv
  obtain ⟨rfl, hq⟩ := q_at (av := av) B hml ⟨hv1, hv2⟩
  have htab : c.exceptionTable.toList = tableOf hh := vx_table (x := y) B (hq.2.2.2.1 _ (by rw [hw]; exact List.mem_cons_self))
  rw [lg_entry_eq]
  refine q_ls hlen (Pr := fun ls => W p l e rm s m av.toArray below meth c s.heap [] 0 0 (MQ below (va_Qi post (fun u => PO D tys1 (va_A w0 sz) (w1 u)) (va_A w0 sz)) av.toArray s mc ms (va_A w0 sz)) (F0 m 0 ls [])) (fun ls hl => ?_)
  refine body p e s m below meth c (va_A w0 sz) _ ls hq hl hZ htab ?_
  intro H locs pc ls r u k n hd hk hn hp hP hK hD hS
  refine W.widen hk hn ?_
  exact W.iret (v := r) hq.1 hq.2.1 B.returns (fun t ht hW => ⟨⟨r, u, rfl, hp, by rw [ht]; exact hP, va_K.moved hW.alike hK, hD⟩, hS.F ht⟩) hS.2.2 hd B.notSynchronized
end XE3
section XE4
variable {p : Program} {l : Launch} {e : Env} {R : Room} {s : State} {m : MethodId} {args : Array Value} {below : List Frame} {meth : Method} {c : Code} {H : Heap} {locs : List Loc} {cells slots : Nat} {Q : State → Prop}
variable {cc : ByteArray} {pc : Nat} {ls : Array Slot} {rest st0 : List Value} {D : va_G} {A A0 : Nat → Prop} {a : Nat} {tys : List (ClassId × FieldType)} {ws wc wr : va_W} {H0 : Heap} {cl : List vw_C}
theorem q_xi2 {S SX : Type} {w : SX → va_W} {post : Int32 → S → Prop} {w1 : S → va_W} {XE : String → Prop} {va : Array Value} {mc ms : Nat} (hr : vx_Run p l e R s m args below meth c H locs cells slots mc ms (F0 m pc ls st0) rest (va_Qi post (fun u => PO D tys (va_A wc H.size) (w1 u)) (va_A wc H.size) va) (XC2 D tys (va_A wc H.size) w XE) (va_A wc H.size)) (hS : va_S A H0 H locs) (hA : ∀ q, H0.size ≤ q → A q) (hP : va_P D qCl ws H) (hD : va_D A ws) (isC isR : List Nat) (hC : isC.map (fun i => ws[i]?) = wc.map some) (hR : isR.map (fun i => ws[i]?) = wr.map some) (hn : va_nd isR = true) (hdis : ∀ i ∈ isR, i ∉ isC)
    (kx : ∀ (u : SX) (E : String) (ce : Cell) (q9 : Addr) (H1 : Heap) (locs1 : List Loc), XE E → va_P D qCl (wr ++ w u) H1 → va_D A (wr ++ w u) → va_S A H0 H1 locs1 → H1[q9]? = some ce → ce.vm = .none → s.vm.findClass E = some ce.cls → vx_W p l e R s m args below meth c H1 locs1 (cells + mc) (slots + ms) Q (F0 m pc ls rest) q9)
    (kk : ∀ (r : Int32) (u : S) (H1 : Heap) (locs1 : List Loc), post r u → va_P D qCl (wr ++ w1 u) H1 → va_D A (wr ++ w1 u) → va_S A H0 H1 locs1 → W p l e R s m args below meth c H1 locs1 (cells + mc) (slots + ms) Q (F0 m (pc + 3) ls (.int r :: rest))) : W p l e R s m args below meth c H locs cells slots Q (F0 m pc ls st0) := by
  have hF := va_free hD hS hA isC hC
  refine vx_calli hr hS (fun q _ h => hF q h) hF (fun q _ h => hF q h) (fun E ce q9 u t H1 locs1 ht hvm hp hB hz hk hS1 hce hcv hcl => ?_) (fun r u t H1 locs1 ht hvm hp hB hz hk hS1 => ?_)
  · obtain ⟨hXE, hP1, hK1, hD1⟩ := hB
    rw [ht] at hP1
    obtain ⟨hP2, hD2⟩ := va_join hP hD isC isR hC hR hn hdis hk hF hP1 hD1
    exact kx u E ce q9 H1 locs1 hXE hP2 hD2 hS1 hce hcv hcl
  · obtain ⟨hP1, hK1, hD1⟩ := hB
    rw [ht] at hP1
    obtain ⟨hP2, hD2⟩ := va_join hP hD isC isR hC hR hn hdis hk hF hP1 hD1
    exact kk r u H1 locs1 hp hP2 hD2 hS1
end XE4
theorem pkS_b8 (f : Nat → Int32) (st en : Nat) {sg : Nat → Int32} (h : ∀ j, b8 (sg j) = sg j) : ∀ k j : Nat, b8 ((pkS f st en sg k).1 j) = (pkS f st en sg k).1 j
  | 0, j => h j
  | k + 1, j => by
    have ih := pkS_b8 f st en h k
    have u : ∀ {b : Nat → Int32} {i : Nat} {v : Int32}, (∀ j, b8 (b j) = b j) → ∀ j, b8 (upd b i (b8 v) j) = upd b i (b8 v) j := by
      intro b i v hb j
      unfold upd
      by_cases e : j = i
      · rw [if_pos e]; exact b8_b8 v
      · rw [if_neg e]; exact hb j
    have e : pkS f st en sg (k + 1) = pkSt f st en k (pkS f st en sg k) := rfl
    rw [e]
    unfold pkSt
    by_cases z1 : 0 < k ∧ f (st + k) = f (st + k - 1)
    · rw [if_pos z1]; exact u ih j
    · rw [if_neg z1]
      by_cases z2 : st + k + 1 < en ∧ f (st + k) = f (st + k + 1)
      · rw [if_pos z2]; exact u (u ih) j
      · rw [if_neg z2]
        by_cases z3 : (pkS f st en sg k).2.2.2 = 0
        · rw [if_pos z3]; exact u (u (u ih)) j
        · rw [if_neg z3]; exact u (u ih) j
def cszf (fB : Nat → Int32) (wd r : Nat) : Nat := (rowS fB (r * wd) wd).2.1
/-- the class's answer to packed(i) -/
def CPk (fB : Nat → Int32) (wd n : Nat) (i : Int) (r : Int32) : Prop := ∃ rr jj : Nat, rr < n ∧ jj < cszf fB wd rr ∧ i = ((offR (cszf fB wd) rr + jj : Nat) : Int) ∧ r = (rowS fB (rr * wd) wd).1 jj
