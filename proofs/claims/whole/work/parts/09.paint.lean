/-! places cut, hairs, what a fill and a clip make of a plane's bytes -/
def cutN (v : Int32) (k : Nat) : Nat := if v.toInt < 0 then 0 else if v.toInt < (k : Int) then v.toInt.toNat else k
theorem cutN_le (v : Int32) (k : Nat) : cutN v k ≤ k := by
  unfold cutN
  split
  · omega
  · split <;> omega
theorem cut_eq {v : Int32} {k : Nat} (hk : k < 2147483648) : (if nI 0 < (if v < nI k then v else nI k) then (if v < nI k then v else nI k) else nI 0) = nI (cutN v k) := by
  have e1 : v < nI k ↔ v.toInt < (k : Int) := by rw [i_lt, nI_toInt (by omega)]
  have e2 : nI 0 < v ↔ 0 < v.toInt := by rw [i_lt, nI_toInt (by omega)]; rfl
  have e3 : nI 0 < nI k ↔ 0 < k := nI_ltI (by omega) (by omega)
  unfold cutN
  by_cases c : v.toInt < (k : Int)
  · rw [if_pos (e1.mpr c)]
    by_cases c2 : 0 < v.toInt
    · rw [if_pos (e2.mpr c2), if_neg (by omega), if_pos c, i_eq, nI_toInt (by omega)]
      omega
    · rw [if_neg (fun q => c2 (e2.mp q))]
      by_cases c3 : v.toInt < 0
      · rw [if_pos c3]
      · rw [if_neg c3, if_pos c, show v.toInt.toNat = 0 by omega]
  · rw [if_neg (fun q => c (e1.mp q)), if_neg (show ¬ v.toInt < 0 by omega), if_neg c]
    by_cases c2 : 0 < k
    · rw [if_pos (e3.mpr c2)]
    · rw [if_neg (fun q => c2 (e3.mp q)), show k = 0 by omega]
def ctP (v : Int64) : Int := if v.toInt < -1048576 then -1048576 else if 1048576 < v.toInt then 1048576 else v.toInt
theorem ctP_bd (v : Int64) : -1048576 ≤ ctP v ∧ ctP v ≤ 1048576 := by
  unfold ctP
  split
  · omega
  · split <;> omega
theorem ctP_lo {v : Int64} (h : v < (-1048576)) : (-1048576 : Int64) = Int64.ofInt (ctP v) := by
  rw [j_lt, show (-1048576 : Int64).toInt = -1048576 from by decide] at h
  unfold ctP
  rw [if_pos h]; decide
theorem ctP_hi {v : Int64} (h : ¬ v < (-1048576)) (h2 : 1048576 < v) : (1048576 : Int64) = Int64.ofInt (ctP v) := by
  rw [j_lt, show (-1048576 : Int64).toInt = -1048576 from by decide] at h
  rw [j_lt, show (1048576 : Int64).toInt = 1048576 from by decide] at h2
  unfold ctP
  rw [if_neg h, if_pos h2]; decide
theorem ctP_mid {v : Int64} (h : ¬ v < (-1048576)) (h2 : ¬ 1048576 < v) : v = Int64.ofInt (ctP v) := by
  rw [j_lt, show (-1048576 : Int64).toInt = -1048576 from by decide] at h
  rw [j_lt, show (1048576 : Int64).toInt = 1048576 from by decide] at h2
  unfold ctP
  rw [if_neg h, if_neg h2, Int64.ofInt_toInt]
theorem ctP_eq (v : Int64) : (if (if v < 1048576 then v else 1048576) < (-1048576) then (-1048576) else (if v < 1048576 then v else 1048576)).toInt32 = Int32.ofInt (ctP v) := by
  have e : (if (if v < 1048576 then v else 1048576) < (-1048576) then (-1048576) else (if v < 1048576 then v else 1048576)) = Int64.ofInt (ctP v) := by
    by_cases c : v < 1048576
    · rw [if_pos c]
      by_cases c2 : v < (-1048576)
      · rw [if_pos c2]; exact ctP_lo c2
      · rw [if_neg c2]; exact ctP_mid c2 (by rw [j_lt] at c ⊢; omega)
    · rw [if_neg c, if_neg (by decide)]
      by_cases c3 : (1048576 : Int64) < v
      · exact ctP_hi (by rw [j_lt, show (-1048576 : Int64).toInt = -1048576 from by decide]; rw [j_lt, show (1048576 : Int64).toInt = 1048576 from by decide] at c3; omega) c3
      · have hv : v = 1048576 := by rw [j_eq]; rw [j_lt] at c c3; omega
        rw [hv]; decide
  rw [e, Int64.toInt32_ofInt]
theorem abs_n {z : Int} (h1 : -2147483648 < z) (h2 : z < 2147483648) : (if 0 ≤ Int32.ofInt z then Int32.ofInt z else 0 - Int32.ofInt z) = nI z.natAbs := by
  have e : 0 ≤ Int32.ofInt z ↔ 0 ≤ z := by rw [i_le, z_t (by omega) h2]; exact Iff.rfl
  rw [nI_z]
  by_cases c : 0 ≤ z
  · rw [if_pos (e.mpr c)]; exact congrArg _ (by omega)
  · rw [if_neg (fun q => c (e.mp q))]
    exact (z_sub 0 z).trans (congrArg _ (by omega))
/-! a path grows -/
def add1 (Z : Nat → Int) (k : Nat) (v : Int) : Nat → Int := fun j => if j = k then v else Z j
theorem PathR_add {fx fy fb : Nat → Int32} {X Y : Nat → Int} {bg : Nat → Int32} {n : Nat} (h : PathR fx fy fb X Y bg n) (hn : n < 100) {vx vy : Int} (b : Int32) (h1 : bd vx) (h2 : bd vy) : PathR (upd fx n (Int32.ofInt vx)) (upd fy n (Int32.ofInt vy)) (upd fb n b) (add1 X n vx) (add1 Y n vy) (upd bg n b) (n + 1) := by
  refine ⟨by omega, fun k hk => ?_⟩
  unfold upd add1
  by_cases c : k = n
  · rw [if_pos c, if_pos c, if_pos c, if_pos c, if_pos c, if_pos c]
    exact ⟨rfl, rfl, rfl, h1, h2⟩
  · rw [if_neg c, if_neg c, if_neg c, if_neg c, if_neg c, if_neg c]
    exact h.2 k (by omega)
theorem PathR_0 {fx fy fb : Nat → Int32} {X Y : Nat → Int} {bg : Nat → Int32} : PathR fx fy fb X Y bg 0 := ⟨Nat.zero_le _, fun k h => absurd h (Nat.not_lt_zero k)⟩
def hOne (ax ay bx bY : Int) : Bool := decide (ax = bx ∧ ay = bY)
def hFlat (ax ay bx bY : Int) : Bool := decide ((bY - ay).natAbs ≤ (bx - ax).natAbs)
def hsx (one flat : Bool) : Int := if one = true then 128 else if flat = true then 0 else 128
def hsy (one flat : Bool) : Int := if one = true then 128 else if flat = true then 128 else 0
def hrP (Z : Nat → Int) (n : Nat) (p0 p1 p2 p3 : Int) : Nat → Int := add1 (add1 (add1 (add1 Z n p0) (n + 1) p1) (n + 1 + 1) p2) (n + 1 + 1 + 1) p3
def hrB (bg : Nat → Int32) (n : Nat) : Nat → Int32 := upd (upd (upd (upd bg n 1) (n + 1) 0) (n + 1 + 1) 0) (n + 1 + 1 + 1) 0
def hairX (X : Nat → Int) (n : Nat) (ax ay bx bY : Int) : Nat → Int := hrP X n (ax - hsx (hOne ax ay bx bY) (hFlat ax ay bx bY)) (if hOne ax ay bx bY = true then ax + 128 else bx - hsx (hOne ax ay bx bY) (hFlat ax ay bx bY)) (bx + hsx (hOne ax ay bx bY) (hFlat ax ay bx bY)) (if hOne ax ay bx bY = true then ax - 128 else ax + hsx (hOne ax ay bx bY) (hFlat ax ay bx bY))
def hairY (Y : Nat → Int) (n : Nat) (ax ay bx bY : Int) : Nat → Int := hrP Y n (ay - hsy (hOne ax ay bx bY) (hFlat ax ay bx bY)) (if hOne ax ay bx bY = true then ay - 128 else bY - hsy (hOne ax ay bx bY) (hFlat ax ay bx bY)) (bY + hsy (hOne ax ay bx bY) (hFlat ax ay bx bY)) (ay + hsy (hOne ax ay bx bY) (hFlat ax ay bx bY))
theorem hair_one {ax ay bx bY : Int} (h : ax = bx ∧ ay = bY) (X Y : Nat → Int) (n : Nat) : hairX X n ax ay bx bY = hrP X n (ax - 128) (ax + 128) (ax + 128) (ax - 128) ∧ hairY Y n ax ay bx bY = hrP Y n (ay - 128) (ay - 128) (ay + 128) (ay + 128) := by
  have e : hOne ax ay bx bY = true := decide_eq_true h
  unfold hairX hairY hsx hsy
  rw [e]
  obtain ⟨rfl, rfl⟩ := h
  exact ⟨rfl, rfl⟩
theorem hair_flat {ax ay bx bY : Int} (h : ¬ (ax = bx ∧ ay = bY)) (h2 : (bY - ay).natAbs ≤ (bx - ax).natAbs) (X Y : Nat → Int) (n : Nat) : hairX X n ax ay bx bY = hrP X n (ax - 0) (bx - 0) (bx + 0) (ax + 0) ∧ hairY Y n ax ay bx bY = hrP Y n (ay - 128) (bY - 128) (bY + 128) (ay + 128) := by
  have e : hOne ax ay bx bY = false := decide_eq_false h
  have e2 : hFlat ax ay bx bY = true := decide_eq_true h2
  unfold hairX hairY hsx hsy
  rw [e, e2]
  exact ⟨rfl, rfl⟩
theorem hair_steep {ax ay bx bY : Int} (h : ¬ (ax = bx ∧ ay = bY)) (h2 : ¬ (bY - ay).natAbs ≤ (bx - ax).natAbs) (X Y : Nat → Int) (n : Nat) : hairX X n ax ay bx bY = hrP X n (ax - 128) (bx - 128) (bx + 128) (ax + 128) ∧ hairY Y n ax ay bx bY = hrP Y n (ay - 0) (bY - 0) (bY + 0) (ay + 0) := by
  have e : hOne ax ay bx bY = false := decide_eq_false h
  have e2 : hFlat ax ay bx bY = false := decide_eq_false h2
  unfold hairX hairY hsx hsy
  rw [e, e2]
  exact ⟨rfl, rfl⟩
theorem PathR_add4 {fx fy fb : Nat → Int32} {X Y : Nat → Int} {bg : Nat → Int32} {n : Nat} (h : PathR fx fy fb X Y bg n) (hn : n + 4 ≤ 100) {p0 p1 p2 p3 q0 q1 q2 q3 : Int} (a0 : bd p0) (a1 : bd p1) (a2 : bd p2) (a3 : bd p3) (c0 : bd q0) (c1 : bd q1) (c2 : bd q2) (c3 : bd q3) :
    PathR (upd (upd (upd (upd fx n (Int32.ofInt p0)) (n + 1) (Int32.ofInt p1)) (n + 1 + 1) (Int32.ofInt p2)) (n + 1 + 1 + 1) (Int32.ofInt p3)) (upd (upd (upd (upd fy n (Int32.ofInt q0)) (n + 1) (Int32.ofInt q1)) (n + 1 + 1) (Int32.ofInt q2)) (n + 1 + 1 + 1) (Int32.ofInt q3)) (upd (upd (upd (upd fb n 1) (n + 1) 0) (n + 1 + 1) 0) (n + 1 + 1 + 1) 0) (hrP X n p0 p1 p2 p3) (hrP Y n q0 q1 q2 q3) (hrB bg n) (n + 1 + 1 + 1 + 1) :=
  PathR_add (PathR_add (PathR_add (PathR_add h (by omega) 1 a0 c0) (by omega) 0 a1 c1) (by omega) 0 a2 c2) (by omega) 0 a3 c3
/-! painting: the same steps on both sides, at other places of the rows -/
def ppt (ix : Nat → Nat) (ov : Nat → Int32) (pl : Nat) (v c : Int32) (f : Nat → Int32) : Nat → (Nat → Int32)
  | 0 => f
  | k + 1 => if k = pl then upd (ppt ix ov pl v c f k) (ix k) (bldv (ppt ix ov pl v c f k (ix k)) v c) else if ov k = 0 then upd (ppt ix ov pl v c f k) (ix k) (bldv (ppt ix ov pl v c f k (ix k)) (nI 0) c) else ppt ix ov pl v c f k
def prow (cv : Nat → Int32) (ix : Nat → Nat → Nat) (ov : Nat → Int32) (pl pn : Nat) (v : Int32) (f : Nat → Int32) : Nat → (Nat → Int32) × Nat
  | 0 => (f, 0)
  | x + 1 => if 0 < cv x then (ppt (ix x) ov pl v (cv x) (prow cv ix ov pl pn v f x).1 pn, (prow cv ix ov pl pn v f x).2 + 1) else prow cv ix ov pl pn v f x
def pfil (cv : Nat → Nat → Int32) (ix : Nat → Nat → Nat → Nat) (ov : Nat → Int32) (pl pn wd : Nat) (v : Int32) (f : Nat → Int32) (bf : Nat) : Nat → (Nat → Int32) × Nat
  | 0 => (f, 0)
  | i + 1 => ((prow (cv (bf + i)) (ix (bf + i)) ov pl pn v (pfil cv ix ov pl pn wd v f bf i).1 wd).1, (pfil cv ix ov pl pn wd v f bf i).2 + (prow (cv (bf + i)) (ix (bf + i)) ov pl pn v (pfil cv ix ov pl pn wd v f bf i).1 wd).2)
theorem prow_congr {cv cv' : Nat → Int32} {ix : Nat → Nat → Nat} {ov : Nat → Int32} {pl pn : Nat} {v : Int32} {f : Nat → Int32} : ∀ {m : Nat}, (∀ x, x < m → cv x = cv' x) → prow cv ix ov pl pn v f m = prow cv' ix ov pl pn v f m
  | 0, _ => rfl
  | m + 1, h => by
    have e := prow_congr (ix := ix) (ov := ov) (pl := pl) (pn := pn) (v := v) (f := f) (m := m) (fun x hx => h x (by omega))
    show (if 0 < cv m then _ else _) = (if 0 < cv' m then _ else _)
    rw [h m (by omega), e]
theorem prow_le (cv : Nat → Int32) (ix : Nat → Nat → Nat) (ov : Nat → Int32) (pl pn : Nat) (v : Int32) (f : Nat → Int32) : ∀ m : Nat, (prow cv ix ov pl pn v f m).2 ≤ m
  | 0 => Nat.le_refl 0
  | m + 1 => by
    have e := prow_le cv ix ov pl pn v f m
    show (if 0 < cv m then _ else _ : (Nat → Int32) × Nat).2 ≤ m + 1
    by_cases c : 0 < cv m
    · rw [if_pos c]; show (prow cv ix ov pl pn v f m).2 + 1 ≤ m + 1; omega
    · rw [if_neg c]; omega
def crow (cv : Nat → Int32) (ix : Nat → Nat) (f : Nat → Int32) : Nat → (Nat → Int32) × Nat
  | 0 => (f, 0)
  | x + 1 => (upd (crow cv ix f x).1 (ix x) (mulv ((crow cv ix f x).1 (ix x)) (cv x)), if 0 < mulv ((crow cv ix f x).1 (ix x)) (cv x) then (crow cv ix f x).2 + 1 else (crow cv ix f x).2)
theorem crow_congr {cv cv' : Nat → Int32} {ix : Nat → Nat} {f : Nat → Int32} : ∀ {m : Nat}, (∀ x, x < m → cv x = cv' x) → crow cv ix f m = crow cv' ix f m
  | 0, _ => rfl
  | m + 1, h => by
    have e := crow_congr (ix := ix) (f := f) (m := m) (fun x hx => h x (by omega))
    show (upd (crow cv ix f m).1 (ix m) (mulv ((crow cv ix f m).1 (ix m)) (cv m)), if 0 < mulv ((crow cv ix f m).1 (ix m)) (cv m) then (crow cv ix f m).2 + 1 else (crow cv ix f m).2) = (upd (crow cv' ix f m).1 (ix m) (mulv ((crow cv' ix f m).1 (ix m)) (cv' m)), if 0 < mulv ((crow cv' ix f m).1 (ix m)) (cv' m) then (crow cv' ix f m).2 + 1 else (crow cv' ix f m).2)
    rw [h m (by omega), e]
theorem crow_le (cv : Nat → Int32) (ix : Nat → Nat) (f : Nat → Int32) : ∀ m : Nat, (crow cv ix f m).2 ≤ m
  | 0 => Nat.le_refl 0
  | m + 1 => by
    have e := crow_le cv ix f m
    show (if 0 < mulv ((crow cv ix f m).1 (ix m)) (cv m) then (crow cv ix f m).2 + 1 else (crow cv ix f m).2) ≤ m + 1
    split <;> omega
def cfil (cv : Nat → Nat → Int32) (ix : Nat → Nat → Nat) (wd : Nat) (f : Nat → Int32) : Nat → (Nat → Int32) × Nat
  | 0 => (f, 0)
  | i + 1 => ((crow (cv i) (ix i) (cfil cv ix wd f i).1 wd).1, (cfil cv ix wd f i).2 + (crow (cv i) (ix i) (cfil cv ix wd f i).1 wd).2)
/-! packing: a row's state, as the class goes along it -/
def b8 (q : Int32) : Int32 := q.toInt8.toInt32
theorem b8_b8 (q : Int32) : (b8 q).toInt8.toInt32 = b8 q := by
  have := pk_vb q
  rw [vp_nar_byte] at this
  exact this
abbrev PkT : Type := (Nat → Int32) × Nat × Nat × Nat
def pkSt (f : Nat → Int32) (st en k : Nat) (s : PkT) : PkT :=
  if 0 < k ∧ f (st + k) = f (st + k - 1) then (upd s.1 s.2.2.1 (b8 (s.1 s.2.2.1 - nI 1)), s.2.1, s.2.2.1, s.2.2.2)
  else if st + k + 1 < en ∧ f (st + k) = f (st + k + 1) then (upd (upd s.1 s.2.1 (b8 (nI 127))) (s.2.1 + 1) (b8 (f (st + k))), s.2.1 + 1 + 1, s.2.1, 0)
  else if s.2.2.2 = 0 then (upd (upd (upd s.1 s.2.1 (b8 (nI 0))) s.2.1 (b8 (upd s.1 s.2.1 (b8 (nI 0)) s.2.1 + nI 1))) (s.2.1 + 1) (b8 (f (st + k))), s.2.1 + 1 + 1, s.2.1, 1)
  else (upd (upd s.1 s.2.2.1 (b8 (s.1 s.2.2.1 + nI 1))) s.2.1 (b8 (f (st + k))), s.2.1 + 1, s.2.2.1, 1)
def pkS (f : Nat → Int32) (st en : Nat) (sg : Nat → Int32) : Nat → PkT
  | 0 => (sg, 0, 0, 0)
  | k + 1 => pkSt f st en k (pkS f st en sg k)
section QB
variable {p : Program} {l : Launch} {e : Env} {R : Room} {s : State} {m : MethodId} {args : Array Value} {below : List Frame} {meth : Method} {c : Code} {H : Heap} {locs : List Loc} {cells slots : Nat} {Q : State → Prop}
variable {cc : ByteArray} {pc : Nat} {ls : Array Slot} {rest : List Value} {D : va_G} {A : Nat → Prop} {a : Nat} {tys : List (ClassId × FieldType)} {ws : va_W} {H0 : Heap} {cl : List vw_C}
theorem q_bastv (hexec : p.tables.exec = Jvm.exec) (hb : c.code = cc) (hK : va_K D cl tys s) (hP : va_P D cl ws H) (hD : va_D A ws) (hS : va_S A H0 H locs) (q0 t0 : Nat) {cA : ClassId} {n : Nat} {f : Nat → Int32} (ha : ws[q0]? = some (a, .inl (cA, n, .inl f))) (ht : tys[t0]? = some (cA, .byte)) {k : Nat} {x : Int32} (hx : x.toInt8.toInt32 = x) (hk : k < n) (h31 : n < 2 ^ 31) (hdg : decode cc pc = .ok (.bastore, 1))
    (kk : ∀ (H1 : Heap) (locs1 : List Loc), va_P D cl (ws.set q0 (a, .inl (cA, n, .inl (upd f k x)))) H1 → va_D A (ws.set q0 (a, .inl (cA, n, .inl (upd f k x)))) → va_S A H0 H1 locs1 → W p l e R s m args below meth c H1 locs1 cells slots Q (F0 m (pc + 1) ls rest)) : W p l e R s m args below meth c H locs cells slots Q (F0 m pc ls (.int x :: .int (nI k) :: .ref a :: rest)) := by
  refine q_bast hexec hb hK hP hD hS q0 t0 ha ht hk h31 hdg ?_
  rw [hx]; exact kk
end QB
theorem max_n {a b : Nat} (ha : a < 2147483648) (hb : b < 2147483648) : (if nI a < nI b then nI b else nI a) = nI (if a < b then b else a) := by
  by_cases c : a < b
  · rw [if_pos ((nI_ltI (by omega) (by omega)).mpr c), if_pos c]
  · rw [if_neg (fun z => c ((nI_ltI (by omega) (by omega)).mp z)), if_neg c]
theorem idx3 {pn ht wd a b c : Nat} (ha : a < pn) (hb : b < ht) (hc : c < wd) : (a * ht + b) * wd + c < pn * ht * wd := by
  have h1 : a * ht + b + 1 ≤ pn * ht := by
    have := Nat.mul_le_mul_right ht (show a + 1 ≤ pn by omega)
    rw [Nat.add_mul, Nat.one_mul] at this
    omega
  have h2 := Nat.mul_le_mul_right wd h1
  rw [Nat.add_mul, Nat.one_mul] at h2
  omega
