/-! both sides' rows hold the same bytes at other places -/
theorem rad {n a b a' b' : Nat} (hb : b < n) (hb' : b' < n) (h : a * n + b = a' * n + b') : a = a' ∧ b = b' := by
  have h1 : (a * n + b) / n = a := by rw [Nat.mul_comm, Nat.mul_add_div (by omega), Nat.div_eq_of_lt hb, Nat.add_zero]
  have h2 : (a' * n + b') / n = a' := by rw [Nat.mul_comm, Nat.mul_add_div (by omega), Nat.div_eq_of_lt hb', Nat.add_zero]
  have e : a = a' := by rw [← h1, ← h2, h]
  subst e
  exact ⟨rfl, by omega⟩
abbrev ixC (ht wd : Nat) : Nat → Nat → Nat → Nat := fun zy zx zk => zk * ht * wd + (zy * wd + zx)
abbrev ixM : Nat → Nat → Nat → Nat := fun zy zx zk => 2304 * zk + 48 * zy + zx
theorem ixC_one {ht wd y x p y' x' p' : Nat} (hy : y < ht) (hx : x < wd) (hy' : y' < ht) (hx' : x' < wd) (h : ixC ht wd y x p = ixC ht wd y' x' p') : y = y' ∧ x = x' ∧ p = p' := by
  have e : ∀ q z w : Nat, q * ht * wd + (z * wd + w) = (q * ht + z) * wd + w := fun q z w => by rw [Nat.add_mul, Nat.add_assoc]
  have h' : p * ht * wd + (y * wd + x) = p' * ht * wd + (y' * wd + x') := h
  rw [e, e] at h'
  obtain ⟨h1, h2⟩ := rad hx hx' h'
  obtain ⟨h3, h4⟩ := rad hy hy' h1
  exact ⟨h4, h2, h3⟩
theorem ixM_one {y x p y' x' p' : Nat} (hy : y < 48) (hx : x < 48) (hy' : y' < 48) (hx' : x' < 48) (h : ixM y x p = ixM y' x' p') : y = y' ∧ x = x' ∧ p = p' := by
  have h' : 2304 * p + 48 * y + x = 2304 * p' + 48 * y' + x' := h
  omega
def RelB (pn ht wd : Nat) (f g : Nat → Int32) : Prop := ∀ y x p, y < ht → x < wd → p < pn → f (ixC ht wd y x p) = g (ixM y x p)
theorem RelB_upd {pn ht wd : Nat} (hht : ht ≤ 48) (hwd : wd ≤ 48) {f g : Nat → Int32} (h : RelB pn ht wd f g) {y x p : Nat} (hy : y < ht) (hx : x < wd) {v w : Int32} (e : v = w) : RelB pn ht wd (upd f (ixC ht wd y x p) v) (upd g (ixM y x p) w) := by
  intro y' x' p' hy' hx' hp'
  unfold upd
  by_cases c : y' = y ∧ x' = x ∧ p' = p
  · obtain ⟨rfl, rfl, rfl⟩ := c
    rw [if_pos rfl, if_pos rfl, e]
  · rw [if_neg (fun q => c (ixC_one hy' hx' hy hx q)), if_neg (fun q => c (ixM_one (by omega) (by omega) (by omega) (by omega) q))]
    exact h y' x' p' hy' hx' hp'
theorem ppt_rel {pn ht wd : Nat} (hht : ht ≤ 48) (hwd : wd ≤ 48) {f g ov ov' : Nat → Int32} (h : RelB pn ht wd f g) (ho : ∀ k, k < pn → ov k = ov' k) {y x pl : Nat} (hy : y < ht) (hx : x < wd) (v c : Int32) : ∀ k : Nat, k ≤ pn → RelB pn ht wd (ppt (ixC ht wd y x) ov pl v c f k) (ppt (ixM y x) ov' pl v c g k)
  | 0, _ => h
  | k + 1, hk => by
    have ih := ppt_rel hht hwd h ho hy hx (pl := pl) v c k (by omega)
    have e := ih y x k hy hx (by omega)
    show RelB pn ht wd (if k = pl then upd (ppt (ixC ht wd y x) ov pl v c f k) (ixC ht wd y x k) (bldv (ppt (ixC ht wd y x) ov pl v c f k (ixC ht wd y x k)) v c) else if ov k = 0 then upd (ppt (ixC ht wd y x) ov pl v c f k) (ixC ht wd y x k) (bldv (ppt (ixC ht wd y x) ov pl v c f k (ixC ht wd y x k)) (nI 0) c) else ppt (ixC ht wd y x) ov pl v c f k)
      (if k = pl then upd (ppt (ixM y x) ov' pl v c g k) (ixM y x k) (bldv (ppt (ixM y x) ov' pl v c g k (ixM y x k)) v c) else if ov' k = 0 then upd (ppt (ixM y x) ov' pl v c g k) (ixM y x k) (bldv (ppt (ixM y x) ov' pl v c g k (ixM y x k)) (nI 0) c) else ppt (ixM y x) ov' pl v c g k)
    rw [ho k (by omega)]
    by_cases c1 : k = pl
    · rw [if_pos c1, if_pos c1]
      exact RelB_upd hht hwd ih hy hx (by rw [e])
    · rw [if_neg c1, if_neg c1]
      by_cases c2 : ov' k = 0
      · rw [if_pos c2, if_pos c2]
        exact RelB_upd hht hwd ih hy hx (by rw [e])
      · rw [if_neg c2, if_neg c2]
        exact ih
theorem prow_rel {pn ht wd : Nat} (hht : ht ≤ 48) (hwd : wd ≤ 48) {f g ov ov' cv cv' : Nat → Int32} (h : RelB pn ht wd f g) (ho : ∀ k, k < pn → ov k = ov' k) {y pl : Nat} (hy : y < ht) (v : Int32) (hc : ∀ x, x < wd → cv x = cv' x) : ∀ m : Nat, m ≤ wd → RelB pn ht wd (prow cv (ixC ht wd y) ov pl pn v f m).1 (prow cv' (ixM y) ov' pl pn v g m).1 ∧ (prow cv (ixC ht wd y) ov pl pn v f m).2 = (prow cv' (ixM y) ov' pl pn v g m).2
  | 0, _ => ⟨h, rfl⟩
  | m + 1, hm => by
    obtain ⟨i1, i2⟩ := prow_rel hht hwd h ho hy (pl := pl) v hc m (by omega)
    have e := hc m (by omega)
    by_cases c : 0 < cv m
    · rw [prow_pos c, prow_pos (by rw [← e]; exact c), ← e]
      exact ⟨ppt_rel hht hwd i1 ho hy (by omega) v (cv m) pn (Nat.le_refl _), congrArg (· + 1) i2⟩
    · rw [prow_neg c, prow_neg (by rw [← e]; exact c)]
      exact ⟨i1, i2⟩
theorem pfil_rel {pn ht wd : Nat} (hht : ht ≤ 48) (hwd : wd ≤ 48) {f g ov ov' : Nat → Int32} {cv cv' : Nat → Nat → Int32} (h : RelB pn ht wd f g) (ho : ∀ k, k < pn → ov k = ov' k) {pl bf : Nat} (v : Int32) (hc : ∀ y x, y < ht → x < wd → cv y x = cv' y x) : ∀ n : Nat, bf + n ≤ ht → RelB pn ht wd (pfil cv (ixC ht wd) ov pl pn wd v f bf n).1 (pfil cv' ixM ov' pl pn wd v g bf n).1 ∧ (pfil cv (ixC ht wd) ov pl pn wd v f bf n).2 = (pfil cv' ixM ov' pl pn wd v g bf n).2
  | 0, _ => ⟨h, rfl⟩
  | n + 1, hn => by
    obtain ⟨i1, i2⟩ := pfil_rel hht hwd h ho (pl := pl) (bf := bf) v hc n (by omega)
    obtain ⟨j1, j2⟩ := prow_rel hht hwd i1 ho (y := bf + n) (pl := pl) (by omega) v (fun x hx => hc (bf + n) x (by omega) hx) wd (Nat.le_refl _)
    refine ⟨j1, ?_⟩
    show (pfil cv (ixC ht wd) ov pl pn wd v f bf n).2 + _ = (pfil cv' ixM ov' pl pn wd v g bf n).2 + _
    rw [i2, j2]
/-! clips -/
abbrev jxC (wd : Nat) : Nat → Nat → Nat := fun zy zx => zy * wd + zx
abbrev jxM : Nat → Nat → Nat := fun zy zx => 48 * zy + zx
def RelC (ht wd : Nat) (f g : Nat → Int32) : Prop := ∀ y x, y < ht → x < wd → f (jxC wd y x) = g (jxM y x)
theorem RelC_upd {ht wd : Nat} (hwd : wd ≤ 48) {f g : Nat → Int32} (h : RelC ht wd f g) {y x : Nat} (hx : x < wd) {v w : Int32} (e : v = w) : RelC ht wd (upd f (jxC wd y x) v) (upd g (jxM y x) w) := by
  intro y' x' hy' hx'
  unfold upd
  by_cases c : y' = y ∧ x' = x
  · obtain ⟨rfl, rfl⟩ := c
    rw [if_pos rfl, if_pos rfl, e]
  · rw [if_neg (fun q => c (rad hx' hx q)), if_neg (fun q => c (by have q' : 48 * y' + x' = 48 * y + x := q; omega))]
    exact h y' x' hy' hx'
theorem crow_rel {ht wd : Nat} (hwd : wd ≤ 48) {f g cv cv' : Nat → Int32} (h : RelC ht wd f g) {y : Nat} (hy : y < ht) (hc : ∀ x, x < wd → cv x = cv' x) : ∀ m : Nat, m ≤ wd → RelC ht wd (crow cv (jxC wd y) f m).1 (crow cv' (jxM y) g m).1 ∧ (crow cv (jxC wd y) f m).2 = (crow cv' (jxM y) g m).2
  | 0, _ => ⟨h, rfl⟩
  | m + 1, hm => by
    obtain ⟨i1, i2⟩ := crow_rel hwd h hy hc m (by omega)
    have e := hc m (by omega)
    have e2 := i1 y m hy (by omega)
    have e3 : mulv ((crow cv (jxC wd y) f m).1 (jxC wd y m)) (cv m) = mulv ((crow cv' (jxM y) g m).1 (jxM y m)) (cv' m) := by rw [e2, e]
    refine ⟨RelC_upd hwd i1 (by omega) e3, ?_⟩
    show (if 0 < mulv ((crow cv (jxC wd y) f m).1 (jxC wd y m)) (cv m) then (crow cv (jxC wd y) f m).2 + 1 else (crow cv (jxC wd y) f m).2) = (if 0 < mulv ((crow cv' (jxM y) g m).1 (jxM y m)) (cv' m) then (crow cv' (jxM y) g m).2 + 1 else (crow cv' (jxM y) g m).2)
    rw [e3, i2]
theorem cfil_rel {ht wd : Nat} (hwd : wd ≤ 48) {f g : Nat → Int32} {cv cv' : Nat → Nat → Int32} (h : RelC ht wd f g) (hc : ∀ y x, y < ht → x < wd → cv y x = cv' y x) : ∀ n : Nat, n ≤ ht → RelC ht wd (cfil cv (jxC wd) wd f n).1 (cfil cv' jxM wd g n).1 ∧ (cfil cv (jxC wd) wd f n).2 = (cfil cv' jxM wd g n).2
  | 0, _ => ⟨h, rfl⟩
  | n + 1, hn => by
    obtain ⟨i1, i2⟩ := cfil_rel hwd h hc n (by omega)
    obtain ⟨j1, j2⟩ := crow_rel hwd i1 (y := n) (by omega) (fun x hx => hc n x (by omega) hx) wd (Nat.le_refl _)
    refine ⟨j1, ?_⟩
    show (cfil cv (jxC wd) wd f n).2 + _ = (cfil cv' jxM wd g n).2 + _
    rw [i2, j2]
theorem RelC_all {ht wd : Nat} (hht : ht ≤ 48) (hwd : wd ≤ 48) {f g : Nat → Int32} {v : Int32} (hf : ∀ j, j < ht * wd → f j = v) (hg : ∀ j, j < 2304 → g j = v) : RelC ht wd f g := by
  intro y x hy hx
  have h1 : (y + 1) * wd ≤ ht * wd := Nat.mul_le_mul_right _ hy
  rw [Nat.add_mul, Nat.one_mul] at h1
  rw [hf _ (show y * wd + x < ht * wd by omega), hg _ (show 48 * y + x < 2304 by omega)]
theorem RelB_0 {pn ht wd : Nat} : RelB pn ht wd z0f z0f := fun _ _ _ _ _ _ => rfl
theorem rel_point {pn ht wd : Nat} {f g : Nat → Int32} (h : RelB pn ht wd f g) {p y x : Nat} (hy : y < ht) (hx : x < wd) (hp : p < pn) : f ((p * ht + y) * wd + x) = g (2304 * p + 48 * y + x) := by
  rw [Nat.add_mul, Nat.add_assoc]
  exact h y x p hy hx hp
/-! packed -/
theorem rowS_rel {pn ht wd : Nat} {f g : Nat → Int32} (h : RelB pn ht wd f g) {r : Nat} (hr : r < pn * ht) : rowS f (r * wd) wd = rowS g (mrow ht r) wd := by
  have hh : 0 < ht := by
    rcases Nat.eq_zero_or_pos ht with z | z
    · rw [z, Nat.mul_zero] at hr; omega
    · exact z
  have h1 : r / ht < pn := Nat.div_lt_of_lt_mul (by rw [Nat.mul_comm]; exact hr)
  have h2 : r % ht < ht := Nat.mod_lt _ hh
  have h3 : r / ht * ht + r % ht = r := by rw [Nat.mul_comm]; exact Nat.div_add_mod r ht
  refine pkS_congr (fun j hj => ?_) (Nat.le_refl _)
  have := rel_point h h2 hj h1
  rw [h3] at this
  exact this
theorem csz_rel {pn ht wd : Nat} {f g : Nat → Int32} (h : RelB pn ht wd f g) {r : Nat} (hr : r < pn * ht) : cszf f wd r = mszf g wd ht r := by
  unfold cszf mszf
  rw [rowS_rel h hr]
theorem off_rel {pn ht wd : Nat} {f g : Nat → Int32} (h : RelB pn ht wd f g) {r : Nat} (hr : r ≤ pn * ht) : offR (cszf f wd) r = offR (mszf g wd ht) r := offR_congr (fun k hk => csz_rel h (by omega))
theorem pk_agree {pn ht wd ps : Nat} {f g gk : Nat → Int32} (h : RelB pn ht wd f g) (hM : MPk g wd ht gk ps (pn * ht)) {i : Int} {r : Int32} (hc : CPk f wd (pn * ht) i r) : r = b8 (gk i.toNat) := by
  obtain ⟨rr, jj, h1, h2, h3, h4⟩ := hc
  rw [csz_rel h h1] at h2
  rw [off_rel h (by omega)] at h3
  have := hM.2 rr h1 jj h2
  rw [h4, rowS_rel h h1, ← this, h3]
  rfl
theorem pk_size {pn ht wd ps : Nat} {f g gk : Nat → Int32} (h : RelB pn ht wd f g) (hM : MPk g wd ht gk ps (pn * ht)) : offR (cszf f wd) (pn * ht) = ps := by
  rw [off_rel h (Nat.le_refl _), hM.1]
theorem upd_rel {pn k : Nat} {f g : Nat → Int32} (h : ∀ j, j < pn → f j = g j) (v : Int32) : ∀ j, j < pn → upd f k v j = upd g k v j := fun j hj => by
  unfold upd
  by_cases e : j = k
  · rw [if_pos e, if_pos e]
  · rw [if_neg e, if_neg e, h j hj]
