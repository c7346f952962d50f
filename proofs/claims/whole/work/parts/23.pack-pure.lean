/-! packing: what lies in a row's place before doesn't matter; the reference's runs and single ones are the class's states -/
theorem b8_and (v : Int32) : b8 (v &&& nI 255) = b8 v := by
  unfold b8
  refine congrArg Int8.toInt32 ?_
  apply Int8.toBitVec_inj.mp
  rw [Int32.toBitVec_toInt8, Int32.toBitVec_toInt8, Int32.toBitVec_and, BitVec.signExtend_eq_setWidth_of_le _ (by decide), BitVec.signExtend_eq_setWidth_of_le _ (by decide), BitVec.setWidth_and]
  rw [show BitVec.setWidth 8 (nI 255).toBitVec = BitVec.allOnes 8 from by decide +kernel, BitVec.and_allOnes]
theorem b8_nI {k : Nat} (h : k ≤ 127) : b8 (nI k) = nI k := by
  have : ∀ j : Fin 128, b8 (nI j.val) = nI j.val := by decide +kernel
  exact this ⟨k, by omega⟩
theorem b8_idem (q : Int32) : b8 (b8 q) = b8 q := b8_b8 q
theorem pkSt_congr {f f' : Nat → Int32} {st st' n k : Nat} (h : ∀ j, j < n → f (st + j) = f' (st' + j)) (hk : k < n) (s : PkT) : pkSt f st (st + n) k s = pkSt f' st' (st' + n) k s := by
  have e1 := h k hk
  have c1 : (0 < k ∧ f (st + k) = f (st + k - 1)) ↔ (0 < k ∧ f' (st' + k) = f' (st' + k - 1)) := by
    by_cases z : 0 < k
    · have e2 := h (k - 1) (by omega)
      rw [show st + (k - 1) = st + k - 1 by omega, show st' + (k - 1) = st' + k - 1 by omega] at e2
      rw [e1, e2]
    · exact ⟨fun q => absurd q.1 z, fun q => absurd q.1 z⟩
  have c2 : (st + k + 1 < st + n ∧ f (st + k) = f (st + k + 1)) ↔ (st' + k + 1 < st' + n ∧ f' (st' + k) = f' (st' + k + 1)) := by
    by_cases z : k + 1 < n
    · have e2 := h (k + 1) z
      rw [show st + (k + 1) = st + k + 1 by omega, show st' + (k + 1) = st' + k + 1 by omega] at e2
      rw [e1, e2]
      exact ⟨fun q => ⟨by omega, q.2⟩, fun q => ⟨by omega, q.2⟩⟩
    · exact ⟨fun q => absurd q.1 (by omega), fun q => absurd q.1 (by omega)⟩
  unfold pkSt
  by_cases z1 : 0 < k ∧ f (st + k) = f (st + k - 1)
  · rw [if_pos z1, if_pos (c1.mp z1)]
  · rw [if_neg z1, if_neg (fun q => z1 (c1.mpr q))]
    by_cases z2 : st + k + 1 < st + n ∧ f (st + k) = f (st + k + 1)
    · rw [if_pos z2, if_pos (c2.mp z2), e1]
    · rw [if_neg z2, if_neg (fun q => z2 (c2.mpr q)), e1]
theorem pkS_congr {f f' : Nat → Int32} {st st' n : Nat} {sg : Nat → Int32} (h : ∀ j, j < n → f (st + j) = f' (st' + j)) : ∀ {k : Nat}, k ≤ n → pkS f st (st + n) sg k = pkS f' st' (st' + n) sg k
  | 0, _ => rfl
  | k + 1, hk => by
    show pkSt f st (st + n) k (pkS f st (st + n) sg k) = pkSt f' st' (st' + n) k (pkS f' st' (st' + n) sg k)
    rw [pkS_congr h (by omega), pkSt_congr h (by omega)]
theorem pkSt_ind {f : Nat → Int32} {st en k : Nat} {a a' : Nat → Int32} {q h t : Nat} (h1 : ∀ j, j < q → a j = a' j) (hk : k = 0 ∨ h < q) (ha : t = 0 ∨ h < q) :
    (pkSt f st en k (a, q, h, t)).2 = (pkSt f st en k (a', q, h, t)).2 ∧ (∀ j, j < (pkSt f st en k (a, q, h, t)).2.1 → (pkSt f st en k (a, q, h, t)).1 j = (pkSt f st en k (a', q, h, t)).1 j) ∧ (pkSt f st en k (a, q, h, t)).2.2.1 < (pkSt f st en k (a, q, h, t)).2.1 := by
  unfold pkSt
  by_cases z1 : 0 < k ∧ f (st + k) = f (st + k - 1)
  · rw [if_pos z1, if_pos z1]
    have hq : h < q := by omega
    refine ⟨rfl, fun j hj => ?_, hq⟩
    have hj : j < q := hj
    show upd a h (b8 (a h - nI 1)) j = upd a' h (b8 (a' h - nI 1)) j
    unfold upd
    by_cases e : j = h
    · rw [if_pos e, if_pos e, h1 h hq]
    · rw [if_neg e, if_neg e, h1 j hj]
  · rw [if_neg z1, if_neg z1]
    by_cases z2 : st + k + 1 < en ∧ f (st + k) = f (st + k + 1)
    · rw [if_pos z2, if_pos z2]
      refine ⟨rfl, fun j hj => ?_, by show q < q + 1 + 1; omega⟩
      have hj : j < q + 1 + 1 := hj
      show upd (upd a q (b8 (nI 127))) (q + 1) (b8 (f (st + k))) j = upd (upd a' q (b8 (nI 127))) (q + 1) (b8 (f (st + k))) j
      unfold upd
      by_cases e : j = q + 1
      · rw [if_pos e, if_pos e]
      · rw [if_neg e, if_neg e]
        by_cases e2 : j = q
        · rw [if_pos e2, if_pos e2]
        · rw [if_neg e2, if_neg e2, h1 j (by omega)]
    · rw [if_neg z2, if_neg z2]
      by_cases z3 : t = 0
      · rw [if_pos z3, if_pos z3]
        refine ⟨rfl, fun j hj => ?_, by show q < q + 1 + 1; omega⟩
        have hj : j < q + 1 + 1 := hj
        show upd (upd (upd a q (b8 (nI 0))) q (b8 (upd a q (b8 (nI 0)) q + nI 1))) (q + 1) (b8 (f (st + k))) j = upd (upd (upd a' q (b8 (nI 0))) q (b8 (upd a' q (b8 (nI 0)) q + nI 1))) (q + 1) (b8 (f (st + k))) j
        unfold upd
        by_cases e : j = q + 1
        · rw [if_pos e, if_pos e]
        · rw [if_neg e, if_neg e]
          by_cases e2 : j = q
          · rw [if_pos e2, if_pos e2, if_pos rfl, if_pos rfl]
          · rw [if_neg e2, if_neg e2, if_neg e2, if_neg e2, h1 j (by omega)]
      · rw [if_neg z3, if_neg z3]
        have hq : h < q := by omega
        refine ⟨rfl, fun j hj => ?_, by show h < q + 1; omega⟩
        have hj : j < q + 1 := hj
        show upd (upd a h (b8 (a h + nI 1))) q (b8 (f (st + k))) j = upd (upd a' h (b8 (a' h + nI 1))) q (b8 (f (st + k))) j
        unfold upd
        by_cases e : j = q
        · rw [if_pos e, if_pos e]
        · rw [if_neg e, if_neg e]
          by_cases e2 : j = h
          · rw [if_pos e2, if_pos e2, h1 h hq]
          · rw [if_neg e2, if_neg e2, h1 j (by omega)]
theorem pkS_ind (f : Nat → Int32) (st en : Nat) (sg sg' : Nat → Int32) : ∀ k : Nat, (pkS f st en sg k).2 = (pkS f st en sg' k).2 ∧ (∀ j, j < (pkS f st en sg k).2.1 → (pkS f st en sg k).1 j = (pkS f st en sg' k).1 j) ∧ (k = 0 ∨ (pkS f st en sg k).2.2.1 < (pkS f st en sg k).2.1) ∧ ((pkS f st en sg k).2.2.2 = 0 ∨ (pkS f st en sg k).2.2.1 < (pkS f st en sg k).2.1)
  | 0 => ⟨rfl, fun j hj => absurd hj (Nat.not_lt_zero _), Or.inl rfl, Or.inl rfl⟩
  | k + 1 => by
    obtain ⟨i1, i2, i3, i4⟩ := pkS_ind f st en sg sg' k
    have e : pkS f st en sg (k + 1) = pkSt f st en k (pkS f st en sg k) := rfl
    have e' : pkS f st en sg' (k + 1) = pkSt f st en k (pkS f st en sg' k) := rfl
    rw [e, e']
    revert i1 i2 i3 i4
    rcases pkS f st en sg k with ⟨a, q, h, t⟩
    rcases pkS f st en sg' k with ⟨a', q', h', t'⟩
    intro i1 i2 i3 i4
    cases i1
    have := pkSt_ind (f := f) (st := st) (en := en) (k := k) i2 i3 i4
    exact ⟨this.1, this.2.1, Or.inr this.2.2, Or.inr this.2.2⟩
abbrev z0f : Nat → Int32 := fun _ => 0
/-- a row packed -/
def rowS (f : Nat → Int32) (st wd : Nat) : PkT := pkS f st (st + wd) z0f wd
theorem pkS_size (f : Nat → Int32) (st en : Nat) (sg : Nat → Int32) : ∀ k : Nat, (pkS f st en sg k).2.1 ≤ 2 * k
  | 0 => Nat.le_refl 0
  | k + 1 => by
    have ih := pkS_size f st en sg k
    have e : pkS f st en sg (k + 1) = pkSt f st en k (pkS f st en sg k) := rfl
    rw [e]
    unfold pkSt
    by_cases z1 : 0 < k ∧ f (st + k) = f (st + k - 1)
    · rw [if_pos z1]
      show (pkS f st en sg k).2.1 ≤ 2 * (k + 1)
      omega
    · rw [if_neg z1]
      by_cases z2 : st + k + 1 < en ∧ f (st + k) = f (st + k + 1)
      · rw [if_pos z2]
        show (pkS f st en sg k).2.1 + 1 + 1 ≤ 2 * (k + 1)
        omega
      · rw [if_neg z2]
        by_cases z3 : (pkS f st en sg k).2.2.2 = 0
        · rw [if_pos z3]
          show (pkS f st en sg k).2.1 + 1 + 1 ≤ 2 * (k + 1)
          omega
        · rw [if_neg z3]
          show (pkS f st en sg k).2.1 + 1 ≤ 2 * (k + 1)
          omega
/-- a run of alike bytes -/
theorem pk_run {f : Nat → Int32} {i0 wd x n : Nat} {sg : Nat → Int32} {q h t : Nat} (hs : pkS f i0 (i0 + wd) z0f x = (sg, q, h, t)) (hx : x = 0 ∨ f (i0 + x) ≠ f (i0 + x - 1)) (hn : x + n ≤ wd) (hn64 : n ≤ 64) (hr : ∀ j, j < n → f (i0 + x + j) = f (i0 + x)) :
    ∀ m : Nat, m + 2 ≤ n → ∃ sg', pkS f i0 (i0 + wd) z0f (x + 1 + m) = (sg', q + 1 + 1, q, 0) ∧ sg' q = nI (127 - m) ∧ sg' (q + 1) = b8 (f (i0 + x)) ∧ ∀ j, j < q → sg' j = sg j
  | 0, hm => by
    refine ⟨upd (upd sg q (b8 (nI 127))) (q + 1) (b8 (f (i0 + x))), ?_, ?_, ?_, ?_⟩
    · show pkSt f i0 (i0 + wd) x (pkS f i0 (i0 + wd) z0f x) = _
      rw [hs]
      unfold pkSt
      rw [if_neg (fun z => by rcases hx with w | w; (· omega); (· exact w z.2)), if_pos ⟨by omega, (hr 1 (by omega)).symm⟩]
    · unfold upd
      rw [if_neg (by omega), if_pos rfl]; exact b8_nI (Nat.le_refl _)
    · unfold upd
      rw [if_pos rfl]
    · intro j hj
      unfold upd
      rw [if_neg (by omega), if_neg (by omega)]
  | m + 1, hm => by
    obtain ⟨sg', h1, h2, h3, h4⟩ := pk_run hs hx hn hn64 hr m (by omega)
    refine ⟨upd sg' q (b8 (sg' q - nI 1)), ?_, ?_, ?_, ?_⟩
    · show pkSt f i0 (i0 + wd) (x + 1 + m) (pkS f i0 (i0 + wd) z0f (x + 1 + m)) = _
      rw [h1]
      unfold pkSt
      have e1 := hr (m + 1) (by omega)
      have e2 := hr m (by omega)
      rw [if_pos ⟨by omega, by rw [show i0 + (x + 1 + m) = i0 + x + (m + 1) by omega, show i0 + x + (m + 1) - 1 = i0 + x + m by omega, e1, e2]⟩]
    · unfold upd
      rw [if_pos rfl, h2, pk_sub (by omega), b8_nI (by omega), show 127 - m - 1 = 127 - (m + 1) by omega]
    · unfold upd
      rw [if_neg (by omega)]; exact h3
    · intro j hj
      unfold upd
      rw [if_neg (by omega)]; exact h4 j hj
/-- single ones -/
theorem pk_sing {f : Nat → Int32} {i0 wd x n : Nat} {sg : Nat → Int32} {q h : Nat} (hs : pkS f i0 (i0 + wd) z0f x = (sg, q, h, 0)) (hx : x = 0 ∨ f (i0 + x) ≠ f (i0 + x - 1)) (hn : x + n ≤ wd) (hn64 : n ≤ 64) (hr : ∀ j, j < n → x + j + 1 < wd → f (i0 + x + j) ≠ f (i0 + x + j + 1)) :
    ∀ m : Nat, m + 1 ≤ n → ∃ sg', pkS f i0 (i0 + wd) z0f (x + 1 + m) = (sg', q + 1 + 1 + m, q, 1) ∧ sg' q = nI (m + 1) ∧ (∀ j, j ≤ m → sg' (q + 1 + j) = b8 (f (i0 + x + j))) ∧ ∀ j, j < q → sg' j = sg j
  | 0, hm => by
    refine ⟨upd (upd (upd sg q (b8 (nI 0))) q (b8 (upd sg q (b8 (nI 0)) q + nI 1))) (q + 1) (b8 (f (i0 + x))), ?_, ?_, ?_, ?_⟩
    · show pkSt f i0 (i0 + wd) x (pkS f i0 (i0 + wd) z0f x) = _
      rw [hs]
      unfold pkSt
      rw [if_neg (fun z => by rcases hx with w | w; (· omega); (· exact w z.2)), if_neg (fun z => hr 0 (by omega) (by omega) z.2), if_pos rfl]
    · unfold upd
      rw [if_neg (by omega), if_pos rfl, if_pos rfl]
      decide +kernel
    · intro j hj
      have : j = 0 := by omega
      subst this
      unfold upd
      rw [if_pos rfl]; rfl
    · intro j hj
      unfold upd
      rw [if_neg (by omega), if_neg (by omega), if_neg (by omega)]
  | m + 1, hm => by
    obtain ⟨sg', h1, h2, h3, h4⟩ := pk_sing hs hx hn hn64 hr m (by omega)
    refine ⟨upd (upd sg' q (b8 (sg' q + nI 1))) (q + 1 + 1 + m) (b8 (f (i0 + (x + 1 + m)))), ?_, ?_, ?_, ?_⟩
    · show pkSt f i0 (i0 + wd) (x + 1 + m) (pkS f i0 (i0 + wd) z0f (x + 1 + m)) = _
      rw [h1]
      unfold pkSt
      have e1 := hr m (by omega) (by omega)
      rw [if_neg (fun z => e1 (by have z2 := z.2; rw [show i0 + (x + 1 + m) = i0 + x + m + 1 by omega, show i0 + x + m + 1 - 1 = i0 + x + m by omega] at z2; exact z2.symm)), if_neg (fun z => hr (m + 1) (by omega) (by omega) (by have z2 := z.2; rw [show i0 + (x + 1 + m) = i0 + x + (m + 1) by omega] at z2; exact z2)), if_neg (show ¬ (1 = 0) by omega)]
      rfl
    · unfold upd
      rw [if_neg (by omega), if_pos rfl, h2, nI_add, b8_nI (by omega)]
    · intro j hj
      unfold upd
      by_cases e : j = m + 1
      · subst e
        rw [if_pos (by omega), show i0 + (x + 1 + m) = i0 + x + (m + 1) by omega]
      · rw [if_neg (by omega), if_neg (by omega)]; exact h3 j (by omega)
    · intro j hj
      unfold upd
      rw [if_neg (by omega), if_neg (by omega)]; exact h4 j hj
/-- how far a row is packed by the reference -/
def RI (f : Nat → Int32) (i0 wd off x : Nat) (gk : Nat → Int32) (ps : Nat) : Prop :=
  ps = off + (pkS f i0 (i0 + wd) z0f x).2.1 ∧ (∀ j, j < (pkS f i0 (i0 + wd) z0f x).2.1 → b8 (gk (off + j)) = (pkS f i0 (i0 + wd) z0f x).1 j) ∧ (x = 0 ∨ x = wd ∨ f (i0 + x) ≠ f (i0 + x - 1)) ∧ ((pkS f i0 (i0 + wd) z0f x).2.2.2 = 0 ∨ x = wd ∨ (x + 1 < wd ∧ f (i0 + x) = f (i0 + x + 1)))
theorem RI_0 (f : Nat → Int32) (i0 wd : Nat) (gk : Nat → Int32) (ps : Nat) : RI f i0 wd ps 0 gk ps := ⟨rfl, fun j h => absurd h (Nat.not_lt_zero _), Or.inl rfl, Or.inl rfl⟩
theorem RI_le {f : Nat → Int32} {i0 wd off x : Nat} {gk : Nat → Int32} {ps : Nat} (h : RI f i0 wd off x gk ps) : off ≤ ps ∧ ps ≤ off + 2 * x := by
  have := pkS_size f i0 (i0 + wd) z0f x
  have := h.1
  omega
theorem RI_run {f : Nat → Int32} {i0 wd off x n : Nat} {gk gk' : Nat → Int32} {ps : Nat} (h : RI f i0 wd off x gk ps) (hxw : x < wd) (hn : x + n ≤ wd) (hn64 : n ≤ 64) (h2 : 2 ≤ n) (hr : ∀ j, j < n → f (i0 + x + j) = f (i0 + x)) (he : x + n < wd → f (i0 + x + n) ≠ f (i0 + x))
    (g1 : b8 (gk' ps) = b8 (nI (128 - n))) (g2 : b8 (gk' (ps + 1)) = b8 (f (i0 + x))) (g3 : ∀ j, j < ps → gk' j = gk j) : RI f i0 wd off (x + n) gk' (ps + 1 + 1) := by
  obtain ⟨r1, r2, r3, r4⟩ := h
  have hx : x = 0 ∨ f (i0 + x) ≠ f (i0 + x - 1) := by
    rcases r3 with w | w | w
    · exact Or.inl w
    · omega
    · exact Or.inr w
  obtain ⟨sg', s1, s2, s3, s4⟩ := pk_run (sg := (pkS f i0 (i0 + wd) z0f x).1) (q := (pkS f i0 (i0 + wd) z0f x).2.1) (h := (pkS f i0 (i0 + wd) z0f x).2.2.1) (t := (pkS f i0 (i0 + wd) z0f x).2.2.2) rfl hx hn hn64 hr (n - 2) (by omega)
  have ex : x + 1 + (n - 2) = x + n - 1 := by omega
  -- one element more than n - 2 behind the first
  have s5 : pkS f i0 (i0 + wd) z0f (x + n) = (upd sg' (pkS f i0 (i0 + wd) z0f x).2.1 (b8 (sg' (pkS f i0 (i0 + wd) z0f x).2.1 - nI 1)), (pkS f i0 (i0 + wd) z0f x).2.1 + 1 + 1, (pkS f i0 (i0 + wd) z0f x).2.1, 0) := by
    rw [show x + n = (x + 1 + (n - 2)) + 1 by omega]
    show pkSt f i0 (i0 + wd) (x + 1 + (n - 2)) (pkS f i0 (i0 + wd) z0f (x + 1 + (n - 2))) = _
    rw [s1]
    unfold pkSt
    have e1 := hr (n - 1) (by omega)
    have e2 := hr (n - 2) (by omega)
    rw [if_pos ⟨by omega, by rw [show i0 + (x + 1 + (n - 2)) = i0 + x + (n - 1) by omega, show i0 + x + (n - 1) - 1 = i0 + x + (n - 2) by omega, e1, e2]⟩]
  unfold RI
  rw [s5]
  refine ⟨by show ps + 1 + 1 = off + _; dsimp only; omega, fun j hj => ?_, ?_, Or.inl rfl⟩
  · have hj : j < (pkS f i0 (i0 + wd) z0f x).2.1 + 1 + 1 := hj
    show b8 (gk' (off + j)) = upd sg' _ _ j
    unfold upd
    by_cases e : j = (pkS f i0 (i0 + wd) z0f x).2.1
    · rw [if_pos e, e, ← r1, g1, s2, pk_sub (by omega), show 127 - (n - 2) - 1 = 128 - n by omega]
    · rw [if_neg e]
      by_cases e2 : j = (pkS f i0 (i0 + wd) z0f x).2.1 + 1
      · rw [e2, s3, ← g2, show off + ((pkS f i0 (i0 + wd) z0f x).2.1 + 1) = ps + 1 by omega]
      · rw [s4 j (by omega), g3 (off + j) (by omega)]
        exact r2 j (by omega)
  · by_cases e : x + n = wd
    · exact Or.inr (Or.inl e)
    · refine Or.inr (Or.inr ?_)
      have e2 := hr (n - 1) (by omega)
      rw [show i0 + (x + n) - 1 = i0 + x + (n - 1) by omega, e2, show i0 + (x + n) = i0 + x + n by omega]
      exact he (by omega)
theorem RI_sing {f : Nat → Int32} {i0 wd off x n : Nat} {gk gk' : Nat → Int32} {ps : Nat} (h : RI f i0 wd off x gk ps) (hxw : x < wd) (hn : x + n ≤ wd) (hn64 : n ≤ 64) (h1 : 1 ≤ n) (hr : ∀ j, j < n → x + j + 1 < wd → f (i0 + x + j) ≠ f (i0 + x + j + 1)) (he : x + n = wd ∨ (x + n + 1 < wd ∧ f (i0 + x + n) = f (i0 + x + n + 1)))
    (g1 : b8 (gk' ps) = b8 (nI n)) (g2 : ∀ j, j < n → b8 (gk' (ps + 1 + j)) = b8 (f (i0 + x + j))) (g3 : ∀ j, j < ps → gk' j = gk j) : RI f i0 wd off (x + n) gk' (ps + 1 + n) := by
  obtain ⟨r1, r2, r3, r4⟩ := h
  have hx : x = 0 ∨ f (i0 + x) ≠ f (i0 + x - 1) := by
    rcases r3 with w | w | w
    · exact Or.inl w
    · omega
    · exact Or.inr w
  have ht : (pkS f i0 (i0 + wd) z0f x).2.2.2 = 0 := by
    rcases r4 with w | w | w
    · exact w
    · omega
    · have := hr 0 (by omega) (by omega)
      exact absurd w.2 this
  obtain ⟨sg', s1, s2, s3, s4⟩ := pk_sing (sg := (pkS f i0 (i0 + wd) z0f x).1) (q := (pkS f i0 (i0 + wd) z0f x).2.1) (h := (pkS f i0 (i0 + wd) z0f x).2.2.1) (by rw [← ht]) hx hn hn64 hr (n - 1) (by omega)
  rw [show x + 1 + (n - 1) = x + n by omega] at s1
  unfold RI
  rw [s1]
  refine ⟨by show ps + 1 + n = off + _; dsimp only; omega, fun j hj => ?_, ?_, ?_⟩
  · have hj : j < (pkS f i0 (i0 + wd) z0f x).2.1 + 1 + 1 + (n - 1) := hj
    show b8 (gk' (off + j)) = sg' j
    by_cases e : j = (pkS f i0 (i0 + wd) z0f x).2.1
    · rw [e, ← r1, g1, s2, show n - 1 + 1 = n by omega, b8_nI (by omega)]
    · by_cases e2 : j < (pkS f i0 (i0 + wd) z0f x).2.1
      · rw [s4 j e2, g3 (off + j) (by omega)]
        exact r2 j e2
      · have e3 := s3 (j - (pkS f i0 (i0 + wd) z0f x).2.1 - 1) (by omega)
        have e4 := g2 (j - (pkS f i0 (i0 + wd) z0f x).2.1 - 1) (by omega)
        rw [show (pkS f i0 (i0 + wd) z0f x).2.1 + 1 + (j - (pkS f i0 (i0 + wd) z0f x).2.1 - 1) = j by omega] at e3
        rw [show ps + 1 + (j - (pkS f i0 (i0 + wd) z0f x).2.1 - 1) = off + j by omega] at e4
        rw [e3, e4]
  · by_cases e : x + n = wd
    · exact Or.inr (Or.inl e)
    · refine Or.inr (Or.inr ?_)
      have e2 := hr (n - 1) (by omega) (by omega)
      rw [show i0 + x + (n - 1) + 1 = i0 + (x + n) by omega, show i0 + x + (n - 1) = i0 + (x + n) - 1 by omega] at e2
      exact fun w => e2 w.symm
  · rcases he with w | w
    · exact Or.inr (Or.inl w)
    · refine Or.inr (Or.inr ⟨w.1, ?_⟩)
      rw [show i0 + (x + n) = i0 + x + n by omega]; exact w.2
/-- all rows, one behind the other -/
def offR (sz : Nat → Nat) : Nat → Nat
  | 0 => 0
  | r + 1 => offR sz r + sz r
theorem offR_congr {sz sz' : Nat → Nat} : ∀ {r : Nat}, (∀ k, k < r → sz k = sz' k) → offR sz r = offR sz' r
  | 0, _ => rfl
  | r + 1, h => by
    show offR sz r + sz r = offR sz' r + sz' r
    rw [offR_congr (fun k hk => h k (by omega)), h r (by omega)]
theorem offR_mono (sz : Nat → Nat) {a b : Nat} (h : a ≤ b) : offR sz a ≤ offR sz b := by
  induction b with
  | zero =>
    have : a = 0 := by omega
    rw [this]; exact Nat.le_refl _
  | succ b ih =>
    show offR sz a ≤ offR sz b + sz b
    by_cases e : a = b + 1
    · rw [e]; exact Nat.le_refl _
    · have := ih (by omega); omega
/-- a place lies in one row -/
theorem offR_one {sz : Nat → Nat} {a b i j : Nat} (hi : i < sz a) (hj : j < sz b) (h : offR sz a + i = offR sz b + j) : a = b ∧ i = j := by
  rcases Nat.lt_trichotomy a b with q | q | q
  · have h1 : offR sz (a + 1) ≤ offR sz b := offR_mono sz q
    have h2 : offR sz (a + 1) = offR sz a + sz a := rfl
    omega
  · subst q; exact ⟨rfl, by omega⟩
  · have h1 : offR sz (b + 1) ≤ offR sz a := offR_mono sz q
    have h2 : offR sz (b + 1) = offR sz b + sz b := rfl
    omega
theorem offR_find {sz : Nat → Nat} {i : Nat} : ∀ {n : Nat}, i < offR sz n → ∃ r j, r < n ∧ j < sz r ∧ i = offR sz r + j
  | 0, h => absurd h (Nat.not_lt_zero _)
  | n + 1, h => by
    by_cases c : i < offR sz n
    · obtain ⟨r, j, h1, h2, h3⟩ := offR_find c
      exact ⟨r, j, by omega, h2, h3⟩
    · have h2 : offR sz (n + 1) = offR sz n + sz n := rfl
      exact ⟨n, i - offR sz n, Nat.lt_succ_self n, by omega, by omega⟩
/-- the reference's rows, in their order -/
def mrow (ht r : Nat) : Nat := 2304 * (r / ht) + 48 * (r % ht)
theorem mrow_at {ht p y : Nat} (h : y < ht) : mrow ht (p * ht + y) = 2304 * p + 48 * y := by
  unfold mrow
  have h1 : (p * ht + y) / ht = p := by
    rw [Nat.mul_comm, Nat.mul_add_div (by omega), Nat.div_eq_of_lt h, Nat.add_zero]
  have h2 : (p * ht + y) % ht = y := by
    rw [Nat.mul_comm, Nat.mul_add_mod, Nat.mod_eq_of_lt h]
  rw [h1, h2]
def mszf (gB : Nat → Int32) (wd ht r : Nat) : Nat := (rowS gB (mrow ht r) wd).2.1
/-- the reference's packed bytes, so many rows of them -/
def MPk (gB : Nat → Int32) (wd ht : Nat) (gk : Nat → Int32) (ps n : Nat) : Prop := ps = offR (mszf gB wd ht) n ∧ ∀ r, r < n → ∀ j, j < mszf gB wd ht r → b8 (gk (offR (mszf gB wd ht) r + j)) = (rowS gB (mrow ht r) wd).1 j
theorem MPk_0 (gB : Nat → Int32) (wd ht : Nat) (gk : Nat → Int32) : MPk gB wd ht gk 0 0 := ⟨rfl, fun r h => absurd h (Nat.not_lt_zero _)⟩
theorem MPk_row {gB : Nat → Int32} {wd ht : Nat} {gk gk' : Nat → Int32} {ps ps' p y : Nat} (h : MPk gB wd ht gk ps (p * ht + y)) (hy : y < ht) (hk : ∀ j, j < ps → gk' j = gk j) (hr : RI gB (2304 * p + 48 * y) wd ps wd gk' ps') : MPk gB wd ht gk' ps' (p * ht + (y + 1)) := by
  obtain ⟨h1, h2⟩ := h
  obtain ⟨r1, r2, -, -⟩ := hr
  have em : mszf gB wd ht (p * ht + y) = (pkS gB (2304 * p + 48 * y) (2304 * p + 48 * y + wd) z0f wd).2.1 := by
    unfold mszf
    rw [mrow_at hy]; rfl
  refine ⟨?_, fun r hr j hj => ?_⟩
  · show ps' = offR (mszf gB wd ht) (p * ht + y) + mszf gB wd ht (p * ht + y)
    rw [r1, em, h1]
  · by_cases e : r = p * ht + y
    · subst e
      rw [← h1, r2 j (by rw [← em]; exact hj), mrow_at hy]; rfl
    · have hr2 : r < p * ht + y := by omega
      have h5 : offR (mszf gB wd ht) (r + 1) ≤ offR (mszf gB wd ht) (p * ht + y) := offR_mono _ hr2
      have h6 : offR (mszf gB wd ht) (r + 1) = offR (mszf gB wd ht) r + mszf gB wd ht r := rfl
      rw [hk _ (by omega)]
      exact h2 r hr2 j hj
