/-! the reference's row: spans from a place to the next one, each place once -/
def insB (rl : Int32) (mu : (Int → Int → Int) → Int) (z : Int) : Bool := if rl = 0 then decide (¬ Int32.ofInt (mu (fun q t => if q ≤ z then t else 0)) = 0) else decide (mu (fun q _ => if q ≤ z then 1 else 0) % 2 = 1)
theorem inB_ins (rl : Int32) (mu : (Int → Int → Int) → Int) (z : Int) : inB rl mu z = (insB rl mu z && decide (0 < mu (fun q _ => if z < q then 1 else 0))) := rfl
def agN (P : Nat → Int) (k : Nat) : Nat → Nat
  | 0 => 0
  | i + 1 => if agN P k i = 0 then (if i < k ∧ P i = P k then 1 else 0) else 1
def nxM (P : Nat → Int) (k : Nat) : Nat → Int
  | 0 => 9000000
  | i + 1 => if P k < P i ∧ P i < nxM P k i then P i else nxM P k i
theorem agN_le (P : Nat → Int) (k : Nat) : ∀ i, agN P k i ≤ 1
  | 0 => Nat.zero_le _
  | i + 1 => by
    show (if agN P k i = 0 then (if i < k ∧ P i = P k then 1 else 0) else 1) ≤ 1
    split
    · split <;> omega
    · omega
theorem agN_0 {P : Nat → Int} {k : Nat} : ∀ {i : Nat}, agN P k i = 0 ↔ ∀ j, j < i → j < k → P j ≠ P k
  | 0 => ⟨fun _ j h => absurd h (Nat.not_lt_zero _), fun _ => rfl⟩
  | i + 1 => by
    have ih := agN_0 (P := P) (k := k) (i := i)
    have e : agN P k (i + 1) = if agN P k i = 0 then (if i < k ∧ P i = P k then 1 else 0) else 1 := rfl
    rw [e]
    by_cases h : agN P k i = 0
    · rw [if_pos h]
      by_cases h2 : i < k ∧ P i = P k
      · rw [if_pos h2]
        exact ⟨fun q => absurd q (by decide), fun q => absurd h2.2 (q i (Nat.lt_succ_self i) h2.1)⟩
      · rw [if_neg h2]
        refine ⟨fun _ j hj hk => ?_, fun _ => rfl⟩
        by_cases e2 : j = i
        · subst e2; exact fun q => h2 ⟨hk, q⟩
        · exact ih.mp h j (by omega) hk
    · rw [if_neg h]
      exact ⟨fun q => absurd q (by decide), fun q => absurd (ih.mpr (fun j hj hk => q j (by omega) hk)) h⟩
theorem nxM_le {P : Nat → Int} {k : Nat} : ∀ {i : Nat}, nxM P k i ≤ 9000000 ∧ ∀ j, j < i → P k < P j → nxM P k i ≤ P j ∨ 9000000 ≤ P j
  | 0 => ⟨Int.le_refl _, fun j h => absurd h (Nat.not_lt_zero _)⟩
  | i + 1 => by
    obtain ⟨h1, h2⟩ := nxM_le (P := P) (k := k) (i := i)
    have e : nxM P k (i + 1) = if P k < P i ∧ P i < nxM P k i then P i else nxM P k i := rfl
    rw [e]
    by_cases h : P k < P i ∧ P i < nxM P k i
    · rw [if_pos h]
      refine ⟨by omega, fun j hj hk => ?_⟩
      by_cases e2 : j = i
      · subst e2; exact Or.inl (Int.le_refl _)
      · rcases h2 j (by omega) hk with q | q
        · exact Or.inl (by omega)
        · exact Or.inr q
    · rw [if_neg h]
      refine ⟨h1, fun j hj hk => ?_⟩
      by_cases e2 : j = i
      · subst e2
        exact Or.inl (by omega)
      · exact h2 j (by omega) hk
theorem nxM_at {P : Nat → Int} {k : Nat} : ∀ {i : Nat}, nxM P k i = 9000000 ∨ ∃ j, j < i ∧ P k < P j ∧ nxM P k i = P j
  | 0 => Or.inl rfl
  | i + 1 => by
    have e : nxM P k (i + 1) = if P k < P i ∧ P i < nxM P k i then P i else nxM P k i := rfl
    rw [e]
    by_cases h : P k < P i ∧ P i < nxM P k i
    · rw [if_pos h]
      exact Or.inr ⟨i, Nat.lt_succ_self i, h.1, rfl⟩
    · rw [if_neg h]
      rcases nxM_at (P := P) (k := k) (i := i) with q | ⟨j, q1, q2, q3⟩
      · exact Or.inl q
      · exact Or.inr ⟨j, by omega, q2, q3⟩
theorem max_first {P : Nat → Int} {z : Int} : ∀ {n : Nat}, (∃ j, j < n ∧ P j ≤ z) → ∃ k, k < n ∧ P k ≤ z ∧ (∀ j, j < n → P j ≤ z → P j ≤ P k) ∧ ∀ j, j < k → P j ≠ P k
  | 0, h => by
    obtain ⟨j, h1, -⟩ := h
    exact absurd h1 (Nat.not_lt_zero _)
  | n + 1, h => by
    by_cases c : ∃ j, j < n ∧ P j ≤ z
    · obtain ⟨k, h1, h2, h3, h4⟩ := max_first c
      by_cases c2 : P n ≤ z ∧ P k < P n
      · refine ⟨n, Nat.lt_succ_self n, c2.1, fun j hj hz => ?_, fun j hj q => ?_⟩
        · by_cases e : j = n
          · rw [e]; exact Int.le_refl _
          · have := h3 j (by omega) hz; omega
        · have := h3 j hj (by omega)
          omega
      · refine ⟨k, by omega, h2, fun j hj hz => ?_, h4⟩
        by_cases e : j = n
        · subst e; omega
        · exact h3 j (by omega) hz
    · obtain ⟨j, h1, h2⟩ := h
      have e : j = n := by
        by_cases e : j = n
        · exact e
        · exact absurd ⟨j, by omega, h2⟩ c
      subst e
      refine ⟨j, h1, h2, fun i hi hz => ?_, fun i hi q => c ⟨i, hi, by omega⟩⟩
      by_cases e : i = j
      · rw [e]; exact Int.le_refl _
      · exact absurd ⟨i, by omega, hz⟩ c
theorem sumN_pos {n : Nat} {z : Int} {P : Nat → Int} : 0 < sumN n (fun j => if z < P j then 1 else 0) ↔ ∃ j, j < n ∧ z < P j := by
  have nn : ∀ m, 0 ≤ sumN m (fun j => if z < P j then (1 : Int) else 0) := fun m => sumN_nonneg (fun i _ => by split <;> omega)
  induction n with
  | zero => exact ⟨fun h => absurd h (Int.lt_irrefl 0), fun ⟨j, h, _⟩ => absurd h (Nat.not_lt_zero _)⟩
  | succ n ih =>
    have e : sumN (n + 1) (fun j => if z < P j then (1 : Int) else 0) = sumN n (fun j => if z < P j then (1 : Int) else 0) + (if z < P n then 1 else 0) := rfl
    rw [e]
    have := nn n
    by_cases c : z < P n
    · rw [if_pos c]
      exact ⟨fun _ => ⟨n, Nat.lt_succ_self n, c⟩, fun _ => by omega⟩
    · rw [if_neg c, Int.add_zero]
      refine ⟨fun h => ?_, fun ⟨j, h1, h2⟩ => ih.mpr ⟨j, ?_, h2⟩⟩
      · obtain ⟨j, h1, h2⟩ := ih.mp h
        exact ⟨j, by omega, h2⟩
      · by_cases e2 : j = n
        · rw [e2] at h2; exact absurd h2 c
        · omega
def mdT (rl : Int32) (mu : (Int → Int → Int) → Int) (P : Nat → Int) (n x k : Nat) : Int := if agN P k n = 0 ∧ nxM P k n < 9000000 ∧ insB rl mu (P k) = true then ovl x (P k) (nxM P k n) else 0
theorem md_cu {rl : Int32} {P T : Nat → Int} {n : Nat} {mu : (Int → Int → Int) → Int} (hb : ∀ j, j < n → bd (P j)) (hm : ∀ f : Int → Int → Int, sumN n (fun j => f (P j) (T j)) = mu f) (x : Nat) : sumN n (fun k => mdT rl mu P n x k) = cu rl mu x := by
  have e1 : sumN n (fun k => mdT rl mu P n x k) = sumN n (fun k => sumN 256 (fun v => if (agN P k n = 0 ∧ nxM P k n < 9000000 ∧ insB rl mu (P k) = true) ∧ P k ≤ 256 * (x : Int) + (v : Int) ∧ 256 * (x : Int) + (v : Int) < nxM P k n then 1 else 0)) := by
    refine sumN_congr (fun k _ => ?_)
    unfold mdT
    by_cases h : agN P k n = 0 ∧ nxM P k n < 9000000 ∧ insB rl mu (P k) = true
    · rw [if_pos h, ovl_sum]
      refine sumN_congr (fun v _ => ?_)
      by_cases h2 : P k ≤ 256 * (x : Int) + (v : Int) ∧ 256 * (x : Int) + (v : Int) < nxM P k n
      · rw [if_pos h2, if_pos ⟨h, h2⟩]
      · rw [if_neg h2, if_neg (fun q => h2 q.2)]
    · rw [if_neg h]
      exact (sumN_zero 256).symm.trans (sumN_congr (fun v _ => (if_neg (fun q => h q.1)).symm))
  rw [e1, sumN_swap]
  unfold cu
  refine sumN_congr (fun v _ => ?_)
  generalize 256 * (x : Int) + (v : Int) = z
  have hpos : 0 < mu (fun q _ => if z < q then 1 else 0) ↔ ∃ j, j < n ∧ z < P j := by
    rw [← hm]; exact sumN_pos
  rw [inB_ins]
  by_cases hA : ∃ j, j < n ∧ P j ≤ z
  · obtain ⟨k, h1, h2, h3, h4⟩ := max_first hA
    rw [sumN_one (k := k) h1 (fun j hj hne => if_neg (fun q => by
      obtain ⟨⟨q1, q2, -⟩, q3, q4⟩ := q
      have q5 := h3 j hj q3
      rw [agN_0] at q1
      rcases Int.lt_or_eq_of_le q5 with q6 | q6
      · rcases nxM_le.2 k h1 q6 with q7 | q7
        · omega
        · obtain ⟨-, b2⟩ := hb k h1; omega
      · rcases Nat.lt_or_gt_of_ne hne with q7 | q7
        · exact h4 j q7 q6
        · exact q1 k h1 q7 q6.symm))]
    have hag : agN P k n = 0 := agN_0.mpr (fun j _ hk => h4 j hk)
    have hin : insB rl mu (P k) = insB rl mu z := by
      have s1 : ∀ g : Int → Int, mu (fun q t => if q ≤ P k then g t else 0) = mu (fun q t => if q ≤ z then g t else 0) := fun g => by
        rw [← hm, ← hm]
        refine sumN_congr (fun j hj => ?_)
        by_cases c : P j ≤ z
        · rw [if_pos (h3 j hj c), if_pos c]
        · rw [if_neg (fun q => c (by omega)), if_neg c]
      unfold insB
      rw [s1 (fun t => t), s1 (fun _ => 1)]
    by_cases hB : ∃ j, j < n ∧ z < P j
    · have hd : decide (0 < mu (fun q _ => if z < q then 1 else 0)) = true := decide_eq_true (hpos.mpr hB)
      obtain ⟨i, i1, i2⟩ := hB
      have hlt : nxM P k n < 9000000 := by
        obtain ⟨-, b2⟩ := hb i i1
        rcases nxM_le.2 i i1 (show P k < P i by omega) with q | q <;> omega
      have hz : z < nxM P k n := by
        rcases nxM_at (P := P) (k := k) (i := n) with q | ⟨j, j1, j2, j3⟩
        · omega
        · rw [j3]
          rcases Int.lt_or_le z (P j) with q | q
          · exact q
          · have := h3 j j1 q; omega
      rw [hd, Bool.and_true, hin]
      unfold b1
      by_cases c : insB rl mu z = true
      · rw [if_pos ⟨⟨hag, hlt, c⟩, h2, hz⟩, if_pos c]
      · rw [if_neg (fun q => c q.1.2.2), if_neg c]
    · have hd : decide (0 < mu (fun q _ => if z < q then 1 else 0)) = false := decide_eq_false (fun q => hB (hpos.mp q))
      rw [hd, Bool.and_false, if_neg (fun q => by
        obtain ⟨⟨-, q2, -⟩, -, q4⟩ := q
        rcases nxM_at (P := P) (k := k) (i := n) with w | ⟨j, j1, j2, j3⟩
        · omega
        · exact hB ⟨j, j1, by omega⟩)]
      rfl
  · rw [sumN_congr (g := fun _ => 0) (fun k hk => if_neg (fun q => hA ⟨k, hk, q.2.1⟩)), sumN_zero]
    have s1 : ∀ g : Int → Int, mu (fun q t => if q ≤ z then g t else 0) = 0 := fun g => by
      rw [← hm]
      exact (sumN_congr (fun j hj => if_neg (fun q => hA ⟨j, hj, q⟩))).trans (sumN_zero n)
    have hd : insB rl mu z = false := by
      unfold insB
      rw [s1 (fun t => t), s1 (fun _ => 1)]
      split <;> decide
    rw [hd, Bool.false_and]; rfl
/-- a span's end in a point, as the reference counts it -/
theorem ovl_if (x : Nat) (a b : Int) : ovl x a b = if (if a < 256 * (x : Int) then 256 * (x : Int) else a) < (if b < 256 * (x : Int) + 256 then b else 256 * (x : Int) + 256) then (if b < 256 * (x : Int) + 256 then b else 256 * (x : Int) + 256) - (if a < 256 * (x : Int) then 256 * (x : Int) else a) else 0 := by
  unfold ovl
  generalize (if b < 256 * (x : Int) + 256 then b else 256 * (x : Int) + 256) = q
  generalize (if a < 256 * (x : Int) then 256 * (x : Int) else a) = w
  split <;> omega
theorem j_nI {k : Nat} (h : k < 2147483648) : (nI k).toInt64 = Int64.ofInt (k : Int) := by
  rw [nI_z]; exact z_l (by omega) (by omega)
theorem nxM_bd {P : Nat → Int} {k n : Nat} (h : ∀ j, j < n → bd (P j)) {i : Nat} (hi : i ≤ n) : (-1048704 ≤ nxM P k i ∧ nxM P k i ≤ 9000000) ∧ (nxM P k i < 9000000 → bd (nxM P k i)) := by
  rcases nxM_at (P := P) (k := k) (i := i) with q | ⟨j, q1, q2, q3⟩
  · exact ⟨⟨by omega, by omega⟩, fun w => absurd w (by omega)⟩
  · have hb := h j (by omega)
    rw [q3]
    exact ⟨⟨hb.1, by have := hb.2; omega⟩, fun _ => hb⟩
