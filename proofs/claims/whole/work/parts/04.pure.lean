/-! numbers, sums, crossings: the mathematics that both sides are held against -/
theorem j_lt {x y : Int64} : x < y ↔ x.toInt < y.toInt := Int64.lt_iff_toInt_lt
theorem j_le {x y : Int64} : x ≤ y ↔ x.toInt ≤ y.toInt := Int64.le_iff_toInt_le
theorem j_eq {x y : Int64} : x = y ↔ x.toInt = y.toInt := Int64.toInt_inj.symm
theorem i_lt {x y : Int32} : x < y ↔ x.toInt < y.toInt := Int32.lt_iff_toInt_lt
theorem i_le {x y : Int32} : x ≤ y ↔ x.toInt ≤ y.toInt := Int32.le_iff_toInt_le
theorem i_eq {x y : Int32} : x = y ↔ x.toInt = y.toInt := Int32.toInt_inj.symm
theorem z_t {z : Int} (h1 : -2147483648 ≤ z) (h2 : z < 2147483648) : (Int32.ofInt z).toInt = z := Int32.toInt_ofInt_of_le (by omega) (by omega)
theorem w_t {z : Int} (h1 : -9223372036854775808 ≤ z) (h2 : z < 9223372036854775808) : (Int64.ofInt z).toInt = z := Int64.toInt_ofInt_of_le (by omega) (by omega)
theorem z_l {z : Int} (h1 : -2147483648 ≤ z) (h2 : z < 2147483648) : (Int32.ofInt z).toInt64 = Int64.ofInt z := by
  rw [j_eq, Int32.toInt_toInt64, z_t h1 h2, w_t (by omega) (by omega)]
theorem nI_z (n : Nat) : nI n = Int32.ofInt (n : Int) := Int32.ofInt_eq_ofNat.symm
theorem z_lt {a b : Int} (h1 : -2147483648 ≤ a) (h2 : a < 2147483648) (h3 : -2147483648 ≤ b) (h4 : b < 2147483648) : Int32.ofInt a < Int32.ofInt b ↔ a < b := by
  rw [i_lt, z_t h1 h2, z_t h3 h4]
theorem z_le {a b : Int} (h1 : -2147483648 ≤ a) (h2 : a < 2147483648) (h3 : -2147483648 ≤ b) (h4 : b < 2147483648) : Int32.ofInt a ≤ Int32.ofInt b ↔ a ≤ b := by
  rw [i_le, z_t h1 h2, z_t h3 h4]
theorem z_add (a b : Int) : Int32.ofInt a + Int32.ofInt b = Int32.ofInt (a + b) := (Int32.ofInt_add a b).symm
theorem z_sub (a b : Int) : Int32.ofInt a - Int32.ofInt b = Int32.ofInt (a - b) := (Int32.ofInt_sub a b).symm
theorem z_mul (a b : Int) : Int32.ofInt a * Int32.ofInt b = Int32.ofInt (a * b) := (Int32.ofInt_mul a b).symm
theorem w_add (a b : Int) : Int64.ofInt a + Int64.ofInt b = Int64.ofInt (a + b) := (Int64.ofInt_add a b).symm
theorem w_sub (a b : Int) : Int64.ofInt a - Int64.ofInt b = Int64.ofInt (a - b) := (Int64.ofInt_sub a b).symm
theorem w_mul (a b : Int) : Int64.ofInt a * Int64.ofInt b = Int64.ofInt (a * b) := (Int64.ofInt_mul a b).symm
theorem lgc_cases (x y : Int64) : (x < y ∧ lg_cmp x y = -1) ∨ (x = y ∧ lg_cmp x y = 0) ∨ (y < x ∧ lg_cmp x y = 1) := by
  unfold lg_cmp
  by_cases h1 : x > y
  · rw [if_pos h1]; exact Or.inr (Or.inr ⟨h1, rfl⟩)
  · rw [if_neg h1]
    by_cases h2 : x = y
    · rw [if_pos h2]; exact Or.inr (Or.inl ⟨h2, rfl⟩)
    · rw [if_neg h2]
      refine Or.inl ⟨?_, rfl⟩
      rw [gt_iff_lt, j_lt] at h1
      rw [j_eq] at h2
      rw [j_lt]
      omega
theorem lgc_ge (x y : Int64) : 0 ≤ lg_cmp x y ↔ y ≤ x := by
  rcases lgc_cases x y with ⟨h, e⟩ | ⟨h, e⟩ | ⟨h, e⟩ <;> rw [e]
  · exact ⟨fun q => absurd q (by decide), fun q => by rw [j_le] at q; rw [j_lt] at h; omega⟩
  · exact ⟨fun _ => by rw [h, j_le]; omega, fun _ => by decide⟩
  · exact ⟨fun _ => by rw [j_le]; rw [j_lt] at h; omega, fun _ => by decide⟩
theorem lgc_le (x y : Int64) : lg_cmp x y ≤ 0 ↔ x ≤ y := by
  rcases lgc_cases x y with ⟨h, e⟩ | ⟨h, e⟩ | ⟨h, e⟩ <;> rw [e]
  · exact ⟨fun _ => by rw [j_le]; rw [j_lt] at h; omega, fun _ => by decide⟩
  · exact ⟨fun _ => by rw [h, j_le]; omega, fun _ => by decide⟩
  · exact ⟨fun q => absurd q (by decide), fun q => by rw [j_le] at q; rw [j_lt] at h; omega⟩
theorem lgc_lt (x y : Int64) : lg_cmp x y < 0 ↔ x < y := by
  rcases lgc_cases x y with ⟨h, e⟩ | ⟨h, e⟩ | ⟨h, e⟩ <;> rw [e]
  · exact ⟨fun _ => h, fun _ => by decide⟩
  · exact ⟨fun q => absurd q (by decide), fun q => by rw [h, j_lt] at q; omega⟩
  · exact ⟨fun q => absurd q (by decide), fun q => by rw [j_lt] at q; rw [j_lt] at h; omega⟩
theorem lgc_gt (x y : Int64) : 0 < lg_cmp x y ↔ y < x := by
  rcases lgc_cases x y with ⟨h, e⟩ | ⟨h, e⟩ | ⟨h, e⟩ <;> rw [e]
  · exact ⟨fun q => absurd q (by decide), fun q => by rw [j_lt] at q; rw [j_lt] at h; omega⟩
  · exact ⟨fun q => absurd q (by decide), fun q => by rw [h, j_lt] at q; omega⟩
  · exact ⟨fun _ => h, fun _ => by decide⟩
theorem lgc_eq (x y : Int64) : lg_cmp x y = 0 ↔ x = y := by
  rcases lgc_cases x y with ⟨h, e⟩ | ⟨h, e⟩ | ⟨h, e⟩ <;> rw [e]
  · exact ⟨fun q => absurd q (by decide), fun q => by rw [q, j_lt] at h; omega⟩
  · exact ⟨fun _ => h, fun _ => rfl⟩
  · exact ⟨fun q => absurd q (by decide), fun q => by rw [q, j_lt] at h; omega⟩
theorem xor_neg {a b : Int64} (hb : 0 ≤ b.toInt) : (a ^^^ b).toInt < 0 ↔ a.toInt < 0 := by
  have h1 : ∀ z : Int64, z.toInt < 0 ↔ z.toBitVec.msb = true := fun z => by
    rw [BitVec.msb_eq_toInt, decide_eq_true_iff]
    exact Iff.rfl
  rw [h1, h1, Int64.toBitVec_xor, BitVec.msb_xor]
  have h2 : b.toBitVec.msb = false := by
    cases hm : b.toBitVec.msb with
    | false => rfl
    | true => have := (h1 b).mpr hm; omega
  rw [h2]
  simp
/-- Math.floorDiv, as its bytecode says -/
def fdJ (a b : Int64) : Int64 := if (a ^^^ b) < 0 ∧ ¬ a / b * b = a then a / b - 1 else a / b
/-- the reference's own -/
def dnJ (a b : Int64) : Int64 := if a - a / b * b < 0 then a / b - 1 else a / b
theorem tdiv_floor {A B : Int} (hB : 0 < B) : A / B = if A < 0 ∧ ¬ A.tdiv B * B = A then A.tdiv B - 1 else A.tdiv B := by
  have e1 : A.tdiv B * B + A.tmod B = A := by
    have := Int.mul_tdiv_add_tmod A B
    rw [Int.mul_comm] at this
    exact this
  have t := tmod_bounds (a := A) hB
  have g1 := Int.ediv_mul_le A (b := B) (by omega)
  have g2 := Int.lt_ediv_add_one_mul_self A hB
  rcases Int.lt_or_le A 0 with h | h
  · have s0 : A.tmod B ≤ 0 := by
      have := Int.tmod_nonneg B (a := -A) (by omega)
      rw [Int.neg_tmod] at this
      omega
    by_cases hz : A.tdiv B * B = A
    · rw [if_neg (fun q => q.2 hz)]
      have h3 : A / B = A.tdiv B := by
        apply Int.ediv_eq_of_eq_mul_left (by omega) hz.symm
      exact h3
    · rw [if_pos ⟨h, hz⟩]
      have lo : A.tdiv B - 1 ≤ A / B := by
        rw [Int.le_ediv_iff_mul_le hB, Int.sub_mul]
        omega
      have hi : A / B < A.tdiv B := by
        rw [Int.ediv_lt_iff_lt_mul hB]
        omega
      omega
  · rw [if_neg (fun q => by omega), Int.tdiv_eq_ediv_of_nonneg h]
theorem dv_t {A B : Int} (hA1 : -4611686018427387904 ≤ A) (hA2 : A ≤ 4611686018427387904) (hB : 0 < B) (hB2 : B ≤ 2305843009213693952) : (Int64.ofInt A / Int64.ofInt B).toInt = A.tdiv B ∧ -4611686018427387904 ≤ A.tdiv B ∧ A.tdiv B ≤ 4611686018427387904 ∧ -4611686018427387904 - B ≤ A.tdiv B * B ∧ A.tdiv B * B ≤ 4611686018427387904 + B := by
  have e1 : A.tdiv B * B + A.tmod B = A := by
    have := Int.mul_tdiv_add_tmod A B
    rw [Int.mul_comm] at this
    exact this
  have t := tmod_bounds (a := A) hB
  have h0 : (Int64.ofInt A / Int64.ofInt B).toInt = A.tdiv B := by
    rw [Int64.toInt_div_of_ne_right _ _ (fun q => by
      have := congrArg Int64.toInt q
      rw [w_t (by omega) (by omega)] at this
      rw [show (-1 : Int64).toInt = -1 from by decide] at this
      omega), w_t (by omega) (by omega), w_t (by omega) (by omega)]
  have hb : (A.tdiv B).natAbs ≤ A.natAbs := by
    rw [Int.natAbs_tdiv]
    exact Nat.div_le_self _ _
  refine ⟨h0, by omega, by omega, by omega, by omega⟩
theorem dv_mul {A B : Int} (hA1 : -4611686018427387904 ≤ A) (hA2 : A ≤ 4611686018427387904) (hB : 0 < B) (hB2 : B ≤ 2305843009213693952) : Int64.ofInt A / Int64.ofInt B = Int64.ofInt (A.tdiv B) := by
  obtain ⟨h0, h1, h2, -, -⟩ := dv_t hA1 hA2 hB hB2
  rw [j_eq, h0, w_t (by omega) (by omega)]
theorem fdJ_eq {A B : Int} (hA1 : -4611686018427387904 ≤ A) (hA2 : A ≤ 4611686018427387904) (hB : 0 < B) (hB2 : B ≤ 2305843009213693952) : fdJ (Int64.ofInt A) (Int64.ofInt B) = Int64.ofInt (A / B) := by
  obtain ⟨h0, h1, h2, h3, h4⟩ := dv_t hA1 hA2 hB hB2
  unfold fdJ
  rw [dv_mul hA1 hA2 hB hB2, w_mul, tdiv_floor hB]
  have c1 : (Int64.ofInt A ^^^ Int64.ofInt B) < 0 ↔ A < 0 := by
    rw [j_lt, show (0 : Int64).toInt = 0 from by decide, xor_neg (by rw [w_t (by omega) (by omega)]; omega), w_t (by omega) (by omega)]
  have c2 : Int64.ofInt (A.tdiv B * B) = Int64.ofInt A ↔ A.tdiv B * B = A := by
    rw [j_eq, w_t (by omega) (by omega), w_t (by omega) (by omega)]
  by_cases hc : A < 0 ∧ ¬ A.tdiv B * B = A
  · rw [if_pos hc, if_pos ⟨c1.mpr hc.1, fun q => hc.2 (c2.mp q)⟩]
    exact w_sub _ 1
  · rw [if_neg hc, if_neg (fun q => hc ⟨c1.mp q.1, fun z => q.2 (c2.mpr z)⟩)]
theorem dnJ_eq {A B : Int} (hA1 : -4611686018427387904 ≤ A) (hA2 : A ≤ 4611686018427387904) (hB : 0 < B) (hB2 : B ≤ 2305843009213693952) : dnJ (Int64.ofInt A) (Int64.ofInt B) = Int64.ofInt (A / B) := by
  obtain ⟨h0, h1, h2, h3, h4⟩ := dv_t hA1 hA2 hB hB2
  have e1 : A.tdiv B * B + A.tmod B = A := by
    have := Int.mul_tdiv_add_tmod A B
    rw [Int.mul_comm] at this
    exact this
  have t := tmod_bounds (a := A) hB
  unfold dnJ
  rw [dv_mul hA1 hA2 hB hB2, w_mul, w_sub, tdiv_floor hB]
  have c1 : Int64.ofInt (A - A.tdiv B * B) < 0 ↔ A - A.tdiv B * B < 0 := by
    rw [j_lt, show (0 : Int64).toInt = 0 from by decide, w_t (by omega) (by omega)]
  have c2 : A - A.tdiv B * B < 0 ↔ A < 0 ∧ ¬ A.tdiv B * B = A := by
    constructor
    · intro q
      refine ⟨?_, by omega⟩
      rcases Int.lt_or_le A 0 with h | h
      · exact h
      · have := Int.tmod_nonneg B h
        omega
    · intro q
      have := Int.tmod_nonneg B (a := -A) (by omega)
      rw [Int.neg_tmod] at this
      omega
  by_cases hc : A < 0 ∧ ¬ A.tdiv B * B = A
  · rw [if_pos hc, if_pos (c1.mpr (c2.mpr hc))]
    exact w_sub _ 1
  · rw [if_neg hc, if_neg (fun q => hc (c2.mp (c1.mp q)))]
/-! sums -/
def sumN : Nat → (Nat → Int) → Int
  | 0, _ => 0
  | n + 1, g => sumN n g + g n
theorem sumN_congr {n : Nat} {f g : Nat → Int} (h : ∀ i, i < n → f i = g i) : sumN n f = sumN n g := by
  induction n with
  | zero => rfl
  | succ n ih =>
    show sumN n f + f n = sumN n g + g n
    rw [ih (fun i hi => h i (by omega)), h n (by omega)]
theorem sumN_add (n : Nat) (f g : Nat → Int) : sumN n (fun i => f i + g i) = sumN n f + sumN n g := by
  induction n with
  | zero => rfl
  | succ n ih =>
    show sumN n (fun i => f i + g i) + (f n + g n) = sumN n f + f n + (sumN n g + g n)
    rw [ih]; omega
theorem sumN_zero (n : Nat) : sumN n (fun _ => 0) = 0 := by
  induction n with
  | zero => rfl
  | succ n ih =>
    show sumN n (fun _ => 0) + 0 = 0
    rw [ih]; rfl
theorem sumN_swap (n m : Nat) (f : Nat → Nat → Int) : sumN n (fun i => sumN m (fun j => f i j)) = sumN m (fun j => sumN n (fun i => f i j)) := by
  induction n with
  | zero => exact (sumN_zero m).symm
  | succ n ih =>
    show sumN n (fun i => sumN m (fun j => f i j)) + sumN m (fun j => f n j) = sumN m (fun j => sumN n (fun i => f i j) + f n j)
    rw [ih, sumN_add]
theorem sumN_nonneg {n : Nat} {f : Nat → Int} (h : ∀ i, i < n → 0 ≤ f i) : 0 ≤ sumN n f := by
  induction n with
  | zero => exact Int.le_refl 0
  | succ n ih =>
    have h1 := ih (fun i hi => h i (by omega))
    have h2 := h n (by omega)
    show 0 ≤ sumN n f + f n
    omega
/-- a row with one more in the midst -/
theorem sumN_ins {n k : Nat} (hk : k ≤ n) {g g' : Nat → Int} {a : Int} (h1 : ∀ j, j < k → g' j = g j) (h2 : g' k = a) (h3 : ∀ j, k < j → j ≤ n → g' j = g (j - 1)) : sumN (n + 1) g' = sumN n g + a := by
  induction n with
  | zero =>
    have : k = 0 := by omega
    subst this
    show (0 : Int) + g' 0 = 0 + a
    rw [h2]
  | succ n ih =>
    by_cases hkn : k = n + 1
    · subst hkn
      show sumN (n + 1) g' + g' (n + 1) = sumN (n + 1) g + a
      rw [h2, sumN_congr h1]
    · have h4 := ih (by omega) (fun j hj hj2 => h3 j hj (by omega))
      show sumN (n + 1) g' + g' (n + 1) = sumN n g + g n + a
      rw [h4, h3 (n + 1) (by omega) (by omega), show n + 1 - 1 = n from rfl]
      omega
/-! crossings -/
def bd (z : Int) : Prop := -1048704 ≤ z ∧ z ≤ 1048704
def PathR (fx fy fb : Nat → Int32) (X Y : Nat → Int) (bg : Nat → Int32) (n : Nat) : Prop := n ≤ 100 ∧ ∀ k, k < n → fx k = Int32.ofInt (X k) ∧ fy k = Int32.ofInt (Y k) ∧ fb k = bg k ∧ bd (X k) ∧ bd (Y k)
/-- the place where an edge crosses a line -/
def plc (X Y : Nat → Int) (L : Int) (u d : Nat) : Int := X u + (L - Y u) * (X d - X u) / (Y d - Y u)
def crs (X Y : Nat → Int) (L : Int) (u d : Nat) (t : Int) (f : Int → Int → Int) : Int := if Y u ≤ L ∧ L < Y d then f (plc X Y L u d) t else 0
/-- where the subpath of a point begins: the last beginning up to k - 1 -/
def fiP (bg : Nat → Int32) : Nat → Nat
  | 0 => 0
  | k + 1 => if bg k = 0 then fiP bg k else k
theorem fiP_lt (bg : Nat → Int32) : ∀ k, fiP bg (k + 1) ≤ k
  | 0 => by
    show (if bg 0 = 0 then 0 else 0) ≤ 0
    split <;> omega
  | k + 1 => by
    show (if bg (k + 1) = 0 then fiP bg (k + 1) else k + 1) ≤ k + 1
    have := fiP_lt bg k
    split <;> omega
def nxP (bg : Nat → Int32) (n k : Nat) : Nat := if k + 1 = n ∨ ¬ bg (k + 1) = 0 then fiP bg (k + 1) else k + 1
theorem nxP_lt {bg : Nat → Int32} {n k : Nat} (h : k < n) : nxP bg n k < n := by
  unfold nxP
  have := fiP_lt bg k
  by_cases hc : k + 1 = n ∨ ¬ bg (k + 1) = 0
  · rw [if_pos hc]; omega
  · rw [if_neg hc]
    have : ¬ k + 1 = n := fun q => hc (Or.inl q)
    omega
def edg (X Y : Nat → Int) (bg : Nat → Int32) (n : Nat) (L : Int) (k : Nat) (f : Int → Int → Int) : Int := if Y k ≤ Y (nxP bg n k) then crs X Y L k (nxP bg n k) 1 f else crs X Y L (nxP bg n k) k (-1) f
/-- the crossings of a path with a line, as what sums over them are -/
def muL (X Y : Nat → Int) (bg : Nat → Int32) (n : Nat) (L : Int) (m : Nat) (f : Int → Int → Int) : Int := sumN m (fun k => edg X Y bg n L k f)
theorem plc_bd {X Y : Nat → Int} {L : Int} {u d : Nat} (h1 : Y u ≤ L) (h2 : L < Y d) (hu : bd (X u)) (hd : bd (X d)) : bd (plc X Y L u d) := by
  obtain ⟨a1, a2⟩ := hu
  obtain ⟨b1, b2⟩ := hd
  unfold plc bd
  generalize hn : L - Y u = n
  generalize hdd : Y d - Y u = w
  generalize hD : X d - X u = D
  have n0 : 0 ≤ n := by omega
  have nw : n < w := by omega
  have w0 : 0 < w := by omega
  rcases Int.le_total 0 D with h | h
  · have q1 : 0 ≤ n * D / w := by
      rw [Int.le_ediv_iff_mul_le w0, Int.zero_mul]
      exact Int.mul_nonneg n0 h
    have q2 : n * D / w < D + 1 := by
      rw [Int.ediv_lt_iff_lt_mul w0]
      have := Int.mul_le_mul_of_nonneg_right (show n ≤ w by omega) h
      rw [Int.add_mul, Int.mul_comm D w]
      omega
    omega
  · have q1 : D ≤ n * D / w := by
      rw [Int.le_ediv_iff_mul_le w0]
      have := Int.mul_le_mul_of_nonneg_right (show n ≤ w by omega) (show 0 ≤ -D by omega)
      rw [Int.mul_neg, Int.mul_neg] at this
      rw [Int.mul_comm D w]
      omega
    have q2 : n * D / w < 1 := by
      rw [Int.ediv_lt_iff_lt_mul w0]
      have := Int.mul_nonneg n0 (show 0 ≤ -D by omega)
      rw [Int.mul_neg] at this
      omega
    omega
/-- the class's crossings: in order from the left -/
def CR (zx zt : Nat → Int32) (n : Nat) (mu : (Int → Int → Int) → Int) : Prop := ∃ P T : Nat → Int, (∀ j, j < n → zx j = Int32.ofInt (P j) ∧ zt j = Int32.ofInt (T j) ∧ bd (P j)) ∧ (∀ i j, i < j → j < n → P i ≤ P j) ∧ ∀ f : Int → Int → Int, sumN n (fun j => f (P j) (T j)) = mu f
theorem CR_0 {zx zt : Nat → Int32} {mu : (Int → Int → Int) → Int} (h : ∀ f, mu f = 0) : CR zx zt 0 mu := ⟨fun _ => 0, fun _ => 0, fun _ h => absurd h (Nat.not_lt_zero _), fun _ _ _ h => absurd h (Nat.not_lt_zero _), fun f => (h f).symm⟩
theorem CR_congr {zx zt : Nat → Int32} {n : Nat} {mu nu : (Int → Int → Int) → Int} (h : CR zx zt n mu) (e : ∀ f, mu f = nu f) : CR zx zt n nu := by
  obtain ⟨P, T, h1, h2, h3⟩ := h
  exact ⟨P, T, h1, h2, fun f => (h3 f).trans (e f)⟩
theorem ins_fin {zx zt gx gt : Nat → Int32} {n k : Nat} {mu : (Int → Int → Int) → Int} {a t : Int} (h : CR zx zt n mu) (ha : bd a) (hk : k ≤ n) (g1 : ∀ j, j < k → gx j = zx j ∧ gt j = zt j) (g2 : ∀ j, k < j → j ≤ n → gx j = zx (j - 1) ∧ gt j = zt (j - 1)) (g3 : ∀ j, k ≤ j → j < n → Int32.ofInt a < zx j) (g4 : k = 0 ∨ zx (k - 1) ≤ Int32.ofInt a) :
    CR (upd gx k (Int32.ofInt a)) (upd gt k (Int32.ofInt t)) (n + 1) (fun f => mu f + f a t) := by
  obtain ⟨P, T, h1, h2, h3⟩ := h
  obtain ⟨a1, a2⟩ := ha
  have lo : ∀ j, j < k → P j ≤ a := by
    intro j hj
    rcases g4 with g4 | g4
    · omega
    · obtain ⟨e1, -, b1, b2⟩ := h1 (k - 1) (by omega)
      rw [e1, z_le (by omega) (by omega) (by omega) (by omega)] at g4
      rcases Nat.lt_or_ge j (k - 1) with q | q
      · have := h2 j (k - 1) q (by omega); omega
      · have : j = k - 1 := by omega
        rw [this]; exact g4
  have hi : ∀ j, k ≤ j → j < n → a < P j := by
    intro j hj hjn
    obtain ⟨e1, -, b1, b2⟩ := h1 j hjn
    have := g3 j hj hjn
    rw [e1, z_lt (by omega) (by omega) (by omega) (by omega)] at this
    exact this
  refine ⟨fun j => if j < k then P j else if j = k then a else P (j - 1), fun j => if j < k then T j else if j = k then t else T (j - 1), ?_, ?_, ?_⟩
  · intro j hj
    by_cases c1 : j < k
    · obtain ⟨e1, e2, b⟩ := h1 j (by omega)
      obtain ⟨q1, q2⟩ := g1 j c1
      have hne : j ≠ k := by omega
      simp only [if_pos c1, upd, if_neg hne]
      exact ⟨q1.trans e1, q2.trans e2, b⟩
    · by_cases c2 : j = k
      · subst c2
        simp only [upd, Nat.lt_irrefl, if_false, if_true]
        exact ⟨trivial, trivial, a1, a2⟩
      · obtain ⟨e1, e2, b⟩ := h1 (j - 1) (by omega)
        obtain ⟨q1, q2⟩ := g2 j (by omega) (by omega)
        simp only [if_neg c1, upd, if_neg c2]
        exact ⟨q1.trans e1, q2.trans e2, b⟩
  · intro i j hij hj
    dsimp only
    by_cases c1 : j < k
    · rw [if_pos c1, if_pos (show i < k by omega)]
      exact h2 i j hij (by omega)
    · rw [if_neg c1]
      by_cases c2 : j = k
      · rw [if_pos c2, if_pos (show i < k by omega)]
        exact lo i (by omega)
      · rw [if_neg c2]
        by_cases c3 : i < k
        · rw [if_pos c3]
          have h5 := lo i c3
          have h6 := hi (j - 1) (by omega) (by omega)
          omega
        · rw [if_neg c3]
          by_cases c4 : i = k
          · rw [if_pos c4]
            have := hi (j - 1) (by omega) (by omega)
            omega
          · rw [if_neg c4]
            exact h2 (i - 1) (j - 1) (by omega) (by omega)
  · intro f
    have := sumN_ins hk (g := fun j => f (P j) (T j)) (g' := fun j => f (if j < k then P j else if j = k then a else P (j - 1)) (if j < k then T j else if j = k then t else T (j - 1))) (a := f a t) (fun j hj => by simp only [if_pos hj]) (by simp only [Nat.lt_irrefl, if_false, if_true]) (fun j hj hj2 => by
      have c1 : ¬ j < k := by omega
      have c2 : ¬ j = k := by omega
      simp only [if_neg c1, if_neg c2])
    rw [this, h3]
theorem mul_bd {a b : Int} (h1 : -4000000 ≤ a) (h2 : a ≤ 4000000) (h3 : -4000000 ≤ b) (h4 : b ≤ 4000000) : -16000000000000 ≤ a * b ∧ a * b ≤ 16000000000000 := by
  have h := Nat.mul_le_mul (show a.natAbs ≤ 4000000 by omega) (show b.natAbs ≤ 4000000 by omega)
  rw [← Int.natAbs_mul] at h
  omega
