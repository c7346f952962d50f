/-! units that a span covers; what is inside -/
def ovl (x : Nat) (a b : Int) : Int := (((if b < 256 * (x : Int) + 256 then b else 256 * (x : Int) + 256) - (if a < 256 * (x : Int) then 256 * (x : Int) else a)).toNat : Int)
theorem ovl_left {x : Nat} {a b : Int} (h : 256 * (x : Int) + 256 ≤ a) : ovl x a b = 0 := by
  unfold ovl
  split <;> split <;> omega
theorem ovl_right {x : Nat} {a b : Int} (h : b ≤ 256 * (x : Int)) : ovl x a b = 0 := by
  unfold ovl
  split <;> split <;> omega
theorem max0_n {a : Int} (h : bd a) : (if nI 0 < Int32.ofInt a then Int32.ofInt a else nI 0) = nI a.toNat := by
  obtain ⟨h1, h2⟩ := h
  have e := z_lt (a := ((0 : Nat) : Int)) (b := a) (by omega) (by omega) (by omega) (by omega)
  rw [nI_z a.toNat, nI_z 0]
  by_cases c : 0 < a
  · rw [if_pos (e.mpr (by omega)), show ((a.toNat : Nat) : Int) = a by omega]
  · rw [if_neg (fun q => c (by have := e.mp q; omega)), show ((a.toNat : Nat) : Int) = ((0 : Nat) : Int) by omega]
theorem minw_n {b : Int} {w : Nat} (h : bd b) (hw : w ≤ 100000) : (if Int32.ofInt b < nI w then Int32.ofInt b else nI w) = Int32.ofInt (if b < (w : Int) then b else (w : Int)) := by
  obtain ⟨h1, h2⟩ := h
  have e := z_lt (a := b) (b := (w : Int)) (by omega) (by omega) (by omega) (by omega)
  rw [nI_z w]
  by_cases c : b < (w : Int)
  · rw [if_pos (e.mpr c), if_pos c]
  · rw [if_neg (fun q => c (e.mp q)), if_neg c]
set_option maxRecDepth 100000 in
theorem span_val {a b rt : Int} {lf wd k : Nat} (ha : bd a) (hb : bd b) (hlf : lf = a.toNat) (hrt : rt = if b < ((wd * 256 : Nat) : Int) then b else ((wd * 256 : Nat) : Int)) (hab : a ≤ b) (hk : k < wd) (hw : wd ≤ 48) (h1 : lf / 256 ≤ k) (h2 : ((k * 256 : Nat) : Int) < rt) :
    (if nI (k * 256 + 256) < Int32.ofInt rt then nI (k * 256 + 256) else Int32.ofInt rt) - (if nI lf < nI (k * 256) then nI (k * 256) else nI lf) = Int32.ofInt (ovl k a b) := by
  obtain ⟨a1, a2⟩ := ha
  obtain ⟨b1, b2⟩ := hb
  have hr1 : rt ≤ 12288 := by rw [hrt]; split <;> omega
  have hr2 : rt ≤ b := by rw [hrt]; split <;> omega
  have hr3 : rt = b ∨ (rt = ((wd * 256 : Nat) : Int) ∧ ((wd * 256 : Nat) : Int) ≤ b) := by rw [hrt]; split <;> omega
  have f1 := z_lt (a := ((k * 256 + 256 : Nat) : Int)) (b := rt) (by omega) (by omega) (by omega) (by omega)
  have f2 := z_lt (a := (lf : Int)) (b := ((k * 256 : Nat) : Int)) (by omega) (by omega) (by omega) (by omega)
  have g1 : (if nI (k * 256 + 256) < Int32.ofInt rt then nI (k * 256 + 256) else Int32.ofInt rt) = Int32.ofInt (if ((k * 256 + 256 : Nat) : Int) < rt then ((k * 256 + 256 : Nat) : Int) else rt) := by
    rw [nI_z (k * 256 + 256)]
    by_cases c : ((k * 256 + 256 : Nat) : Int) < rt
    · rw [if_pos (f1.mpr c), if_pos c]
    · rw [if_neg (fun q => c (f1.mp q)), if_neg c]
  have g2 : (if nI lf < nI (k * 256) then nI (k * 256) else nI lf) = Int32.ofInt (if (lf : Int) < ((k * 256 : Nat) : Int) then ((k * 256 : Nat) : Int) else (lf : Int)) := by
    rw [nI_z lf, nI_z (k * 256)]
    by_cases c : (lf : Int) < ((k * 256 : Nat) : Int)
    · rw [if_pos (f2.mpr c), if_pos c]
    · rw [if_neg (fun q => c (f2.mp q)), if_neg c]
  rw [g1, g2]
  unfold ovl
  by_cases c1 : ((k * 256 + 256 : Nat) : Int) < rt
  · rw [if_pos c1]
    by_cases c2 : (lf : Int) < ((k * 256 : Nat) : Int)
    · rw [if_pos c2, z_sub, if_neg (by omega), if_pos (by omega)]
      exact congrArg _ (by omega)
    · rw [if_neg c2, z_sub, if_neg (by omega)]
      by_cases c3 : a < 256 * (k : Int)
      · rw [if_pos c3]; exact congrArg _ (by omega)
      · rw [if_neg c3]; exact congrArg _ (by omega)
  · rw [if_neg c1]
    have e1 : (if b < 256 * (k : Int) + 256 then b else 256 * (k : Int) + 256) = rt := by
      split <;> omega
    rw [e1]
    by_cases c2 : (lf : Int) < ((k * 256 : Nat) : Int)
    · rw [if_pos c2, z_sub, if_pos (by omega)]
      exact congrArg _ (by omega)
    · rw [if_neg c2, z_sub]
      by_cases c3 : a < 256 * (k : Int)
      · rw [if_pos c3]; exact congrArg _ (by omega)
      · rw [if_neg c3]; exact congrArg _ (by omega)
def b1 (q : Bool) : Int := if q = true then 1 else 0
/-- a span covers as many units as lie in it -/
theorem ovl_sum_aux (c a b : Int) : ∀ m : Nat, sumN m (fun v => if a ≤ c + (v : Int) ∧ c + (v : Int) < b then 1 else 0) = (((if b < c + m then b else c + m) - (if a < c then c else a)).toNat : Int)
  | 0 => by
    show (0 : Int) = _
    split <;> split <;> omega
  | m + 1 => by
    show sumN m (fun v => if a ≤ c + (v : Int) ∧ c + (v : Int) < b then 1 else 0) + (if a ≤ c + (m : Int) ∧ c + (m : Int) < b then 1 else 0) = _
    rw [ovl_sum_aux c a b m]
    by_cases h1 : a ≤ c + (m : Int) ∧ c + (m : Int) < b
    · rw [if_pos h1, if_neg (show ¬ b < c + (m : Int) by omega)]
      split <;> split <;> omega
    · rw [if_neg h1]
      split <;> split <;> split <;> omega
theorem ovl_sum (x : Nat) (a b : Int) : ovl x a b = sumN 256 (fun v => if a ≤ 256 * (x : Int) + (v : Int) ∧ 256 * (x : Int) + (v : Int) < b then 1 else 0) := (ovl_sum_aux (256 * (x : Int)) a b 256).symm
/-- whether it is inside at a unit's place, by a rule, and something lies behind -/
def inB (rl : Int32) (mu : (Int → Int → Int) → Int) (z : Int) : Bool := (if rl = 0 then decide (¬ Int32.ofInt (mu (fun q t => if q ≤ z then t else 0)) = 0) else decide (mu (fun q _ => if q ≤ z then 1 else 0) % 2 = 1)) && decide (0 < mu (fun q _ => if z < q then 1 else 0))
/-- how many units of a point are inside -/
def cu (rl : Int32) (mu : (Int → Int → Int) → Int) (x : Nat) : Int := sumN 256 (fun v => b1 (inB rl mu (256 * (x : Int) + (v : Int))))
theorem inB_congr {rl : Int32} {mu nu : (Int → Int → Int) → Int} (h : ∀ f, mu f = nu f) (z : Int) : inB rl mu z = inB rl nu z := by
  unfold inB
  rw [h, h, h]
theorem cu_congr {rl : Int32} {mu nu : (Int → Int → Int) → Int} (h : ∀ f, mu f = nu f) (x : Nat) : cu rl mu x = cu rl nu x := by
  unfold cu
  exact sumN_congr (fun v _ => by rw [inB_congr h])
theorem sumN_cut {n c : Nat} {g h : Nat → Int} (hc : c ≤ n) (h1 : ∀ j, j < c → g j = h j) (h2 : ∀ j, c ≤ j → j < n → g j = 0) : sumN n g = sumN c h := by
  induction n with
  | zero =>
    have : c = 0 := by omega
    subst this; rfl
  | succ n ih =>
    by_cases e : c = n + 1
    · subst e; exact sumN_congr h1
    · show sumN n g + g n = sumN c h
      rw [ih (by omega) (fun j a b => h2 j a (by omega)), h2 n (by omega) (by omega), Int.add_zero]
theorem sumN_one {n k : Nat} {g : Nat → Int} (hk : k < n) (h : ∀ j, j < n → j ≠ k → g j = 0) : sumN n g = g k := by
  rw [sumN_cut (c := k + 1) (h := g) (by omega) (fun _ _ => rfl) (fun j a b => h j b (by omega))]
  show sumN k g + g k = g k
  rw [sumN_congr (g := fun _ => 0) (fun j hj => h j (by omega) (by omega)), sumN_zero, Int.zero_add]
theorem sumN_ones (n : Nat) : sumN n (fun _ => 1) = n := by
  induction n with
  | zero => rfl
  | succ n ih =>
    show sumN n (fun _ => 1) + 1 = ((n + 1 : Nat) : Int)
    rw [ih]; omega
def spB (rl : Int32) (T : Nat → Int) (k : Nat) : Bool := if rl = 0 then decide (¬ Int32.ofInt (sumN (k + 1) T) = 0) else decide (k % 2 = 0)
def subA (rl : Int32) (P T : Nat → Int) (x m : Nat) : Int := sumN m (fun k => if spB rl T k = true then ovl x (P k) (P (k + 1)) else 0)
theorem sorted_cut {P : Nat → Int} {n : Nat} (hs : ∀ i j, i < j → j < n → P i ≤ P j) (z : Int) : ∃ c, c ≤ n ∧ (∀ j, j < c → P j ≤ z) ∧ ∀ j, c ≤ j → j < n → z < P j := by
  induction n with
  | zero => exact ⟨0, Nat.le_refl 0, fun j h => absurd h (Nat.not_lt_zero _), fun j _ h => absurd h (Nat.not_lt_zero _)⟩
  | succ n ih =>
    obtain ⟨c, h1, h2, h3⟩ := ih (fun i j a b => hs i j a (by omega))
    by_cases hz : P n ≤ z
    · refine ⟨n + 1, Nat.le_refl _, fun j hj => ?_, fun j a b => by omega⟩
      by_cases e : j = n
      · rw [e]; exact hz
      · exact Int.le_trans (hs j n (by omega) (by omega)) hz
    · refine ⟨c, by omega, h2, fun j a b => ?_⟩
      by_cases e : j = n
      · rw [e]; omega
      · exact h3 j a (by omega)
theorem subA_cu {rl : Int32} {P T : Nat → Int} {n : Nat} {mu : (Int → Int → Int) → Int} (hs : ∀ i j, i < j → j < n → P i ≤ P j) (hm : ∀ f : Int → Int → Int, sumN n (fun j => f (P j) (T j)) = mu f) (x : Nat) : subA rl P T x (n - 1) = cu rl mu x := by
  have e1 : subA rl P T x (n - 1) = sumN (n - 1) (fun k => sumN 256 (fun v => if spB rl T k = true ∧ P k ≤ 256 * (x : Int) + (v : Int) ∧ 256 * (x : Int) + (v : Int) < P (k + 1) then 1 else 0)) := by
    unfold subA
    refine sumN_congr (fun k _ => ?_)
    by_cases h : spB rl T k = true
    · rw [if_pos h, ovl_sum]
      refine sumN_congr (fun v _ => ?_)
      by_cases h2 : P k ≤ 256 * (x : Int) + (v : Int) ∧ 256 * (x : Int) + (v : Int) < P (k + 1)
      · rw [if_pos h2, if_pos ⟨h, h2⟩]
      · rw [if_neg h2, if_neg (fun q => h2 q.2)]
    · rw [if_neg h]
      exact (sumN_zero 256).symm.trans (sumN_congr (fun v _ => (if_neg (fun q => h q.1)).symm))
  rw [e1, sumN_swap]
  unfold cu
  refine sumN_congr (fun v _ => ?_)
  generalize 256 * (x : Int) + (v : Int) = z
  rw [← inB_congr hm z]
  obtain ⟨c, hc, lo, hi⟩ := sorted_cut hs z
  have s1 : ∀ h : Nat → Int, sumN n (fun j => if P j ≤ z then h j else 0) = sumN c h := fun h =>
    sumN_cut hc (fun j hj => if_pos (lo j hj)) (fun j a b => if_neg (by have := hi j a b; omega))
  have s2 : sumN n (fun j => if z < P j then (1 : Int) else 0) = n - c := by
    have h1 : sumN n (fun j => (if P j ≤ z then (1 : Int) else 0) + (if z < P j then (1 : Int) else 0)) = sumN n (fun _ => 1) := by
      refine sumN_congr (fun j _ => ?_)
      by_cases h : P j ≤ z
      · rw [if_pos h, if_neg (by omega)]; rfl
      · rw [if_neg h, if_pos (by omega)]; rfl
    rw [sumN_add, s1 (fun _ => 1), sumN_ones, sumN_ones] at h1
    omega
  unfold inB
  dsimp only
  have g1 := s1 T
  have g2 : sumN n (fun j => if P j ≤ z then (1 : Int) else 0) = c := (s1 (fun _ => 1)).trans (sumN_ones c)
  simp only [g1, g2, s2]
  rcases Nat.eq_zero_or_pos c with c0 | c0
  · rw [sumN_congr (g := fun _ => 0) (fun k hk => if_neg (fun q => by have := hi k (by omega) (by omega); omega)), sumN_zero, c0]
    have hd : (if rl = 0 then decide (¬ Int32.ofInt (sumN 0 T) = 0) else decide (((0 : Nat) : Int) % 2 = 1)) = false := by
      by_cases h : rl = 0
      · rw [if_pos h]
        show decide (¬ Int32.ofInt 0 = 0) = false
        decide
      · rw [if_neg h]; decide
    rw [hd, Bool.false_and]; rfl
  · by_cases cn : c = n
    · rw [sumN_congr (g := fun _ => 0) (fun k hk => if_neg (fun q => by have := lo (k + 1) (by omega); omega)), sumN_zero]
      have hd : decide (0 < (n : Int) - (c : Int)) = false := decide_eq_false (by omega)
      rw [hd, Bool.and_false]; rfl
    · have hd : decide (0 < (n : Int) - (c : Int)) = true := decide_eq_true (by omega)
      rw [hd, Bool.and_true]
      rw [sumN_one (k := c - 1) (by omega) (fun j hj hne => if_neg (fun q => by
        rcases Nat.lt_or_ge j (c - 1) with g | g
        · have := lo (j + 1) (by omega); omega
        · have := hi j (by omega) (by omega); omega))]
      have e2 : spB rl T (c - 1) = (if rl = 0 then decide (¬ Int32.ofInt (sumN c T) = 0) else decide ((c : Int) % 2 = 1)) := by
        unfold spB
        rw [show c - 1 + 1 = c by omega]
        by_cases h : rl = 0
        · rw [if_pos h, if_pos h]
        · rw [if_neg h, if_neg h]
          exact decide_eq_decide.mpr (by omega)
      rw [← e2]
      have p1 := lo (c - 1) (by omega)
      have p2 := hi (c - 1 + 1) (by omega) (by omega)
      unfold b1
      by_cases h : spB rl T (c - 1) = true
      · rw [if_pos h, if_pos ⟨h, p1, p2⟩]
      · rw [if_neg h, if_neg (fun q => h q.1)]
/-- a point's units of a whole row: sixteen sub-rows -/
def cov (rl : Int32) (X Y : Nat → Int) (bg : Nat → Int32) (n row m x : Nat) : Int := sumN m (fun j => cu rl (fun f => muL X Y bg n (16 * (16 * (row : Int) + (j : Int)) + 8) n f) x)
/-- what is made of a point's units: its cover -/
def cvv (q : Int32) : Int32 := (q * nI 255 + nI 2048) / nI 4096
def mulv (a b : Int32) : Int32 := (a * b + nI 127) / nI 255
def bldv (o v c : Int32) : Int32 := (o * (nI 255 - c) + v * c + nI 127) / nI 255
