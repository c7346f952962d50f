/-! the reference's own rows against the same mathematics -/
def PathM (gx gy : Nat → Int64) (gb : Nat → Int32) (X Y : Nat → Int) (bg : Nat → Int32) (n : Nat) : Prop := n ≤ 100 ∧ ∀ k, k < n → gx k = Int64.ofInt (X k) ∧ gy k = Int64.ofInt (Y k) ∧ gb k = bg k ∧ bd (X k) ∧ bd (Y k)
theorem PathM_add {gx gy : Nat → Int64} {gb : Nat → Int32} {X Y : Nat → Int} {bg : Nat → Int32} {n : Nat} (h : PathM gx gy gb X Y bg n) (hn : n < 100) {vx vy : Int} (b : Int32) (h1 : bd vx) (h2 : bd vy) : PathM (vp_updL gx n (Int64.ofInt vx)) (vp_updL gy n (Int64.ofInt vy)) (upd gb n b) (add1 X n vx) (add1 Y n vy) (upd bg n b) (n + 1) := by
  refine ⟨by omega, fun k hk => ?_⟩
  unfold upd add1 vp_updL
  by_cases c : k = n
  · rw [if_pos c, if_pos c, if_pos c, if_pos c, if_pos c, if_pos c]
    exact ⟨rfl, rfl, rfl, h1, h2⟩
  · rw [if_neg c, if_neg c, if_neg c, if_neg c, if_neg c, if_neg c]
    exact h.2 k (by omega)
theorem PathM_0 {gx gy : Nat → Int64} {gb : Nat → Int32} {X Y : Nat → Int} {bg : Nat → Int32} : PathM gx gy gb X Y bg 0 := ⟨Nat.zero_le _, fun k h => absurd h (Nat.not_lt_zero k)⟩
theorem PathM_add4 {gx gy : Nat → Int64} {gb : Nat → Int32} {X Y : Nat → Int} {bg : Nat → Int32} {n : Nat} (h : PathM gx gy gb X Y bg n) (hn : n + 4 ≤ 100) {p0 p1 p2 p3 q0 q1 q2 q3 : Int} (a0 : bd p0) (a1 : bd p1) (a2 : bd p2) (a3 : bd p3) (c0 : bd q0) (c1 : bd q1) (c2 : bd q2) (c3 : bd q3) :
    PathM (vp_updL (vp_updL (vp_updL (vp_updL gx n (Int64.ofInt p0)) (n + 1) (Int64.ofInt p1)) (n + 1 + 1) (Int64.ofInt p2)) (n + 1 + 1 + 1) (Int64.ofInt p3)) (vp_updL (vp_updL (vp_updL (vp_updL gy n (Int64.ofInt q0)) (n + 1) (Int64.ofInt q1)) (n + 1 + 1) (Int64.ofInt q2)) (n + 1 + 1 + 1) (Int64.ofInt q3)) (upd (upd (upd (upd gb n 1) (n + 1) 0) (n + 1 + 1) 0) (n + 1 + 1 + 1) 0) (hrP X n p0 p1 p2 p3) (hrP Y n q0 q1 q2 q3) (hrB bg n) (n + 1 + 1 + 1 + 1) :=
  PathM_add (PathM_add (PathM_add (PathM_add h (by omega) 1 a0 c0) (by omega) 0 a1 c1) (by omega) 0 a2 c2) (by omega) 0 a3 c3
theorem absJ {z : Int} (h1 : -9223372036854775808 < z) (h2 : z < 9223372036854775808) : (0 ≤ lg_cmp (Int64.ofInt z) 0 → Int64.ofInt z = Int64.ofInt (z.natAbs : Int)) ∧ (¬ 0 ≤ lg_cmp (Int64.ofInt z) 0 → -Int64.ofInt z = Int64.ofInt (z.natAbs : Int)) := by
  have e : 0 ≤ lg_cmp (Int64.ofInt z) 0 ↔ 0 ≤ z := by
    rw [lgc_ge, j_le, show (0 : Int64).toInt = 0 from by decide, w_t (by omega) h2]
  refine ⟨fun q => ?_, fun q => ?_⟩
  · have := e.mp q
    exact congrArg _ (by omega)
  · have h3 : ¬ 0 ≤ z := fun w => q (e.mpr w)
    rw [← Int64.ofInt_neg]
    exact congrArg _ (by omega)
/-- the reference's crossings, in the order of the edges -/
def CM (gp : Nat → Int64) (gt : Nat → Int32) (n : Nat) (mu : (Int → Int → Int) → Int) : Prop := ∃ P T : Nat → Int, (∀ j, j < n → gp j = Int64.ofInt (P j) ∧ gt j = Int32.ofInt (T j) ∧ bd (P j)) ∧ ∀ f : Int → Int → Int, sumN n (fun j => f (P j) (T j)) = mu f
theorem CM_0 {gp : Nat → Int64} {gt : Nat → Int32} {mu : (Int → Int → Int) → Int} (h : ∀ f, mu f = 0) : CM gp gt 0 mu := ⟨fun _ => 0, fun _ => 0, fun _ h => absurd h (Nat.not_lt_zero _), fun f => (h f).symm⟩
theorem CM_congr {gp : Nat → Int64} {gt : Nat → Int32} {n : Nat} {mu nu : (Int → Int → Int) → Int} (h : CM gp gt n mu) (e : ∀ f, mu f = nu f) : CM gp gt n nu := by
  obtain ⟨P, T, h1, h3⟩ := h
  exact ⟨P, T, h1, fun f => (h3 f).trans (e f)⟩
theorem CM_add {gp : Nat → Int64} {gt : Nat → Int32} {n : Nat} {mu : (Int → Int → Int) → Int} (h : CM gp gt n mu) {a : Int} (t : Int) (ha : bd a) : CM (vp_updL gp n (Int64.ofInt a)) (upd gt n (Int32.ofInt t)) (n + 1) (fun f => mu f + f a t) := by
  obtain ⟨P, T, h1, h3⟩ := h
  refine ⟨fun j => if j = n then a else P j, fun j => if j = n then t else T j, fun j hj => ?_, fun f => ?_⟩
  · unfold upd vp_updL
    dsimp only
    by_cases c : j = n
    · rw [if_pos c, if_pos c, if_pos c, if_pos c]; exact ⟨rfl, rfl, ha⟩
    · rw [if_neg c, if_neg c, if_neg c, if_neg c]; exact h1 j (by omega)
  · show sumN n (fun j => f (if j = n then a else P j) (if j = n then t else T j)) + f (if n = n then a else P n) (if n = n then t else T n) = mu f + f a t
    rw [if_pos rfl, if_pos rfl, sumN_congr (g := fun j => f (P j) (T j)) (fun j hj => by rw [if_neg (by omega), if_neg (by omega)]), h3]
def crsM (X Y : Nat → Int) (L : Int) (a b : Nat) (f : Int → Int → Int) : Int := if Y a ≤ Y b then crs X Y L a b 1 f else crs X Y L b a (-1) f
