/-! small rows for the reference's fills -/
theorem r01 {r : Int32} (h1 : ¬ r < 0) (h2 : r ≤ nI 1) : r = 0 ∨ r = 1 := by
  rw [i_lt, show (0 : Int32).toInt = 0 from by decide] at h1
  rw [i_le, nI_toInt (by omega)] at h2
  rw [i_eq, i_eq, show (0 : Int32).toInt = 0 from by decide, show (1 : Int32).toInt = 1 from by decide]
  omega
theorem upd_self (f : Nat → Int32) (k : Nat) : upd f k (f k) = f := funext fun j => by
  unfold upd
  by_cases h : j = k
  · rw [if_pos h, h]
  · rw [if_neg h]
theorem ni0 {c : Int32} (h : c ≤ 0) : ¬ 0 < c := fun z => by rw [i_le] at h; rw [i_lt] at z; omega
theorem ni1 {c : Int32} (h : ¬ c ≤ 0) : 0 < c := by rw [i_le] at h; rw [i_lt]; omega
theorem ppt_step {ix : Nat → Nat} {ov : Nat → Int32} {pl k : Nat} {v c w : Int32} {f g : Nat → Int32} (hg : g = ppt ix ov pl v c f k) (hw : w = if k = pl then bldv (g (ix k)) v c else if ov k = 0 then bldv (g (ix k)) (nI 0) c else g (ix k)) : upd g (ix k) w = ppt ix ov pl v c f (k + 1) := by
  show upd g (ix k) w = if k = pl then upd (ppt ix ov pl v c f k) (ix k) (bldv (ppt ix ov pl v c f k (ix k)) v c) else if ov k = 0 then upd (ppt ix ov pl v c f k) (ix k) (bldv (ppt ix ov pl v c f k (ix k)) (nI 0) c) else ppt ix ov pl v c f k
  rw [← hg, hw]
  by_cases h : k = pl
  · rw [if_pos h, if_pos h]
  · rw [if_neg h, if_neg h]
    by_cases h2 : ov k = 0
    · rw [if_pos h2, if_pos h2]
    · rw [if_neg h2, if_neg h2, upd_self]
theorem prow_pos {cv : Nat → Int32} {ix : Nat → Nat → Nat} {ov : Nat → Int32} {pl pn : Nat} {v : Int32} {f : Nat → Int32} {x : Nat} (h : 0 < cv x) : prow cv ix ov pl pn v f (x + 1) = (ppt (ix x) ov pl v (cv x) (prow cv ix ov pl pn v f x).1 pn, (prow cv ix ov pl pn v f x).2 + 1) := if_pos h
theorem prow_neg {cv : Nat → Int32} {ix : Nat → Nat → Nat} {ov : Nat → Int32} {pl pn : Nat} {v : Int32} {f : Nat → Int32} {x : Nat} (h : ¬ 0 < cv x) : prow cv ix ov pl pn v f (x + 1) = prow cv ix ov pl pn v f x := if_neg h
/-- a band's ends, as the reference says them -/
theorem band_lo {a : Int32} {h : Nat} : (if a.toInt < 0 then 0 else if (h : Int) < a.toInt then h else a.toInt.toNat) = cutN a h := by
  unfold cutN
  split
  · rfl
  · split
    · rw [if_neg (by omega)]
    · by_cases c : a.toInt < (h : Int)
      · rw [if_pos c]
      · rw [if_neg c]; omega
