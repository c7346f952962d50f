abbrev rm_X5_fill_rule : Room := { frames := 0, cells := 0, slots := 0, locals := 0 }
set_option maxHeartbeats 4000000 in
set_option maxRecDepth 100000 in
theorem c_X5_fill_rule (l : Launch) (D : va_G) (cI cZ cB cJ : ClassId) (sz : Nat) (m0 : Nat) (m1 : Nat) (m2 : Nat) (m3 : Nat) (m4 : Nat) (m5 : Nat) (m6 : Nat) (m7 : Nat) (m8 : Nat) (m9 : Nat) (ma : Nat) (th : Int32) (wd : Nat) (ht : Nat) (pn : Nat) (cn : Nat) (fl : Int32) (bf : Nat) (bt : Nat) (xn : Nat) (ip : Int32) (ps : Nat) (rl : Int32) (pl : Int32) (vv : Int32) (hrl : ¬ (rl = 0 ∨ rl = 1)) : Met l yX5_fill wsX5_fill rm_X5_fill_rule (va_Pc [.ref m0, .int rl, .int pl, .int vv] (PC D (qT cI cZ cB cJ) [(m0, .inr (5, [.int th, .int (nI wd), .int (nI ht), .int (nI pn), .ref m1, .ref m2, .ref m3, .int (nI cn), .ref m4, .ref m5, .ref m6, .int fl, .int (nI bf), .int (nI bt), .int (nI xn), .ref m7, .ref m8, .ref m9, .int ip, .int (nI ps), .ref ma]))] sz)) (va_Qi (fun (r : Int32) (u : Unit) => True) (fun (u : Unit) => PO D (qT cI cZ cB cJ) (va_A [(m0, .inr (5, [.int th, .int (nI wd), .int (nI ht), .int (nI pn), .ref m1, .ref m2, .ref m3, .int (nI cn), .ref m4, .ref m5, .ref m6, .int fl, .int (nI bf), .int (nI bt), .int (nI xn), .ref m7, .ref m8, .ref m9, .int ip, .int (nI ps), .ref ma]))] sz) [(m0, .inr (5, [.int (nI 1), .int (nI wd), .int (nI ht), .int (nI pn), .ref m1, .ref m2, .ref m3, .int (nI cn), .ref m4, .ref m5, .ref m6, .int fl, .int (nI bf), .int (nI bt), .int (nI xn), .ref m7, .ref m8, .ref m9, .int ip, .int (nI ps), .ref ma]))]) (va_A [(m0, .inr (5, [.int th, .int (nI wd), .int (nI ht), .int (nI pn), .ref m1, .ref m2, .ref m3, .int (nI cn), .ref m4, .ref m5, .ref m6, .int fl, .int (nI bf), .int (nI bt), .int (nI xn), .ref m7, .ref m8, .ref m9, .int ip, .int (nI ps), .ref ma]))] sz)) 0 0 (va_A [(m0, .inr (5, [.int th, .int (nI wd), .int (nI ht), .int (nI pn), .ref m1, .ref m2, .ref m3, .int (nI cn), .ref m4, .ref m5, .ref m6, .int fl, .int (nI bf), .int (nI bt), .int (nI xn), .ref m7, .ref m8, .ref m9, .int ip, .int (nI ps), .ref ma]))] sz) := by
  refine q_entI (cc := cX5_fill) (maxL := 11) (by decide +kernel) rfl (Nat.le_of_ble_eq_true rfl) ?_
  intro p e s m below meth c A Q ls hq hl hQ
  obtain ⟨hx, hb, hml, hts, hown, hin, hN, hK, hsz, hA, hP, hD, hS⟩ := hq
  have hown : s.vm.findClass RX5 = some m.cls := hown
  obtain ⟨H, hH⟩ : ∃ H, H = s.heap := ⟨_, rfl⟩
  rw [← hH] at hP ⊢
  have hS : va_S A s.heap H [] := by rw [hH]; exact va_S.rf
  clear hH
  have hl : lv_has ls 11 [(0, .ref m0), (1, .int rl), (2, .int pl), (3, .int vv)] := hl
  have iX5 : ∀ w ∈ wsX50, w ∈ wsX5_fill := by decide +kernel
  have f_55 := hts (.fieldLink RX5 55 "RasterCoverModel" "thrown" "I") (by decide +kernel)
  refine lv_aload_n hx hb dX5_fill_0 rfl (lv_at hl 0 rfl) ?_
  refine lv_iload_n hx hb dX5_fill_1 rfl (lv_at hl 1 rfl) ?_
  refine lv_if_lt (tgt := 10) hx hb dX5_fill_2 (by decide) (fun h_2 => ?_) (fun h_2 => ?_)
  · refine lv_iconst (v := nI 1) hx hb dX5_fill_10 (by decide) ?_
    refine lv_goto (tgt := 31) hx hb dX5_fill_11 (by decide) ?_
    refine va_put (D := D) (ci := 5) (v := .int (nI 1)) (ty := .int) (C := RX5) (T := TX5) (N := 21) hx hb hts iX5 tyX5 tyX5_ok nmX5 hown hK hP hD hS 0 rfl rfl 0 (by decide) f_55 (fun _ h9 => h9) rfl (by decide +kernel) rfl rfl (Nat.le_of_ble_eq_true rfl) dX5_fill_31 (fun H locs hP hD hS => ?_)
    have hP : va_P D qCl [(m0, .inr (5, [.int (nI 1), .int (nI wd), .int (nI ht), .int (nI pn), .ref m1, .ref m2, .ref m3, .int (nI cn), .ref m4, .ref m5, .ref m6, .int fl, .int (nI bf), .int (nI bt), .int (nI xn), .ref m7, .ref m8, .ref m9, .int ip, .int (nI ps), .ref ma]))] H := hP
    have hD : va_D A [(m0, .inr (5, [.int (nI 1), .int (nI wd), .int (nI ht), .int (nI pn), .ref m1, .ref m2, .ref m3, .int (nI cn), .ref m4, .ref m5, .ref m6, .int fl, .int (nI bf), .int (nI bt), .int (nI xn), .ref m7, .ref m8, .ref m9, .int ip, .int (nI ps), .ref ma]))] := hD
    refine lv_aload_n hx hb dX5_fill_34 rfl (lv_at hl 0 rfl) ?_
    refine va_get (D := D) (ci := 5) (v := .int (nI 1)) (C := RX5) (T := TX5) (N := 21) hx hb hts iX5 hown hK hP 0 rfl rfl 0 (by decide) f_55 (fun _ h9 => h9) rfl dX5_fill_35 ?_
    refine q_if_le (tgt := 43) hx hb (by omega) dX5_fill_38 (by decide) (fun h_38 => by omega) (fun h_38 => ?_)
    refine lv_iconst (v := nI 0) hx hb dX5_fill_41 (by decide) ?_
    exact hQ _ _ _ _ (nI 0) () _ _ dX5_fill_42 (Nat.le_refl _) (Nat.le_refl _) trivial (hP.sub [0] rfl) hK (hD.sub [0] (by decide) rfl) hS
  refine lv_iload_n hx hb dX5_fill_5 rfl (lv_at hl 1 rfl) ?_
  refine lv_iconst (v := nI 1) hx hb dX5_fill_6 (by decide) ?_
  refine lv_icmp_le (tgt := 14) hx hb dX5_fill_7 (by decide) (fun h_7 => by exact (hrl (r01 h_2 h_7)).elim) (fun h_7 => ?_)
  refine lv_iconst (v := nI 1) hx hb dX5_fill_10 (by decide) ?_
  refine lv_goto (tgt := 31) hx hb dX5_fill_11 (by decide) ?_
  refine va_put (D := D) (ci := 5) (v := .int (nI 1)) (ty := .int) (C := RX5) (T := TX5) (N := 21) hx hb hts iX5 tyX5 tyX5_ok nmX5 hown hK hP hD hS 0 rfl rfl 0 (by decide) f_55 (fun _ h9 => h9) rfl (by decide +kernel) rfl rfl (Nat.le_of_ble_eq_true rfl) dX5_fill_31 (fun H locs hP hD hS => ?_)
  have hP : va_P D qCl [(m0, .inr (5, [.int (nI 1), .int (nI wd), .int (nI ht), .int (nI pn), .ref m1, .ref m2, .ref m3, .int (nI cn), .ref m4, .ref m5, .ref m6, .int fl, .int (nI bf), .int (nI bt), .int (nI xn), .ref m7, .ref m8, .ref m9, .int ip, .int (nI ps), .ref ma]))] H := hP
  have hD : va_D A [(m0, .inr (5, [.int (nI 1), .int (nI wd), .int (nI ht), .int (nI pn), .ref m1, .ref m2, .ref m3, .int (nI cn), .ref m4, .ref m5, .ref m6, .int fl, .int (nI bf), .int (nI bt), .int (nI xn), .ref m7, .ref m8, .ref m9, .int ip, .int (nI ps), .ref ma]))] := hD
  refine lv_aload_n hx hb dX5_fill_34 rfl (lv_at hl 0 rfl) ?_
  refine va_get (D := D) (ci := 5) (v := .int (nI 1)) (C := RX5) (T := TX5) (N := 21) hx hb hts iX5 hown hK hP 0 rfl rfl 0 (by decide) f_55 (fun _ h9 => h9) rfl dX5_fill_35 ?_
  refine q_if_le (tgt := 43) hx hb (by omega) dX5_fill_38 (by decide) (fun h_38 => by omega) (fun h_38 => ?_)
  refine lv_iconst (v := nI 0) hx hb dX5_fill_41 (by decide) ?_
  exact hQ _ _ _ _ (nI 0) () _ _ dX5_fill_42 (Nat.le_refl _) (Nat.le_refl _) trivial (hP.sub [0] rfl) hK (hD.sub [0] (by decide) rfl) hS

abbrev rm_X5_fill_plane : Room := { frames := 0, cells := 0, slots := 0, locals := 0 }
set_option maxHeartbeats 4000000 in
set_option maxRecDepth 100000 in
theorem c_X5_fill_plane (l : Launch) (D : va_G) (cI cZ cB cJ : ClassId) (sz : Nat) (m0 : Nat) (m1 : Nat) (m2 : Nat) (m3 : Nat) (m4 : Nat) (m5 : Nat) (m6 : Nat) (m7 : Nat) (m8 : Nat) (m9 : Nat) (ma : Nat) (th : Int32) (wd : Nat) (ht : Nat) (pn : Nat) (cn : Nat) (fl : Int32) (bf : Nat) (bt : Nat) (xn : Nat) (ip : Int32) (ps : Nat) (rl : Int32) (pl : Int32) (vv : Int32) (hpn : pn ≤ 4) (hrl : rl = 0 ∨ rl = 1) (hpl : ¬ (0 ≤ pl.toInt ∧ pl.toInt < pn)) : Met l yX5_fill wsX5_fill rm_X5_fill_plane (va_Pc [.ref m0, .int rl, .int pl, .int vv] (PC D (qT cI cZ cB cJ) [(m0, .inr (5, [.int th, .int (nI wd), .int (nI ht), .int (nI pn), .ref m1, .ref m2, .ref m3, .int (nI cn), .ref m4, .ref m5, .ref m6, .int fl, .int (nI bf), .int (nI bt), .int (nI xn), .ref m7, .ref m8, .ref m9, .int ip, .int (nI ps), .ref ma]))] sz)) (va_Qi (fun (r : Int32) (u : Unit) => True) (fun (u : Unit) => PO D (qT cI cZ cB cJ) (va_A [(m0, .inr (5, [.int th, .int (nI wd), .int (nI ht), .int (nI pn), .ref m1, .ref m2, .ref m3, .int (nI cn), .ref m4, .ref m5, .ref m6, .int fl, .int (nI bf), .int (nI bt), .int (nI xn), .ref m7, .ref m8, .ref m9, .int ip, .int (nI ps), .ref ma]))] sz) [(m0, .inr (5, [.int (nI 2), .int (nI wd), .int (nI ht), .int (nI pn), .ref m1, .ref m2, .ref m3, .int (nI cn), .ref m4, .ref m5, .ref m6, .int fl, .int (nI bf), .int (nI bt), .int (nI xn), .ref m7, .ref m8, .ref m9, .int ip, .int (nI ps), .ref ma]))]) (va_A [(m0, .inr (5, [.int th, .int (nI wd), .int (nI ht), .int (nI pn), .ref m1, .ref m2, .ref m3, .int (nI cn), .ref m4, .ref m5, .ref m6, .int fl, .int (nI bf), .int (nI bt), .int (nI xn), .ref m7, .ref m8, .ref m9, .int ip, .int (nI ps), .ref ma]))] sz)) 0 0 (va_A [(m0, .inr (5, [.int th, .int (nI wd), .int (nI ht), .int (nI pn), .ref m1, .ref m2, .ref m3, .int (nI cn), .ref m4, .ref m5, .ref m6, .int fl, .int (nI bf), .int (nI bt), .int (nI xn), .ref m7, .ref m8, .ref m9, .int ip, .int (nI ps), .ref ma]))] sz) := by
  refine q_entI (cc := cX5_fill) (maxL := 11) (by decide +kernel) rfl (Nat.le_of_ble_eq_true rfl) ?_
  intro p e s m below meth c A Q ls hq hl hQ
  obtain ⟨hx, hb, hml, hts, hown, hin, hN, hK, hsz, hA, hP, hD, hS⟩ := hq
  have hown : s.vm.findClass RX5 = some m.cls := hown
  obtain ⟨H, hH⟩ : ∃ H, H = s.heap := ⟨_, rfl⟩
  rw [← hH] at hP ⊢
  have hS : va_S A s.heap H [] := by rw [hH]; exact va_S.rf
  clear hH
  have hl : lv_has ls 11 [(0, .ref m0), (1, .int rl), (2, .int pl), (3, .int vv)] := hl
  have iX5 : ∀ w ∈ wsX50, w ∈ wsX5_fill := by decide +kernel
  have f_55 := hts (.fieldLink RX5 55 "RasterCoverModel" "thrown" "I") (by decide +kernel)
  have f_49 := hts (.fieldLink RX5 49 "RasterCoverModel" "planes" "I") (by decide +kernel)
  refine lv_aload_n hx hb dX5_fill_0 rfl (lv_at hl 0 rfl) ?_
  refine lv_iload_n hx hb dX5_fill_1 rfl (lv_at hl 1 rfl) ?_
  refine lv_if_lt (tgt := 10) hx hb dX5_fill_2 (by decide) (fun h_2 => by rcases hrl with rfl | rfl <;> exact absurd h_2 (by decide)) (fun h_2 => ?_)
  refine lv_iload_n hx hb dX5_fill_5 rfl (lv_at hl 1 rfl) ?_
  refine lv_iconst (v := nI 1) hx hb dX5_fill_6 (by decide) ?_
  refine lv_icmp_le (tgt := 14) hx hb dX5_fill_7 (by decide) (fun h_7 => ?_) (fun h_7 => by rcases hrl with rfl | rfl <;> exact absurd h_7 (by decide))
  refine lv_iload_n hx hb dX5_fill_14 rfl (lv_at hl 2 rfl) ?_
  refine lv_if_lt (tgt := 26) hx hb dX5_fill_15 (by decide) (fun h_15 => ?_) (fun h_15 => ?_)
  · refine lv_iconst (v := nI 2) hx hb dX5_fill_26 (by decide) ?_
    refine lv_goto (tgt := 31) hx hb dX5_fill_27 (by decide) ?_
    refine va_put (D := D) (ci := 5) (v := .int (nI 2)) (ty := .int) (C := RX5) (T := TX5) (N := 21) hx hb hts iX5 tyX5 tyX5_ok nmX5 hown hK hP hD hS 0 rfl rfl 0 (by decide) f_55 (fun _ h9 => h9) rfl (by decide +kernel) rfl rfl (Nat.le_of_ble_eq_true rfl) dX5_fill_31 (fun H locs hP hD hS => ?_)
    have hP : va_P D qCl [(m0, .inr (5, [.int (nI 2), .int (nI wd), .int (nI ht), .int (nI pn), .ref m1, .ref m2, .ref m3, .int (nI cn), .ref m4, .ref m5, .ref m6, .int fl, .int (nI bf), .int (nI bt), .int (nI xn), .ref m7, .ref m8, .ref m9, .int ip, .int (nI ps), .ref ma]))] H := hP
    have hD : va_D A [(m0, .inr (5, [.int (nI 2), .int (nI wd), .int (nI ht), .int (nI pn), .ref m1, .ref m2, .ref m3, .int (nI cn), .ref m4, .ref m5, .ref m6, .int fl, .int (nI bf), .int (nI bt), .int (nI xn), .ref m7, .ref m8, .ref m9, .int ip, .int (nI ps), .ref ma]))] := hD
    refine lv_aload_n hx hb dX5_fill_34 rfl (lv_at hl 0 rfl) ?_
    refine va_get (D := D) (ci := 5) (v := .int (nI 2)) (C := RX5) (T := TX5) (N := 21) hx hb hts iX5 hown hK hP 0 rfl rfl 0 (by decide) f_55 (fun _ h9 => h9) rfl dX5_fill_35 ?_
    refine q_if_le (tgt := 43) hx hb (by omega) dX5_fill_38 (by decide) (fun h_38 => by omega) (fun h_38 => ?_)
    refine lv_iconst (v := nI 0) hx hb dX5_fill_41 (by decide) ?_
    exact hQ _ _ _ _ (nI 0) () _ _ dX5_fill_42 (Nat.le_refl _) (Nat.le_refl _) trivial (hP.sub [0] rfl) hK (hD.sub [0] (by decide) rfl) hS
  refine lv_iload_n hx hb dX5_fill_18 rfl (lv_at hl 2 rfl) ?_
  refine lv_aload_n hx hb dX5_fill_19 rfl (lv_at hl 0 rfl) ?_
  refine va_get (D := D) (ci := 5) (v := .int (nI pn)) (C := RX5) (T := TX5) (N := 21) hx hb hts iX5 hown hK hP 0 rfl rfl 3 (by decide) f_49 (fun _ h9 => h9) rfl dX5_fill_20 ?_
  refine lv_icmp_lt (tgt := 30) hx hb dX5_fill_23 (by decide) (fun h_23 => by rw [i_lt, show (0 : Int32).toInt = 0 from by decide] at h_15; rw [i_lt, nI_toInt (by omega)] at h_23; omega) (fun h_23 => ?_)
  refine lv_iconst (v := nI 2) hx hb dX5_fill_26 (by decide) ?_
  refine lv_goto (tgt := 31) hx hb dX5_fill_27 (by decide) ?_
  refine va_put (D := D) (ci := 5) (v := .int (nI 2)) (ty := .int) (C := RX5) (T := TX5) (N := 21) hx hb hts iX5 tyX5 tyX5_ok nmX5 hown hK hP hD hS 0 rfl rfl 0 (by decide) f_55 (fun _ h9 => h9) rfl (by decide +kernel) rfl rfl (Nat.le_of_ble_eq_true rfl) dX5_fill_31 (fun H locs hP hD hS => ?_)
  have hP : va_P D qCl [(m0, .inr (5, [.int (nI 2), .int (nI wd), .int (nI ht), .int (nI pn), .ref m1, .ref m2, .ref m3, .int (nI cn), .ref m4, .ref m5, .ref m6, .int fl, .int (nI bf), .int (nI bt), .int (nI xn), .ref m7, .ref m8, .ref m9, .int ip, .int (nI ps), .ref ma]))] H := hP
  have hD : va_D A [(m0, .inr (5, [.int (nI 2), .int (nI wd), .int (nI ht), .int (nI pn), .ref m1, .ref m2, .ref m3, .int (nI cn), .ref m4, .ref m5, .ref m6, .int fl, .int (nI bf), .int (nI bt), .int (nI xn), .ref m7, .ref m8, .ref m9, .int ip, .int (nI ps), .ref ma]))] := hD
  refine lv_aload_n hx hb dX5_fill_34 rfl (lv_at hl 0 rfl) ?_
  refine va_get (D := D) (ci := 5) (v := .int (nI 2)) (C := RX5) (T := TX5) (N := 21) hx hb hts iX5 hown hK hP 0 rfl rfl 0 (by decide) f_55 (fun _ h9 => h9) rfl dX5_fill_35 ?_
  refine q_if_le (tgt := 43) hx hb (by omega) dX5_fill_38 (by decide) (fun h_38 => by omega) (fun h_38 => ?_)
  refine lv_iconst (v := nI 0) hx hb dX5_fill_41 (by decide) ?_
  exact hQ _ _ _ _ (nI 0) () _ _ dX5_fill_42 (Nat.le_refl _) (Nat.le_refl _) trivial (hP.sub [0] rfl) hK (hD.sub [0] (by decide) rfl) hS

abbrev rm_X5_clip_ok : Room := { frames := 4, cells := 0, slots := 0, locals := 105 }
set_option maxHeartbeats 4000000 in
set_option maxRecDepth 100000 in
/-- the reference: clip -/
theorem c_X5_clip_ok (l : Launch) (D : va_G) (cI cZ cB cJ : ClassId) (sz : Nat) (m0 : Nat) (m1 : Nat) (m2 : Nat) (m3 : Nat) (m4 : Nat) (m5 : Nat) (m6 : Nat) (m7 : Nat) (m8 : Nat) (m9 : Nat) (ma : Nat) (th : Int32) (wd : Nat) (ht : Nat) (pn : Nat) (cn : Nat) (fl : Int32) (bf : Nat) (bt : Nat) (xn : Nat) (ip : Int32) (ps : Nat) (gx : Nat → Int64) (gy : Nat → Int64) (gb : Nat → Int32) (X : Nat → Int) (Y : Nat → Int) (bg : Nat → Int32) (gp : Nat → Int64) (gt : Nat → Int32) (gu : Nat → Int32) (gC : Nat → Int32) (rl : Int32) (hht : ht ≤ 48) (hwd : wd ≤ 48) (hR : PathM gx gy gb X Y bg cn) (hrl : rl = 0 ∨ rl = 1) : Met l yX5_clip wsX5_clip rm_X5_clip_ok (va_Pc [.ref m0, .int rl] (PC D (qT cI cZ cB cJ) [(m0, .inr (5, [.int th, .int (nI wd), .int (nI ht), .int (nI pn), .ref m1, .ref m2, .ref m3, .int (nI cn), .ref m4, .ref m5, .ref m6, .int fl, .int (nI bf), .int (nI bt), .int (nI xn), .ref m7, .ref m8, .ref m9, .int ip, .int (nI ps), .ref ma])), (m2, .inl (cI, 2304, .inl gC)), (m4, .inl (cJ, 100, .inr (.inl gx))), (m5, .inl (cJ, 100, .inr (.inl gy))), (m6, .inl (cZ, 100, .inl gb)), (m7, .inl (cJ, 200, .inr (.inl gp))), (m8, .inl (cI, 200, .inl gt)), (m9, .inl (cI, 48, .inl gu))] sz)) (va_Qi (fun (r : Int32) (u : (Nat → Int32) × (Nat → Int64) × (Nat → Int32) × Nat) => r = nI ((cfil (fun zy zx => cvv (Int32.ofInt (cov rl X Y bg cn zy 16 zx))) (fun zy zx => 48 * zy + zx) wd gC ht).2)) (fun (u : (Nat → Int32) × (Nat → Int64) × (Nat → Int32) × Nat) => PO D (qT cI cZ cB cJ) (va_A [(m0, .inr (5, [.int th, .int (nI wd), .int (nI ht), .int (nI pn), .ref m1, .ref m2, .ref m3, .int (nI cn), .ref m4, .ref m5, .ref m6, .int fl, .int (nI bf), .int (nI bt), .int (nI xn), .ref m7, .ref m8, .ref m9, .int ip, .int (nI ps), .ref ma])), (m2, .inl (cI, 2304, .inl gC)), (m4, .inl (cJ, 100, .inr (.inl gx))), (m5, .inl (cJ, 100, .inr (.inl gy))), (m6, .inl (cZ, 100, .inl gb)), (m7, .inl (cJ, 200, .inr (.inl gp))), (m8, .inl (cI, 200, .inl gt)), (m9, .inl (cI, 48, .inl gu))] sz) [(m0, .inr (5, [.int (nI 0), .int (nI wd), .int (nI ht), .int (nI pn), .ref m1, .ref m2, .ref m3, .int (nI 0), .ref m4, .ref m5, .ref m6, .int fl, .int (nI bf), .int (nI bt), .int (nI u.2.2.2), .ref m7, .ref m8, .ref m9, .int ip, .int (nI ps), .ref ma])), (m2, .inl (cI, 2304, .inl ((cfil (fun zy zx => cvv (Int32.ofInt (cov rl X Y bg cn zy 16 zx))) (fun zy zx => 48 * zy + zx) wd gC ht).1))), (m4, .inl (cJ, 100, .inr (.inl gx))), (m5, .inl (cJ, 100, .inr (.inl gy))), (m6, .inl (cZ, 100, .inl gb)), (m7, .inl (cJ, 200, .inr (.inl u.2.1))), (m8, .inl (cI, 200, .inl u.2.2.1)), (m9, .inl (cI, 48, .inl u.1))]) (va_A [(m0, .inr (5, [.int th, .int (nI wd), .int (nI ht), .int (nI pn), .ref m1, .ref m2, .ref m3, .int (nI cn), .ref m4, .ref m5, .ref m6, .int fl, .int (nI bf), .int (nI bt), .int (nI xn), .ref m7, .ref m8, .ref m9, .int ip, .int (nI ps), .ref ma])), (m2, .inl (cI, 2304, .inl gC)), (m4, .inl (cJ, 100, .inr (.inl gx))), (m5, .inl (cJ, 100, .inr (.inl gy))), (m6, .inl (cZ, 100, .inl gb)), (m7, .inl (cJ, 200, .inr (.inl gp))), (m8, .inl (cI, 200, .inl gt)), (m9, .inl (cI, 48, .inl gu))] sz)) 0 0 (va_A [(m0, .inr (5, [.int th, .int (nI wd), .int (nI ht), .int (nI pn), .ref m1, .ref m2, .ref m3, .int (nI cn), .ref m4, .ref m5, .ref m6, .int fl, .int (nI bf), .int (nI bt), .int (nI xn), .ref m7, .ref m8, .ref m9, .int ip, .int (nI ps), .ref ma])), (m2, .inl (cI, 2304, .inl gC)), (m4, .inl (cJ, 100, .inr (.inl gx))), (m5, .inl (cJ, 100, .inr (.inl gy))), (m6, .inl (cZ, 100, .inl gb)), (m7, .inl (cJ, 200, .inr (.inl gp))), (m8, .inl (cI, 200, .inl gt)), (m9, .inl (cI, 48, .inl gu))] sz) := by
  refine q_entI (cc := cX5_clip) (maxL := 5) (by decide +kernel) rfl (Nat.le_of_ble_eq_true rfl) ?_
  intro p e s m below meth c A Q ls hq hl hQ
  obtain ⟨hx, hb, hml, hts, hown, hin, hN, hK, hsz, hA, hP, hD, hS⟩ := hq
  have hown : s.vm.findClass RX5 = some m.cls := hown
  obtain ⟨H, hH⟩ : ∃ H, H = s.heap := ⟨_, rfl⟩
  rw [← hH] at hP ⊢
  have hS : va_S A s.heap H [] := by rw [hH]; exact va_S.rf
  clear hH
  have hl : lv_has ls 5 [(0, .ref m0), (1, .int rl)] := hl
  have iX5 : ∀ w ∈ wsX50, w ∈ wsX5_clip := by decide +kernel
  have f_55 := hts (.fieldLink RX5 55 "RasterCoverModel" "thrown" "I") (by decide +kernel)
  have f_46 := hts (.fieldLink RX5 46 "RasterCoverModel" "high" "I") (by decide +kernel)
  have f_62 := hts (.fieldLink RX5 62 "RasterCoverModel" "points" "I") (by decide +kernel)
  have f_42 := hts (.fieldLink RX5 42 "RasterCoverModel" "wide" "I") (by decide +kernel)
  have f_13 := hts (.fieldLink RX5 13 "RasterCoverModel" "clips" "[I") (by decide +kernel)
  refine lv_aload_n hx hb dX5_clip_0 rfl (lv_at hl 0 rfl) ?_
  refine lv_iload_n hx hb dX5_clip_1 rfl (lv_at hl 1 rfl) ?_
  refine lv_if_lt (tgt := 10) hx hb dX5_clip_2 (by decide) (fun h_2 => by rcases hrl with rfl | rfl <;> exact absurd h_2 (by decide)) (fun h_2 => ?_)
  refine lv_iload_n hx hb dX5_clip_5 rfl (lv_at hl 1 rfl) ?_
  refine lv_iconst (v := nI 1) hx hb dX5_clip_6 (by decide) ?_
  refine lv_icmp_le (tgt := 14) hx hb dX5_clip_7 (by decide) (fun h_7 => ?_) (fun h_7 => by rcases hrl with rfl | rfl <;> exact absurd h_7 (by decide))
  refine lv_iconst (v := nI 0) hx hb dX5_clip_14 (by decide) ?_
  refine va_put (D := D) (ci := 5) (v := .int (nI 0)) (ty := .int) (C := RX5) (T := TX5) (N := 21) hx hb hts iX5 tyX5 tyX5_ok nmX5 hown hK hP hD hS 0 rfl rfl 0 (by decide) f_55 (fun _ h9 => h9) rfl (by decide +kernel) rfl rfl (Nat.le_of_ble_eq_true rfl) dX5_clip_15 (fun H locs hP hD hS => ?_)
  have hP : va_P D qCl [(m0, .inr (5, [.int (nI 0), .int (nI wd), .int (nI ht), .int (nI pn), .ref m1, .ref m2, .ref m3, .int (nI cn), .ref m4, .ref m5, .ref m6, .int fl, .int (nI bf), .int (nI bt), .int (nI xn), .ref m7, .ref m8, .ref m9, .int ip, .int (nI ps), .ref ma])), (m2, .inl (cI, 2304, .inl gC)), (m4, .inl (cJ, 100, .inr (.inl gx))), (m5, .inl (cJ, 100, .inr (.inl gy))), (m6, .inl (cZ, 100, .inl gb)), (m7, .inl (cJ, 200, .inr (.inl gp))), (m8, .inl (cI, 200, .inl gt)), (m9, .inl (cI, 48, .inl gu))] H := hP
  have hD : va_D A [(m0, .inr (5, [.int (nI 0), .int (nI wd), .int (nI ht), .int (nI pn), .ref m1, .ref m2, .ref m3, .int (nI cn), .ref m4, .ref m5, .ref m6, .int fl, .int (nI bf), .int (nI bt), .int (nI xn), .ref m7, .ref m8, .ref m9, .int ip, .int (nI ps), .ref ma])), (m2, .inl (cI, 2304, .inl gC)), (m4, .inl (cJ, 100, .inr (.inl gx))), (m5, .inl (cJ, 100, .inr (.inl gy))), (m6, .inl (cZ, 100, .inl gb)), (m7, .inl (cJ, 200, .inr (.inl gp))), (m8, .inl (cI, 200, .inl gt)), (m9, .inl (cI, 48, .inl gu))] := hD
  refine lv_aload_n hx hb dX5_clip_18 rfl (lv_at hl 0 rfl) ?_
  refine va_get (D := D) (ci := 5) (v := .int (nI 0)) (C := RX5) (T := TX5) (N := 21) hx hb hts iX5 hown hK hP 0 rfl rfl 0 (by decide) f_55 (fun _ h9 => h9) rfl dX5_clip_19 ?_
  refine q_if_le (tgt := 27) hx hb (by omega) dX5_clip_22 (by decide) (fun h_22 => ?_) (fun h_22 => by omega)
  refine lv_iconst (v := nI 0) hx hb dX5_clip_27 (by decide) ?_
  refine lv_istore_n (lv' := [(2, .int (nI 0)), (0, .ref m0), (1, .int rl)]) hx hb dX5_clip_28 rfl hl (by decide) rfl (fun ls hl => ?_)
  refine lv_iconst (v := nI 0) hx hb dX5_clip_29 (by decide) ?_
  refine lv_istore_n (lv' := [(3, .int (nI 0)), (2, .int (nI 0)), (0, .ref m0), (1, .int rl)]) hx hb dX5_clip_30 rfl hl (by decide) rfl (fun ls hl => ?_)
  have L_31 : ∀ (fuel : Nat) (i : Nat) (q : Nat) (g : Nat → Int32) (nn : Nat) (gp2 : Nat → Int64) (gt2 : Nat → Int32) (gu1 : Nat → Int32), ht - i < fuel → (i ≤ ht) → (g = (cfil (fun zy zx => cvv (Int32.ofInt (cov rl X Y bg cn zy 16 zx))) (fun zy zx => 48 * zy + zx) wd gC i).1) → (q = (cfil (fun zy zx => cvv (Int32.ofInt (cov rl X Y bg cn zy 16 zx))) (fun zy zx => 48 * zy + zx) wd gC i).2) → (q ≤ 48 * i) → ∀ (H : Heap) (locs : List Loc) (ls : Array Slot), va_P D qCl [(m0, .inr (5, [.int (nI 0), .int (nI wd), .int (nI ht), .int (nI pn), .ref m1, .ref m2, .ref m3, .int (nI cn), .ref m4, .ref m5, .ref m6, .int fl, .int (nI bf), .int (nI bt), .int (nI nn), .ref m7, .ref m8, .ref m9, .int ip, .int (nI ps), .ref ma])), (m2, .inl (cI, 2304, .inl g)), (m4, .inl (cJ, 100, .inr (.inl gx))), (m5, .inl (cJ, 100, .inr (.inl gy))), (m6, .inl (cZ, 100, .inl gb)), (m7, .inl (cJ, 200, .inr (.inl gp2))), (m8, .inl (cI, 200, .inl gt2)), (m9, .inl (cI, 48, .inl gu1))] H → va_D A [(m0, .inr (5, [.int (nI 0), .int (nI wd), .int (nI ht), .int (nI pn), .ref m1, .ref m2, .ref m3, .int (nI cn), .ref m4, .ref m5, .ref m6, .int fl, .int (nI bf), .int (nI bt), .int (nI nn), .ref m7, .ref m8, .ref m9, .int ip, .int (nI ps), .ref ma])), (m2, .inl (cI, 2304, .inl g)), (m4, .inl (cJ, 100, .inr (.inl gx))), (m5, .inl (cJ, 100, .inr (.inl gy))), (m6, .inl (cZ, 100, .inl gb)), (m7, .inl (cJ, 200, .inr (.inl gp2))), (m8, .inl (cI, 200, .inl gt2)), (m9, .inl (cI, 48, .inl gu1))] → va_S A s.heap H locs → lv_has ls 5 [(3, .int (nI i)), (2, .int (nI q)), (0, .ref m0), (1, .int rl)] → W p l e rm_X5_clip_ok s m ([.ref m0, .int rl] : List Value).toArray below meth c H locs 0 0 Q (F0 m 31 ls []) := by
    intro fuel
    induction fuel with
    | zero =>
      intro i q g nn gp2 gt2 gu1 hm
      exact absurd hm (Nat.not_lt_zero _)
    | succ fuel ih_31 =>
      intro i q g nn gp2 gt2 gu1 hm_31 hi hg hq hqm H locs ls hP hD hS hl
      refine lv_iload_n hx hb dX5_clip_31 rfl (lv_at hl 0 rfl) ?_
      refine lv_aload_n hx hb dX5_clip_32 rfl (lv_at hl 2 rfl) ?_
      refine va_get (D := D) (ci := 5) (v := .int (nI ht)) (C := RX5) (T := TX5) (N := 21) hx hb hts iX5 hown hK hP 0 rfl rfl 2 (by decide) f_46 (fun _ h9 => h9) rfl dX5_clip_33 ?_
      refine q_ge (tgt := 125) hx hb (by omega) (by omega) dX5_clip_36 (by decide) (fun h_36 => ?_) (fun h_36 => ?_)
      · refine lv_aload_n hx hb dX5_clip_125 rfl (lv_at hl 2 rfl) ?_
        refine lv_iconst (v := nI 0) hx hb dX5_clip_126 (by decide) ?_
        refine va_put (D := D) (ci := 5) (v := .int (nI 0)) (ty := .int) (C := RX5) (T := TX5) (N := 21) hx hb hts iX5 tyX5 tyX5_ok nmX5 hown hK hP hD hS 0 rfl rfl 7 (by decide) f_62 (fun _ h9 => h9) rfl (by decide +kernel) rfl rfl (Nat.le_of_ble_eq_true rfl) dX5_clip_127 (fun H locs hP hD hS => ?_)
        have hP : va_P D qCl [(m0, .inr (5, [.int (nI 0), .int (nI wd), .int (nI ht), .int (nI pn), .ref m1, .ref m2, .ref m3, .int (nI 0), .ref m4, .ref m5, .ref m6, .int fl, .int (nI bf), .int (nI bt), .int (nI nn), .ref m7, .ref m8, .ref m9, .int ip, .int (nI ps), .ref ma])), (m2, .inl (cI, 2304, .inl g)), (m4, .inl (cJ, 100, .inr (.inl gx))), (m5, .inl (cJ, 100, .inr (.inl gy))), (m6, .inl (cZ, 100, .inl gb)), (m7, .inl (cJ, 200, .inr (.inl gp2))), (m8, .inl (cI, 200, .inl gt2)), (m9, .inl (cI, 48, .inl gu1))] H := hP
        have hD : va_D A [(m0, .inr (5, [.int (nI 0), .int (nI wd), .int (nI ht), .int (nI pn), .ref m1, .ref m2, .ref m3, .int (nI 0), .ref m4, .ref m5, .ref m6, .int fl, .int (nI bf), .int (nI bt), .int (nI nn), .ref m7, .ref m8, .ref m9, .int ip, .int (nI ps), .ref ma])), (m2, .inl (cI, 2304, .inl g)), (m4, .inl (cJ, 100, .inr (.inl gx))), (m5, .inl (cJ, 100, .inr (.inl gy))), (m6, .inl (cZ, 100, .inl gb)), (m7, .inl (cJ, 200, .inr (.inl gp2))), (m8, .inl (cI, 200, .inl gt2)), (m9, .inl (cI, 48, .inl gu1))] := hD
        refine lv_iload_n hx hb dX5_clip_130 rfl (lv_at hl 1 rfl) ?_
        have e9 : i = ht := by omega
        rw [e9] at hg hq
        subst hg
        have hr9 : (nI q) = nI ((cfil (fun zy zx => cvv (Int32.ofInt (cov rl X Y bg cn zy 16 zx))) (fun zy zx => 48 * zy + zx) wd gC ht).2) := (congrArg nI hq)
        exact hQ _ _ _ _ (nI q) (gu1, gp2, gt2, nn) _ _ dX5_clip_131 (Nat.le_refl _) (Nat.le_refl _) hr9 (hP.sub [0, 1, 2, 3, 4, 5, 6, 7] rfl) hK (hD.sub [0, 1, 2, 3, 4, 5, 6, 7] (by decide) rfl) hS
      refine lv_aload_n hx hb dX5_clip_39 rfl (lv_at hl 2 rfl) ?_
      refine lv_iload_n hx hb dX5_clip_40 rfl (lv_at hl 3 rfl) ?_
      refine lv_iload_n hx hb dX5_clip_41 rfl (lv_at hl 0 rfl) ?_
      refine q_v0 (wr := [(m2, .inl (cI, 2304, .inl g))]) (va_runV (As := [.int rl, .int (nI i)]) (rest := []) ⟨hx, hb, hml, hown, hts⟩ (c_X5_coverRow l D cI cZ cB cJ H.size m0 m1 m2 m3 m4 m5 m6 m7 m8 m9 ma (nI 0) wd ht pn cn fl bf bt nn ip ps gx gy gb X Y bg gp2 gt2 gu1 rl i hwd (by omega) hR) (cwV 2 hts gX5_clip_X5_coverRow rfl rfl rfl (by decide +kernel) ⟨Nat.le_of_ble_eq_true rfl, Nat.le_of_ble_eq_true rfl⟩) (q_preV (q_pre (wc := [(m0, .inr (5, [.int (nI 0), .int (nI wd), .int (nI ht), .int (nI pn), .ref m1, .ref m2, .ref m3, .int (nI cn), .ref m4, .ref m5, .ref m6, .int fl, .int (nI bf), .int (nI bt), .int (nI nn), .ref m7, .ref m8, .ref m9, .int ip, .int (nI ps), .ref ma])), (m4, .inl (cJ, 100, .inr (.inl gx))), (m5, .inl (cJ, 100, .inr (.inl gy))), (m6, .inl (cZ, 100, .inl gb)), (m7, .inl (cJ, 200, .inr (.inl gp2))), (m8, .inl (cI, 200, .inl gt2)), (m9, .inl (cI, 48, .inl gu1))]) hP hD hK hN [0, 2, 3, 4, 5, 6, 7] (by decide) rfl) (va_recv hK hP (ci := 5) (q0 := 0) rfl rfl)) rfl rfl hl.1 rfl (lv_room (Nat.le_of_ble_eq_true rfl)) dX5_clip_42 ⟨Nat.zero_le _, Nat.zero_le _⟩) hS hA hP hD [0, 2, 3, 4, 5, 6, 7] [1] rfl rfl (by decide) (by decide) (fun u H locs hp_42 hP hD hS => ?_)
      obtain ⟨gu3, gp3, gt3, n3⟩ := u
      have hP : va_P D qCl [(m2, .inl (cI, 2304, .inl g)), (m0, .inr (5, [.int (nI 0), .int (nI wd), .int (nI ht), .int (nI pn), .ref m1, .ref m2, .ref m3, .int (nI cn), .ref m4, .ref m5, .ref m6, .int fl, .int (nI bf), .int (nI bt), .int (nI n3), .ref m7, .ref m8, .ref m9, .int ip, .int (nI ps), .ref ma])), (m4, .inl (cJ, 100, .inr (.inl gx))), (m5, .inl (cJ, 100, .inr (.inl gy))), (m6, .inl (cZ, 100, .inl gb)), (m7, .inl (cJ, 200, .inr (.inl gp3))), (m8, .inl (cI, 200, .inl gt3)), (m9, .inl (cI, 48, .inl gu3))] H := hP
      have hD : va_D A [(m2, .inl (cI, 2304, .inl g)), (m0, .inr (5, [.int (nI 0), .int (nI wd), .int (nI ht), .int (nI pn), .ref m1, .ref m2, .ref m3, .int (nI cn), .ref m4, .ref m5, .ref m6, .int fl, .int (nI bf), .int (nI bt), .int (nI n3), .ref m7, .ref m8, .ref m9, .int ip, .int (nI ps), .ref ma])), (m4, .inl (cJ, 100, .inr (.inl gx))), (m5, .inl (cJ, 100, .inr (.inl gy))), (m6, .inl (cZ, 100, .inl gb)), (m7, .inl (cJ, 200, .inr (.inl gp3))), (m8, .inl (cI, 200, .inl gt3)), (m9, .inl (cI, 48, .inl gu3))] := hD
      have hp_42 : ∀ x, x < wd → gu3 x = Int32.ofInt (cov rl X Y bg cn i 16 x) := hp_42
      refine lv_iconst (v := nI 0) hx hb dX5_clip_45 (by decide) ?_
      refine lv_istore (lv' := [(4, .int (nI 0)), (3, .int (nI i)), (2, .int (nI q)), (0, .ref m0), (1, .int rl)]) hx hb dX5_clip_46 hl (by decide) rfl (fun ls hl => ?_)
      have L_48 : ∀ (fuel : Nat) (x : Nat) (q1 : Nat) (g1 : Nat → Int32), wd - x < fuel → (x ≤ wd) → (g1 = (crow ((fun zy zx => cvv (Int32.ofInt (cov rl X Y bg cn zy 16 zx))) i) ((fun zy zx => 48 * zy + zx) i) g (x)).1) → (q1 = q + (crow ((fun zy zx => cvv (Int32.ofInt (cov rl X Y bg cn zy 16 zx))) i) ((fun zy zx => 48 * zy + zx) i) g (x)).2) → (q1 ≤ q + x) → ∀ (H : Heap) (locs : List Loc) (ls : Array Slot), va_P D qCl [(m2, .inl (cI, 2304, .inl g1)), (m0, .inr (5, [.int (nI 0), .int (nI wd), .int (nI ht), .int (nI pn), .ref m1, .ref m2, .ref m3, .int (nI cn), .ref m4, .ref m5, .ref m6, .int fl, .int (nI bf), .int (nI bt), .int (nI n3), .ref m7, .ref m8, .ref m9, .int ip, .int (nI ps), .ref ma])), (m4, .inl (cJ, 100, .inr (.inl gx))), (m5, .inl (cJ, 100, .inr (.inl gy))), (m6, .inl (cZ, 100, .inl gb)), (m7, .inl (cJ, 200, .inr (.inl gp3))), (m8, .inl (cI, 200, .inl gt3)), (m9, .inl (cI, 48, .inl gu3))] H → va_D A [(m2, .inl (cI, 2304, .inl g1)), (m0, .inr (5, [.int (nI 0), .int (nI wd), .int (nI ht), .int (nI pn), .ref m1, .ref m2, .ref m3, .int (nI cn), .ref m4, .ref m5, .ref m6, .int fl, .int (nI bf), .int (nI bt), .int (nI n3), .ref m7, .ref m8, .ref m9, .int ip, .int (nI ps), .ref ma])), (m4, .inl (cJ, 100, .inr (.inl gx))), (m5, .inl (cJ, 100, .inr (.inl gy))), (m6, .inl (cZ, 100, .inl gb)), (m7, .inl (cJ, 200, .inr (.inl gp3))), (m8, .inl (cI, 200, .inl gt3)), (m9, .inl (cI, 48, .inl gu3))] → va_S A s.heap H locs → lv_has ls 5 [(4, .int (nI x)), (3, .int (nI i)), (2, .int (nI q1)), (0, .ref m0), (1, .int rl)] → W p l e rm_X5_clip_ok s m ([.ref m0, .int rl] : List Value).toArray below meth c H locs 0 0 Q (F0 m 48 ls []) := by
        intro fuel
        induction fuel with
        | zero =>
          intro x q1 g1 hm
          exact absurd hm (Nat.not_lt_zero _)
        | succ fuel ih_48 =>
          intro x q1 g1 hm_48 hx9 hg1 hq1 hq1m H locs ls hP hD hS hl
          refine lv_iload hx hb dX5_clip_48 (lv_at hl 0 rfl) ?_
          refine lv_aload_n hx hb dX5_clip_50 rfl (lv_at hl 3 rfl) ?_
          refine va_get (D := D) (ci := 5) (v := .int (nI wd)) (C := RX5) (T := TX5) (N := 21) hx hb hts iX5 hown hK hP 1 rfl rfl 1 (by decide) f_42 (fun _ h9 => h9) rfl dX5_clip_51 ?_
          refine q_ge (tgt := 119) hx hb (by omega) (by omega) dX5_clip_54 (by decide) (fun h_54 => ?_) (fun h_54 => ?_)
          · refine lv_iinc (v := nI (i + 1)) (lv' := [(3, .int (nI (i + 1))), (4, .int (nI x)), (2, .int (nI q1)), (0, .ref m0), (1, .int rl)]) hx hb dX5_clip_119 hl (k := 1) rfl (q_inc _) (by decide) rfl (fun ls hl => ?_)
            refine lv_goto (tgt := 31) hx hb dX5_clip_122 (by decide) ?_
            exact ih_31 (i + 1) q1 g1 n3 gp3 gt3 gu3 (by omega) (by omega) (by rw [hg1, show x = wd by omega, hg]; rfl) (by rw [hq1, show x = wd by omega, hq, hg]; rfl) (by omega) _ _ _ (hP.sub [1, 0, 2, 3, 4, 5, 6, 7] rfl) (hD.sub [1, 0, 2, 3, 4, 5, 6, 7] (by decide) rfl) hS (lv_sub hl [0, 2, 3, 4] rfl)
          refine lv_aload_n hx hb dX5_clip_57 rfl (lv_at hl 3 rfl) ?_
          refine va_get (D := D) (ci := 5) (v := .ref m2) (C := RX5) (T := TX5) (N := 21) hx hb hts iX5 hown hK hP 1 rfl rfl 5 (by decide) f_13 (fun _ h9 => h9) rfl dX5_clip_58 ?_
          refine lv_bipush (v := nI 48) hx hb dX5_clip_61 (by decide) ?_
          refine lv_iload_n hx hb dX5_clip_63 rfl (lv_at hl 1 rfl) ?_
          refine lv_imul hx hb dX5_clip_64 ?_
          refine q_eqi (pk_mul _ _) ?_
          refine lv_iload hx hb dX5_clip_65 (lv_at hl 0 rfl) ?_
          refine lv_iadd hx hb dX5_clip_67 ?_
          refine q_eqi (nI_add _ _) ?_
          refine lv_aload_n hx hb dX5_clip_68 rfl (lv_at hl 3 rfl) ?_
          refine va_get (D := D) (ci := 5) (v := .ref m2) (C := RX5) (T := TX5) (N := 21) hx hb hts iX5 hown hK hP 1 rfl rfl 5 (by decide) f_13 (fun _ h9 => h9) rfl dX5_clip_69 ?_
          refine lv_bipush (v := nI 48) hx hb dX5_clip_72 (by decide) ?_
          refine lv_iload_n hx hb dX5_clip_74 rfl (lv_at hl 1 rfl) ?_
          refine lv_imul hx hb dX5_clip_75 ?_
          refine q_eqi (pk_mul _ _) ?_
          refine lv_iload hx hb dX5_clip_76 (lv_at hl 0 rfl) ?_
          refine lv_iadd hx hb dX5_clip_78 ?_
          refine q_eqi (nI_add _ _) ?_
          refine q_iald hx hb hK hP 0 0 rfl rfl (k := ((48 * i) + x)) (by omega) (by omega) dX5_clip_79 ?_
          refine lv_aload_n hx hb dX5_clip_80 rfl (lv_at hl 3 rfl) ?_
          refine lv_iload hx hb dX5_clip_81 (lv_at hl 0 rfl) ?_
          refine q_i0 (wr := [(m2, .inl (cI, 2304, .inl g1)), (m4, .inl (cJ, 100, .inr (.inl gx))), (m5, .inl (cJ, 100, .inr (.inl gy))), (m6, .inl (cZ, 100, .inl gb)), (m7, .inl (cJ, 200, .inr (.inl gp3))), (m8, .inl (cI, 200, .inl gt3))]) (va_runV (As := [.int (nI x)]) (rest := [.int (g1 ((48 * i) + x)), .int (nI ((48 * i) + x)), .ref m2]) ⟨hx, hb, hml, hown, hts⟩ (c_X5_coverAt l D cI cZ cB cJ H.size m0 m1 m2 m3 m4 m5 m6 m7 m8 m9 ma (nI 0) wd ht pn cn fl bf bt n3 ip ps gu3 x (by omega)) (cwV 1 hts gX5_clip_X5_coverAt rfl rfl rfl (by decide +kernel) ⟨Nat.le_of_ble_eq_true rfl, Nat.le_of_ble_eq_true rfl⟩) (q_preV (q_pre (wc := [(m0, .inr (5, [.int (nI 0), .int (nI wd), .int (nI ht), .int (nI pn), .ref m1, .ref m2, .ref m3, .int (nI cn), .ref m4, .ref m5, .ref m6, .int fl, .int (nI bf), .int (nI bt), .int (nI n3), .ref m7, .ref m8, .ref m9, .int ip, .int (nI ps), .ref ma])), (m9, .inl (cI, 48, .inl gu3))]) hP hD hK hN [1, 7] (by decide) rfl) (va_recv hK hP (ci := 5) (q0 := 1) rfl rfl)) rfl rfl hl.1 rfl (lv_room (Nat.le_of_ble_eq_true rfl)) dX5_clip_83 ⟨Nat.zero_le _, Nat.zero_le _⟩) hS hA hP hD [1, 7] [0, 2, 3, 4, 5, 6] rfl rfl (by decide) (by decide) (fun r_83 u H locs hp_83 hP hD hS => ?_)
          have hP : va_P D qCl [(m2, .inl (cI, 2304, .inl g1)), (m4, .inl (cJ, 100, .inr (.inl gx))), (m5, .inl (cJ, 100, .inr (.inl gy))), (m6, .inl (cZ, 100, .inl gb)), (m7, .inl (cJ, 200, .inr (.inl gp3))), (m8, .inl (cI, 200, .inl gt3)), (m0, .inr (5, [.int (nI 0), .int (nI wd), .int (nI ht), .int (nI pn), .ref m1, .ref m2, .ref m3, .int (nI cn), .ref m4, .ref m5, .ref m6, .int fl, .int (nI bf), .int (nI bt), .int (nI n3), .ref m7, .ref m8, .ref m9, .int ip, .int (nI ps), .ref ma])), (m9, .inl (cI, 48, .inl gu3))] H := hP
          have hD : va_D A [(m2, .inl (cI, 2304, .inl g1)), (m4, .inl (cJ, 100, .inr (.inl gx))), (m5, .inl (cJ, 100, .inr (.inl gy))), (m6, .inl (cZ, 100, .inl gb)), (m7, .inl (cJ, 200, .inr (.inl gp3))), (m8, .inl (cI, 200, .inl gt3)), (m0, .inr (5, [.int (nI 0), .int (nI wd), .int (nI ht), .int (nI pn), .ref m1, .ref m2, .ref m3, .int (nI cn), .ref m4, .ref m5, .ref m6, .int fl, .int (nI bf), .int (nI bt), .int (nI n3), .ref m7, .ref m8, .ref m9, .int ip, .int (nI ps), .ref ma])), (m9, .inl (cI, 48, .inl gu3))] := hD
          have hp_83 : r_83 = cvv (gu3 x) := hp_83
          subst hp_83
          refine q_eqi (y := cvv (Int32.ofInt (cov rl X Y bg cn i 16 x))) (by rw [hp_42 x (by omega)]) ?_
          refine q_i0 (wr := [(m2, .inl (cI, 2304, .inl g1)), (m4, .inl (cJ, 100, .inr (.inl gx))), (m5, .inl (cJ, 100, .inr (.inl gy))), (m6, .inl (cZ, 100, .inl gb)), (m7, .inl (cJ, 200, .inr (.inl gp3))), (m8, .inl (cI, 200, .inl gt3)), (m0, .inr (5, [.int (nI 0), .int (nI wd), .int (nI ht), .int (nI pn), .ref m1, .ref m2, .ref m3, .int (nI cn), .ref m4, .ref m5, .ref m6, .int fl, .int (nI bf), .int (nI bt), .int (nI n3), .ref m7, .ref m8, .ref m9, .int ip, .int (nI ps), .ref ma])), (m9, .inl (cI, 48, .inl gu3))]) (va_runS (As := [.int (g1 ((48 * i) + x)), .int (cvv (Int32.ofInt (cov rl X Y bg cn i 16 x)))]) (rest := [.int (nI ((48 * i) + x)), .ref m2]) ⟨hx, hb, hml, hown, hts⟩ (c_X5_mul l D cI cZ cB cJ H.size (g1 ((48 * i) + x)) (cvv (Int32.ofInt (cov rl X Y bg cn i 16 x)))) (va_cwS 2 hts gX5_clip_X5_mul rfl rfl rfl (by decide +kernel) ⟨Nat.le_of_ble_eq_true rfl, Nat.le_of_ble_eq_true rfl⟩) (q_pre (wc := []) hP hD hK hN [] (by decide) rfl) rfl rfl hl.1 rfl (lv_room (Nat.le_of_ble_eq_true rfl)) dX5_clip_86 ⟨Nat.zero_le _, Nat.zero_le _⟩) hS hA hP hD [] [0, 1, 2, 3, 4, 5, 6, 7] rfl rfl (by decide) (by decide) (fun r_86 u H locs hp_86 hP hD hS => ?_)
          have hP : va_P D qCl [(m2, .inl (cI, 2304, .inl g1)), (m4, .inl (cJ, 100, .inr (.inl gx))), (m5, .inl (cJ, 100, .inr (.inl gy))), (m6, .inl (cZ, 100, .inl gb)), (m7, .inl (cJ, 200, .inr (.inl gp3))), (m8, .inl (cI, 200, .inl gt3)), (m0, .inr (5, [.int (nI 0), .int (nI wd), .int (nI ht), .int (nI pn), .ref m1, .ref m2, .ref m3, .int (nI cn), .ref m4, .ref m5, .ref m6, .int fl, .int (nI bf), .int (nI bt), .int (nI n3), .ref m7, .ref m8, .ref m9, .int ip, .int (nI ps), .ref ma])), (m9, .inl (cI, 48, .inl gu3))] H := hP
          have hD : va_D A [(m2, .inl (cI, 2304, .inl g1)), (m4, .inl (cJ, 100, .inr (.inl gx))), (m5, .inl (cJ, 100, .inr (.inl gy))), (m6, .inl (cZ, 100, .inl gb)), (m7, .inl (cJ, 200, .inr (.inl gp3))), (m8, .inl (cI, 200, .inl gt3)), (m0, .inr (5, [.int (nI 0), .int (nI wd), .int (nI ht), .int (nI pn), .ref m1, .ref m2, .ref m3, .int (nI cn), .ref m4, .ref m5, .ref m6, .int fl, .int (nI bf), .int (nI bt), .int (nI n3), .ref m7, .ref m8, .ref m9, .int ip, .int (nI ps), .ref ma])), (m9, .inl (cI, 48, .inl gu3))] := hD
          have hp_86 : r_86 = mulv (g1 ((48 * i) + x)) (cvv (Int32.ofInt (cov rl X Y bg cn i 16 x))) := hp_86
          subst hp_86
          refine q_iast hx hb hK hP hD hS 0 0 rfl rfl (k := ((48 * i) + x)) (by omega) (by omega) dX5_clip_89 (fun H locs hP hD hS => ?_)
          have hP : va_P D qCl [(m2, .inl (cI, 2304, .inl (upd g1 ((48 * i) + x) (mulv (g1 ((48 * i) + x)) (cvv (Int32.ofInt (cov rl X Y bg cn i 16 x))))))), (m4, .inl (cJ, 100, .inr (.inl gx))), (m5, .inl (cJ, 100, .inr (.inl gy))), (m6, .inl (cZ, 100, .inl gb)), (m7, .inl (cJ, 200, .inr (.inl gp3))), (m8, .inl (cI, 200, .inl gt3)), (m0, .inr (5, [.int (nI 0), .int (nI wd), .int (nI ht), .int (nI pn), .ref m1, .ref m2, .ref m3, .int (nI cn), .ref m4, .ref m5, .ref m6, .int fl, .int (nI bf), .int (nI bt), .int (nI n3), .ref m7, .ref m8, .ref m9, .int ip, .int (nI ps), .ref ma])), (m9, .inl (cI, 48, .inl gu3))] H := hP
          have hD : va_D A [(m2, .inl (cI, 2304, .inl (upd g1 ((48 * i) + x) (mulv (g1 ((48 * i) + x)) (cvv (Int32.ofInt (cov rl X Y bg cn i 16 x))))))), (m4, .inl (cJ, 100, .inr (.inl gx))), (m5, .inl (cJ, 100, .inr (.inl gy))), (m6, .inl (cZ, 100, .inl gb)), (m7, .inl (cJ, 200, .inr (.inl gp3))), (m8, .inl (cI, 200, .inl gt3)), (m0, .inr (5, [.int (nI 0), .int (nI wd), .int (nI ht), .int (nI pn), .ref m1, .ref m2, .ref m3, .int (nI cn), .ref m4, .ref m5, .ref m6, .int fl, .int (nI bf), .int (nI bt), .int (nI n3), .ref m7, .ref m8, .ref m9, .int ip, .int (nI ps), .ref ma])), (m9, .inl (cI, 48, .inl gu3))] := hD
          have J_112 : ∀ (q2 : Nat), (q2 = q + (crow ((fun zy zx => cvv (Int32.ofInt (cov rl X Y bg cn zy 16 zx))) i) ((fun zy zx => 48 * zy + zx) i) g (x + 1)).2) → (q2 ≤ q + (x + 1)) → ∀ (H : Heap) (locs : List Loc) (ls : Array Slot), va_P D qCl [(m2, .inl (cI, 2304, .inl (upd g1 ((48 * i) + x) (mulv (g1 ((48 * i) + x)) (cvv (Int32.ofInt (cov rl X Y bg cn i 16 x))))))), (m4, .inl (cJ, 100, .inr (.inl gx))), (m5, .inl (cJ, 100, .inr (.inl gy))), (m6, .inl (cZ, 100, .inl gb)), (m7, .inl (cJ, 200, .inr (.inl gp3))), (m8, .inl (cI, 200, .inl gt3)), (m0, .inr (5, [.int (nI 0), .int (nI wd), .int (nI ht), .int (nI pn), .ref m1, .ref m2, .ref m3, .int (nI cn), .ref m4, .ref m5, .ref m6, .int fl, .int (nI bf), .int (nI bt), .int (nI n3), .ref m7, .ref m8, .ref m9, .int ip, .int (nI ps), .ref ma])), (m9, .inl (cI, 48, .inl gu3))] H → va_D A [(m2, .inl (cI, 2304, .inl (upd g1 ((48 * i) + x) (mulv (g1 ((48 * i) + x)) (cvv (Int32.ofInt (cov rl X Y bg cn i 16 x))))))), (m4, .inl (cJ, 100, .inr (.inl gx))), (m5, .inl (cJ, 100, .inr (.inl gy))), (m6, .inl (cZ, 100, .inl gb)), (m7, .inl (cJ, 200, .inr (.inl gp3))), (m8, .inl (cI, 200, .inl gt3)), (m0, .inr (5, [.int (nI 0), .int (nI wd), .int (nI ht), .int (nI pn), .ref m1, .ref m2, .ref m3, .int (nI cn), .ref m4, .ref m5, .ref m6, .int fl, .int (nI bf), .int (nI bt), .int (nI n3), .ref m7, .ref m8, .ref m9, .int ip, .int (nI ps), .ref ma])), (m9, .inl (cI, 48, .inl gu3))] → va_S A s.heap H locs → lv_has ls 5 [(4, .int (nI x)), (3, .int (nI i)), (2, .int (nI q1)), (0, .ref m0), (1, .int rl)] → W p l e rm_X5_clip_ok s m ([.ref m0, .int rl] : List Value).toArray below meth c H locs 0 0 Q (F0 m 112 ls [.int (nI q2)]) := by
            intro q2 hq2 hq2m H locs ls hP hD hS hl
            refine lv_istore_n (lv' := [(2, .int (nI q2)), (4, .int (nI x)), (3, .int (nI i)), (0, .ref m0), (1, .int rl)]) hx hb dX5_clip_112 rfl hl (by decide) rfl (fun ls hl => ?_)
            refine lv_iinc (v := nI (x + 1)) (lv' := [(4, .int (nI (x + 1))), (2, .int (nI q2)), (3, .int (nI i)), (0, .ref m0), (1, .int rl)]) hx hb dX5_clip_113 hl (k := 1) rfl (q_inc _) (by decide) rfl (fun ls hl => ?_)
            refine lv_goto (tgt := 48) hx hb dX5_clip_116 (by decide) ?_
            exact ih_48 (x + 1) q2 (upd g1 ((48 * i) + x) (mulv (g1 ((48 * i) + x)) (cvv (Int32.ofInt (cov rl X Y bg cn i 16 x))))) (by omega) (by omega) (by rw [hg1]; rfl) hq2 (by omega) _ _ _ (hP.sub [0, 6, 1, 2, 3, 4, 5, 7] rfl) (hD.sub [0, 6, 1, 2, 3, 4, 5, 7] (by decide) rfl) hS (lv_sub hl [0, 2, 1, 3, 4] rfl)
          refine lv_aload_n hx hb dX5_clip_90 rfl (lv_at hl 3 rfl) ?_
          refine va_get (D := D) (ci := 5) (v := .ref m2) (C := RX5) (T := TX5) (N := 21) hx hb hts iX5 hown hK hP 6 rfl rfl 5 (by decide) f_13 (fun _ h9 => h9) rfl dX5_clip_91 ?_
          refine lv_bipush (v := nI 48) hx hb dX5_clip_94 (by decide) ?_
          refine lv_iload_n hx hb dX5_clip_96 rfl (lv_at hl 1 rfl) ?_
          refine lv_imul hx hb dX5_clip_97 ?_
          refine q_eqi (pk_mul _ _) ?_
          refine lv_iload hx hb dX5_clip_98 (lv_at hl 0 rfl) ?_
          refine lv_iadd hx hb dX5_clip_100 ?_
          refine q_eqi (nI_add _ _) ?_
          refine q_iald hx hb hK hP 0 0 rfl rfl (k := ((48 * i) + x)) (by omega) (by omega) dX5_clip_101 ?_
          refine q_eqi (y := mulv (g1 (48 * i + x)) (cvv (Int32.ofInt (cov rl X Y bg cn i 16 x)))) (by unfold upd; rw [if_pos rfl]) ?_
          refine lv_if_le (tgt := 111) hx hb dX5_clip_102 (by decide) (fun h_102 => ?_) (fun h_102 => ?_)
          · refine lv_iload_n hx hb dX5_clip_111 rfl (lv_at hl 2 rfl) ?_
            exact J_112 q1 (by show _ = q + (if 0 < mulv ((crow ((fun zy zx => cvv (Int32.ofInt (cov rl X Y bg cn zy 16 zx))) i) ((fun zy zx => 48 * zy + zx) i) g (x)).1 (48 * i + x)) (cvv (Int32.ofInt (cov rl X Y bg cn i 16 x))) then (crow ((fun zy zx => cvv (Int32.ofInt (cov rl X Y bg cn zy 16 zx))) i) ((fun zy zx => 48 * zy + zx) i) g (x)).2 + 1 else (crow ((fun zy zx => cvv (Int32.ofInt (cov rl X Y bg cn zy 16 zx))) i) ((fun zy zx => 48 * zy + zx) i) g (x)).2 : Nat); rw [← hg1]; rw [if_neg (ni0 h_102)]; exact hq1) (by omega) _ _ _ (hP.sub [0, 1, 2, 3, 4, 5, 6, 7] rfl) (hD.sub [0, 1, 2, 3, 4, 5, 6, 7] (by decide) rfl) hS (lv_sub hl [0, 1, 2, 3, 4] rfl)
          refine lv_iload_n hx hb dX5_clip_105 rfl (lv_at hl 2 rfl) ?_
          refine lv_iconst (v := nI 1) hx hb dX5_clip_106 (by decide) ?_
          refine lv_iadd hx hb dX5_clip_107 ?_
          refine q_eqi (nI_add _ _) ?_
          refine lv_goto (tgt := 112) hx hb dX5_clip_108 (by decide) ?_
          exact J_112 (q1 + 1) (by show _ = q + (if 0 < mulv ((crow ((fun zy zx => cvv (Int32.ofInt (cov rl X Y bg cn zy 16 zx))) i) ((fun zy zx => 48 * zy + zx) i) g (x)).1 (48 * i + x)) (cvv (Int32.ofInt (cov rl X Y bg cn i 16 x))) then (crow ((fun zy zx => cvv (Int32.ofInt (cov rl X Y bg cn zy 16 zx))) i) ((fun zy zx => 48 * zy + zx) i) g (x)).2 + 1 else (crow ((fun zy zx => cvv (Int32.ofInt (cov rl X Y bg cn zy 16 zx))) i) ((fun zy zx => 48 * zy + zx) i) g (x)).2 : Nat); rw [← hg1]; rw [if_pos (ni1 h_102), hq1]; rfl) (by omega) _ _ _ (hP.sub [0, 1, 2, 3, 4, 5, 6, 7] rfl) (hD.sub [0, 1, 2, 3, 4, 5, 6, 7] (by decide) rfl) hS (lv_sub hl [0, 1, 2, 3, 4] rfl)
      exact L_48 _ 0 q g (Nat.lt_succ_self _) (Nat.zero_le _) rfl rfl (by omega) _ _ _ (hP.sub [0, 1, 2, 3, 4, 5, 6, 7] rfl) (hD.sub [0, 1, 2, 3, 4, 5, 6, 7] (by decide) rfl) hS (lv_sub hl [0, 1, 2, 3, 4] rfl)
  exact L_31 _ 0 0 gC xn gp gt gu (Nat.lt_succ_self _) (Nat.zero_le _) rfl rfl (Nat.zero_le _) _ _ _ (hP.sub [0, 1, 2, 3, 4, 5, 6, 7] rfl) (hD.sub [0, 1, 2, 3, 4, 5, 6, 7] (by decide) rfl) hS (lv_sub hl [0, 1, 2, 3] rfl)

abbrev rm_X5_clip_rule : Room := { frames := 0, cells := 0, slots := 0, locals := 0 }
set_option maxHeartbeats 4000000 in
set_option maxRecDepth 100000 in
theorem c_X5_clip_rule (l : Launch) (D : va_G) (cI cZ cB cJ : ClassId) (sz : Nat) (m0 : Nat) (m1 : Nat) (m2 : Nat) (m3 : Nat) (m4 : Nat) (m5 : Nat) (m6 : Nat) (m7 : Nat) (m8 : Nat) (m9 : Nat) (ma : Nat) (th : Int32) (wd : Nat) (ht : Nat) (pn : Nat) (cn : Nat) (fl : Int32) (bf : Nat) (bt : Nat) (xn : Nat) (ip : Int32) (ps : Nat) (rl : Int32) (hrl : ¬ (rl = 0 ∨ rl = 1)) : Met l yX5_clip wsX5_clip rm_X5_clip_rule (va_Pc [.ref m0, .int rl] (PC D (qT cI cZ cB cJ) [(m0, .inr (5, [.int th, .int (nI wd), .int (nI ht), .int (nI pn), .ref m1, .ref m2, .ref m3, .int (nI cn), .ref m4, .ref m5, .ref m6, .int fl, .int (nI bf), .int (nI bt), .int (nI xn), .ref m7, .ref m8, .ref m9, .int ip, .int (nI ps), .ref ma]))] sz)) (va_Qi (fun (r : Int32) (u : Unit) => True) (fun (u : Unit) => PO D (qT cI cZ cB cJ) (va_A [(m0, .inr (5, [.int th, .int (nI wd), .int (nI ht), .int (nI pn), .ref m1, .ref m2, .ref m3, .int (nI cn), .ref m4, .ref m5, .ref m6, .int fl, .int (nI bf), .int (nI bt), .int (nI xn), .ref m7, .ref m8, .ref m9, .int ip, .int (nI ps), .ref ma]))] sz) [(m0, .inr (5, [.int (nI 1), .int (nI wd), .int (nI ht), .int (nI pn), .ref m1, .ref m2, .ref m3, .int (nI cn), .ref m4, .ref m5, .ref m6, .int fl, .int (nI bf), .int (nI bt), .int (nI xn), .ref m7, .ref m8, .ref m9, .int ip, .int (nI ps), .ref ma]))]) (va_A [(m0, .inr (5, [.int th, .int (nI wd), .int (nI ht), .int (nI pn), .ref m1, .ref m2, .ref m3, .int (nI cn), .ref m4, .ref m5, .ref m6, .int fl, .int (nI bf), .int (nI bt), .int (nI xn), .ref m7, .ref m8, .ref m9, .int ip, .int (nI ps), .ref ma]))] sz)) 0 0 (va_A [(m0, .inr (5, [.int th, .int (nI wd), .int (nI ht), .int (nI pn), .ref m1, .ref m2, .ref m3, .int (nI cn), .ref m4, .ref m5, .ref m6, .int fl, .int (nI bf), .int (nI bt), .int (nI xn), .ref m7, .ref m8, .ref m9, .int ip, .int (nI ps), .ref ma]))] sz) := by
  refine q_entI (cc := cX5_clip) (maxL := 5) (by decide +kernel) rfl (Nat.le_of_ble_eq_true rfl) ?_
  intro p e s m below meth c A Q ls hq hl hQ
  obtain ⟨hx, hb, hml, hts, hown, hin, hN, hK, hsz, hA, hP, hD, hS⟩ := hq
  have hown : s.vm.findClass RX5 = some m.cls := hown
  obtain ⟨H, hH⟩ : ∃ H, H = s.heap := ⟨_, rfl⟩
  rw [← hH] at hP ⊢
  have hS : va_S A s.heap H [] := by rw [hH]; exact va_S.rf
  clear hH
  have hl : lv_has ls 5 [(0, .ref m0), (1, .int rl)] := hl
  have iX5 : ∀ w ∈ wsX50, w ∈ wsX5_clip := by decide +kernel
  have f_55 := hts (.fieldLink RX5 55 "RasterCoverModel" "thrown" "I") (by decide +kernel)
  refine lv_aload_n hx hb dX5_clip_0 rfl (lv_at hl 0 rfl) ?_
  refine lv_iload_n hx hb dX5_clip_1 rfl (lv_at hl 1 rfl) ?_
  refine lv_if_lt (tgt := 10) hx hb dX5_clip_2 (by decide) (fun h_2 => ?_) (fun h_2 => ?_)
  · refine lv_iconst (v := nI 1) hx hb dX5_clip_10 (by decide) ?_
    refine lv_goto (tgt := 15) hx hb dX5_clip_11 (by decide) ?_
    refine va_put (D := D) (ci := 5) (v := .int (nI 1)) (ty := .int) (C := RX5) (T := TX5) (N := 21) hx hb hts iX5 tyX5 tyX5_ok nmX5 hown hK hP hD hS 0 rfl rfl 0 (by decide) f_55 (fun _ h9 => h9) rfl (by decide +kernel) rfl rfl (Nat.le_of_ble_eq_true rfl) dX5_clip_15 (fun H locs hP hD hS => ?_)
    have hP : va_P D qCl [(m0, .inr (5, [.int (nI 1), .int (nI wd), .int (nI ht), .int (nI pn), .ref m1, .ref m2, .ref m3, .int (nI cn), .ref m4, .ref m5, .ref m6, .int fl, .int (nI bf), .int (nI bt), .int (nI xn), .ref m7, .ref m8, .ref m9, .int ip, .int (nI ps), .ref ma]))] H := hP
    have hD : va_D A [(m0, .inr (5, [.int (nI 1), .int (nI wd), .int (nI ht), .int (nI pn), .ref m1, .ref m2, .ref m3, .int (nI cn), .ref m4, .ref m5, .ref m6, .int fl, .int (nI bf), .int (nI bt), .int (nI xn), .ref m7, .ref m8, .ref m9, .int ip, .int (nI ps), .ref ma]))] := hD
    refine lv_aload_n hx hb dX5_clip_18 rfl (lv_at hl 0 rfl) ?_
    refine va_get (D := D) (ci := 5) (v := .int (nI 1)) (C := RX5) (T := TX5) (N := 21) hx hb hts iX5 hown hK hP 0 rfl rfl 0 (by decide) f_55 (fun _ h9 => h9) rfl dX5_clip_19 ?_
    refine q_if_le (tgt := 27) hx hb (by omega) dX5_clip_22 (by decide) (fun h_22 => by omega) (fun h_22 => ?_)
    refine lv_iconst (v := nI 0) hx hb dX5_clip_25 (by decide) ?_
    exact hQ _ _ _ _ (nI 0) () _ _ dX5_clip_26 (Nat.le_refl _) (Nat.le_refl _) trivial (hP.sub [0] rfl) hK (hD.sub [0] (by decide) rfl) hS
  refine lv_iload_n hx hb dX5_clip_5 rfl (lv_at hl 1 rfl) ?_
  refine lv_iconst (v := nI 1) hx hb dX5_clip_6 (by decide) ?_
  refine lv_icmp_le (tgt := 14) hx hb dX5_clip_7 (by decide) (fun h_7 => by exact (hrl (r01 h_2 h_7)).elim) (fun h_7 => ?_)
  refine lv_iconst (v := nI 1) hx hb dX5_clip_10 (by decide) ?_
  refine lv_goto (tgt := 15) hx hb dX5_clip_11 (by decide) ?_
  refine va_put (D := D) (ci := 5) (v := .int (nI 1)) (ty := .int) (C := RX5) (T := TX5) (N := 21) hx hb hts iX5 tyX5 tyX5_ok nmX5 hown hK hP hD hS 0 rfl rfl 0 (by decide) f_55 (fun _ h9 => h9) rfl (by decide +kernel) rfl rfl (Nat.le_of_ble_eq_true rfl) dX5_clip_15 (fun H locs hP hD hS => ?_)
  have hP : va_P D qCl [(m0, .inr (5, [.int (nI 1), .int (nI wd), .int (nI ht), .int (nI pn), .ref m1, .ref m2, .ref m3, .int (nI cn), .ref m4, .ref m5, .ref m6, .int fl, .int (nI bf), .int (nI bt), .int (nI xn), .ref m7, .ref m8, .ref m9, .int ip, .int (nI ps), .ref ma]))] H := hP
  have hD : va_D A [(m0, .inr (5, [.int (nI 1), .int (nI wd), .int (nI ht), .int (nI pn), .ref m1, .ref m2, .ref m3, .int (nI cn), .ref m4, .ref m5, .ref m6, .int fl, .int (nI bf), .int (nI bt), .int (nI xn), .ref m7, .ref m8, .ref m9, .int ip, .int (nI ps), .ref ma]))] := hD
  refine lv_aload_n hx hb dX5_clip_18 rfl (lv_at hl 0 rfl) ?_
  refine va_get (D := D) (ci := 5) (v := .int (nI 1)) (C := RX5) (T := TX5) (N := 21) hx hb hts iX5 hown hK hP 0 rfl rfl 0 (by decide) f_55 (fun _ h9 => h9) rfl dX5_clip_19 ?_
  refine q_if_le (tgt := 27) hx hb (by omega) dX5_clip_22 (by decide) (fun h_22 => by omega) (fun h_22 => ?_)
  refine lv_iconst (v := nI 0) hx hb dX5_clip_25 (by decide) ?_
  exact hQ _ _ _ _ (nI 0) () _ _ dX5_clip_26 (Nat.le_refl _) (Nat.le_refl _) trivial (hP.sub [0] rfl) hK (hD.sub [0] (by decide) rfl) hS

abbrev rm_X5_end : Room := { frames := 0, cells := 0, slots := 0, locals := 0 }
set_option maxHeartbeats 4000000 in
set_option maxRecDepth 100000 in
/-- the reference: end -/
theorem c_X5_end (l : Launch) (D : va_G) (cI cZ cB cJ : ClassId) (sz : Nat) (m0 : Nat) (m1 : Nat) (m2 : Nat) (m3 : Nat) (m4 : Nat) (m5 : Nat) (m6 : Nat) (m7 : Nat) (m8 : Nat) (m9 : Nat) (ma : Nat) (th : Int32) (wd : Nat) (ht : Nat) (pn : Nat) (cn : Nat) (fl : Int32) (bf : Nat) (bt : Nat) (xn : Nat) (ip : Int32) (ps : Nat) (gC : Nat → Int32) : Met l yX5_end wsX5_end rm_X5_end (va_Pc [.ref m0] (PC D (qT cI cZ cB cJ) [(m0, .inr (5, [.int th, .int (nI wd), .int (nI ht), .int (nI pn), .ref m1, .ref m2, .ref m3, .int (nI cn), .ref m4, .ref m5, .ref m6, .int fl, .int (nI bf), .int (nI bt), .int (nI xn), .ref m7, .ref m8, .ref m9, .int ip, .int (nI ps), .ref ma])), (m2, .inl (cI, 2304, .inl gC))] sz)) (va_Qi (fun (r : Int32) (u : (Nat → Int32)) => r = fl ∧ (∀ j, j < 2304 → u j = nI 255)) (fun (u : (Nat → Int32)) => PO D (qT cI cZ cB cJ) (va_A [(m0, .inr (5, [.int th, .int (nI wd), .int (nI ht), .int (nI pn), .ref m1, .ref m2, .ref m3, .int (nI cn), .ref m4, .ref m5, .ref m6, .int fl, .int (nI bf), .int (nI bt), .int (nI xn), .ref m7, .ref m8, .ref m9, .int ip, .int (nI ps), .ref ma])), (m2, .inl (cI, 2304, .inl gC))] sz) [(m0, .inr (5, [.int (nI 0), .int (nI wd), .int (nI ht), .int (nI pn), .ref m1, .ref m2, .ref m3, .int (nI 0), .ref m4, .ref m5, .ref m6, .int (nI 0), .int (nI bf), .int (nI bt), .int (nI xn), .ref m7, .ref m8, .ref m9, .int ip, .int (nI ps), .ref ma])), (m2, .inl (cI, 2304, .inl u))]) (va_A [(m0, .inr (5, [.int th, .int (nI wd), .int (nI ht), .int (nI pn), .ref m1, .ref m2, .ref m3, .int (nI cn), .ref m4, .ref m5, .ref m6, .int fl, .int (nI bf), .int (nI bt), .int (nI xn), .ref m7, .ref m8, .ref m9, .int ip, .int (nI ps), .ref ma])), (m2, .inl (cI, 2304, .inl gC))] sz)) 0 0 (va_A [(m0, .inr (5, [.int th, .int (nI wd), .int (nI ht), .int (nI pn), .ref m1, .ref m2, .ref m3, .int (nI cn), .ref m4, .ref m5, .ref m6, .int fl, .int (nI bf), .int (nI bt), .int (nI xn), .ref m7, .ref m8, .ref m9, .int ip, .int (nI ps), .ref ma])), (m2, .inl (cI, 2304, .inl gC))] sz) := by
  refine q_entI (cc := cX5_end) (maxL := 3) (by decide +kernel) rfl (Nat.le_of_ble_eq_true rfl) ?_
  intro p e s m below meth c A Q ls hq hl hQ
  obtain ⟨hx, hb, hml, hts, hown, hin, hN, hK, hsz, hA, hP, hD, hS⟩ := hq
  have hown : s.vm.findClass RX5 = some m.cls := hown
  obtain ⟨H, hH⟩ : ∃ H, H = s.heap := ⟨_, rfl⟩
  rw [← hH] at hP ⊢
  have hS : va_S A s.heap H [] := by rw [hH]; exact va_S.rf
  clear hH
  have hl : lv_has ls 3 [(0, .ref m0)] := hl
  have iX5 : ∀ w ∈ wsX50, w ∈ wsX5_end := by decide +kernel
  have f_55 := hts (.fieldLink RX5 55 "RasterCoverModel" "thrown" "I") (by decide +kernel)
  have f_124 := hts (.fieldLink RX5 124 "RasterCoverModel" "fills" "I") (by decide +kernel)
  have f_62 := hts (.fieldLink RX5 62 "RasterCoverModel" "points" "I") (by decide +kernel)
  have f_13 := hts (.fieldLink RX5 13 "RasterCoverModel" "clips" "[I") (by decide +kernel)
  refine lv_aload_n hx hb dX5_end_0 rfl (lv_at hl 0 rfl) ?_
  refine lv_iconst (v := nI 0) hx hb dX5_end_1 (by decide) ?_
  refine va_put (D := D) (ci := 5) (v := .int (nI 0)) (ty := .int) (C := RX5) (T := TX5) (N := 21) hx hb hts iX5 tyX5 tyX5_ok nmX5 hown hK hP hD hS 0 rfl rfl 0 (by decide) f_55 (fun _ h9 => h9) rfl (by decide +kernel) rfl rfl (Nat.le_of_ble_eq_true rfl) dX5_end_2 (fun H locs hP hD hS => ?_)
  have hP : va_P D qCl [(m0, .inr (5, [.int (nI 0), .int (nI wd), .int (nI ht), .int (nI pn), .ref m1, .ref m2, .ref m3, .int (nI cn), .ref m4, .ref m5, .ref m6, .int fl, .int (nI bf), .int (nI bt), .int (nI xn), .ref m7, .ref m8, .ref m9, .int ip, .int (nI ps), .ref ma])), (m2, .inl (cI, 2304, .inl gC))] H := hP
  have hD : va_D A [(m0, .inr (5, [.int (nI 0), .int (nI wd), .int (nI ht), .int (nI pn), .ref m1, .ref m2, .ref m3, .int (nI cn), .ref m4, .ref m5, .ref m6, .int fl, .int (nI bf), .int (nI bt), .int (nI xn), .ref m7, .ref m8, .ref m9, .int ip, .int (nI ps), .ref ma])), (m2, .inl (cI, 2304, .inl gC))] := hD
  refine lv_aload_n hx hb dX5_end_5 rfl (lv_at hl 0 rfl) ?_
  refine va_get (D := D) (ci := 5) (v := .int fl) (C := RX5) (T := TX5) (N := 21) hx hb hts iX5 hown hK hP 0 rfl rfl 11 (by decide) f_124 (fun _ h9 => h9) rfl dX5_end_6 ?_
  refine lv_istore_n (lv' := [(1, .int fl), (0, .ref m0)]) hx hb dX5_end_9 rfl hl (by decide) rfl (fun ls hl => ?_)
  refine lv_aload_n hx hb dX5_end_10 rfl (lv_at hl 1 rfl) ?_
  refine lv_iconst (v := nI 0) hx hb dX5_end_11 (by decide) ?_
  refine va_put (D := D) (ci := 5) (v := .int (nI 0)) (ty := .int) (C := RX5) (T := TX5) (N := 21) hx hb hts iX5 tyX5 tyX5_ok nmX5 hown hK hP hD hS 0 rfl rfl 11 (by decide) f_124 (fun _ h9 => h9) rfl (by decide +kernel) rfl rfl (Nat.le_of_ble_eq_true rfl) dX5_end_12 (fun H locs hP hD hS => ?_)
  have hP : va_P D qCl [(m0, .inr (5, [.int (nI 0), .int (nI wd), .int (nI ht), .int (nI pn), .ref m1, .ref m2, .ref m3, .int (nI cn), .ref m4, .ref m5, .ref m6, .int (nI 0), .int (nI bf), .int (nI bt), .int (nI xn), .ref m7, .ref m8, .ref m9, .int ip, .int (nI ps), .ref ma])), (m2, .inl (cI, 2304, .inl gC))] H := hP
  have hD : va_D A [(m0, .inr (5, [.int (nI 0), .int (nI wd), .int (nI ht), .int (nI pn), .ref m1, .ref m2, .ref m3, .int (nI cn), .ref m4, .ref m5, .ref m6, .int (nI 0), .int (nI bf), .int (nI bt), .int (nI xn), .ref m7, .ref m8, .ref m9, .int ip, .int (nI ps), .ref ma])), (m2, .inl (cI, 2304, .inl gC))] := hD
  refine lv_aload_n hx hb dX5_end_15 rfl (lv_at hl 1 rfl) ?_
  refine lv_iconst (v := nI 0) hx hb dX5_end_16 (by decide) ?_
  refine va_put (D := D) (ci := 5) (v := .int (nI 0)) (ty := .int) (C := RX5) (T := TX5) (N := 21) hx hb hts iX5 tyX5 tyX5_ok nmX5 hown hK hP hD hS 0 rfl rfl 7 (by decide) f_62 (fun _ h9 => h9) rfl (by decide +kernel) rfl rfl (Nat.le_of_ble_eq_true rfl) dX5_end_17 (fun H locs hP hD hS => ?_)
  have hP : va_P D qCl [(m0, .inr (5, [.int (nI 0), .int (nI wd), .int (nI ht), .int (nI pn), .ref m1, .ref m2, .ref m3, .int (nI 0), .ref m4, .ref m5, .ref m6, .int (nI 0), .int (nI bf), .int (nI bt), .int (nI xn), .ref m7, .ref m8, .ref m9, .int ip, .int (nI ps), .ref ma])), (m2, .inl (cI, 2304, .inl gC))] H := hP
  have hD : va_D A [(m0, .inr (5, [.int (nI 0), .int (nI wd), .int (nI ht), .int (nI pn), .ref m1, .ref m2, .ref m3, .int (nI 0), .ref m4, .ref m5, .ref m6, .int (nI 0), .int (nI bf), .int (nI bt), .int (nI xn), .ref m7, .ref m8, .ref m9, .int ip, .int (nI ps), .ref ma])), (m2, .inl (cI, 2304, .inl gC))] := hD
  refine lv_iconst (v := nI 0) hx hb dX5_end_20 (by decide) ?_
  refine lv_istore_n (lv' := [(2, .int (nI 0)), (1, .int fl), (0, .ref m0)]) hx hb dX5_end_21 rfl hl (by decide) rfl (fun ls hl => ?_)
  have L_22 : ∀ (fuel : Nat) (k : Nat) (g : Nat → Int32), 2304 - k < fuel → (k ≤ 2304) → (∀ j, j < k → g j = nI 255) → ∀ (H : Heap) (locs : List Loc) (ls : Array Slot), va_P D qCl [(m0, .inr (5, [.int (nI 0), .int (nI wd), .int (nI ht), .int (nI pn), .ref m1, .ref m2, .ref m3, .int (nI 0), .ref m4, .ref m5, .ref m6, .int (nI 0), .int (nI bf), .int (nI bt), .int (nI xn), .ref m7, .ref m8, .ref m9, .int ip, .int (nI ps), .ref ma])), (m2, .inl (cI, 2304, .inl g))] H → va_D A [(m0, .inr (5, [.int (nI 0), .int (nI wd), .int (nI ht), .int (nI pn), .ref m1, .ref m2, .ref m3, .int (nI 0), .ref m4, .ref m5, .ref m6, .int (nI 0), .int (nI bf), .int (nI bt), .int (nI xn), .ref m7, .ref m8, .ref m9, .int ip, .int (nI ps), .ref ma])), (m2, .inl (cI, 2304, .inl g))] → va_S A s.heap H locs → lv_has ls 3 [(2, .int (nI k)), (1, .int fl), (0, .ref m0)] → W p l e rm_X5_end s m ([.ref m0] : List Value).toArray below meth c H locs 0 0 Q (F0 m 22 ls []) := by
    intro fuel
    induction fuel with
    | zero =>
      intro k g hm
      exact absurd hm (Nat.not_lt_zero _)
    | succ fuel ih_22 =>
      intro k g hm_22 hk hg H locs ls hP hD hS hl
      refine lv_iload_n hx hb dX5_end_22 rfl (lv_at hl 0 rfl) ?_
      refine lv_sipush (v := nI 2304) hx hb dX5_end_23 (by decide) ?_
      refine q_ge (tgt := 44) hx hb (by omega) (by omega) dX5_end_26 (by decide) (fun h_26 => ?_) (fun h_26 => ?_)
      · refine lv_iload_n hx hb dX5_end_44 rfl (lv_at hl 1 rfl) ?_
        have hr9 : fl = fl ∧ (∀ j, j < 2304 → g j = nI 255) := ⟨rfl, fun j hj => hg j (by omega)⟩
        exact hQ _ _ _ _ fl g _ _ dX5_end_45 (Nat.le_refl _) (Nat.le_refl _) hr9 (hP.sub [0, 1] rfl) hK (hD.sub [0, 1] (by decide) rfl) hS
      refine lv_aload_n hx hb dX5_end_29 rfl (lv_at hl 2 rfl) ?_
      refine va_get (D := D) (ci := 5) (v := .ref m2) (C := RX5) (T := TX5) (N := 21) hx hb hts iX5 hown hK hP 0 rfl rfl 5 (by decide) f_13 (fun _ h9 => h9) rfl dX5_end_30 ?_
      refine lv_iload_n hx hb dX5_end_33 rfl (lv_at hl 0 rfl) ?_
      refine lv_sipush (v := nI 255) hx hb dX5_end_34 (by decide) ?_
      refine q_iast hx hb hK hP hD hS 1 0 rfl rfl (k := k) (by omega) (by omega) dX5_end_37 (fun H locs hP hD hS => ?_)
      have hP : va_P D qCl [(m0, .inr (5, [.int (nI 0), .int (nI wd), .int (nI ht), .int (nI pn), .ref m1, .ref m2, .ref m3, .int (nI 0), .ref m4, .ref m5, .ref m6, .int (nI 0), .int (nI bf), .int (nI bt), .int (nI xn), .ref m7, .ref m8, .ref m9, .int ip, .int (nI ps), .ref ma])), (m2, .inl (cI, 2304, .inl (upd g k (nI 255))))] H := hP
      have hD : va_D A [(m0, .inr (5, [.int (nI 0), .int (nI wd), .int (nI ht), .int (nI pn), .ref m1, .ref m2, .ref m3, .int (nI 0), .ref m4, .ref m5, .ref m6, .int (nI 0), .int (nI bf), .int (nI bt), .int (nI xn), .ref m7, .ref m8, .ref m9, .int ip, .int (nI ps), .ref ma])), (m2, .inl (cI, 2304, .inl (upd g k (nI 255))))] := hD
      refine lv_iinc (v := nI (k + 1)) (lv' := [(2, .int (nI (k + 1))), (1, .int fl), (0, .ref m0)]) hx hb dX5_end_38 hl (k := 0) rfl (q_inc _) (by decide) rfl (fun ls hl => ?_)
      refine lv_goto (tgt := 22) hx hb dX5_end_41 (by decide) ?_
      exact ih_22 (k + 1) (upd g k (nI 255)) (by omega) (by omega) (fun j hj => by unfold upd; by_cases c9 : j = k; (· rw [if_pos c9]); (· rw [if_neg c9]; exact hg j (by omega))) _ _ _ (hP.sub [0, 1] rfl) (hD.sub [0, 1] (by decide) rfl) hS (lv_sub hl [0, 1, 2] rfl)
  exact L_22 _ 0 gC (Nat.lt_succ_self _) (Nat.zero_le _) (fun j hj => absurd hj (Nat.not_lt_zero _)) _ _ _ (hP.sub [0, 1] rfl) (hD.sub [0, 1] (by decide) rfl) hS (lv_sub hl [0, 1, 2] rfl)

abbrev rm_X5_isPoint : Room := { frames := 0, cells := 0, slots := 0, locals := 0 }
set_option maxHeartbeats 4000000 in
set_option maxRecDepth 100000 in
theorem c_X5_isPoint (l : Launch) (D : va_G) (cI cZ cB cJ : ClassId) (sz : Nat) (m0 : Nat) (m1 : Nat) (m2 : Nat) (m3 : Nat) (m4 : Nat) (m5 : Nat) (m6 : Nat) (m7 : Nat) (m8 : Nat) (m9 : Nat) (ma : Nat) (th : Int32) (wd : Nat) (ht : Nat) (pn : Nat) (cn : Nat) (fl : Int32) (bf : Nat) (bt : Nat) (xn : Nat) (ip : Int32) (ps : Nat) (vx : Int32) (vy : Int32) (hwd : wd ≤ 48) (hht : ht ≤ 48) : Met l yX5_isPoint wsX5_isPoint rm_X5_isPoint (va_Pc [.ref m0, .int vx, .int vy] (PC D (qT cI cZ cB cJ) [(m0, .inr (5, [.int th, .int (nI wd), .int (nI ht), .int (nI pn), .ref m1, .ref m2, .ref m3, .int (nI cn), .ref m4, .ref m5, .ref m6, .int fl, .int (nI bf), .int (nI bt), .int (nI xn), .ref m7, .ref m8, .ref m9, .int ip, .int (nI ps), .ref ma]))] sz)) (va_Qi (fun (r : Int32) (u : Unit) => r = (if (0 ≤ vx.toInt ∧ vx.toInt < wd) ∧ 0 ≤ vy.toInt ∧ vy.toInt < ht then nI 1 else nI 0)) (fun (u : Unit) => PO D (qT cI cZ cB cJ) (va_A [(m0, .inr (5, [.int th, .int (nI wd), .int (nI ht), .int (nI pn), .ref m1, .ref m2, .ref m3, .int (nI cn), .ref m4, .ref m5, .ref m6, .int fl, .int (nI bf), .int (nI bt), .int (nI xn), .ref m7, .ref m8, .ref m9, .int ip, .int (nI ps), .ref ma]))] sz) [(m0, .inr (5, [.int th, .int (nI wd), .int (nI ht), .int (nI pn), .ref m1, .ref m2, .ref m3, .int (nI cn), .ref m4, .ref m5, .ref m6, .int fl, .int (nI bf), .int (nI bt), .int (nI xn), .ref m7, .ref m8, .ref m9, .int ip, .int (nI ps), .ref ma]))]) (va_A [(m0, .inr (5, [.int th, .int (nI wd), .int (nI ht), .int (nI pn), .ref m1, .ref m2, .ref m3, .int (nI cn), .ref m4, .ref m5, .ref m6, .int fl, .int (nI bf), .int (nI bt), .int (nI xn), .ref m7, .ref m8, .ref m9, .int ip, .int (nI ps), .ref ma]))] sz)) 0 0 (va_A [(m0, .inr (5, [.int th, .int (nI wd), .int (nI ht), .int (nI pn), .ref m1, .ref m2, .ref m3, .int (nI cn), .ref m4, .ref m5, .ref m6, .int fl, .int (nI bf), .int (nI bt), .int (nI xn), .ref m7, .ref m8, .ref m9, .int ip, .int (nI ps), .ref ma]))] sz) := by
  refine q_entZ (cc := cX5_isPoint) (maxL := 3) (by decide +kernel) rfl (Nat.le_of_ble_eq_true rfl) ?_
  intro p e s m below meth c A Q ls hq hl hQ
  obtain ⟨hx, hb, hml, hts, hown, hin, hN, hK, hsz, hA, hP, hD, hS⟩ := hq
  have hown : s.vm.findClass RX5 = some m.cls := hown
  obtain ⟨H, hH⟩ : ∃ H, H = s.heap := ⟨_, rfl⟩
  rw [← hH] at hP ⊢
  have hS : va_S A s.heap H [] := by rw [hH]; exact va_S.rf
  clear hH
  have hl : lv_has ls 3 [(0, .ref m0), (1, .int vx), (2, .int vy)] := hl
  have iX5 : ∀ w ∈ wsX50, w ∈ wsX5_isPoint := by decide +kernel
  have f_42 := hts (.fieldLink RX5 42 "RasterCoverModel" "wide" "I") (by decide +kernel)
  have f_46 := hts (.fieldLink RX5 46 "RasterCoverModel" "high" "I") (by decide +kernel)
  refine lv_iload_n hx hb dX5_isPoint_0 rfl (lv_at hl 1 rfl) ?_
  refine lv_if_lt (tgt := 28) hx hb dX5_isPoint_1 (by decide) (fun h_1 => ?_) (fun h_1 => ?_)
  · rw [i_lt, show (0 : Int32).toInt = 0 from by decide] at h_1
    refine lv_iconst (v := nI 0) hx hb dX5_isPoint_28 (by decide) ?_
    have hr9 : (nI 0) = (if (0 ≤ vx.toInt ∧ vx.toInt < wd) ∧ 0 ≤ vy.toInt ∧ vy.toInt < ht then nI 1 else nI 0) := (by rw [if_neg (by omega)])
    exact hQ _ _ _ _ (nI 0) () _ _ (by first | rfl | decide) dX5_isPoint_29 (Nat.le_refl _) (Nat.le_refl _) hr9 (hP.sub [0] rfl) hK (hD.sub [0] (by decide) rfl) hS
  rw [i_lt, show (0 : Int32).toInt = 0 from by decide] at h_1
  refine lv_iload_n hx hb dX5_isPoint_4 rfl (lv_at hl 1 rfl) ?_
  refine lv_aload_n hx hb dX5_isPoint_5 rfl (lv_at hl 0 rfl) ?_
  refine va_get (D := D) (ci := 5) (v := .int (nI wd)) (C := RX5) (T := TX5) (N := 21) hx hb hts iX5 hown hK hP 0 rfl rfl 1 (by decide) f_42 (fun _ h9 => h9) rfl dX5_isPoint_6 ?_
  refine lv_icmp_ge (tgt := 28) hx hb dX5_isPoint_9 (by decide) (fun h_9 => ?_) (fun h_9 => ?_)
  · rw [i_le, nI_toInt (by omega)] at h_9
    refine lv_iconst (v := nI 0) hx hb dX5_isPoint_28 (by decide) ?_
    have hr9 : (nI 0) = (if (0 ≤ vx.toInt ∧ vx.toInt < wd) ∧ 0 ≤ vy.toInt ∧ vy.toInt < ht then nI 1 else nI 0) := (by rw [if_neg (by omega)])
    exact hQ _ _ _ _ (nI 0) () _ _ (by first | rfl | decide) dX5_isPoint_29 (Nat.le_refl _) (Nat.le_refl _) hr9 (hP.sub [0] rfl) hK (hD.sub [0] (by decide) rfl) hS
  rw [i_le, nI_toInt (by omega)] at h_9
  refine lv_iload_n hx hb dX5_isPoint_12 rfl (lv_at hl 2 rfl) ?_
  refine lv_if_lt (tgt := 28) hx hb dX5_isPoint_13 (by decide) (fun h_13 => ?_) (fun h_13 => ?_)
  · rw [i_lt, show (0 : Int32).toInt = 0 from by decide] at h_13
    refine lv_iconst (v := nI 0) hx hb dX5_isPoint_28 (by decide) ?_
    have hr9 : (nI 0) = (if (0 ≤ vx.toInt ∧ vx.toInt < wd) ∧ 0 ≤ vy.toInt ∧ vy.toInt < ht then nI 1 else nI 0) := (by rw [if_neg (by omega)])
    exact hQ _ _ _ _ (nI 0) () _ _ (by first | rfl | decide) dX5_isPoint_29 (Nat.le_refl _) (Nat.le_refl _) hr9 (hP.sub [0] rfl) hK (hD.sub [0] (by decide) rfl) hS
  rw [i_lt, show (0 : Int32).toInt = 0 from by decide] at h_13
  refine lv_iload_n hx hb dX5_isPoint_16 rfl (lv_at hl 2 rfl) ?_
  refine lv_aload_n hx hb dX5_isPoint_17 rfl (lv_at hl 0 rfl) ?_
  refine va_get (D := D) (ci := 5) (v := .int (nI ht)) (C := RX5) (T := TX5) (N := 21) hx hb hts iX5 hown hK hP 0 rfl rfl 2 (by decide) f_46 (fun _ h9 => h9) rfl dX5_isPoint_18 ?_
  refine lv_icmp_ge (tgt := 28) hx hb dX5_isPoint_21 (by decide) (fun h_21 => ?_) (fun h_21 => ?_)
  · rw [i_le, nI_toInt (by omega)] at h_21
    refine lv_iconst (v := nI 0) hx hb dX5_isPoint_28 (by decide) ?_
    have hr9 : (nI 0) = (if (0 ≤ vx.toInt ∧ vx.toInt < wd) ∧ 0 ≤ vy.toInt ∧ vy.toInt < ht then nI 1 else nI 0) := (by rw [if_neg (by omega)])
    exact hQ _ _ _ _ (nI 0) () _ _ (by first | rfl | decide) dX5_isPoint_29 (Nat.le_refl _) (Nat.le_refl _) hr9 (hP.sub [0] rfl) hK (hD.sub [0] (by decide) rfl) hS
  rw [i_le, nI_toInt (by omega)] at h_21
  refine lv_iconst (v := nI 1) hx hb dX5_isPoint_24 (by decide) ?_
  refine lv_goto (tgt := 29) hx hb dX5_isPoint_25 (by decide) ?_
  have hr9 : (nI 1) = (if (0 ≤ vx.toInt ∧ vx.toInt < wd) ∧ 0 ≤ vy.toInt ∧ vy.toInt < ht then nI 1 else nI 0) := (by rw [if_pos (by omega)])
  exact hQ _ _ _ _ (nI 1) () _ _ (by first | rfl | decide) dX5_isPoint_29 (Nat.le_refl _) (Nat.le_refl _) hr9 (hP.sub [0] rfl) hK (hD.sub [0] (by decide) rfl) hS

abbrev rm_X5_point_ok : Room := { frames := 1, cells := 0, slots := 0, locals := 22 }
set_option maxHeartbeats 4000000 in
set_option maxRecDepth 100000 in
theorem c_X5_point_ok (l : Launch) (D : va_G) (cI cZ cB cJ : ClassId) (sz : Nat) (m0 : Nat) (m1 : Nat) (m2 : Nat) (m3 : Nat) (m4 : Nat) (m5 : Nat) (m6 : Nat) (m7 : Nat) (m8 : Nat) (m9 : Nat) (ma : Nat) (th : Int32) (wd : Nat) (ht : Nat) (pn : Nat) (cn : Nat) (fl : Int32) (bf : Nat) (bt : Nat) (xn : Nat) (ip : Int32) (ps : Nat) (vx : Int32) (vy : Int32) (pl : Int32) (gB : Nat → Int32) (hpn : pn ≤ 4) (hht : ht ≤ 48) (hwd : wd ≤ 48) (hpt : ((0 ≤ pl.toInt ∧ pl.toInt < pn) ∧ (0 ≤ vx.toInt ∧ vx.toInt < wd) ∧ 0 ≤ vy.toInt ∧ vy.toInt < ht)) : Met l yX5_point wsX5_point rm_X5_point_ok (va_Pc [.ref m0, .int vx, .int vy, .int pl] (PC D (qT cI cZ cB cJ) [(m0, .inr (5, [.int th, .int (nI wd), .int (nI ht), .int (nI pn), .ref m1, .ref m2, .ref m3, .int (nI cn), .ref m4, .ref m5, .ref m6, .int fl, .int (nI bf), .int (nI bt), .int (nI xn), .ref m7, .ref m8, .ref m9, .int ip, .int (nI ps), .ref ma])), (m1, .inl (cI, 9216, .inl gB))] sz)) (va_Qi (fun (r : Int32) (u : Unit) => r = gB (2304 * pl.toInt.toNat + 48 * vy.toInt.toNat + vx.toInt.toNat)) (fun (u : Unit) => PO D (qT cI cZ cB cJ) (va_A [(m0, .inr (5, [.int th, .int (nI wd), .int (nI ht), .int (nI pn), .ref m1, .ref m2, .ref m3, .int (nI cn), .ref m4, .ref m5, .ref m6, .int fl, .int (nI bf), .int (nI bt), .int (nI xn), .ref m7, .ref m8, .ref m9, .int ip, .int (nI ps), .ref ma])), (m1, .inl (cI, 9216, .inl gB))] sz) [(m0, .inr (5, [.int (nI 0), .int (nI wd), .int (nI ht), .int (nI pn), .ref m1, .ref m2, .ref m3, .int (nI cn), .ref m4, .ref m5, .ref m6, .int fl, .int (nI bf), .int (nI bt), .int (nI xn), .ref m7, .ref m8, .ref m9, .int ip, .int (nI ps), .ref ma])), (m1, .inl (cI, 9216, .inl gB))]) (va_A [(m0, .inr (5, [.int th, .int (nI wd), .int (nI ht), .int (nI pn), .ref m1, .ref m2, .ref m3, .int (nI cn), .ref m4, .ref m5, .ref m6, .int fl, .int (nI bf), .int (nI bt), .int (nI xn), .ref m7, .ref m8, .ref m9, .int ip, .int (nI ps), .ref ma])), (m1, .inl (cI, 9216, .inl gB))] sz)) 0 0 (va_A [(m0, .inr (5, [.int th, .int (nI wd), .int (nI ht), .int (nI pn), .ref m1, .ref m2, .ref m3, .int (nI cn), .ref m4, .ref m5, .ref m6, .int fl, .int (nI bf), .int (nI bt), .int (nI xn), .ref m7, .ref m8, .ref m9, .int ip, .int (nI ps), .ref ma])), (m1, .inl (cI, 9216, .inl gB))] sz) := by
  refine q_entI (cc := cX5_point) (maxL := 4) (by decide +kernel) rfl (Nat.le_of_ble_eq_true rfl) ?_
  intro p e s m below meth c A Q ls hq hl hQ
  obtain ⟨hx, hb, hml, hts, hown, hin, hN, hK, hsz, hA, hP, hD, hS⟩ := hq
  have hown : s.vm.findClass RX5 = some m.cls := hown
  obtain ⟨H, hH⟩ : ∃ H, H = s.heap := ⟨_, rfl⟩
  rw [← hH] at hP ⊢
  have hS : va_S A s.heap H [] := by rw [hH]; exact va_S.rf
  clear hH
  have hl : lv_has ls 4 [(0, .ref m0), (1, .int vx), (2, .int vy), (3, .int pl)] := hl
  have iX5 : ∀ w ∈ wsX50, w ∈ wsX5_point := by decide +kernel
  have f_49 := hts (.fieldLink RX5 49 "RasterCoverModel" "planes" "I") (by decide +kernel)
  have f_55 := hts (.fieldLink RX5 55 "RasterCoverModel" "thrown" "I") (by decide +kernel)
  have f_7 := hts (.fieldLink RX5 7 "RasterCoverModel" "bytes" "[I") (by decide +kernel)
  obtain ⟨⟨hp1, hp2⟩, ⟨hx1, hx2⟩, hy1, hy2⟩ := id hpt
  refine lv_aload_n hx hb dX5_point_0 rfl (lv_at hl 0 rfl) ?_
  refine lv_aload_n hx hb dX5_point_1 rfl (lv_at hl 0 rfl) ?_
  refine lv_iload_n hx hb dX5_point_2 rfl (lv_at hl 1 rfl) ?_
  refine lv_iload_n hx hb dX5_point_3 rfl (lv_at hl 2 rfl) ?_
  refine q_i0 (wr := [(m1, .inl (cI, 9216, .inl gB))]) (va_runV (As := [.int vx, .int vy]) (rest := [.ref m0]) ⟨hx, hb, hml, hown, hts⟩ (c_X5_isPoint l D cI cZ cB cJ H.size m0 m1 m2 m3 m4 m5 m6 m7 m8 m9 ma th wd ht pn cn fl bf bt xn ip ps vx vy hwd hht) (cwV 2 hts gX5_point_X5_isPoint rfl rfl rfl (by decide +kernel) ⟨Nat.le_of_ble_eq_true rfl, Nat.le_of_ble_eq_true rfl⟩) (q_preV (q_pre (wc := [(m0, .inr (5, [.int th, .int (nI wd), .int (nI ht), .int (nI pn), .ref m1, .ref m2, .ref m3, .int (nI cn), .ref m4, .ref m5, .ref m6, .int fl, .int (nI bf), .int (nI bt), .int (nI xn), .ref m7, .ref m8, .ref m9, .int ip, .int (nI ps), .ref ma]))]) hP hD hK hN [0] (by decide) rfl) (va_recv hK hP (ci := 5) (q0 := 0) rfl rfl)) rfl rfl hl.1 rfl (lv_room (Nat.le_of_ble_eq_true rfl)) dX5_point_4 ⟨Nat.zero_le _, Nat.zero_le _⟩) hS hA hP hD [0] [1] rfl rfl (by decide) (by decide) (fun r_4 u H locs hp_4 hP hD hS => ?_)
  have hP : va_P D qCl [(m1, .inl (cI, 9216, .inl gB)), (m0, .inr (5, [.int th, .int (nI wd), .int (nI ht), .int (nI pn), .ref m1, .ref m2, .ref m3, .int (nI cn), .ref m4, .ref m5, .ref m6, .int fl, .int (nI bf), .int (nI bt), .int (nI xn), .ref m7, .ref m8, .ref m9, .int ip, .int (nI ps), .ref ma]))] H := hP
  have hD : va_D A [(m1, .inl (cI, 9216, .inl gB)), (m0, .inr (5, [.int th, .int (nI wd), .int (nI ht), .int (nI pn), .ref m1, .ref m2, .ref m3, .int (nI cn), .ref m4, .ref m5, .ref m6, .int fl, .int (nI bf), .int (nI bt), .int (nI xn), .ref m7, .ref m8, .ref m9, .int ip, .int (nI ps), .ref ma]))] := hD
  have hp_4 : r_4 = (if (0 ≤ vx.toInt ∧ vx.toInt < wd) ∧ 0 ≤ vy.toInt ∧ vy.toInt < ht then nI 1 else nI 0) := hp_4
  refine lv_if_eq (tgt := 26) hx hb dX5_point_7 (by decide) (fun h_7 => by rw [hp_4, if_pos hpt.2] at h_7; exact absurd h_7 (by decide)) (fun h_7 => ?_)
  refine lv_iload_n hx hb dX5_point_10 rfl (lv_at hl 3 rfl) ?_
  refine lv_if_lt (tgt := 26) hx hb dX5_point_11 (by decide) (fun h_11 => by rw [i_lt, show (0 : Int32).toInt = 0 from by decide] at h_11; omega) (fun h_11 => ?_)
  refine lv_iload_n hx hb dX5_point_14 rfl (lv_at hl 3 rfl) ?_
  refine lv_aload_n hx hb dX5_point_15 rfl (lv_at hl 0 rfl) ?_
  refine va_get (D := D) (ci := 5) (v := .int (nI pn)) (C := RX5) (T := TX5) (N := 21) hx hb hts iX5 hown hK hP 1 rfl rfl 3 (by decide) f_49 (fun _ h9 => h9) rfl dX5_point_16 ?_
  refine lv_icmp_ge (tgt := 26) hx hb dX5_point_19 (by decide) (fun h_19 => by rw [i_le, nI_toInt (by omega)] at h_19; omega) (fun h_19 => ?_)
  refine lv_iconst (v := nI 0) hx hb dX5_point_22 (by decide) ?_
  refine lv_goto (tgt := 27) hx hb dX5_point_23 (by decide) ?_
  refine va_put (D := D) (ci := 5) (v := .int (nI 0)) (ty := .int) (C := RX5) (T := TX5) (N := 21) hx hb hts iX5 tyX5 tyX5_ok nmX5 hown hK hP hD hS 1 rfl rfl 0 (by decide) f_55 (fun _ h9 => h9) rfl (by decide +kernel) rfl rfl (Nat.le_of_ble_eq_true rfl) dX5_point_27 (fun H locs hP hD hS => ?_)
  have hP : va_P D qCl [(m1, .inl (cI, 9216, .inl gB)), (m0, .inr (5, [.int (nI 0), .int (nI wd), .int (nI ht), .int (nI pn), .ref m1, .ref m2, .ref m3, .int (nI cn), .ref m4, .ref m5, .ref m6, .int fl, .int (nI bf), .int (nI bt), .int (nI xn), .ref m7, .ref m8, .ref m9, .int ip, .int (nI ps), .ref ma]))] H := hP
  have hD : va_D A [(m1, .inl (cI, 9216, .inl gB)), (m0, .inr (5, [.int (nI 0), .int (nI wd), .int (nI ht), .int (nI pn), .ref m1, .ref m2, .ref m3, .int (nI cn), .ref m4, .ref m5, .ref m6, .int fl, .int (nI bf), .int (nI bt), .int (nI xn), .ref m7, .ref m8, .ref m9, .int ip, .int (nI ps), .ref ma]))] := hD
  refine lv_aload_n hx hb dX5_point_30 rfl (lv_at hl 0 rfl) ?_
  refine va_get (D := D) (ci := 5) (v := .int (nI 0)) (C := RX5) (T := TX5) (N := 21) hx hb hts iX5 hown hK hP 1 rfl rfl 0 (by decide) f_55 (fun _ h9 => h9) rfl dX5_point_31 ?_
  refine q_if_le (tgt := 41) hx hb (by omega) dX5_point_34 (by decide) (fun h_34 => ?_) (fun h_34 => by omega)
  refine lv_aload_n hx hb dX5_point_41 rfl (lv_at hl 0 rfl) ?_
  refine va_get (D := D) (ci := 5) (v := .ref m1) (C := RX5) (T := TX5) (N := 21) hx hb hts iX5 hown hK hP 1 rfl rfl 4 (by decide) f_7 (fun _ h9 => h9) rfl dX5_point_42 ?_
  refine lv_sipush (v := nI 2304) hx hb dX5_point_45 (by decide) ?_
  refine lv_iload_n hx hb dX5_point_48 rfl (lv_at hl 3 rfl) ?_
  refine q_eqi (y := nI pl.toInt.toNat) (by rw [i_eq, nI_toInt (by omega)]; omega) ?_
  refine lv_imul hx hb dX5_point_49 ?_
  refine q_eqi (pk_mul _ _) ?_
  refine lv_bipush (v := nI 48) hx hb dX5_point_50 (by decide) ?_
  refine lv_iload_n hx hb dX5_point_52 rfl (lv_at hl 2 rfl) ?_
  refine q_eqi (y := nI vy.toInt.toNat) (by rw [i_eq, nI_toInt (by omega)]; omega) ?_
  refine lv_imul hx hb dX5_point_53 ?_
  refine q_eqi (pk_mul _ _) ?_
  refine lv_iadd hx hb dX5_point_54 ?_
  refine q_eqi (nI_add _ _) ?_
  refine lv_iload_n hx hb dX5_point_55 rfl (lv_at hl 1 rfl) ?_
  refine q_eqi (y := nI vx.toInt.toNat) (by rw [i_eq, nI_toInt (by omega)]; omega) ?_
  refine lv_iadd hx hb dX5_point_56 ?_
  refine q_eqi (nI_add _ _) ?_
  refine q_iald hx hb hK hP 0 0 rfl rfl (k := (((2304 * pl.toInt.toNat) + (48 * vy.toInt.toNat)) + vx.toInt.toNat)) (by omega) (by omega) dX5_point_57 ?_
  have hr9 : (gB (((2304 * pl.toInt.toNat) + (48 * vy.toInt.toNat)) + vx.toInt.toNat)) = gB (2304 * pl.toInt.toNat + 48 * vy.toInt.toNat + vx.toInt.toNat) := rfl
  exact hQ _ _ _ _ (gB (((2304 * pl.toInt.toNat) + (48 * vy.toInt.toNat)) + vx.toInt.toNat)) () _ _ dX5_point_58 (Nat.le_refl _) (Nat.le_refl _) hr9 (hP.sub [1, 0] rfl) hK (hD.sub [1, 0] (by decide) rfl) hS

abbrev rm_X5_point_no : Room := { frames := 1, cells := 0, slots := 0, locals := 22 }
set_option maxHeartbeats 4000000 in
set_option maxRecDepth 100000 in
theorem c_X5_point_no (l : Launch) (D : va_G) (cI cZ cB cJ : ClassId) (sz : Nat) (m0 : Nat) (m1 : Nat) (m2 : Nat) (m3 : Nat) (m4 : Nat) (m5 : Nat) (m6 : Nat) (m7 : Nat) (m8 : Nat) (m9 : Nat) (ma : Nat) (th : Int32) (wd : Nat) (ht : Nat) (pn : Nat) (cn : Nat) (fl : Int32) (bf : Nat) (bt : Nat) (xn : Nat) (ip : Int32) (ps : Nat) (vx : Int32) (vy : Int32) (pl : Int32) (hpn : pn ≤ 4) (hht : ht ≤ 48) (hwd : wd ≤ 48) (hpt : ¬ ((0 ≤ pl.toInt ∧ pl.toInt < pn) ∧ (0 ≤ vx.toInt ∧ vx.toInt < wd) ∧ 0 ≤ vy.toInt ∧ vy.toInt < ht)) : Met l yX5_point wsX5_point rm_X5_point_no (va_Pc [.ref m0, .int vx, .int vy, .int pl] (PC D (qT cI cZ cB cJ) [(m0, .inr (5, [.int th, .int (nI wd), .int (nI ht), .int (nI pn), .ref m1, .ref m2, .ref m3, .int (nI cn), .ref m4, .ref m5, .ref m6, .int fl, .int (nI bf), .int (nI bt), .int (nI xn), .ref m7, .ref m8, .ref m9, .int ip, .int (nI ps), .ref ma]))] sz)) (va_Qi (fun (r : Int32) (u : Unit) => True) (fun (u : Unit) => PO D (qT cI cZ cB cJ) (va_A [(m0, .inr (5, [.int th, .int (nI wd), .int (nI ht), .int (nI pn), .ref m1, .ref m2, .ref m3, .int (nI cn), .ref m4, .ref m5, .ref m6, .int fl, .int (nI bf), .int (nI bt), .int (nI xn), .ref m7, .ref m8, .ref m9, .int ip, .int (nI ps), .ref ma]))] sz) [(m0, .inr (5, [.int (nI 1), .int (nI wd), .int (nI ht), .int (nI pn), .ref m1, .ref m2, .ref m3, .int (nI cn), .ref m4, .ref m5, .ref m6, .int fl, .int (nI bf), .int (nI bt), .int (nI xn), .ref m7, .ref m8, .ref m9, .int ip, .int (nI ps), .ref ma]))]) (va_A [(m0, .inr (5, [.int th, .int (nI wd), .int (nI ht), .int (nI pn), .ref m1, .ref m2, .ref m3, .int (nI cn), .ref m4, .ref m5, .ref m6, .int fl, .int (nI bf), .int (nI bt), .int (nI xn), .ref m7, .ref m8, .ref m9, .int ip, .int (nI ps), .ref ma]))] sz)) 0 0 (va_A [(m0, .inr (5, [.int th, .int (nI wd), .int (nI ht), .int (nI pn), .ref m1, .ref m2, .ref m3, .int (nI cn), .ref m4, .ref m5, .ref m6, .int fl, .int (nI bf), .int (nI bt), .int (nI xn), .ref m7, .ref m8, .ref m9, .int ip, .int (nI ps), .ref ma]))] sz) := by
  refine q_entI (cc := cX5_point) (maxL := 4) (by decide +kernel) rfl (Nat.le_of_ble_eq_true rfl) ?_
  intro p e s m below meth c A Q ls hq hl hQ
  obtain ⟨hx, hb, hml, hts, hown, hin, hN, hK, hsz, hA, hP, hD, hS⟩ := hq
  have hown : s.vm.findClass RX5 = some m.cls := hown
  obtain ⟨H, hH⟩ : ∃ H, H = s.heap := ⟨_, rfl⟩
  rw [← hH] at hP ⊢
  have hS : va_S A s.heap H [] := by rw [hH]; exact va_S.rf
  clear hH
  have hl : lv_has ls 4 [(0, .ref m0), (1, .int vx), (2, .int vy), (3, .int pl)] := hl
  have iX5 : ∀ w ∈ wsX50, w ∈ wsX5_point := by decide +kernel
  have f_55 := hts (.fieldLink RX5 55 "RasterCoverModel" "thrown" "I") (by decide +kernel)
  have f_49 := hts (.fieldLink RX5 49 "RasterCoverModel" "planes" "I") (by decide +kernel)
  refine lv_aload_n hx hb dX5_point_0 rfl (lv_at hl 0 rfl) ?_
  refine lv_aload_n hx hb dX5_point_1 rfl (lv_at hl 0 rfl) ?_
  refine lv_iload_n hx hb dX5_point_2 rfl (lv_at hl 1 rfl) ?_
  refine lv_iload_n hx hb dX5_point_3 rfl (lv_at hl 2 rfl) ?_
  refine q_i0 (wr := []) (va_runV (As := [.int vx, .int vy]) (rest := [.ref m0]) ⟨hx, hb, hml, hown, hts⟩ (c_X5_isPoint l D cI cZ cB cJ H.size m0 m1 m2 m3 m4 m5 m6 m7 m8 m9 ma th wd ht pn cn fl bf bt xn ip ps vx vy hwd hht) (cwV 2 hts gX5_point_X5_isPoint rfl rfl rfl (by decide +kernel) ⟨Nat.le_of_ble_eq_true rfl, Nat.le_of_ble_eq_true rfl⟩) (q_preV (q_pre (wc := [(m0, .inr (5, [.int th, .int (nI wd), .int (nI ht), .int (nI pn), .ref m1, .ref m2, .ref m3, .int (nI cn), .ref m4, .ref m5, .ref m6, .int fl, .int (nI bf), .int (nI bt), .int (nI xn), .ref m7, .ref m8, .ref m9, .int ip, .int (nI ps), .ref ma]))]) hP hD hK hN [0] (by decide) rfl) (va_recv hK hP (ci := 5) (q0 := 0) rfl rfl)) rfl rfl hl.1 rfl (lv_room (Nat.le_of_ble_eq_true rfl)) dX5_point_4 ⟨Nat.zero_le _, Nat.zero_le _⟩) hS hA hP hD [0] [] rfl rfl (by decide) (by decide) (fun r_4 u H locs hp_4 hP hD hS => ?_)
  have hP : va_P D qCl [(m0, .inr (5, [.int th, .int (nI wd), .int (nI ht), .int (nI pn), .ref m1, .ref m2, .ref m3, .int (nI cn), .ref m4, .ref m5, .ref m6, .int fl, .int (nI bf), .int (nI bt), .int (nI xn), .ref m7, .ref m8, .ref m9, .int ip, .int (nI ps), .ref ma]))] H := hP
  have hD : va_D A [(m0, .inr (5, [.int th, .int (nI wd), .int (nI ht), .int (nI pn), .ref m1, .ref m2, .ref m3, .int (nI cn), .ref m4, .ref m5, .ref m6, .int fl, .int (nI bf), .int (nI bt), .int (nI xn), .ref m7, .ref m8, .ref m9, .int ip, .int (nI ps), .ref ma]))] := hD
  have hp_4 : r_4 = (if (0 ≤ vx.toInt ∧ vx.toInt < wd) ∧ 0 ≤ vy.toInt ∧ vy.toInt < ht then nI 1 else nI 0) := hp_4
  refine lv_if_eq (tgt := 26) hx hb dX5_point_7 (by decide) (fun h_7 => ?_) (fun h_7 => ?_)
  · refine lv_iconst (v := nI 1) hx hb dX5_point_26 (by decide) ?_
    refine va_put (D := D) (ci := 5) (v := .int (nI 1)) (ty := .int) (C := RX5) (T := TX5) (N := 21) hx hb hts iX5 tyX5 tyX5_ok nmX5 hown hK hP hD hS 0 rfl rfl 0 (by decide) f_55 (fun _ h9 => h9) rfl (by decide +kernel) rfl rfl (Nat.le_of_ble_eq_true rfl) dX5_point_27 (fun H locs hP hD hS => ?_)
    have hP : va_P D qCl [(m0, .inr (5, [.int (nI 1), .int (nI wd), .int (nI ht), .int (nI pn), .ref m1, .ref m2, .ref m3, .int (nI cn), .ref m4, .ref m5, .ref m6, .int fl, .int (nI bf), .int (nI bt), .int (nI xn), .ref m7, .ref m8, .ref m9, .int ip, .int (nI ps), .ref ma]))] H := hP
    have hD : va_D A [(m0, .inr (5, [.int (nI 1), .int (nI wd), .int (nI ht), .int (nI pn), .ref m1, .ref m2, .ref m3, .int (nI cn), .ref m4, .ref m5, .ref m6, .int fl, .int (nI bf), .int (nI bt), .int (nI xn), .ref m7, .ref m8, .ref m9, .int ip, .int (nI ps), .ref ma]))] := hD
    refine lv_aload_n hx hb dX5_point_30 rfl (lv_at hl 0 rfl) ?_
    refine va_get (D := D) (ci := 5) (v := .int (nI 1)) (C := RX5) (T := TX5) (N := 21) hx hb hts iX5 hown hK hP 0 rfl rfl 0 (by decide) f_55 (fun _ h9 => h9) rfl dX5_point_31 ?_
    refine q_if_le (tgt := 41) hx hb (by omega) dX5_point_34 (by decide) (fun h_34 => by omega) (fun h_34 => ?_)
    refine lv_iconst (v := nI 0) hx hb dX5_point_37 (by decide) ?_
    refine lv_goto (tgt := 58) hx hb dX5_point_38 (by decide) ?_
    exact hQ _ _ _ _ (nI 0) () _ _ dX5_point_58 (Nat.le_refl _) (Nat.le_refl _) trivial (hP.sub [0] rfl) hK (hD.sub [0] (by decide) rfl) hS
  refine lv_iload_n hx hb dX5_point_10 rfl (lv_at hl 3 rfl) ?_
  refine lv_if_lt (tgt := 26) hx hb dX5_point_11 (by decide) (fun h_11 => ?_) (fun h_11 => ?_)
  · refine lv_iconst (v := nI 1) hx hb dX5_point_26 (by decide) ?_
    refine va_put (D := D) (ci := 5) (v := .int (nI 1)) (ty := .int) (C := RX5) (T := TX5) (N := 21) hx hb hts iX5 tyX5 tyX5_ok nmX5 hown hK hP hD hS 0 rfl rfl 0 (by decide) f_55 (fun _ h9 => h9) rfl (by decide +kernel) rfl rfl (Nat.le_of_ble_eq_true rfl) dX5_point_27 (fun H locs hP hD hS => ?_)
    have hP : va_P D qCl [(m0, .inr (5, [.int (nI 1), .int (nI wd), .int (nI ht), .int (nI pn), .ref m1, .ref m2, .ref m3, .int (nI cn), .ref m4, .ref m5, .ref m6, .int fl, .int (nI bf), .int (nI bt), .int (nI xn), .ref m7, .ref m8, .ref m9, .int ip, .int (nI ps), .ref ma]))] H := hP
    have hD : va_D A [(m0, .inr (5, [.int (nI 1), .int (nI wd), .int (nI ht), .int (nI pn), .ref m1, .ref m2, .ref m3, .int (nI cn), .ref m4, .ref m5, .ref m6, .int fl, .int (nI bf), .int (nI bt), .int (nI xn), .ref m7, .ref m8, .ref m9, .int ip, .int (nI ps), .ref ma]))] := hD
    refine lv_aload_n hx hb dX5_point_30 rfl (lv_at hl 0 rfl) ?_
    refine va_get (D := D) (ci := 5) (v := .int (nI 1)) (C := RX5) (T := TX5) (N := 21) hx hb hts iX5 hown hK hP 0 rfl rfl 0 (by decide) f_55 (fun _ h9 => h9) rfl dX5_point_31 ?_
    refine q_if_le (tgt := 41) hx hb (by omega) dX5_point_34 (by decide) (fun h_34 => by omega) (fun h_34 => ?_)
    refine lv_iconst (v := nI 0) hx hb dX5_point_37 (by decide) ?_
    refine lv_goto (tgt := 58) hx hb dX5_point_38 (by decide) ?_
    exact hQ _ _ _ _ (nI 0) () _ _ dX5_point_58 (Nat.le_refl _) (Nat.le_refl _) trivial (hP.sub [0] rfl) hK (hD.sub [0] (by decide) rfl) hS
  refine lv_iload_n hx hb dX5_point_14 rfl (lv_at hl 3 rfl) ?_
  refine lv_aload_n hx hb dX5_point_15 rfl (lv_at hl 0 rfl) ?_
  refine va_get (D := D) (ci := 5) (v := .int (nI pn)) (C := RX5) (T := TX5) (N := 21) hx hb hts iX5 hown hK hP 0 rfl rfl 3 (by decide) f_49 (fun _ h9 => h9) rfl dX5_point_16 ?_
  refine lv_icmp_ge (tgt := 26) hx hb dX5_point_19 (by decide) (fun h_19 => ?_) (fun h_19 => by rw [i_lt, show (0 : Int32).toInt = 0 from by decide] at h_11; rw [i_le, nI_toInt (by omega)] at h_19; exact (hpt ⟨⟨by omega, by omega⟩, by by_cases w9 : (0 ≤ vx.toInt ∧ vx.toInt < wd) ∧ 0 ≤ vy.toInt ∧ vy.toInt < ht; (· exact w9); (· rw [hp_4, if_neg w9] at h_7; exact absurd rfl h_7)⟩).elim)
  refine lv_iconst (v := nI 1) hx hb dX5_point_26 (by decide) ?_
  refine va_put (D := D) (ci := 5) (v := .int (nI 1)) (ty := .int) (C := RX5) (T := TX5) (N := 21) hx hb hts iX5 tyX5 tyX5_ok nmX5 hown hK hP hD hS 0 rfl rfl 0 (by decide) f_55 (fun _ h9 => h9) rfl (by decide +kernel) rfl rfl (Nat.le_of_ble_eq_true rfl) dX5_point_27 (fun H locs hP hD hS => ?_)
  have hP : va_P D qCl [(m0, .inr (5, [.int (nI 1), .int (nI wd), .int (nI ht), .int (nI pn), .ref m1, .ref m2, .ref m3, .int (nI cn), .ref m4, .ref m5, .ref m6, .int fl, .int (nI bf), .int (nI bt), .int (nI xn), .ref m7, .ref m8, .ref m9, .int ip, .int (nI ps), .ref ma]))] H := hP
  have hD : va_D A [(m0, .inr (5, [.int (nI 1), .int (nI wd), .int (nI ht), .int (nI pn), .ref m1, .ref m2, .ref m3, .int (nI cn), .ref m4, .ref m5, .ref m6, .int fl, .int (nI bf), .int (nI bt), .int (nI xn), .ref m7, .ref m8, .ref m9, .int ip, .int (nI ps), .ref ma]))] := hD
  refine lv_aload_n hx hb dX5_point_30 rfl (lv_at hl 0 rfl) ?_
  refine va_get (D := D) (ci := 5) (v := .int (nI 1)) (C := RX5) (T := TX5) (N := 21) hx hb hts iX5 hown hK hP 0 rfl rfl 0 (by decide) f_55 (fun _ h9 => h9) rfl dX5_point_31 ?_
  refine q_if_le (tgt := 41) hx hb (by omega) dX5_point_34 (by decide) (fun h_34 => by omega) (fun h_34 => ?_)
  refine lv_iconst (v := nI 0) hx hb dX5_point_37 (by decide) ?_
  refine lv_goto (tgt := 58) hx hb dX5_point_38 (by decide) ?_
  exact hQ _ _ _ _ (nI 0) () _ _ dX5_point_58 (Nat.le_refl _) (Nat.le_refl _) trivial (hP.sub [0] rfl) hK (hD.sub [0] (by decide) rfl) hS

abbrev rm_X5_cover_ok : Room := { frames := 4, cells := 0, slots := 0, locals := 105 }
set_option maxHeartbeats 4000000 in
set_option maxRecDepth 100000 in
theorem c_X5_cover_ok (l : Launch) (D : va_G) (cI cZ cB cJ : ClassId) (sz : Nat) (m0 : Nat) (m1 : Nat) (m2 : Nat) (m3 : Nat) (m4 : Nat) (m5 : Nat) (m6 : Nat) (m7 : Nat) (m8 : Nat) (m9 : Nat) (ma : Nat) (th : Int32) (wd : Nat) (ht : Nat) (pn : Nat) (cn : Nat) (fl : Int32) (bf : Nat) (bt : Nat) (xn : Nat) (ip : Int32) (ps : Nat) (gx : Nat → Int64) (gy : Nat → Int64) (gb : Nat → Int32) (X : Nat → Int) (Y : Nat → Int) (bg : Nat → Int32) (gp : Nat → Int64) (gt : Nat → Int32) (gu : Nat → Int32) (vx : Int32) (vy : Int32) (hwd : wd ≤ 48) (hht : ht ≤ 48) (hR : PathM gx gy gb X Y bg cn) (hpt : (0 ≤ vx.toInt ∧ vx.toInt < wd) ∧ 0 ≤ vy.toInt ∧ vy.toInt < ht) : Met l yX5_cover wsX5_cover rm_X5_cover_ok (va_Pc [.ref m0, .int vx, .int vy] (PC D (qT cI cZ cB cJ) [(m0, .inr (5, [.int th, .int (nI wd), .int (nI ht), .int (nI pn), .ref m1, .ref m2, .ref m3, .int (nI cn), .ref m4, .ref m5, .ref m6, .int fl, .int (nI bf), .int (nI bt), .int (nI xn), .ref m7, .ref m8, .ref m9, .int ip, .int (nI ps), .ref ma])), (m4, .inl (cJ, 100, .inr (.inl gx))), (m5, .inl (cJ, 100, .inr (.inl gy))), (m6, .inl (cZ, 100, .inl gb)), (m7, .inl (cJ, 200, .inr (.inl gp))), (m8, .inl (cI, 200, .inl gt)), (m9, .inl (cI, 48, .inl gu))] sz)) (va_Qi (fun (r : Int32) (u : (Nat → Int32) × (Nat → Int64) × (Nat → Int32) × Nat) => r = cvv (Int32.ofInt (cov (nI 0) X Y bg cn vy.toInt.toNat 16 vx.toInt.toNat))) (fun (u : (Nat → Int32) × (Nat → Int64) × (Nat → Int32) × Nat) => PO D (qT cI cZ cB cJ) (va_A [(m0, .inr (5, [.int th, .int (nI wd), .int (nI ht), .int (nI pn), .ref m1, .ref m2, .ref m3, .int (nI cn), .ref m4, .ref m5, .ref m6, .int fl, .int (nI bf), .int (nI bt), .int (nI xn), .ref m7, .ref m8, .ref m9, .int ip, .int (nI ps), .ref ma])), (m4, .inl (cJ, 100, .inr (.inl gx))), (m5, .inl (cJ, 100, .inr (.inl gy))), (m6, .inl (cZ, 100, .inl gb)), (m7, .inl (cJ, 200, .inr (.inl gp))), (m8, .inl (cI, 200, .inl gt)), (m9, .inl (cI, 48, .inl gu))] sz) [(m0, .inr (5, [.int (nI 0), .int (nI wd), .int (nI ht), .int (nI pn), .ref m1, .ref m2, .ref m3, .int (nI cn), .ref m4, .ref m5, .ref m6, .int fl, .int (nI bf), .int (nI bt), .int (nI u.2.2.2), .ref m7, .ref m8, .ref m9, .int ip, .int (nI ps), .ref ma])), (m4, .inl (cJ, 100, .inr (.inl gx))), (m5, .inl (cJ, 100, .inr (.inl gy))), (m6, .inl (cZ, 100, .inl gb)), (m7, .inl (cJ, 200, .inr (.inl u.2.1))), (m8, .inl (cI, 200, .inl u.2.2.1)), (m9, .inl (cI, 48, .inl u.1))]) (va_A [(m0, .inr (5, [.int th, .int (nI wd), .int (nI ht), .int (nI pn), .ref m1, .ref m2, .ref m3, .int (nI cn), .ref m4, .ref m5, .ref m6, .int fl, .int (nI bf), .int (nI bt), .int (nI xn), .ref m7, .ref m8, .ref m9, .int ip, .int (nI ps), .ref ma])), (m4, .inl (cJ, 100, .inr (.inl gx))), (m5, .inl (cJ, 100, .inr (.inl gy))), (m6, .inl (cZ, 100, .inl gb)), (m7, .inl (cJ, 200, .inr (.inl gp))), (m8, .inl (cI, 200, .inl gt)), (m9, .inl (cI, 48, .inl gu))] sz)) 0 0 (va_A [(m0, .inr (5, [.int th, .int (nI wd), .int (nI ht), .int (nI pn), .ref m1, .ref m2, .ref m3, .int (nI cn), .ref m4, .ref m5, .ref m6, .int fl, .int (nI bf), .int (nI bt), .int (nI xn), .ref m7, .ref m8, .ref m9, .int ip, .int (nI ps), .ref ma])), (m4, .inl (cJ, 100, .inr (.inl gx))), (m5, .inl (cJ, 100, .inr (.inl gy))), (m6, .inl (cZ, 100, .inl gb)), (m7, .inl (cJ, 200, .inr (.inl gp))), (m8, .inl (cI, 200, .inl gt)), (m9, .inl (cI, 48, .inl gu))] sz) := by
  refine q_entI (cc := cX5_cover) (maxL := 3) (by decide +kernel) rfl (Nat.le_of_ble_eq_true rfl) ?_
  intro p e s m below meth c A Q ls hq hl hQ
  obtain ⟨hx, hb, hml, hts, hown, hin, hN, hK, hsz, hA, hP, hD, hS⟩ := hq
  have hown : s.vm.findClass RX5 = some m.cls := hown
  obtain ⟨H, hH⟩ : ∃ H, H = s.heap := ⟨_, rfl⟩
  rw [← hH] at hP ⊢
  have hS : va_S A s.heap H [] := by rw [hH]; exact va_S.rf
  clear hH
  have hl : lv_has ls 3 [(0, .ref m0), (1, .int vx), (2, .int vy)] := hl
  have iX5 : ∀ w ∈ wsX50, w ∈ wsX5_cover := by decide +kernel
  have f_55 := hts (.fieldLink RX5 55 "RasterCoverModel" "thrown" "I") (by decide +kernel)
  obtain ⟨⟨hx1, hx2⟩, hy1, hy2⟩ := id hpt
  refine lv_aload_n hx hb dX5_cover_0 rfl (lv_at hl 0 rfl) ?_
  refine lv_aload_n hx hb dX5_cover_1 rfl (lv_at hl 0 rfl) ?_
  refine lv_iload_n hx hb dX5_cover_2 rfl (lv_at hl 1 rfl) ?_
  refine lv_iload_n hx hb dX5_cover_3 rfl (lv_at hl 2 rfl) ?_
  refine q_i0 (wr := [(m4, .inl (cJ, 100, .inr (.inl gx))), (m5, .inl (cJ, 100, .inr (.inl gy))), (m6, .inl (cZ, 100, .inl gb)), (m7, .inl (cJ, 200, .inr (.inl gp))), (m8, .inl (cI, 200, .inl gt)), (m9, .inl (cI, 48, .inl gu))]) (va_runV (As := [.int vx, .int vy]) (rest := [.ref m0]) ⟨hx, hb, hml, hown, hts⟩ (c_X5_isPoint l D cI cZ cB cJ H.size m0 m1 m2 m3 m4 m5 m6 m7 m8 m9 ma th wd ht pn cn fl bf bt xn ip ps vx vy hwd hht) (cwV 2 hts gX5_cover_X5_isPoint rfl rfl rfl (by decide +kernel) ⟨Nat.le_of_ble_eq_true rfl, Nat.le_of_ble_eq_true rfl⟩) (q_preV (q_pre (wc := [(m0, .inr (5, [.int th, .int (nI wd), .int (nI ht), .int (nI pn), .ref m1, .ref m2, .ref m3, .int (nI cn), .ref m4, .ref m5, .ref m6, .int fl, .int (nI bf), .int (nI bt), .int (nI xn), .ref m7, .ref m8, .ref m9, .int ip, .int (nI ps), .ref ma]))]) hP hD hK hN [0] (by decide) rfl) (va_recv hK hP (ci := 5) (q0 := 0) rfl rfl)) rfl rfl hl.1 rfl (lv_room (Nat.le_of_ble_eq_true rfl)) dX5_cover_4 ⟨Nat.zero_le _, Nat.zero_le _⟩) hS hA hP hD [0] [1, 2, 3, 4, 5, 6] rfl rfl (by decide) (by decide) (fun r_4 u H locs hp_4 hP hD hS => ?_)
  have hP : va_P D qCl [(m4, .inl (cJ, 100, .inr (.inl gx))), (m5, .inl (cJ, 100, .inr (.inl gy))), (m6, .inl (cZ, 100, .inl gb)), (m7, .inl (cJ, 200, .inr (.inl gp))), (m8, .inl (cI, 200, .inl gt)), (m9, .inl (cI, 48, .inl gu)), (m0, .inr (5, [.int th, .int (nI wd), .int (nI ht), .int (nI pn), .ref m1, .ref m2, .ref m3, .int (nI cn), .ref m4, .ref m5, .ref m6, .int fl, .int (nI bf), .int (nI bt), .int (nI xn), .ref m7, .ref m8, .ref m9, .int ip, .int (nI ps), .ref ma]))] H := hP
  have hD : va_D A [(m4, .inl (cJ, 100, .inr (.inl gx))), (m5, .inl (cJ, 100, .inr (.inl gy))), (m6, .inl (cZ, 100, .inl gb)), (m7, .inl (cJ, 200, .inr (.inl gp))), (m8, .inl (cI, 200, .inl gt)), (m9, .inl (cI, 48, .inl gu)), (m0, .inr (5, [.int th, .int (nI wd), .int (nI ht), .int (nI pn), .ref m1, .ref m2, .ref m3, .int (nI cn), .ref m4, .ref m5, .ref m6, .int fl, .int (nI bf), .int (nI bt), .int (nI xn), .ref m7, .ref m8, .ref m9, .int ip, .int (nI ps), .ref ma]))] := hD
  have hp_4 : r_4 = (if (0 ≤ vx.toInt ∧ vx.toInt < wd) ∧ 0 ≤ vy.toInt ∧ vy.toInt < ht then nI 1 else nI 0) := hp_4
  refine lv_if_eq (tgt := 14) hx hb dX5_cover_7 (by decide) (fun h_7 => by rw [hp_4, if_pos hpt] at h_7; exact absurd h_7 (by decide)) (fun h_7 => ?_)
  refine lv_iconst (v := nI 0) hx hb dX5_cover_10 (by decide) ?_
  refine lv_goto (tgt := 15) hx hb dX5_cover_11 (by decide) ?_
  refine va_put (D := D) (ci := 5) (v := .int (nI 0)) (ty := .int) (C := RX5) (T := TX5) (N := 21) hx hb hts iX5 tyX5 tyX5_ok nmX5 hown hK hP hD hS 6 rfl rfl 0 (by decide) f_55 (fun _ h9 => h9) rfl (by decide +kernel) rfl rfl (Nat.le_of_ble_eq_true rfl) dX5_cover_15 (fun H locs hP hD hS => ?_)
  have hP : va_P D qCl [(m4, .inl (cJ, 100, .inr (.inl gx))), (m5, .inl (cJ, 100, .inr (.inl gy))), (m6, .inl (cZ, 100, .inl gb)), (m7, .inl (cJ, 200, .inr (.inl gp))), (m8, .inl (cI, 200, .inl gt)), (m9, .inl (cI, 48, .inl gu)), (m0, .inr (5, [.int (nI 0), .int (nI wd), .int (nI ht), .int (nI pn), .ref m1, .ref m2, .ref m3, .int (nI cn), .ref m4, .ref m5, .ref m6, .int fl, .int (nI bf), .int (nI bt), .int (nI xn), .ref m7, .ref m8, .ref m9, .int ip, .int (nI ps), .ref ma]))] H := hP
  have hD : va_D A [(m4, .inl (cJ, 100, .inr (.inl gx))), (m5, .inl (cJ, 100, .inr (.inl gy))), (m6, .inl (cZ, 100, .inl gb)), (m7, .inl (cJ, 200, .inr (.inl gp))), (m8, .inl (cI, 200, .inl gt)), (m9, .inl (cI, 48, .inl gu)), (m0, .inr (5, [.int (nI 0), .int (nI wd), .int (nI ht), .int (nI pn), .ref m1, .ref m2, .ref m3, .int (nI cn), .ref m4, .ref m5, .ref m6, .int fl, .int (nI bf), .int (nI bt), .int (nI xn), .ref m7, .ref m8, .ref m9, .int ip, .int (nI ps), .ref ma]))] := hD
  refine lv_aload_n hx hb dX5_cover_18 rfl (lv_at hl 0 rfl) ?_
  refine va_get (D := D) (ci := 5) (v := .int (nI 0)) (C := RX5) (T := TX5) (N := 21) hx hb hts iX5 hown hK hP 6 rfl rfl 0 (by decide) f_55 (fun _ h9 => h9) rfl dX5_cover_19 ?_
  refine q_if_le (tgt := 27) hx hb (by omega) dX5_cover_22 (by decide) (fun h_22 => ?_) (fun h_22 => by omega)
  refine lv_aload_n hx hb dX5_cover_27 rfl (lv_at hl 0 rfl) ?_
  refine lv_iconst (v := nI 0) hx hb dX5_cover_28 (by decide) ?_
  refine lv_iload_n hx hb dX5_cover_29 rfl (lv_at hl 2 rfl) ?_
  refine q_eqi (y := nI vy.toInt.toNat) (by rw [i_eq, nI_toInt (by omega)]; omega) ?_
  refine q_v0 (wr := []) (va_runV (As := [.int (nI 0), .int (nI vy.toInt.toNat)]) (rest := []) ⟨hx, hb, hml, hown, hts⟩ (c_X5_coverRow l D cI cZ cB cJ H.size m0 m1 m2 m3 m4 m5 m6 m7 m8 m9 ma (nI 0) wd ht pn cn fl bf bt xn ip ps gx gy gb X Y bg gp gt gu (nI 0) vy.toInt.toNat hwd (by omega) hR) (cwV 2 hts gX5_cover_X5_coverRow rfl rfl rfl (by decide +kernel) ⟨Nat.le_of_ble_eq_true rfl, Nat.le_of_ble_eq_true rfl⟩) (q_preV (q_pre (wc := [(m0, .inr (5, [.int (nI 0), .int (nI wd), .int (nI ht), .int (nI pn), .ref m1, .ref m2, .ref m3, .int (nI cn), .ref m4, .ref m5, .ref m6, .int fl, .int (nI bf), .int (nI bt), .int (nI xn), .ref m7, .ref m8, .ref m9, .int ip, .int (nI ps), .ref ma])), (m4, .inl (cJ, 100, .inr (.inl gx))), (m5, .inl (cJ, 100, .inr (.inl gy))), (m6, .inl (cZ, 100, .inl gb)), (m7, .inl (cJ, 200, .inr (.inl gp))), (m8, .inl (cI, 200, .inl gt)), (m9, .inl (cI, 48, .inl gu))]) hP hD hK hN [6, 0, 1, 2, 3, 4, 5] (by decide) rfl) (va_recv hK hP (ci := 5) (q0 := 6) rfl rfl)) rfl rfl hl.1 rfl (lv_room (Nat.le_of_ble_eq_true rfl)) dX5_cover_30 ⟨Nat.zero_le _, Nat.zero_le _⟩) hS hA hP hD [6, 0, 1, 2, 3, 4, 5] [] rfl rfl (by decide) (by decide) (fun u H locs hp_30 hP hD hS => ?_)
  obtain ⟨gu3, gp3, gt3, n3⟩ := u
  have hP : va_P D qCl [(m0, .inr (5, [.int (nI 0), .int (nI wd), .int (nI ht), .int (nI pn), .ref m1, .ref m2, .ref m3, .int (nI cn), .ref m4, .ref m5, .ref m6, .int fl, .int (nI bf), .int (nI bt), .int (nI n3), .ref m7, .ref m8, .ref m9, .int ip, .int (nI ps), .ref ma])), (m4, .inl (cJ, 100, .inr (.inl gx))), (m5, .inl (cJ, 100, .inr (.inl gy))), (m6, .inl (cZ, 100, .inl gb)), (m7, .inl (cJ, 200, .inr (.inl gp3))), (m8, .inl (cI, 200, .inl gt3)), (m9, .inl (cI, 48, .inl gu3))] H := hP
  have hD : va_D A [(m0, .inr (5, [.int (nI 0), .int (nI wd), .int (nI ht), .int (nI pn), .ref m1, .ref m2, .ref m3, .int (nI cn), .ref m4, .ref m5, .ref m6, .int fl, .int (nI bf), .int (nI bt), .int (nI n3), .ref m7, .ref m8, .ref m9, .int ip, .int (nI ps), .ref ma])), (m4, .inl (cJ, 100, .inr (.inl gx))), (m5, .inl (cJ, 100, .inr (.inl gy))), (m6, .inl (cZ, 100, .inl gb)), (m7, .inl (cJ, 200, .inr (.inl gp3))), (m8, .inl (cI, 200, .inl gt3)), (m9, .inl (cI, 48, .inl gu3))] := hD
  have hp_30 : ∀ x, x < wd → gu3 x = Int32.ofInt (cov (nI 0) X Y bg cn vy.toInt.toNat 16 x) := hp_30
  refine lv_aload_n hx hb dX5_cover_33 rfl (lv_at hl 0 rfl) ?_
  refine lv_iload_n hx hb dX5_cover_34 rfl (lv_at hl 1 rfl) ?_
  refine q_eqi (y := nI vx.toInt.toNat) (by rw [i_eq, nI_toInt (by omega)]; omega) ?_
  refine q_i0 (wr := [(m4, .inl (cJ, 100, .inr (.inl gx))), (m5, .inl (cJ, 100, .inr (.inl gy))), (m6, .inl (cZ, 100, .inl gb)), (m7, .inl (cJ, 200, .inr (.inl gp3))), (m8, .inl (cI, 200, .inl gt3))]) (va_runV (As := [.int (nI vx.toInt.toNat)]) (rest := []) ⟨hx, hb, hml, hown, hts⟩ (c_X5_coverAt l D cI cZ cB cJ H.size m0 m1 m2 m3 m4 m5 m6 m7 m8 m9 ma (nI 0) wd ht pn cn fl bf bt n3 ip ps gu3 vx.toInt.toNat (by omega)) (cwV 1 hts gX5_cover_X5_coverAt rfl rfl rfl (by decide +kernel) ⟨Nat.le_of_ble_eq_true rfl, Nat.le_of_ble_eq_true rfl⟩) (q_preV (q_pre (wc := [(m0, .inr (5, [.int (nI 0), .int (nI wd), .int (nI ht), .int (nI pn), .ref m1, .ref m2, .ref m3, .int (nI cn), .ref m4, .ref m5, .ref m6, .int fl, .int (nI bf), .int (nI bt), .int (nI n3), .ref m7, .ref m8, .ref m9, .int ip, .int (nI ps), .ref ma])), (m9, .inl (cI, 48, .inl gu3))]) hP hD hK hN [0, 6] (by decide) rfl) (va_recv hK hP (ci := 5) (q0 := 0) rfl rfl)) rfl rfl hl.1 rfl (lv_room (Nat.le_of_ble_eq_true rfl)) dX5_cover_35 ⟨Nat.zero_le _, Nat.zero_le _⟩) hS hA hP hD [0, 6] [1, 2, 3, 4, 5] rfl rfl (by decide) (by decide) (fun r_35 u H locs hp_35 hP hD hS => ?_)
  have hP : va_P D qCl [(m4, .inl (cJ, 100, .inr (.inl gx))), (m5, .inl (cJ, 100, .inr (.inl gy))), (m6, .inl (cZ, 100, .inl gb)), (m7, .inl (cJ, 200, .inr (.inl gp3))), (m8, .inl (cI, 200, .inl gt3)), (m0, .inr (5, [.int (nI 0), .int (nI wd), .int (nI ht), .int (nI pn), .ref m1, .ref m2, .ref m3, .int (nI cn), .ref m4, .ref m5, .ref m6, .int fl, .int (nI bf), .int (nI bt), .int (nI n3), .ref m7, .ref m8, .ref m9, .int ip, .int (nI ps), .ref ma])), (m9, .inl (cI, 48, .inl gu3))] H := hP
  have hD : va_D A [(m4, .inl (cJ, 100, .inr (.inl gx))), (m5, .inl (cJ, 100, .inr (.inl gy))), (m6, .inl (cZ, 100, .inl gb)), (m7, .inl (cJ, 200, .inr (.inl gp3))), (m8, .inl (cI, 200, .inl gt3)), (m0, .inr (5, [.int (nI 0), .int (nI wd), .int (nI ht), .int (nI pn), .ref m1, .ref m2, .ref m3, .int (nI cn), .ref m4, .ref m5, .ref m6, .int fl, .int (nI bf), .int (nI bt), .int (nI n3), .ref m7, .ref m8, .ref m9, .int ip, .int (nI ps), .ref ma])), (m9, .inl (cI, 48, .inl gu3))] := hD
  have hp_35 : r_35 = cvv (gu3 vx.toInt.toNat) := hp_35
  subst hp_35
  have hr9 : (cvv (gu3 vx.toInt.toNat)) = cvv (Int32.ofInt (cov (nI 0) X Y bg cn vy.toInt.toNat 16 vx.toInt.toNat)) := (by rw [hp_30 _ (by omega)])
  exact hQ _ _ _ _ (cvv (gu3 vx.toInt.toNat)) (gu3, gp3, gt3, n3) _ _ dX5_cover_38 (Nat.le_refl _) (Nat.le_refl _) hr9 (hP.sub [5, 0, 1, 2, 3, 4, 6] rfl) hK (hD.sub [5, 0, 1, 2, 3, 4, 6] (by decide) rfl) hS

abbrev rm_X5_cover_no : Room := { frames := 1, cells := 0, slots := 0, locals := 22 }
set_option maxHeartbeats 4000000 in
set_option maxRecDepth 100000 in
theorem c_X5_cover_no (l : Launch) (D : va_G) (cI cZ cB cJ : ClassId) (sz : Nat) (m0 : Nat) (m1 : Nat) (m2 : Nat) (m3 : Nat) (m4 : Nat) (m5 : Nat) (m6 : Nat) (m7 : Nat) (m8 : Nat) (m9 : Nat) (ma : Nat) (th : Int32) (wd : Nat) (ht : Nat) (pn : Nat) (cn : Nat) (fl : Int32) (bf : Nat) (bt : Nat) (xn : Nat) (ip : Int32) (ps : Nat) (vx : Int32) (vy : Int32) (hwd : wd ≤ 48) (hht : ht ≤ 48) (hpt : ¬ ((0 ≤ vx.toInt ∧ vx.toInt < wd) ∧ 0 ≤ vy.toInt ∧ vy.toInt < ht)) : Met l yX5_cover wsX5_cover rm_X5_cover_no (va_Pc [.ref m0, .int vx, .int vy] (PC D (qT cI cZ cB cJ) [(m0, .inr (5, [.int th, .int (nI wd), .int (nI ht), .int (nI pn), .ref m1, .ref m2, .ref m3, .int (nI cn), .ref m4, .ref m5, .ref m6, .int fl, .int (nI bf), .int (nI bt), .int (nI xn), .ref m7, .ref m8, .ref m9, .int ip, .int (nI ps), .ref ma]))] sz)) (va_Qi (fun (r : Int32) (u : Unit) => True) (fun (u : Unit) => PO D (qT cI cZ cB cJ) (va_A [(m0, .inr (5, [.int th, .int (nI wd), .int (nI ht), .int (nI pn), .ref m1, .ref m2, .ref m3, .int (nI cn), .ref m4, .ref m5, .ref m6, .int fl, .int (nI bf), .int (nI bt), .int (nI xn), .ref m7, .ref m8, .ref m9, .int ip, .int (nI ps), .ref ma]))] sz) [(m0, .inr (5, [.int (nI 1), .int (nI wd), .int (nI ht), .int (nI pn), .ref m1, .ref m2, .ref m3, .int (nI cn), .ref m4, .ref m5, .ref m6, .int fl, .int (nI bf), .int (nI bt), .int (nI xn), .ref m7, .ref m8, .ref m9, .int ip, .int (nI ps), .ref ma]))]) (va_A [(m0, .inr (5, [.int th, .int (nI wd), .int (nI ht), .int (nI pn), .ref m1, .ref m2, .ref m3, .int (nI cn), .ref m4, .ref m5, .ref m6, .int fl, .int (nI bf), .int (nI bt), .int (nI xn), .ref m7, .ref m8, .ref m9, .int ip, .int (nI ps), .ref ma]))] sz)) 0 0 (va_A [(m0, .inr (5, [.int th, .int (nI wd), .int (nI ht), .int (nI pn), .ref m1, .ref m2, .ref m3, .int (nI cn), .ref m4, .ref m5, .ref m6, .int fl, .int (nI bf), .int (nI bt), .int (nI xn), .ref m7, .ref m8, .ref m9, .int ip, .int (nI ps), .ref ma]))] sz) := by
  refine q_entI (cc := cX5_cover) (maxL := 3) (by decide +kernel) rfl (Nat.le_of_ble_eq_true rfl) ?_
  intro p e s m below meth c A Q ls hq hl hQ
  obtain ⟨hx, hb, hml, hts, hown, hin, hN, hK, hsz, hA, hP, hD, hS⟩ := hq
  have hown : s.vm.findClass RX5 = some m.cls := hown
  obtain ⟨H, hH⟩ : ∃ H, H = s.heap := ⟨_, rfl⟩
  rw [← hH] at hP ⊢
  have hS : va_S A s.heap H [] := by rw [hH]; exact va_S.rf
  clear hH
  have hl : lv_has ls 3 [(0, .ref m0), (1, .int vx), (2, .int vy)] := hl
  have iX5 : ∀ w ∈ wsX50, w ∈ wsX5_cover := by decide +kernel
  have f_55 := hts (.fieldLink RX5 55 "RasterCoverModel" "thrown" "I") (by decide +kernel)
  refine lv_aload_n hx hb dX5_cover_0 rfl (lv_at hl 0 rfl) ?_
  refine lv_aload_n hx hb dX5_cover_1 rfl (lv_at hl 0 rfl) ?_
  refine lv_iload_n hx hb dX5_cover_2 rfl (lv_at hl 1 rfl) ?_
  refine lv_iload_n hx hb dX5_cover_3 rfl (lv_at hl 2 rfl) ?_
  refine q_i0 (wr := []) (va_runV (As := [.int vx, .int vy]) (rest := [.ref m0]) ⟨hx, hb, hml, hown, hts⟩ (c_X5_isPoint l D cI cZ cB cJ H.size m0 m1 m2 m3 m4 m5 m6 m7 m8 m9 ma th wd ht pn cn fl bf bt xn ip ps vx vy hwd hht) (cwV 2 hts gX5_cover_X5_isPoint rfl rfl rfl (by decide +kernel) ⟨Nat.le_of_ble_eq_true rfl, Nat.le_of_ble_eq_true rfl⟩) (q_preV (q_pre (wc := [(m0, .inr (5, [.int th, .int (nI wd), .int (nI ht), .int (nI pn), .ref m1, .ref m2, .ref m3, .int (nI cn), .ref m4, .ref m5, .ref m6, .int fl, .int (nI bf), .int (nI bt), .int (nI xn), .ref m7, .ref m8, .ref m9, .int ip, .int (nI ps), .ref ma]))]) hP hD hK hN [0] (by decide) rfl) (va_recv hK hP (ci := 5) (q0 := 0) rfl rfl)) rfl rfl hl.1 rfl (lv_room (Nat.le_of_ble_eq_true rfl)) dX5_cover_4 ⟨Nat.zero_le _, Nat.zero_le _⟩) hS hA hP hD [0] [] rfl rfl (by decide) (by decide) (fun r_4 u H locs hp_4 hP hD hS => ?_)
  have hP : va_P D qCl [(m0, .inr (5, [.int th, .int (nI wd), .int (nI ht), .int (nI pn), .ref m1, .ref m2, .ref m3, .int (nI cn), .ref m4, .ref m5, .ref m6, .int fl, .int (nI bf), .int (nI bt), .int (nI xn), .ref m7, .ref m8, .ref m9, .int ip, .int (nI ps), .ref ma]))] H := hP
  have hD : va_D A [(m0, .inr (5, [.int th, .int (nI wd), .int (nI ht), .int (nI pn), .ref m1, .ref m2, .ref m3, .int (nI cn), .ref m4, .ref m5, .ref m6, .int fl, .int (nI bf), .int (nI bt), .int (nI xn), .ref m7, .ref m8, .ref m9, .int ip, .int (nI ps), .ref ma]))] := hD
  have hp_4 : r_4 = (if (0 ≤ vx.toInt ∧ vx.toInt < wd) ∧ 0 ≤ vy.toInt ∧ vy.toInt < ht then nI 1 else nI 0) := hp_4
  refine lv_if_eq (tgt := 14) hx hb dX5_cover_7 (by decide) (fun h_7 => ?_) (fun h_7 => by rw [hp_4, if_neg hpt] at h_7; exact absurd rfl h_7)
  refine lv_iconst (v := nI 1) hx hb dX5_cover_14 (by decide) ?_
  refine va_put (D := D) (ci := 5) (v := .int (nI 1)) (ty := .int) (C := RX5) (T := TX5) (N := 21) hx hb hts iX5 tyX5 tyX5_ok nmX5 hown hK hP hD hS 0 rfl rfl 0 (by decide) f_55 (fun _ h9 => h9) rfl (by decide +kernel) rfl rfl (Nat.le_of_ble_eq_true rfl) dX5_cover_15 (fun H locs hP hD hS => ?_)
  have hP : va_P D qCl [(m0, .inr (5, [.int (nI 1), .int (nI wd), .int (nI ht), .int (nI pn), .ref m1, .ref m2, .ref m3, .int (nI cn), .ref m4, .ref m5, .ref m6, .int fl, .int (nI bf), .int (nI bt), .int (nI xn), .ref m7, .ref m8, .ref m9, .int ip, .int (nI ps), .ref ma]))] H := hP
  have hD : va_D A [(m0, .inr (5, [.int (nI 1), .int (nI wd), .int (nI ht), .int (nI pn), .ref m1, .ref m2, .ref m3, .int (nI cn), .ref m4, .ref m5, .ref m6, .int fl, .int (nI bf), .int (nI bt), .int (nI xn), .ref m7, .ref m8, .ref m9, .int ip, .int (nI ps), .ref ma]))] := hD
  refine lv_aload_n hx hb dX5_cover_18 rfl (lv_at hl 0 rfl) ?_
  refine va_get (D := D) (ci := 5) (v := .int (nI 1)) (C := RX5) (T := TX5) (N := 21) hx hb hts iX5 hown hK hP 0 rfl rfl 0 (by decide) f_55 (fun _ h9 => h9) rfl dX5_cover_19 ?_
  refine q_if_le (tgt := 27) hx hb (by omega) dX5_cover_22 (by decide) (fun h_22 => by omega) (fun h_22 => ?_)
  refine lv_iconst (v := nI 0) hx hb dX5_cover_25 (by decide) ?_
  exact hQ _ _ _ _ (nI 0) () _ _ dX5_cover_26 (Nat.le_refl _) (Nat.le_refl _) trivial (hP.sub [0] rfl) hK (hD.sub [0] (by decide) rfl) hS

abbrev rm_X5_same : Room := { frames := 0, cells := 0, slots := 0, locals := 0 }
set_option maxHeartbeats 4000000 in
set_option maxRecDepth 100000 in
theorem c_X5_same (l : Launch) (D : va_G) (cI cZ cB cJ : ClassId) (sz : Nat) (m0 : Nat) (m1 : Nat) (m2 : Nat) (m3 : Nat) (m4 : Nat) (m5 : Nat) (m6 : Nat) (m7 : Nat) (m8 : Nat) (m9 : Nat) (ma : Nat) (th : Int32) (wd : Nat) (ht : Nat) (pn : Nat) (cn : Nat) (fl : Int32) (bf : Nat) (bt : Nat) (xn : Nat) (ip : Int32) (ps : Nat) (va : Int32) (hht : ht ≤ 48) : Met l yX5_same wsX5_same rm_X5_same (va_Pc [.ref m0, .int va] (PC D (qT cI cZ cB cJ) [(m0, .inr (5, [.int th, .int (nI wd), .int (nI ht), .int (nI pn), .ref m1, .ref m2, .ref m3, .int (nI cn), .ref m4, .ref m5, .ref m6, .int fl, .int (nI bf), .int (nI bt), .int (nI xn), .ref m7, .ref m8, .ref m9, .int ip, .int (nI ps), .ref ma]))] sz)) (va_Qi (fun (r : Int32) (u : Unit) => r = (if 1 ≤ va.toInt ∧ va.toInt ≤ ht then nI 1 else nI 0)) (fun (u : Unit) => PO D (qT cI cZ cB cJ) (va_A [(m0, .inr (5, [.int th, .int (nI wd), .int (nI ht), .int (nI pn), .ref m1, .ref m2, .ref m3, .int (nI cn), .ref m4, .ref m5, .ref m6, .int fl, .int (nI bf), .int (nI bt), .int (nI xn), .ref m7, .ref m8, .ref m9, .int ip, .int (nI ps), .ref ma]))] sz) [(m0, .inr (5, [.int (nI 0), .int (nI wd), .int (nI ht), .int (nI pn), .ref m1, .ref m2, .ref m3, .int (nI cn), .ref m4, .ref m5, .ref m6, .int fl, .int (nI bf), .int (nI bt), .int (nI xn), .ref m7, .ref m8, .ref m9, .int ip, .int (nI ps), .ref ma]))]) (va_A [(m0, .inr (5, [.int th, .int (nI wd), .int (nI ht), .int (nI pn), .ref m1, .ref m2, .ref m3, .int (nI cn), .ref m4, .ref m5, .ref m6, .int fl, .int (nI bf), .int (nI bt), .int (nI xn), .ref m7, .ref m8, .ref m9, .int ip, .int (nI ps), .ref ma]))] sz)) 0 0 (va_A [(m0, .inr (5, [.int th, .int (nI wd), .int (nI ht), .int (nI pn), .ref m1, .ref m2, .ref m3, .int (nI cn), .ref m4, .ref m5, .ref m6, .int fl, .int (nI bf), .int (nI bt), .int (nI xn), .ref m7, .ref m8, .ref m9, .int ip, .int (nI ps), .ref ma]))] sz) := by
  refine q_entZ (cc := cX5_same) (maxL := 2) (by decide +kernel) rfl (Nat.le_of_ble_eq_true rfl) ?_
  intro p e s m below meth c A Q ls hq hl hQ
  obtain ⟨hx, hb, hml, hts, hown, hin, hN, hK, hsz, hA, hP, hD, hS⟩ := hq
  have hown : s.vm.findClass RX5 = some m.cls := hown
  obtain ⟨H, hH⟩ : ∃ H, H = s.heap := ⟨_, rfl⟩
  rw [← hH] at hP ⊢
  have hS : va_S A s.heap H [] := by rw [hH]; exact va_S.rf
  clear hH
  have hl : lv_has ls 2 [(0, .ref m0), (1, .int va)] := hl
  have iX5 : ∀ w ∈ wsX50, w ∈ wsX5_same := by decide +kernel
  have f_55 := hts (.fieldLink RX5 55 "RasterCoverModel" "thrown" "I") (by decide +kernel)
  have f_46 := hts (.fieldLink RX5 46 "RasterCoverModel" "high" "I") (by decide +kernel)
  refine lv_aload_n hx hb dX5_same_0 rfl (lv_at hl 0 rfl) ?_
  refine lv_iconst (v := nI 0) hx hb dX5_same_1 (by decide) ?_
  refine va_put (D := D) (ci := 5) (v := .int (nI 0)) (ty := .int) (C := RX5) (T := TX5) (N := 21) hx hb hts iX5 tyX5 tyX5_ok nmX5 hown hK hP hD hS 0 rfl rfl 0 (by decide) f_55 (fun _ h9 => h9) rfl (by decide +kernel) rfl rfl (Nat.le_of_ble_eq_true rfl) dX5_same_2 (fun H locs hP hD hS => ?_)
  have hP : va_P D qCl [(m0, .inr (5, [.int (nI 0), .int (nI wd), .int (nI ht), .int (nI pn), .ref m1, .ref m2, .ref m3, .int (nI cn), .ref m4, .ref m5, .ref m6, .int fl, .int (nI bf), .int (nI bt), .int (nI xn), .ref m7, .ref m8, .ref m9, .int ip, .int (nI ps), .ref ma]))] H := hP
  have hD : va_D A [(m0, .inr (5, [.int (nI 0), .int (nI wd), .int (nI ht), .int (nI pn), .ref m1, .ref m2, .ref m3, .int (nI cn), .ref m4, .ref m5, .ref m6, .int fl, .int (nI bf), .int (nI bt), .int (nI xn), .ref m7, .ref m8, .ref m9, .int ip, .int (nI ps), .ref ma]))] := hD
  refine lv_iload_n hx hb dX5_same_5 rfl (lv_at hl 1 rfl) ?_
  refine lv_iconst (v := nI 1) hx hb dX5_same_6 (by decide) ?_
  refine lv_icmp_lt (tgt := 22) hx hb dX5_same_7 (by decide) (fun h_7 => ?_) (fun h_7 => ?_)
  · rw [i_lt, nI_toInt (by omega)] at h_7
    refine lv_iconst (v := nI 0) hx hb dX5_same_22 (by decide) ?_
    have hr9 : (nI 0) = (if 1 ≤ va.toInt ∧ va.toInt ≤ ht then nI 1 else nI 0) := (by rw [if_neg (by omega)])
    exact hQ _ _ _ _ (nI 0) () _ _ (by first | rfl | decide) dX5_same_23 (Nat.le_refl _) (Nat.le_refl _) hr9 (hP.sub [0] rfl) hK (hD.sub [0] (by decide) rfl) hS
  rw [i_lt, nI_toInt (by omega)] at h_7
  refine lv_iload_n hx hb dX5_same_10 rfl (lv_at hl 1 rfl) ?_
  refine lv_aload_n hx hb dX5_same_11 rfl (lv_at hl 0 rfl) ?_
  refine va_get (D := D) (ci := 5) (v := .int (nI ht)) (C := RX5) (T := TX5) (N := 21) hx hb hts iX5 hown hK hP 0 rfl rfl 2 (by decide) f_46 (fun _ h9 => h9) rfl dX5_same_12 ?_
  refine lv_icmp_gt (tgt := 22) hx hb dX5_same_15 (by decide) (fun h_15 => ?_) (fun h_15 => ?_)
  · rw [i_lt, nI_toInt (by omega)] at h_15
    refine lv_iconst (v := nI 0) hx hb dX5_same_22 (by decide) ?_
    have hr9 : (nI 0) = (if 1 ≤ va.toInt ∧ va.toInt ≤ ht then nI 1 else nI 0) := (by rw [if_neg (by omega)])
    exact hQ _ _ _ _ (nI 0) () _ _ (by first | rfl | decide) dX5_same_23 (Nat.le_refl _) (Nat.le_refl _) hr9 (hP.sub [0] rfl) hK (hD.sub [0] (by decide) rfl) hS
  rw [i_lt, nI_toInt (by omega)] at h_15
  refine lv_iconst (v := nI 1) hx hb dX5_same_18 (by decide) ?_
  refine lv_goto (tgt := 23) hx hb dX5_same_19 (by decide) ?_
  have hr9 : (nI 1) = (if 1 ≤ va.toInt ∧ va.toInt ≤ ht then nI 1 else nI 0) := (by rw [if_pos (by omega)])
  exact hQ _ _ _ _ (nI 1) () _ _ (by first | rfl | decide) dX5_same_23 (Nat.le_refl _) (Nat.le_refl _) hr9 (hP.sub [0] rfl) hK (hD.sub [0] (by decide) rfl) hS

abbrev rm_X5_over_ok : Room := { frames := 0, cells := 0, slots := 0, locals := 0 }
set_option maxHeartbeats 4000000 in
set_option maxRecDepth 100000 in
theorem c_X5_over_ok (l : Launch) (D : va_G) (cI cZ cB cJ : ClassId) (sz : Nat) (m0 : Nat) (m1 : Nat) (m2 : Nat) (m3 : Nat) (m4 : Nat) (m5 : Nat) (m6 : Nat) (m7 : Nat) (m8 : Nat) (m9 : Nat) (ma : Nat) (th : Int32) (wd : Nat) (ht : Nat) (pn : Nat) (cn : Nat) (fl : Int32) (bf : Nat) (bt : Nat) (xn : Nat) (ip : Int32) (ps : Nat) (pl : Int32) (vb : Int32) (gO : Nat → Int32) (hpn : pn ≤ 4) (hvb : vb = 0 ∨ vb = 1) (hpl : 0 ≤ pl.toInt ∧ pl.toInt < pn) : Met l yX5_over wsX5_over rm_X5_over_ok (va_Pc [.ref m0, .int pl, .int vb] (PC D (qT cI cZ cB cJ) [(m0, .inr (5, [.int th, .int (nI wd), .int (nI ht), .int (nI pn), .ref m1, .ref m2, .ref m3, .int (nI cn), .ref m4, .ref m5, .ref m6, .int fl, .int (nI bf), .int (nI bt), .int (nI xn), .ref m7, .ref m8, .ref m9, .int ip, .int (nI ps), .ref ma])), (m3, .inl (cZ, 4, .inl gO))] sz)) (va_Qi (fun (r : Int32) (u : Unit) => r = (if gO pl.toInt.toNat = 0 then nI 0 else nI 1)) (fun (u : Unit) => PO D (qT cI cZ cB cJ) (va_A [(m0, .inr (5, [.int th, .int (nI wd), .int (nI ht), .int (nI pn), .ref m1, .ref m2, .ref m3, .int (nI cn), .ref m4, .ref m5, .ref m6, .int fl, .int (nI bf), .int (nI bt), .int (nI xn), .ref m7, .ref m8, .ref m9, .int ip, .int (nI ps), .ref ma])), (m3, .inl (cZ, 4, .inl gO))] sz) [(m0, .inr (5, [.int (nI 0), .int (nI wd), .int (nI ht), .int (nI pn), .ref m1, .ref m2, .ref m3, .int (nI cn), .ref m4, .ref m5, .ref m6, .int fl, .int (nI bf), .int (nI bt), .int (nI xn), .ref m7, .ref m8, .ref m9, .int ip, .int (nI ps), .ref ma])), (m3, .inl (cZ, 4, .inl (upd gO pl.toInt.toNat vb)))]) (va_A [(m0, .inr (5, [.int th, .int (nI wd), .int (nI ht), .int (nI pn), .ref m1, .ref m2, .ref m3, .int (nI cn), .ref m4, .ref m5, .ref m6, .int fl, .int (nI bf), .int (nI bt), .int (nI xn), .ref m7, .ref m8, .ref m9, .int ip, .int (nI ps), .ref ma])), (m3, .inl (cZ, 4, .inl gO))] sz)) 0 0 (va_A [(m0, .inr (5, [.int th, .int (nI wd), .int (nI ht), .int (nI pn), .ref m1, .ref m2, .ref m3, .int (nI cn), .ref m4, .ref m5, .ref m6, .int fl, .int (nI bf), .int (nI bt), .int (nI xn), .ref m7, .ref m8, .ref m9, .int ip, .int (nI ps), .ref ma])), (m3, .inl (cZ, 4, .inl gO))] sz) := by
  refine q_entI (cc := cX5_over) (maxL := 4) (by decide +kernel) rfl (Nat.le_of_ble_eq_true rfl) ?_
  intro p e s m below meth c A Q ls hq hl hQ
  obtain ⟨hx, hb, hml, hts, hown, hin, hN, hK, hsz, hA, hP, hD, hS⟩ := hq
  have hown : s.vm.findClass RX5 = some m.cls := hown
  obtain ⟨H, hH⟩ : ∃ H, H = s.heap := ⟨_, rfl⟩
  rw [← hH] at hP ⊢
  have hS : va_S A s.heap H [] := by rw [hH]; exact va_S.rf
  clear hH
  have hl : lv_has ls 4 [(0, .ref m0), (1, .int pl), (2, .int vb)] := hl
  have iX5 : ∀ w ∈ wsX50, w ∈ wsX5_over := by decide +kernel
  have f_49 := hts (.fieldLink RX5 49 "RasterCoverModel" "planes" "I") (by decide +kernel)
  have f_55 := hts (.fieldLink RX5 55 "RasterCoverModel" "thrown" "I") (by decide +kernel)
  have f_16 := hts (.fieldLink RX5 16 "RasterCoverModel" "isOver" "[Z") (by decide +kernel)
  refine lv_aload_n hx hb dX5_over_0 rfl (lv_at hl 0 rfl) ?_
  refine lv_iload_n hx hb dX5_over_1 rfl (lv_at hl 1 rfl) ?_
  refine lv_if_lt (tgt := 13) hx hb dX5_over_2 (by decide) (fun h_2 => by rw [i_lt, show (0 : Int32).toInt = 0 from by decide] at h_2; omega) (fun h_2 => ?_)
  refine lv_iload_n hx hb dX5_over_5 rfl (lv_at hl 1 rfl) ?_
  refine lv_aload_n hx hb dX5_over_6 rfl (lv_at hl 0 rfl) ?_
  refine va_get (D := D) (ci := 5) (v := .int (nI pn)) (C := RX5) (T := TX5) (N := 21) hx hb hts iX5 hown hK hP 0 rfl rfl 3 (by decide) f_49 (fun _ h9 => h9) rfl dX5_over_7 ?_
  refine lv_icmp_lt (tgt := 17) hx hb dX5_over_10 (by decide) (fun h_10 => ?_) (fun h_10 => by rw [i_lt, nI_toInt (by omega)] at h_10; omega)
  refine lv_iconst (v := nI 0) hx hb dX5_over_17 (by decide) ?_
  refine va_put (D := D) (ci := 5) (v := .int (nI 0)) (ty := .int) (C := RX5) (T := TX5) (N := 21) hx hb hts iX5 tyX5 tyX5_ok nmX5 hown hK hP hD hS 0 rfl rfl 0 (by decide) f_55 (fun _ h9 => h9) rfl (by decide +kernel) rfl rfl (Nat.le_of_ble_eq_true rfl) dX5_over_18 (fun H locs hP hD hS => ?_)
  have hP : va_P D qCl [(m0, .inr (5, [.int (nI 0), .int (nI wd), .int (nI ht), .int (nI pn), .ref m1, .ref m2, .ref m3, .int (nI cn), .ref m4, .ref m5, .ref m6, .int fl, .int (nI bf), .int (nI bt), .int (nI xn), .ref m7, .ref m8, .ref m9, .int ip, .int (nI ps), .ref ma])), (m3, .inl (cZ, 4, .inl gO))] H := hP
  have hD : va_D A [(m0, .inr (5, [.int (nI 0), .int (nI wd), .int (nI ht), .int (nI pn), .ref m1, .ref m2, .ref m3, .int (nI cn), .ref m4, .ref m5, .ref m6, .int fl, .int (nI bf), .int (nI bt), .int (nI xn), .ref m7, .ref m8, .ref m9, .int ip, .int (nI ps), .ref ma])), (m3, .inl (cZ, 4, .inl gO))] := hD
  refine lv_aload_n hx hb dX5_over_21 rfl (lv_at hl 0 rfl) ?_
  refine va_get (D := D) (ci := 5) (v := .int (nI 0)) (C := RX5) (T := TX5) (N := 21) hx hb hts iX5 hown hK hP 0 rfl rfl 0 (by decide) f_55 (fun _ h9 => h9) rfl dX5_over_22 ?_
  refine q_if_le (tgt := 30) hx hb (by omega) dX5_over_25 (by decide) (fun h_25 => ?_) (fun h_25 => by omega)
  refine lv_aload_n hx hb dX5_over_30 rfl (lv_at hl 0 rfl) ?_
  refine va_get (D := D) (ci := 5) (v := .ref m3) (C := RX5) (T := TX5) (N := 21) hx hb hts iX5 hown hK hP 0 rfl rfl 6 (by decide) f_16 (fun _ h9 => h9) rfl dX5_over_31 ?_
  refine lv_iload_n hx hb dX5_over_34 rfl (lv_at hl 1 rfl) ?_
  refine q_eqi (y := nI pl.toInt.toNat) (by rw [i_eq, nI_toInt (by omega)]; omega) ?_
  refine q_zald hx hb hK hP 1 1 rfl rfl (k := pl.toInt.toNat) (by omega) (by omega) dX5_over_35 ?_
  refine lv_if_eq (tgt := 43) hx hb dX5_over_36 (by decide) (fun h_36 => ?_) (fun h_36 => ?_)
  · refine lv_iconst (v := nI 0) hx hb dX5_over_43 (by decide) ?_
    refine lv_istore_n (lv' := [(3, .int (nI 0)), (0, .ref m0), (1, .int pl), (2, .int vb)]) hx hb dX5_over_44 rfl hl (by decide) rfl (fun ls hl => ?_)
    refine lv_aload_n hx hb dX5_over_45 rfl (lv_at hl 1 rfl) ?_
    refine va_get (D := D) (ci := 5) (v := .ref m3) (C := RX5) (T := TX5) (N := 21) hx hb hts iX5 hown hK hP 0 rfl rfl 6 (by decide) f_16 (fun _ h9 => h9) rfl dX5_over_46 ?_
    refine lv_iload_n hx hb dX5_over_49 rfl (lv_at hl 2 rfl) ?_
    refine q_eqi (y := nI pl.toInt.toNat) (by rw [i_eq, nI_toInt (by omega)]; omega) ?_
    refine lv_iload_n hx hb dX5_over_50 rfl (lv_at hl 3 rfl) ?_
    refine q_zast hx hb hK hP hD hS 1 1 rfl rfl (k := pl.toInt.toNat) (by rcases hvb with rfl | rfl <;> decide) (by omega) (by omega) dX5_over_51 (fun H locs hP hD hS => ?_)
    have hP : va_P D qCl [(m0, .inr (5, [.int (nI 0), .int (nI wd), .int (nI ht), .int (nI pn), .ref m1, .ref m2, .ref m3, .int (nI cn), .ref m4, .ref m5, .ref m6, .int fl, .int (nI bf), .int (nI bt), .int (nI xn), .ref m7, .ref m8, .ref m9, .int ip, .int (nI ps), .ref ma])), (m3, .inl (cZ, 4, .inl (upd gO pl.toInt.toNat vb)))] H := hP
    have hD : va_D A [(m0, .inr (5, [.int (nI 0), .int (nI wd), .int (nI ht), .int (nI pn), .ref m1, .ref m2, .ref m3, .int (nI cn), .ref m4, .ref m5, .ref m6, .int fl, .int (nI bf), .int (nI bt), .int (nI xn), .ref m7, .ref m8, .ref m9, .int ip, .int (nI ps), .ref ma])), (m3, .inl (cZ, 4, .inl (upd gO pl.toInt.toNat vb)))] := hD
    refine lv_iload_n hx hb dX5_over_52 rfl (lv_at hl 0 rfl) ?_
    have hr9 : (nI 0) = (if gO pl.toInt.toNat = 0 then nI 0 else nI 1) := (by rw [if_pos h_36])
    exact hQ _ _ _ _ (nI 0) () _ _ dX5_over_53 (Nat.le_refl _) (Nat.le_refl _) hr9 (hP.sub [0, 1] rfl) hK (hD.sub [0, 1] (by decide) rfl) hS
  refine lv_iconst (v := nI 1) hx hb dX5_over_39 (by decide) ?_
  refine lv_goto (tgt := 44) hx hb dX5_over_40 (by decide) ?_
  refine lv_istore_n (lv' := [(3, .int (nI 1)), (0, .ref m0), (1, .int pl), (2, .int vb)]) hx hb dX5_over_44 rfl hl (by decide) rfl (fun ls hl => ?_)
  refine lv_aload_n hx hb dX5_over_45 rfl (lv_at hl 1 rfl) ?_
  refine va_get (D := D) (ci := 5) (v := .ref m3) (C := RX5) (T := TX5) (N := 21) hx hb hts iX5 hown hK hP 0 rfl rfl 6 (by decide) f_16 (fun _ h9 => h9) rfl dX5_over_46 ?_
  refine lv_iload_n hx hb dX5_over_49 rfl (lv_at hl 2 rfl) ?_
  refine q_eqi (y := nI pl.toInt.toNat) (by rw [i_eq, nI_toInt (by omega)]; omega) ?_
  refine lv_iload_n hx hb dX5_over_50 rfl (lv_at hl 3 rfl) ?_
  refine q_zast hx hb hK hP hD hS 1 1 rfl rfl (k := pl.toInt.toNat) (by rcases hvb with rfl | rfl <;> decide) (by omega) (by omega) dX5_over_51 (fun H locs hP hD hS => ?_)
  have hP : va_P D qCl [(m0, .inr (5, [.int (nI 0), .int (nI wd), .int (nI ht), .int (nI pn), .ref m1, .ref m2, .ref m3, .int (nI cn), .ref m4, .ref m5, .ref m6, .int fl, .int (nI bf), .int (nI bt), .int (nI xn), .ref m7, .ref m8, .ref m9, .int ip, .int (nI ps), .ref ma])), (m3, .inl (cZ, 4, .inl (upd gO pl.toInt.toNat vb)))] H := hP
  have hD : va_D A [(m0, .inr (5, [.int (nI 0), .int (nI wd), .int (nI ht), .int (nI pn), .ref m1, .ref m2, .ref m3, .int (nI cn), .ref m4, .ref m5, .ref m6, .int fl, .int (nI bf), .int (nI bt), .int (nI xn), .ref m7, .ref m8, .ref m9, .int ip, .int (nI ps), .ref ma])), (m3, .inl (cZ, 4, .inl (upd gO pl.toInt.toNat vb)))] := hD
  refine lv_iload_n hx hb dX5_over_52 rfl (lv_at hl 0 rfl) ?_
  have hr9 : (nI 1) = (if gO pl.toInt.toNat = 0 then nI 0 else nI 1) := (by rw [if_neg h_36])
  exact hQ _ _ _ _ (nI 1) () _ _ dX5_over_53 (Nat.le_refl _) (Nat.le_refl _) hr9 (hP.sub [0, 1] rfl) hK (hD.sub [0, 1] (by decide) rfl) hS

abbrev rm_X5_over_no : Room := { frames := 0, cells := 0, slots := 0, locals := 0 }
set_option maxHeartbeats 4000000 in
set_option maxRecDepth 100000 in
theorem c_X5_over_no (l : Launch) (D : va_G) (cI cZ cB cJ : ClassId) (sz : Nat) (m0 : Nat) (m1 : Nat) (m2 : Nat) (m3 : Nat) (m4 : Nat) (m5 : Nat) (m6 : Nat) (m7 : Nat) (m8 : Nat) (m9 : Nat) (ma : Nat) (th : Int32) (wd : Nat) (ht : Nat) (pn : Nat) (cn : Nat) (fl : Int32) (bf : Nat) (bt : Nat) (xn : Nat) (ip : Int32) (ps : Nat) (pl : Int32) (vb : Int32) (hpn : pn ≤ 4) (hpl : ¬ (0 ≤ pl.toInt ∧ pl.toInt < pn)) : Met l yX5_over wsX5_over rm_X5_over_no (va_Pc [.ref m0, .int pl, .int vb] (PC D (qT cI cZ cB cJ) [(m0, .inr (5, [.int th, .int (nI wd), .int (nI ht), .int (nI pn), .ref m1, .ref m2, .ref m3, .int (nI cn), .ref m4, .ref m5, .ref m6, .int fl, .int (nI bf), .int (nI bt), .int (nI xn), .ref m7, .ref m8, .ref m9, .int ip, .int (nI ps), .ref ma]))] sz)) (va_Qi (fun (r : Int32) (u : Unit) => True) (fun (u : Unit) => PO D (qT cI cZ cB cJ) (va_A [(m0, .inr (5, [.int th, .int (nI wd), .int (nI ht), .int (nI pn), .ref m1, .ref m2, .ref m3, .int (nI cn), .ref m4, .ref m5, .ref m6, .int fl, .int (nI bf), .int (nI bt), .int (nI xn), .ref m7, .ref m8, .ref m9, .int ip, .int (nI ps), .ref ma]))] sz) [(m0, .inr (5, [.int (nI 1), .int (nI wd), .int (nI ht), .int (nI pn), .ref m1, .ref m2, .ref m3, .int (nI cn), .ref m4, .ref m5, .ref m6, .int fl, .int (nI bf), .int (nI bt), .int (nI xn), .ref m7, .ref m8, .ref m9, .int ip, .int (nI ps), .ref ma]))]) (va_A [(m0, .inr (5, [.int th, .int (nI wd), .int (nI ht), .int (nI pn), .ref m1, .ref m2, .ref m3, .int (nI cn), .ref m4, .ref m5, .ref m6, .int fl, .int (nI bf), .int (nI bt), .int (nI xn), .ref m7, .ref m8, .ref m9, .int ip, .int (nI ps), .ref ma]))] sz)) 0 0 (va_A [(m0, .inr (5, [.int th, .int (nI wd), .int (nI ht), .int (nI pn), .ref m1, .ref m2, .ref m3, .int (nI cn), .ref m4, .ref m5, .ref m6, .int fl, .int (nI bf), .int (nI bt), .int (nI xn), .ref m7, .ref m8, .ref m9, .int ip, .int (nI ps), .ref ma]))] sz) := by
  refine q_entI (cc := cX5_over) (maxL := 4) (by decide +kernel) rfl (Nat.le_of_ble_eq_true rfl) ?_
  intro p e s m below meth c A Q ls hq hl hQ
  obtain ⟨hx, hb, hml, hts, hown, hin, hN, hK, hsz, hA, hP, hD, hS⟩ := hq
  have hown : s.vm.findClass RX5 = some m.cls := hown
  obtain ⟨H, hH⟩ : ∃ H, H = s.heap := ⟨_, rfl⟩
  rw [← hH] at hP ⊢
  have hS : va_S A s.heap H [] := by rw [hH]; exact va_S.rf
  clear hH
  have hl : lv_has ls 4 [(0, .ref m0), (1, .int pl), (2, .int vb)] := hl
  have iX5 : ∀ w ∈ wsX50, w ∈ wsX5_over := by decide +kernel
  have f_55 := hts (.fieldLink RX5 55 "RasterCoverModel" "thrown" "I") (by decide +kernel)
  have f_49 := hts (.fieldLink RX5 49 "RasterCoverModel" "planes" "I") (by decide +kernel)
  refine lv_aload_n hx hb dX5_over_0 rfl (lv_at hl 0 rfl) ?_
  refine lv_iload_n hx hb dX5_over_1 rfl (lv_at hl 1 rfl) ?_
  refine lv_if_lt (tgt := 13) hx hb dX5_over_2 (by decide) (fun h_2 => ?_) (fun h_2 => ?_)
  · refine lv_iconst (v := nI 1) hx hb dX5_over_13 (by decide) ?_
    refine lv_goto (tgt := 18) hx hb dX5_over_14 (by decide) ?_
    refine va_put (D := D) (ci := 5) (v := .int (nI 1)) (ty := .int) (C := RX5) (T := TX5) (N := 21) hx hb hts iX5 tyX5 tyX5_ok nmX5 hown hK hP hD hS 0 rfl rfl 0 (by decide) f_55 (fun _ h9 => h9) rfl (by decide +kernel) rfl rfl (Nat.le_of_ble_eq_true rfl) dX5_over_18 (fun H locs hP hD hS => ?_)
    have hP : va_P D qCl [(m0, .inr (5, [.int (nI 1), .int (nI wd), .int (nI ht), .int (nI pn), .ref m1, .ref m2, .ref m3, .int (nI cn), .ref m4, .ref m5, .ref m6, .int fl, .int (nI bf), .int (nI bt), .int (nI xn), .ref m7, .ref m8, .ref m9, .int ip, .int (nI ps), .ref ma]))] H := hP
    have hD : va_D A [(m0, .inr (5, [.int (nI 1), .int (nI wd), .int (nI ht), .int (nI pn), .ref m1, .ref m2, .ref m3, .int (nI cn), .ref m4, .ref m5, .ref m6, .int fl, .int (nI bf), .int (nI bt), .int (nI xn), .ref m7, .ref m8, .ref m9, .int ip, .int (nI ps), .ref ma]))] := hD
    refine lv_aload_n hx hb dX5_over_21 rfl (lv_at hl 0 rfl) ?_
    refine va_get (D := D) (ci := 5) (v := .int (nI 1)) (C := RX5) (T := TX5) (N := 21) hx hb hts iX5 hown hK hP 0 rfl rfl 0 (by decide) f_55 (fun _ h9 => h9) rfl dX5_over_22 ?_
    refine q_if_le (tgt := 30) hx hb (by omega) dX5_over_25 (by decide) (fun h_25 => by omega) (fun h_25 => ?_)
    refine lv_iconst (v := nI 0) hx hb dX5_over_28 (by decide) ?_
    exact hQ _ _ _ _ (nI 0) () _ _ dX5_over_29 (Nat.le_refl _) (Nat.le_refl _) trivial (hP.sub [0] rfl) hK (hD.sub [0] (by decide) rfl) hS
  refine lv_iload_n hx hb dX5_over_5 rfl (lv_at hl 1 rfl) ?_
  refine lv_aload_n hx hb dX5_over_6 rfl (lv_at hl 0 rfl) ?_
  refine va_get (D := D) (ci := 5) (v := .int (nI pn)) (C := RX5) (T := TX5) (N := 21) hx hb hts iX5 hown hK hP 0 rfl rfl 3 (by decide) f_49 (fun _ h9 => h9) rfl dX5_over_7 ?_
  refine lv_icmp_lt (tgt := 17) hx hb dX5_over_10 (by decide) (fun h_10 => by rw [i_lt, show (0 : Int32).toInt = 0 from by decide] at h_2; rw [i_lt, nI_toInt (by omega)] at h_10; omega) (fun h_10 => ?_)
  refine lv_iconst (v := nI 1) hx hb dX5_over_13 (by decide) ?_
  refine lv_goto (tgt := 18) hx hb dX5_over_14 (by decide) ?_
  refine va_put (D := D) (ci := 5) (v := .int (nI 1)) (ty := .int) (C := RX5) (T := TX5) (N := 21) hx hb hts iX5 tyX5 tyX5_ok nmX5 hown hK hP hD hS 0 rfl rfl 0 (by decide) f_55 (fun _ h9 => h9) rfl (by decide +kernel) rfl rfl (Nat.le_of_ble_eq_true rfl) dX5_over_18 (fun H locs hP hD hS => ?_)
  have hP : va_P D qCl [(m0, .inr (5, [.int (nI 1), .int (nI wd), .int (nI ht), .int (nI pn), .ref m1, .ref m2, .ref m3, .int (nI cn), .ref m4, .ref m5, .ref m6, .int fl, .int (nI bf), .int (nI bt), .int (nI xn), .ref m7, .ref m8, .ref m9, .int ip, .int (nI ps), .ref ma]))] H := hP
  have hD : va_D A [(m0, .inr (5, [.int (nI 1), .int (nI wd), .int (nI ht), .int (nI pn), .ref m1, .ref m2, .ref m3, .int (nI cn), .ref m4, .ref m5, .ref m6, .int fl, .int (nI bf), .int (nI bt), .int (nI xn), .ref m7, .ref m8, .ref m9, .int ip, .int (nI ps), .ref ma]))] := hD
  refine lv_aload_n hx hb dX5_over_21 rfl (lv_at hl 0 rfl) ?_
  refine va_get (D := D) (ci := 5) (v := .int (nI 1)) (C := RX5) (T := TX5) (N := 21) hx hb hts iX5 hown hK hP 0 rfl rfl 0 (by decide) f_55 (fun _ h9 => h9) rfl dX5_over_22 ?_
  refine q_if_le (tgt := 30) hx hb (by omega) dX5_over_25 (by decide) (fun h_25 => by omega) (fun h_25 => ?_)
  refine lv_iconst (v := nI 0) hx hb dX5_over_28 (by decide) ?_
  exact hQ _ _ _ _ (nI 0) () _ _ dX5_over_29 (Nat.le_refl _) (Nat.le_refl _) trivial (hP.sub [0] rfl) hK (hD.sub [0] (by decide) rfl) hS

abbrev rm_X5_band : Room := { frames := 0, cells := 0, slots := 0, locals := 0 }
set_option maxHeartbeats 4000000 in
set_option maxRecDepth 100000 in
theorem c_X5_band (l : Launch) (D : va_G) (cI cZ cB cJ : ClassId) (sz : Nat) (m0 : Nat) (m1 : Nat) (m2 : Nat) (m3 : Nat) (m4 : Nat) (m5 : Nat) (m6 : Nat) (m7 : Nat) (m8 : Nat) (m9 : Nat) (ma : Nat) (th : Int32) (wd : Nat) (ht : Nat) (pn : Nat) (cn : Nat) (fl : Int32) (bf : Nat) (bt : Nat) (xn : Nat) (ip : Int32) (ps : Nat) (va : Int32) (vb : Int32) (hht : ht ≤ 48) : Met l yX5_band wsX5_band rm_X5_band (va_Pc [.ref m0, .int va, .int vb] (PC D (qT cI cZ cB cJ) [(m0, .inr (5, [.int th, .int (nI wd), .int (nI ht), .int (nI pn), .ref m1, .ref m2, .ref m3, .int (nI cn), .ref m4, .ref m5, .ref m6, .int fl, .int (nI bf), .int (nI bt), .int (nI xn), .ref m7, .ref m8, .ref m9, .int ip, .int (nI ps), .ref ma]))] sz)) (va_Qi (fun (r : Int32) (u : Unit) => r = nI ((if cutN va ht < cutN vb ht then cutN vb ht else cutN va ht) - cutN va ht)) (fun (u : Unit) => PO D (qT cI cZ cB cJ) (va_A [(m0, .inr (5, [.int th, .int (nI wd), .int (nI ht), .int (nI pn), .ref m1, .ref m2, .ref m3, .int (nI cn), .ref m4, .ref m5, .ref m6, .int fl, .int (nI bf), .int (nI bt), .int (nI xn), .ref m7, .ref m8, .ref m9, .int ip, .int (nI ps), .ref ma]))] sz) [(m0, .inr (5, [.int (nI 0), .int (nI wd), .int (nI ht), .int (nI pn), .ref m1, .ref m2, .ref m3, .int (nI cn), .ref m4, .ref m5, .ref m6, .int fl, .int (nI (cutN va ht)), .int (nI (if cutN va ht < cutN vb ht then cutN vb ht else cutN va ht)), .int (nI xn), .ref m7, .ref m8, .ref m9, .int ip, .int (nI ps), .ref ma]))]) (va_A [(m0, .inr (5, [.int th, .int (nI wd), .int (nI ht), .int (nI pn), .ref m1, .ref m2, .ref m3, .int (nI cn), .ref m4, .ref m5, .ref m6, .int fl, .int (nI bf), .int (nI bt), .int (nI xn), .ref m7, .ref m8, .ref m9, .int ip, .int (nI ps), .ref ma]))] sz)) 0 0 (va_A [(m0, .inr (5, [.int th, .int (nI wd), .int (nI ht), .int (nI pn), .ref m1, .ref m2, .ref m3, .int (nI cn), .ref m4, .ref m5, .ref m6, .int fl, .int (nI bf), .int (nI bt), .int (nI xn), .ref m7, .ref m8, .ref m9, .int ip, .int (nI ps), .ref ma]))] sz) := by
  refine q_entI (cc := cX5_band) (maxL := 3) (by decide +kernel) rfl (Nat.le_of_ble_eq_true rfl) ?_
  intro p e s m below meth c A Q ls hq hl hQ
  obtain ⟨hx, hb, hml, hts, hown, hin, hN, hK, hsz, hA, hP, hD, hS⟩ := hq
  have hown : s.vm.findClass RX5 = some m.cls := hown
  obtain ⟨H, hH⟩ : ∃ H, H = s.heap := ⟨_, rfl⟩
  rw [← hH] at hP ⊢
  have hS : va_S A s.heap H [] := by rw [hH]; exact va_S.rf
  clear hH
  have hl : lv_has ls 3 [(0, .ref m0), (1, .int va), (2, .int vb)] := hl
  have iX5 : ∀ w ∈ wsX50, w ∈ wsX5_band := by decide +kernel
  have f_55 := hts (.fieldLink RX5 55 "RasterCoverModel" "thrown" "I") (by decide +kernel)
  have f_109 := hts (.fieldLink RX5 109 "RasterCoverModel" "from" "I") (by decide +kernel)
  have f_52 := hts (.fieldLink RX5 52 "RasterCoverModel" "to" "I") (by decide +kernel)
  have f_46 := hts (.fieldLink RX5 46 "RasterCoverModel" "high" "I") (by decide +kernel)
  have hcl9 := cutN_le va ht
  have hcl8 := cutN_le vb ht
  refine lv_aload_n hx hb dX5_band_0 rfl (lv_at hl 0 rfl) ?_
  refine lv_iconst (v := nI 0) hx hb dX5_band_1 (by decide) ?_
  refine va_put (D := D) (ci := 5) (v := .int (nI 0)) (ty := .int) (C := RX5) (T := TX5) (N := 21) hx hb hts iX5 tyX5 tyX5_ok nmX5 hown hK hP hD hS 0 rfl rfl 0 (by decide) f_55 (fun _ h9 => h9) rfl (by decide +kernel) rfl rfl (Nat.le_of_ble_eq_true rfl) dX5_band_2 (fun H locs hP hD hS => ?_)
  have hP : va_P D qCl [(m0, .inr (5, [.int (nI 0), .int (nI wd), .int (nI ht), .int (nI pn), .ref m1, .ref m2, .ref m3, .int (nI cn), .ref m4, .ref m5, .ref m6, .int fl, .int (nI bf), .int (nI bt), .int (nI xn), .ref m7, .ref m8, .ref m9, .int ip, .int (nI ps), .ref ma]))] H := hP
  have hD : va_D A [(m0, .inr (5, [.int (nI 0), .int (nI wd), .int (nI ht), .int (nI pn), .ref m1, .ref m2, .ref m3, .int (nI cn), .ref m4, .ref m5, .ref m6, .int fl, .int (nI bf), .int (nI bt), .int (nI xn), .ref m7, .ref m8, .ref m9, .int ip, .int (nI ps), .ref ma]))] := hD
  refine lv_aload_n hx hb dX5_band_5 rfl (lv_at hl 0 rfl) ?_
  have J_30 : ∀ (b1v : Nat), (b1v = cutN va ht) → ∀ (H : Heap) (locs : List Loc) (ls : Array Slot), va_P D qCl [(m0, .inr (5, [.int (nI 0), .int (nI wd), .int (nI ht), .int (nI pn), .ref m1, .ref m2, .ref m3, .int (nI cn), .ref m4, .ref m5, .ref m6, .int fl, .int (nI bf), .int (nI bt), .int (nI xn), .ref m7, .ref m8, .ref m9, .int ip, .int (nI ps), .ref ma]))] H → va_D A [(m0, .inr (5, [.int (nI 0), .int (nI wd), .int (nI ht), .int (nI pn), .ref m1, .ref m2, .ref m3, .int (nI cn), .ref m4, .ref m5, .ref m6, .int fl, .int (nI bf), .int (nI bt), .int (nI xn), .ref m7, .ref m8, .ref m9, .int ip, .int (nI ps), .ref ma]))] → va_S A s.heap H locs → lv_has ls 3 [(0, .ref m0), (1, .int va), (2, .int vb)] → W p l e rm_X5_band s m ([.ref m0, .int va, .int vb] : List Value).toArray below meth c H locs 0 0 Q (F0 m 30 ls [.int (nI b1v), .ref m0]) := by
    intro b1v hb1 H locs ls hP hD hS hl
    refine va_put (D := D) (ci := 5) (v := .int (nI b1v)) (ty := .int) (C := RX5) (T := TX5) (N := 21) hx hb hts iX5 tyX5 tyX5_ok nmX5 hown hK hP hD hS 0 rfl rfl 12 (by decide) f_109 (fun _ h9 => h9) rfl (by decide +kernel) rfl rfl (Nat.le_of_ble_eq_true rfl) dX5_band_30 (fun H locs hP hD hS => ?_)
    have hP : va_P D qCl [(m0, .inr (5, [.int (nI 0), .int (nI wd), .int (nI ht), .int (nI pn), .ref m1, .ref m2, .ref m3, .int (nI cn), .ref m4, .ref m5, .ref m6, .int fl, .int (nI b1v), .int (nI bt), .int (nI xn), .ref m7, .ref m8, .ref m9, .int ip, .int (nI ps), .ref ma]))] H := hP
    have hD : va_D A [(m0, .inr (5, [.int (nI 0), .int (nI wd), .int (nI ht), .int (nI pn), .ref m1, .ref m2, .ref m3, .int (nI cn), .ref m4, .ref m5, .ref m6, .int fl, .int (nI b1v), .int (nI bt), .int (nI xn), .ref m7, .ref m8, .ref m9, .int ip, .int (nI ps), .ref ma]))] := hD
    refine lv_aload_n hx hb dX5_band_33 rfl (lv_at hl 0 rfl) ?_
    have J_65 : ∀ (b2v : Nat), (b2v = (if cutN va ht < cutN vb ht then cutN vb ht else cutN va ht)) → ∀ (H : Heap) (locs : List Loc) (ls : Array Slot), va_P D qCl [(m0, .inr (5, [.int (nI 0), .int (nI wd), .int (nI ht), .int (nI pn), .ref m1, .ref m2, .ref m3, .int (nI cn), .ref m4, .ref m5, .ref m6, .int fl, .int (nI b1v), .int (nI bt), .int (nI xn), .ref m7, .ref m8, .ref m9, .int ip, .int (nI ps), .ref ma]))] H → va_D A [(m0, .inr (5, [.int (nI 0), .int (nI wd), .int (nI ht), .int (nI pn), .ref m1, .ref m2, .ref m3, .int (nI cn), .ref m4, .ref m5, .ref m6, .int fl, .int (nI b1v), .int (nI bt), .int (nI xn), .ref m7, .ref m8, .ref m9, .int ip, .int (nI ps), .ref ma]))] → va_S A s.heap H locs → lv_has ls 3 [(0, .ref m0), (1, .int va), (2, .int vb)] → W p l e rm_X5_band s m ([.ref m0, .int va, .int vb] : List Value).toArray below meth c H locs 0 0 Q (F0 m 65 ls [.int (nI b2v), .ref m0]) := by
      intro b2v hb2 H locs ls hP hD hS hl
      refine va_put (D := D) (ci := 5) (v := .int (nI b2v)) (ty := .int) (C := RX5) (T := TX5) (N := 21) hx hb hts iX5 tyX5 tyX5_ok nmX5 hown hK hP hD hS 0 rfl rfl 13 (by decide) f_52 (fun _ h9 => h9) rfl (by decide +kernel) rfl rfl (Nat.le_of_ble_eq_true rfl) dX5_band_65 (fun H locs hP hD hS => ?_)
      have hP : va_P D qCl [(m0, .inr (5, [.int (nI 0), .int (nI wd), .int (nI ht), .int (nI pn), .ref m1, .ref m2, .ref m3, .int (nI cn), .ref m4, .ref m5, .ref m6, .int fl, .int (nI b1v), .int (nI b2v), .int (nI xn), .ref m7, .ref m8, .ref m9, .int ip, .int (nI ps), .ref ma]))] H := hP
      have hD : va_D A [(m0, .inr (5, [.int (nI 0), .int (nI wd), .int (nI ht), .int (nI pn), .ref m1, .ref m2, .ref m3, .int (nI cn), .ref m4, .ref m5, .ref m6, .int fl, .int (nI b1v), .int (nI b2v), .int (nI xn), .ref m7, .ref m8, .ref m9, .int ip, .int (nI ps), .ref ma]))] := hD
      refine lv_aload_n hx hb dX5_band_68 rfl (lv_at hl 0 rfl) ?_
      refine va_get (D := D) (ci := 5) (v := .int (nI b2v)) (C := RX5) (T := TX5) (N := 21) hx hb hts iX5 hown hK hP 0 rfl rfl 13 (by decide) f_52 (fun _ h9 => h9) rfl dX5_band_69 ?_
      refine lv_aload_n hx hb dX5_band_72 rfl (lv_at hl 0 rfl) ?_
      refine va_get (D := D) (ci := 5) (v := .int (nI b1v)) (C := RX5) (T := TX5) (N := 21) hx hb hts iX5 hown hK hP 0 rfl rfl 12 (by decide) f_109 (fun _ h9 => h9) rfl dX5_band_73 ?_
      refine lv_isub hx hb dX5_band_76 ?_
      refine q_eqi (y := nI ((if cutN va ht < cutN vb ht then cutN vb ht else cutN va ht) - cutN va ht)) (by rw [hb1, hb2]; exact pk_sub (by split <;> omega)) ?_
      subst hb1
      subst hb2
      have hr9 : (nI ((if cutN va ht < cutN vb ht then cutN vb ht else cutN va ht) - cutN va ht)) = nI ((if cutN va ht < cutN vb ht then cutN vb ht else cutN va ht) - cutN va ht) := rfl
      exact hQ _ _ _ _ (nI ((if cutN va ht < cutN vb ht then cutN vb ht else cutN va ht) - cutN va ht)) () _ _ dX5_band_77 (Nat.le_refl _) (Nat.le_refl _) hr9 (hP.sub [0] rfl) hK (hD.sub [0] (by decide) rfl) hS
    refine lv_iload_n hx hb dX5_band_34 rfl (lv_at hl 2 rfl) ?_
    refine lv_aload_n hx hb dX5_band_35 rfl (lv_at hl 0 rfl) ?_
    refine va_get (D := D) (ci := 5) (v := .int (nI b1v)) (C := RX5) (T := TX5) (N := 21) hx hb hts iX5 hown hK hP 0 rfl rfl 12 (by decide) f_109 (fun _ h9 => h9) rfl dX5_band_36 ?_
    refine lv_icmp_ge (tgt := 49) hx hb dX5_band_39 (by decide) (fun h_39 => ?_) (fun h_39 => ?_)
    · rw [i_le, nI_toInt (by omega)] at h_39
      refine lv_iload_n hx hb dX5_band_49 rfl (lv_at hl 2 rfl) ?_
      refine lv_aload_n hx hb dX5_band_50 rfl (lv_at hl 0 rfl) ?_
      refine va_get (D := D) (ci := 5) (v := .int (nI ht)) (C := RX5) (T := TX5) (N := 21) hx hb hts iX5 hown hK hP 0 rfl rfl 2 (by decide) f_46 (fun _ h9 => h9) rfl dX5_band_51 ?_
      refine lv_icmp_le (tgt := 64) hx hb dX5_band_54 (by decide) (fun h_54 => ?_) (fun h_54 => ?_)
      · rw [i_le, nI_toInt (by omega)] at h_54
        refine lv_iload_n hx hb dX5_band_64 rfl (lv_at hl 2 rfl) ?_
        refine q_eqi (y := nI vb.toInt.toNat) (by rw [i_eq, nI_toInt (by omega)]; omega) ?_
        exact J_65 vb.toInt.toNat (by rw [← hb1]; unfold cutN; split <;> first | omega | (split <;> omega) | (split <;> split <;> omega)) _ _ _ (hP.sub [0] rfl) (hD.sub [0] (by decide) rfl) hS (lv_sub hl [0, 1, 2] rfl)
      rw [i_le, nI_toInt (by omega)] at h_54
      refine lv_aload_n hx hb dX5_band_57 rfl (lv_at hl 0 rfl) ?_
      refine va_get (D := D) (ci := 5) (v := .int (nI ht)) (C := RX5) (T := TX5) (N := 21) hx hb hts iX5 hown hK hP 0 rfl rfl 2 (by decide) f_46 (fun _ h9 => h9) rfl dX5_band_58 ?_
      refine lv_goto (tgt := 65) hx hb dX5_band_61 (by decide) ?_
      exact J_65 ht (by rw [← hb1]; unfold cutN; split <;> first | omega | (split <;> omega) | (split <;> split <;> omega)) _ _ _ (hP.sub [0] rfl) (hD.sub [0] (by decide) rfl) hS (lv_sub hl [0, 1, 2] rfl)
    rw [i_le, nI_toInt (by omega)] at h_39
    refine lv_aload_n hx hb dX5_band_42 rfl (lv_at hl 0 rfl) ?_
    refine va_get (D := D) (ci := 5) (v := .int (nI b1v)) (C := RX5) (T := TX5) (N := 21) hx hb hts iX5 hown hK hP 0 rfl rfl 12 (by decide) f_109 (fun _ h9 => h9) rfl dX5_band_43 ?_
    refine lv_goto (tgt := 65) hx hb dX5_band_46 (by decide) ?_
    exact J_65 b1v (by rw [← hb1]; unfold cutN; split <;> first | omega | (split <;> omega) | (split <;> split <;> omega)) _ _ _ (hP.sub [0] rfl) (hD.sub [0] (by decide) rfl) hS (lv_sub hl [0, 1, 2] rfl)
  refine lv_iload_n hx hb dX5_band_6 rfl (lv_at hl 1 rfl) ?_
  refine lv_if_ge (tgt := 14) hx hb dX5_band_7 (by decide) (fun h_7 => ?_) (fun h_7 => ?_)
  · rw [i_le, show (0 : Int32).toInt = 0 from by decide] at h_7
    refine lv_iload_n hx hb dX5_band_14 rfl (lv_at hl 1 rfl) ?_
    refine lv_aload_n hx hb dX5_band_15 rfl (lv_at hl 0 rfl) ?_
    refine va_get (D := D) (ci := 5) (v := .int (nI ht)) (C := RX5) (T := TX5) (N := 21) hx hb hts iX5 hown hK hP 0 rfl rfl 2 (by decide) f_46 (fun _ h9 => h9) rfl dX5_band_16 ?_
    refine lv_icmp_le (tgt := 29) hx hb dX5_band_19 (by decide) (fun h_19 => ?_) (fun h_19 => ?_)
    · rw [i_le, nI_toInt (by omega)] at h_19
      refine lv_iload_n hx hb dX5_band_29 rfl (lv_at hl 1 rfl) ?_
      refine q_eqi (y := nI va.toInt.toNat) (by rw [i_eq, nI_toInt (by omega)]; omega) ?_
      exact J_30 va.toInt.toNat (by unfold cutN; split <;> first | omega | (split <;> omega)) _ _ _ (hP.sub [0] rfl) (hD.sub [0] (by decide) rfl) hS (lv_sub hl [0, 1, 2] rfl)
    rw [i_le, nI_toInt (by omega)] at h_19
    refine lv_aload_n hx hb dX5_band_22 rfl (lv_at hl 0 rfl) ?_
    refine va_get (D := D) (ci := 5) (v := .int (nI ht)) (C := RX5) (T := TX5) (N := 21) hx hb hts iX5 hown hK hP 0 rfl rfl 2 (by decide) f_46 (fun _ h9 => h9) rfl dX5_band_23 ?_
    refine lv_goto (tgt := 30) hx hb dX5_band_26 (by decide) ?_
    exact J_30 ht (by unfold cutN; split <;> first | omega | (split <;> omega)) _ _ _ (hP.sub [0] rfl) (hD.sub [0] (by decide) rfl) hS (lv_sub hl [0, 1, 2] rfl)
  rw [i_le, show (0 : Int32).toInt = 0 from by decide] at h_7
  refine lv_iconst (v := nI 0) hx hb dX5_band_10 (by decide) ?_
  refine lv_goto (tgt := 30) hx hb dX5_band_11 (by decide) ?_
  exact J_30 0 (by unfold cutN; split <;> first | omega | (split <;> omega)) _ _ _ (hP.sub [0] rfl) (hD.sub [0] (by decide) rfl) hS (lv_sub hl [0, 1, 2] rfl)
