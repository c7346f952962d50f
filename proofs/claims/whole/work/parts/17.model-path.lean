abbrev rm_X5_thrown : Room := { frames := 0, cells := 0, slots := 0, locals := 0 }
set_option maxHeartbeats 4000000 in
set_option maxRecDepth 100000 in
theorem c_X5_thrown (l : Launch) (D : va_G) (cI cZ cB cJ : ClassId) (sz : Nat) (m0 : Nat) (m1 : Nat) (m2 : Nat) (m3 : Nat) (m4 : Nat) (m5 : Nat) (m6 : Nat) (m7 : Nat) (m8 : Nat) (m9 : Nat) (ma : Nat) (th : Int32) (wd : Nat) (ht : Nat) (pn : Nat) (cn : Nat) (fl : Int32) (bf : Nat) (bt : Nat) (xn : Nat) (ip : Int32) (ps : Nat) : Met l yX5_thrown wsX5_thrown rm_X5_thrown (va_Pc [.ref m0] (PC D (qT cI cZ cB cJ) [(m0, .inr (5, [.int th, .int (nI wd), .int (nI ht), .int (nI pn), .ref m1, .ref m2, .ref m3, .int (nI cn), .ref m4, .ref m5, .ref m6, .int fl, .int (nI bf), .int (nI bt), .int (nI xn), .ref m7, .ref m8, .ref m9, .int ip, .int (nI ps), .ref ma]))] sz)) (va_Qi (fun (r : Int32) (u : Unit) => r = th) (fun (u : Unit) => PO D (qT cI cZ cB cJ) (va_A [(m0, .inr (5, [.int th, .int (nI wd), .int (nI ht), .int (nI pn), .ref m1, .ref m2, .ref m3, .int (nI cn), .ref m4, .ref m5, .ref m6, .int fl, .int (nI bf), .int (nI bt), .int (nI xn), .ref m7, .ref m8, .ref m9, .int ip, .int (nI ps), .ref ma]))] sz) [(m0, .inr (5, [.int th, .int (nI wd), .int (nI ht), .int (nI pn), .ref m1, .ref m2, .ref m3, .int (nI cn), .ref m4, .ref m5, .ref m6, .int fl, .int (nI bf), .int (nI bt), .int (nI xn), .ref m7, .ref m8, .ref m9, .int ip, .int (nI ps), .ref ma]))]) (va_A [(m0, .inr (5, [.int th, .int (nI wd), .int (nI ht), .int (nI pn), .ref m1, .ref m2, .ref m3, .int (nI cn), .ref m4, .ref m5, .ref m6, .int fl, .int (nI bf), .int (nI bt), .int (nI xn), .ref m7, .ref m8, .ref m9, .int ip, .int (nI ps), .ref ma]))] sz)) 0 0 (va_A [(m0, .inr (5, [.int th, .int (nI wd), .int (nI ht), .int (nI pn), .ref m1, .ref m2, .ref m3, .int (nI cn), .ref m4, .ref m5, .ref m6, .int fl, .int (nI bf), .int (nI bt), .int (nI xn), .ref m7, .ref m8, .ref m9, .int ip, .int (nI ps), .ref ma]))] sz) := by
  refine q_entI (cc := cX5_thrown) (maxL := 1) (by decide +kernel) rfl (Nat.le_of_ble_eq_true rfl) ?_
  intro p e s m below meth c A Q ls hq hl hQ
  obtain ⟨hx, hb, hml, hts, hown, hin, hN, hK, hsz, hA, hP, hD, hS⟩ := hq
  have hown : s.vm.findClass RX5 = some m.cls := hown
  obtain ⟨H, hH⟩ : ∃ H, H = s.heap := ⟨_, rfl⟩
  rw [← hH] at hP ⊢
  have hS : va_S A s.heap H [] := by rw [hH]; exact va_S.rf
  clear hH
  have hl : lv_has ls 1 [(0, .ref m0)] := hl
  have iX5 : ∀ w ∈ wsX50, w ∈ wsX5_thrown := by decide +kernel
  have f_55 := hts (.fieldLink RX5 55 "RasterCoverModel" "thrown" "I") (by decide +kernel)
  refine lv_aload_n hx hb dX5_thrown_0 rfl (lv_at hl 0 rfl) ?_
  refine va_get (D := D) (ci := 5) (v := .int th) (C := RX5) (T := TX5) (N := 21) hx hb hts iX5 hown hK hP 0 rfl rfl 0 (by decide) f_55 (fun _ h9 => h9) rfl dX5_thrown_1 ?_
  have hr9 : th = th := rfl
  exact hQ _ _ _ _ th () _ _ dX5_thrown_4 (Nat.le_refl _) (Nat.le_refl _) hr9 (hP.sub [0] rfl) hK (hD.sub [0] (by decide) rfl) hS

abbrev rm_X5_cut : Room := { frames := 0, cells := 0, slots := 0, locals := 0 }
set_option maxHeartbeats 4000000 in
set_option maxRecDepth 100000 in
theorem c_X5_cut (l : Launch) (D : va_G) (cI cZ cB cJ : ClassId) (sz : Nat) (v : Int64) : Met l yX5_cut wsX5_cut rm_X5_cut (va_Pc [.long v] (PC D (qT cI cZ cB cJ) [] sz)) (va_Ql (fun (r : Int64) (u : Unit) => r = Int64.ofInt (ctP v)) (fun (u : Unit) => PO D (qT cI cZ cB cJ) (va_A [] sz) []) (va_A [] sz)) 0 0 (va_A [] sz) := by
  refine q_entL (cc := cX5_cut) (maxL := 2) (by decide +kernel) rfl (Nat.le_of_ble_eq_true rfl) ?_
  intro p e s m below meth c A Q ls hq hl hQ
  obtain ⟨hx, hb, hml, hts, hown, hin, hN, hK, hsz, hA, hP, hD, hS⟩ := hq
  have hown : s.vm.findClass RX5 = some m.cls := hown
  obtain ⟨H, hH⟩ : ∃ H, H = s.heap := ⟨_, rfl⟩
  rw [← hH] at hP ⊢
  have hS : va_S A s.heap H [] := by rw [hH]; exact va_S.rf
  clear hH
  have hl : lv_has ls 2 [(0, .long v)] := hl
  have k_58 := hts (.constantLong RX5 58 (-1048576)) (by decide +kernel)
  have k_60 := hts (.constantLong RX5 60 (1048576)) (by decide +kernel)
  refine lv_lload_n hx hb dX5_cut_0 rfl (lv_at hl 0 rfl) ?_
  refine lv_ldc2 hx hb hown k_58 dX5_cut_1 ?_
  refine W.lcmp hx hb dX5_cut_4 ?_
  refine lv_if_ge (tgt := 14) hx hb dX5_cut_5 (by decide) (fun h_5 => ?_) (fun h_5 => ?_)
  · refine lv_lload_n hx hb dX5_cut_14 rfl (lv_at hl 0 rfl) ?_
    refine lv_ldc2 hx hb hown k_60 dX5_cut_15 ?_
    refine W.lcmp hx hb dX5_cut_18 ?_
    refine lv_if_le (tgt := 28) hx hb dX5_cut_19 (by decide) (fun h_19 => ?_) (fun h_19 => ?_)
    · refine lv_lload_n hx hb dX5_cut_28 rfl (lv_at hl 0 rfl) ?_
      have hr9 : v = Int64.ofInt (ctP v) := (ctP_mid (by rw [lgc_ge, j_le] at h_5; rw [j_lt]; omega) (by rw [lgc_le, j_le] at h_19; rw [j_lt]; omega))
      exact hQ _ _ _ _ v () _ _ dX5_cut_29 (Nat.le_refl _) (Nat.le_refl _) hr9 (hP.sub [] rfl) hK (hD.sub [] (by decide) rfl) hS
    refine lv_ldc2 hx hb hown k_60 dX5_cut_22 ?_
    refine lv_goto (tgt := 29) hx hb dX5_cut_25 (by decide) ?_
    have hr9 : 1048576 = Int64.ofInt (ctP v) := (ctP_hi (by rw [lgc_ge, j_le] at h_5; rw [j_lt]; omega) (by rw [lgc_le, j_le] at h_19; rw [j_lt]; omega))
    exact hQ _ _ _ _ 1048576 () _ _ dX5_cut_29 (Nat.le_refl _) (Nat.le_refl _) hr9 (hP.sub [] rfl) hK (hD.sub [] (by decide) rfl) hS
  refine lv_ldc2 hx hb hown k_58 dX5_cut_8 ?_
  refine lv_goto (tgt := 29) hx hb dX5_cut_11 (by decide) ?_
  have hr9 : (-1048576) = Int64.ofInt (ctP v) := (ctP_lo (by rw [lgc_ge, j_le] at h_5; rw [j_lt]; omega))
  exact hQ _ _ _ _ (-1048576) () _ _ dX5_cut_29 (Nat.le_refl _) (Nat.le_refl _) hr9 (hP.sub [] rfl) hK (hD.sub [] (by decide) rfl) hS

abbrev rm_X5_add : Room := { frames := 0, cells := 0, slots := 0, locals := 0 }
set_option maxHeartbeats 4000000 in
set_option maxRecDepth 100000 in
theorem c_X5_add (l : Launch) (D : va_G) (cI cZ cB cJ : ClassId) (sz : Nat) (m0 : Nat) (m1 : Nat) (m2 : Nat) (m3 : Nat) (m4 : Nat) (m5 : Nat) (m6 : Nat) (m7 : Nat) (m8 : Nat) (m9 : Nat) (ma : Nat) (th : Int32) (wd : Nat) (ht : Nat) (pn : Nat) (cn : Nat) (fl : Int32) (bf : Nat) (bt : Nat) (xn : Nat) (ip : Int32) (ps : Nat) (gx : Nat → Int64) (gy : Nat → Int64) (gb : Nat → Int32) (vx : Int64) (vy : Int64) (vb : Int32) (hn : cn < 100) (hb01 : vb = 0 ∨ vb = 1) : Met l yX5_add wsX5_add rm_X5_add (va_Pc [.ref m0, .long vx, .long vy, .int vb] (PC D (qT cI cZ cB cJ) [(m0, .inr (5, [.int th, .int (nI wd), .int (nI ht), .int (nI pn), .ref m1, .ref m2, .ref m3, .int (nI cn), .ref m4, .ref m5, .ref m6, .int fl, .int (nI bf), .int (nI bt), .int (nI xn), .ref m7, .ref m8, .ref m9, .int ip, .int (nI ps), .ref ma])), (m4, .inl (cJ, 100, .inr (.inl gx))), (m5, .inl (cJ, 100, .inr (.inl gy))), (m6, .inl (cZ, 100, .inl gb))] sz)) (va_Qv (fun (u : Unit) => True) (fun (u : Unit) => PO D (qT cI cZ cB cJ) (va_A [(m0, .inr (5, [.int th, .int (nI wd), .int (nI ht), .int (nI pn), .ref m1, .ref m2, .ref m3, .int (nI cn), .ref m4, .ref m5, .ref m6, .int fl, .int (nI bf), .int (nI bt), .int (nI xn), .ref m7, .ref m8, .ref m9, .int ip, .int (nI ps), .ref ma])), (m4, .inl (cJ, 100, .inr (.inl gx))), (m5, .inl (cJ, 100, .inr (.inl gy))), (m6, .inl (cZ, 100, .inl gb))] sz) [(m0, .inr (5, [.int th, .int (nI wd), .int (nI ht), .int (nI pn), .ref m1, .ref m2, .ref m3, .int (nI (cn + 1)), .ref m4, .ref m5, .ref m6, .int fl, .int (nI bf), .int (nI bt), .int (nI xn), .ref m7, .ref m8, .ref m9, .int ip, .int (nI ps), .ref ma])), (m4, .inl (cJ, 100, .inr (.inl (vp_updL gx cn vx)))), (m5, .inl (cJ, 100, .inr (.inl (vp_updL gy cn vy)))), (m6, .inl (cZ, 100, .inl (upd gb cn vb)))]) (va_A [(m0, .inr (5, [.int th, .int (nI wd), .int (nI ht), .int (nI pn), .ref m1, .ref m2, .ref m3, .int (nI cn), .ref m4, .ref m5, .ref m6, .int fl, .int (nI bf), .int (nI bt), .int (nI xn), .ref m7, .ref m8, .ref m9, .int ip, .int (nI ps), .ref ma])), (m4, .inl (cJ, 100, .inr (.inl gx))), (m5, .inl (cJ, 100, .inr (.inl gy))), (m6, .inl (cZ, 100, .inl gb))] sz)) 0 0 (va_A [(m0, .inr (5, [.int th, .int (nI wd), .int (nI ht), .int (nI pn), .ref m1, .ref m2, .ref m3, .int (nI cn), .ref m4, .ref m5, .ref m6, .int fl, .int (nI bf), .int (nI bt), .int (nI xn), .ref m7, .ref m8, .ref m9, .int ip, .int (nI ps), .ref ma])), (m4, .inl (cJ, 100, .inr (.inl gx))), (m5, .inl (cJ, 100, .inr (.inl gy))), (m6, .inl (cZ, 100, .inl gb))] sz) := by
  refine q_entV (cc := cX5_add) (maxL := 6) (by decide +kernel) rfl (Nat.le_of_ble_eq_true rfl) ?_
  intro p e s m below meth c A Q ls hq hl hQ
  obtain ⟨hx, hb, hml, hts, hown, hin, hN, hK, hsz, hA, hP, hD, hS⟩ := hq
  have hown : s.vm.findClass RX5 = some m.cls := hown
  obtain ⟨H, hH⟩ : ∃ H, H = s.heap := ⟨_, rfl⟩
  rw [← hH] at hP ⊢
  have hS : va_S A s.heap H [] := by rw [hH]; exact va_S.rf
  clear hH
  have hl : lv_has ls 6 [(0, .ref m0), (1, .long vx), (3, .long vy), (5, .int vb)] := hl
  have iX5 : ∀ w ∈ wsX50, w ∈ wsX5_add := by decide +kernel
  have f_20 := hts (.fieldLink RX5 20 "RasterCoverModel" "px" "[J") (by decide +kernel)
  have f_62 := hts (.fieldLink RX5 62 "RasterCoverModel" "points" "I") (by decide +kernel)
  have f_24 := hts (.fieldLink RX5 24 "RasterCoverModel" "py" "[J") (by decide +kernel)
  have f_27 := hts (.fieldLink RX5 27 "RasterCoverModel" "begins" "[Z") (by decide +kernel)
  refine lv_aload_n hx hb dX5_add_0 rfl (lv_at hl 0 rfl) ?_
  refine va_get (D := D) (ci := 5) (v := .ref m4) (C := RX5) (T := TX5) (N := 21) hx hb hts iX5 hown hK hP 0 rfl rfl 8 (by decide) f_20 (fun _ h9 => h9) rfl dX5_add_1 ?_
  refine lv_aload_n hx hb dX5_add_4 rfl (lv_at hl 0 rfl) ?_
  refine va_get (D := D) (ci := 5) (v := .int (nI cn)) (C := RX5) (T := TX5) (N := 21) hx hb hts iX5 hown hK hP 0 rfl rfl 7 (by decide) f_62 (fun _ h9 => h9) rfl dX5_add_5 ?_
  refine lv_lload_n hx hb dX5_add_8 rfl (lv_at hl 1 rfl) ?_
  refine q_last hx hb hK hP hD hS 1 3 rfl rfl (k := cn) (by omega) (by omega) dX5_add_9 (fun H locs hP hD hS => ?_)
  have hP : va_P D qCl [(m0, .inr (5, [.int th, .int (nI wd), .int (nI ht), .int (nI pn), .ref m1, .ref m2, .ref m3, .int (nI cn), .ref m4, .ref m5, .ref m6, .int fl, .int (nI bf), .int (nI bt), .int (nI xn), .ref m7, .ref m8, .ref m9, .int ip, .int (nI ps), .ref ma])), (m4, .inl (cJ, 100, .inr (.inl (vp_updL gx cn vx)))), (m5, .inl (cJ, 100, .inr (.inl gy))), (m6, .inl (cZ, 100, .inl gb))] H := hP
  have hD : va_D A [(m0, .inr (5, [.int th, .int (nI wd), .int (nI ht), .int (nI pn), .ref m1, .ref m2, .ref m3, .int (nI cn), .ref m4, .ref m5, .ref m6, .int fl, .int (nI bf), .int (nI bt), .int (nI xn), .ref m7, .ref m8, .ref m9, .int ip, .int (nI ps), .ref ma])), (m4, .inl (cJ, 100, .inr (.inl (vp_updL gx cn vx)))), (m5, .inl (cJ, 100, .inr (.inl gy))), (m6, .inl (cZ, 100, .inl gb))] := hD
  refine lv_aload_n hx hb dX5_add_10 rfl (lv_at hl 0 rfl) ?_
  refine va_get (D := D) (ci := 5) (v := .ref m5) (C := RX5) (T := TX5) (N := 21) hx hb hts iX5 hown hK hP 0 rfl rfl 9 (by decide) f_24 (fun _ h9 => h9) rfl dX5_add_11 ?_
  refine lv_aload_n hx hb dX5_add_14 rfl (lv_at hl 0 rfl) ?_
  refine va_get (D := D) (ci := 5) (v := .int (nI cn)) (C := RX5) (T := TX5) (N := 21) hx hb hts iX5 hown hK hP 0 rfl rfl 7 (by decide) f_62 (fun _ h9 => h9) rfl dX5_add_15 ?_
  refine lv_lload_n hx hb dX5_add_18 rfl (lv_at hl 2 rfl) ?_
  refine q_last hx hb hK hP hD hS 2 3 rfl rfl (k := cn) (by omega) (by omega) dX5_add_19 (fun H locs hP hD hS => ?_)
  have hP : va_P D qCl [(m0, .inr (5, [.int th, .int (nI wd), .int (nI ht), .int (nI pn), .ref m1, .ref m2, .ref m3, .int (nI cn), .ref m4, .ref m5, .ref m6, .int fl, .int (nI bf), .int (nI bt), .int (nI xn), .ref m7, .ref m8, .ref m9, .int ip, .int (nI ps), .ref ma])), (m4, .inl (cJ, 100, .inr (.inl (vp_updL gx cn vx)))), (m5, .inl (cJ, 100, .inr (.inl (vp_updL gy cn vy)))), (m6, .inl (cZ, 100, .inl gb))] H := hP
  have hD : va_D A [(m0, .inr (5, [.int th, .int (nI wd), .int (nI ht), .int (nI pn), .ref m1, .ref m2, .ref m3, .int (nI cn), .ref m4, .ref m5, .ref m6, .int fl, .int (nI bf), .int (nI bt), .int (nI xn), .ref m7, .ref m8, .ref m9, .int ip, .int (nI ps), .ref ma])), (m4, .inl (cJ, 100, .inr (.inl (vp_updL gx cn vx)))), (m5, .inl (cJ, 100, .inr (.inl (vp_updL gy cn vy)))), (m6, .inl (cZ, 100, .inl gb))] := hD
  refine lv_aload_n hx hb dX5_add_20 rfl (lv_at hl 0 rfl) ?_
  refine va_get (D := D) (ci := 5) (v := .ref m6) (C := RX5) (T := TX5) (N := 21) hx hb hts iX5 hown hK hP 0 rfl rfl 10 (by decide) f_27 (fun _ h9 => h9) rfl dX5_add_21 ?_
  refine lv_aload_n hx hb dX5_add_24 rfl (lv_at hl 0 rfl) ?_
  refine va_get (D := D) (ci := 5) (v := .int (nI cn)) (C := RX5) (T := TX5) (N := 21) hx hb hts iX5 hown hK hP 0 rfl rfl 7 (by decide) f_62 (fun _ h9 => h9) rfl dX5_add_25 ?_
  refine lv_iload hx hb dX5_add_28 (lv_at hl 3 rfl) ?_
  refine q_zast hx hb hK hP hD hS 3 1 rfl rfl (k := cn) (by rcases hb01 with rfl | rfl <;> decide) (by omega) (by omega) dX5_add_30 (fun H locs hP hD hS => ?_)
  have hP : va_P D qCl [(m0, .inr (5, [.int th, .int (nI wd), .int (nI ht), .int (nI pn), .ref m1, .ref m2, .ref m3, .int (nI cn), .ref m4, .ref m5, .ref m6, .int fl, .int (nI bf), .int (nI bt), .int (nI xn), .ref m7, .ref m8, .ref m9, .int ip, .int (nI ps), .ref ma])), (m4, .inl (cJ, 100, .inr (.inl (vp_updL gx cn vx)))), (m5, .inl (cJ, 100, .inr (.inl (vp_updL gy cn vy)))), (m6, .inl (cZ, 100, .inl (upd gb cn vb)))] H := hP
  have hD : va_D A [(m0, .inr (5, [.int th, .int (nI wd), .int (nI ht), .int (nI pn), .ref m1, .ref m2, .ref m3, .int (nI cn), .ref m4, .ref m5, .ref m6, .int fl, .int (nI bf), .int (nI bt), .int (nI xn), .ref m7, .ref m8, .ref m9, .int ip, .int (nI ps), .ref ma])), (m4, .inl (cJ, 100, .inr (.inl (vp_updL gx cn vx)))), (m5, .inl (cJ, 100, .inr (.inl (vp_updL gy cn vy)))), (m6, .inl (cZ, 100, .inl (upd gb cn vb)))] := hD
  refine lv_aload_n hx hb dX5_add_31 rfl (lv_at hl 0 rfl) ?_
  refine lv_dup hx hb dX5_add_32 rfl ?_
  refine va_get (D := D) (ci := 5) (v := .int (nI cn)) (C := RX5) (T := TX5) (N := 21) hx hb hts iX5 hown hK hP 0 rfl rfl 7 (by decide) f_62 (fun _ h9 => h9) rfl dX5_add_33 ?_
  refine lv_iconst (v := nI 1) hx hb dX5_add_36 (by decide) ?_
  refine lv_iadd hx hb dX5_add_37 ?_
  refine q_eqi (nI_add _ _) ?_
  refine va_put (D := D) (ci := 5) (v := .int (nI (cn + 1))) (ty := .int) (C := RX5) (T := TX5) (N := 21) hx hb hts iX5 tyX5 tyX5_ok nmX5 hown hK hP hD hS 0 rfl rfl 7 (by decide) f_62 (fun _ h9 => h9) rfl (by decide +kernel) rfl rfl (Nat.le_of_ble_eq_true rfl) dX5_add_38 (fun H locs hP hD hS => ?_)
  have hP : va_P D qCl [(m0, .inr (5, [.int th, .int (nI wd), .int (nI ht), .int (nI pn), .ref m1, .ref m2, .ref m3, .int (nI (cn + 1)), .ref m4, .ref m5, .ref m6, .int fl, .int (nI bf), .int (nI bt), .int (nI xn), .ref m7, .ref m8, .ref m9, .int ip, .int (nI ps), .ref ma])), (m4, .inl (cJ, 100, .inr (.inl (vp_updL gx cn vx)))), (m5, .inl (cJ, 100, .inr (.inl (vp_updL gy cn vy)))), (m6, .inl (cZ, 100, .inl (upd gb cn vb)))] H := hP
  have hD : va_D A [(m0, .inr (5, [.int th, .int (nI wd), .int (nI ht), .int (nI pn), .ref m1, .ref m2, .ref m3, .int (nI (cn + 1)), .ref m4, .ref m5, .ref m6, .int fl, .int (nI bf), .int (nI bt), .int (nI xn), .ref m7, .ref m8, .ref m9, .int ip, .int (nI ps), .ref ma])), (m4, .inl (cJ, 100, .inr (.inl (vp_updL gx cn vx)))), (m5, .inl (cJ, 100, .inr (.inl (vp_updL gy cn vy)))), (m6, .inl (cZ, 100, .inl (upd gb cn vb)))] := hD
  exact hQ _ _ _ _ () _ _ dX5_add_41 (Nat.le_refl _) (Nat.le_refl _) trivial (hP.sub [0, 1, 2, 3] rfl) hK (hD.sub [0, 1, 2, 3] (by decide) rfl) hS

abbrev rm_X5_move_ok : Room := { frames := 1, cells := 0, slots := 0, locals := 25 }
set_option maxHeartbeats 4000000 in
set_option maxRecDepth 100000 in
theorem c_X5_move_ok (l : Launch) (D : va_G) (cI cZ cB cJ : ClassId) (sz : Nat) (m0 : Nat) (m1 : Nat) (m2 : Nat) (m3 : Nat) (m4 : Nat) (m5 : Nat) (m6 : Nat) (m7 : Nat) (m8 : Nat) (m9 : Nat) (ma : Nat) (th : Int32) (wd : Nat) (ht : Nat) (pn : Nat) (cn : Nat) (fl : Int32) (bf : Nat) (bt : Nat) (xn : Nat) (ip : Int32) (ps : Nat) (gx : Nat → Int64) (gy : Nat → Int64) (gb : Nat → Int32) (X : Nat → Int) (Y : Nat → Int) (bg : Nat → Int32) (vx : Int64) (vy : Int64) (hR : PathM gx gy gb X Y bg cn) (hc : cn < 100) : Met l yX5_move wsX5_move rm_X5_move_ok (va_Pc [.ref m0, .long vx, .long vy] (PC D (qT cI cZ cB cJ) [(m0, .inr (5, [.int th, .int (nI wd), .int (nI ht), .int (nI pn), .ref m1, .ref m2, .ref m3, .int (nI cn), .ref m4, .ref m5, .ref m6, .int fl, .int (nI bf), .int (nI bt), .int (nI xn), .ref m7, .ref m8, .ref m9, .int ip, .int (nI ps), .ref ma])), (m4, .inl (cJ, 100, .inr (.inl gx))), (m5, .inl (cJ, 100, .inr (.inl gy))), (m6, .inl (cZ, 100, .inl gb))] sz)) (va_Qi (fun (r : Int32) (u : (Nat → Int64) × (Nat → Int64) × (Nat → Int32)) => r = nI (cn + 1) ∧ (PathM u.1 u.2.1 u.2.2 (add1 X cn (ctP vx)) (add1 Y cn (ctP vy)) (upd bg cn 1) (cn + 1))) (fun (u : (Nat → Int64) × (Nat → Int64) × (Nat → Int32)) => PO D (qT cI cZ cB cJ) (va_A [(m0, .inr (5, [.int th, .int (nI wd), .int (nI ht), .int (nI pn), .ref m1, .ref m2, .ref m3, .int (nI cn), .ref m4, .ref m5, .ref m6, .int fl, .int (nI bf), .int (nI bt), .int (nI xn), .ref m7, .ref m8, .ref m9, .int ip, .int (nI ps), .ref ma])), (m4, .inl (cJ, 100, .inr (.inl gx))), (m5, .inl (cJ, 100, .inr (.inl gy))), (m6, .inl (cZ, 100, .inl gb))] sz) [(m0, .inr (5, [.int (nI 0), .int (nI wd), .int (nI ht), .int (nI pn), .ref m1, .ref m2, .ref m3, .int (nI (cn + 1)), .ref m4, .ref m5, .ref m6, .int fl, .int (nI bf), .int (nI bt), .int (nI xn), .ref m7, .ref m8, .ref m9, .int ip, .int (nI ps), .ref ma])), (m4, .inl (cJ, 100, .inr (.inl u.1))), (m5, .inl (cJ, 100, .inr (.inl u.2.1))), (m6, .inl (cZ, 100, .inl u.2.2))]) (va_A [(m0, .inr (5, [.int th, .int (nI wd), .int (nI ht), .int (nI pn), .ref m1, .ref m2, .ref m3, .int (nI cn), .ref m4, .ref m5, .ref m6, .int fl, .int (nI bf), .int (nI bt), .int (nI xn), .ref m7, .ref m8, .ref m9, .int ip, .int (nI ps), .ref ma])), (m4, .inl (cJ, 100, .inr (.inl gx))), (m5, .inl (cJ, 100, .inr (.inl gy))), (m6, .inl (cZ, 100, .inl gb))] sz)) 0 0 (va_A [(m0, .inr (5, [.int th, .int (nI wd), .int (nI ht), .int (nI pn), .ref m1, .ref m2, .ref m3, .int (nI cn), .ref m4, .ref m5, .ref m6, .int fl, .int (nI bf), .int (nI bt), .int (nI xn), .ref m7, .ref m8, .ref m9, .int ip, .int (nI ps), .ref ma])), (m4, .inl (cJ, 100, .inr (.inl gx))), (m5, .inl (cJ, 100, .inr (.inl gy))), (m6, .inl (cZ, 100, .inl gb))] sz) := by
  refine q_entI (cc := cX5_move) (maxL := 5) (by decide +kernel) rfl (Nat.le_of_ble_eq_true rfl) ?_
  intro p e s m below meth c A Q ls hq hl hQ
  obtain ⟨hx, hb, hml, hts, hown, hin, hN, hK, hsz, hA, hP, hD, hS⟩ := hq
  have hown : s.vm.findClass RX5 = some m.cls := hown
  obtain ⟨H, hH⟩ : ∃ H, H = s.heap := ⟨_, rfl⟩
  rw [← hH] at hP ⊢
  have hS : va_S A s.heap H [] := by rw [hH]; exact va_S.rf
  clear hH
  have hl : lv_has ls 5 [(0, .ref m0), (1, .long vx), (3, .long vy)] := hl
  have iX5 : ∀ w ∈ wsX50, w ∈ wsX5_move := by decide +kernel
  have f_62 := hts (.fieldLink RX5 62 "RasterCoverModel" "points" "I") (by decide +kernel)
  have f_55 := hts (.fieldLink RX5 55 "RasterCoverModel" "thrown" "I") (by decide +kernel)
  refine lv_aload_n hx hb dX5_move_0 rfl (lv_at hl 0 rfl) ?_
  refine lv_aload_n hx hb dX5_move_1 rfl (lv_at hl 0 rfl) ?_
  refine va_get (D := D) (ci := 5) (v := .int (nI cn)) (C := RX5) (T := TX5) (N := 21) hx hb hts iX5 hown hK hP 0 rfl rfl 7 (by decide) f_62 (fun _ h9 => h9) rfl dX5_move_2 ?_
  refine lv_bipush (v := nI 100) hx hb dX5_move_5 (by decide) ?_
  refine q_ne (tgt := 14) hx hb (by omega) (by omega) dX5_move_7 (by decide) (fun h_7 => ?_) (fun h_7 => by omega)
  refine lv_iconst (v := nI 0) hx hb dX5_move_14 (by decide) ?_
  refine va_put (D := D) (ci := 5) (v := .int (nI 0)) (ty := .int) (C := RX5) (T := TX5) (N := 21) hx hb hts iX5 tyX5 tyX5_ok nmX5 hown hK hP hD hS 0 rfl rfl 0 (by decide) f_55 (fun _ h9 => h9) rfl (by decide +kernel) rfl rfl (Nat.le_of_ble_eq_true rfl) dX5_move_15 (fun H locs hP hD hS => ?_)
  have hP : va_P D qCl [(m0, .inr (5, [.int (nI 0), .int (nI wd), .int (nI ht), .int (nI pn), .ref m1, .ref m2, .ref m3, .int (nI cn), .ref m4, .ref m5, .ref m6, .int fl, .int (nI bf), .int (nI bt), .int (nI xn), .ref m7, .ref m8, .ref m9, .int ip, .int (nI ps), .ref ma])), (m4, .inl (cJ, 100, .inr (.inl gx))), (m5, .inl (cJ, 100, .inr (.inl gy))), (m6, .inl (cZ, 100, .inl gb))] H := hP
  have hD : va_D A [(m0, .inr (5, [.int (nI 0), .int (nI wd), .int (nI ht), .int (nI pn), .ref m1, .ref m2, .ref m3, .int (nI cn), .ref m4, .ref m5, .ref m6, .int fl, .int (nI bf), .int (nI bt), .int (nI xn), .ref m7, .ref m8, .ref m9, .int ip, .int (nI ps), .ref ma])), (m4, .inl (cJ, 100, .inr (.inl gx))), (m5, .inl (cJ, 100, .inr (.inl gy))), (m6, .inl (cZ, 100, .inl gb))] := hD
  refine lv_aload_n hx hb dX5_move_18 rfl (lv_at hl 0 rfl) ?_
  refine va_get (D := D) (ci := 5) (v := .int (nI 0)) (C := RX5) (T := TX5) (N := 21) hx hb hts iX5 hown hK hP 0 rfl rfl 0 (by decide) f_55 (fun _ h9 => h9) rfl dX5_move_19 ?_
  refine q_if_le (tgt := 27) hx hb (by omega) dX5_move_22 (by decide) (fun h_22 => ?_) (fun h_22 => by omega)
  refine lv_aload_n hx hb dX5_move_27 rfl (lv_at hl 0 rfl) ?_
  refine lv_lload_n hx hb dX5_move_28 rfl (lv_at hl 1 rfl) ?_
  refine q_l0 (wr := [(m0, .inr (5, [.int (nI 0), .int (nI wd), .int (nI ht), .int (nI pn), .ref m1, .ref m2, .ref m3, .int (nI cn), .ref m4, .ref m5, .ref m6, .int fl, .int (nI bf), .int (nI bt), .int (nI xn), .ref m7, .ref m8, .ref m9, .int ip, .int (nI ps), .ref ma])), (m4, .inl (cJ, 100, .inr (.inl gx))), (m5, .inl (cJ, 100, .inr (.inl gy))), (m6, .inl (cZ, 100, .inl gb))]) (va_runS (As := [.long vx]) (rest := [.ref m0]) ⟨hx, hb, hml, hown, hts⟩ (c_X5_cut l D cI cZ cB cJ H.size vx) (va_cwS 1 hts gX5_move_X5_cut rfl rfl rfl (by decide +kernel) ⟨Nat.le_of_ble_eq_true rfl, Nat.le_of_ble_eq_true rfl⟩) (q_pre (wc := []) hP hD hK hN [] (by decide) rfl) rfl rfl hl.1 rfl (lv_room (Nat.le_of_ble_eq_true rfl)) dX5_move_29 ⟨Nat.zero_le _, Nat.zero_le _⟩) hS hA hP hD [] [0, 1, 2, 3] rfl rfl (by decide) (by decide) (fun r_29 u H locs hp_29 hP hD hS => ?_)
  have hP : va_P D qCl [(m0, .inr (5, [.int (nI 0), .int (nI wd), .int (nI ht), .int (nI pn), .ref m1, .ref m2, .ref m3, .int (nI cn), .ref m4, .ref m5, .ref m6, .int fl, .int (nI bf), .int (nI bt), .int (nI xn), .ref m7, .ref m8, .ref m9, .int ip, .int (nI ps), .ref ma])), (m4, .inl (cJ, 100, .inr (.inl gx))), (m5, .inl (cJ, 100, .inr (.inl gy))), (m6, .inl (cZ, 100, .inl gb))] H := hP
  have hD : va_D A [(m0, .inr (5, [.int (nI 0), .int (nI wd), .int (nI ht), .int (nI pn), .ref m1, .ref m2, .ref m3, .int (nI cn), .ref m4, .ref m5, .ref m6, .int fl, .int (nI bf), .int (nI bt), .int (nI xn), .ref m7, .ref m8, .ref m9, .int ip, .int (nI ps), .ref ma])), (m4, .inl (cJ, 100, .inr (.inl gx))), (m5, .inl (cJ, 100, .inr (.inl gy))), (m6, .inl (cZ, 100, .inl gb))] := hD
  have hp_29 : r_29 = Int64.ofInt (ctP vx) := hp_29
  subst hp_29
  refine lv_lload_n hx hb dX5_move_32 rfl (lv_at hl 2 rfl) ?_
  refine q_l0 (wr := [(m0, .inr (5, [.int (nI 0), .int (nI wd), .int (nI ht), .int (nI pn), .ref m1, .ref m2, .ref m3, .int (nI cn), .ref m4, .ref m5, .ref m6, .int fl, .int (nI bf), .int (nI bt), .int (nI xn), .ref m7, .ref m8, .ref m9, .int ip, .int (nI ps), .ref ma])), (m4, .inl (cJ, 100, .inr (.inl gx))), (m5, .inl (cJ, 100, .inr (.inl gy))), (m6, .inl (cZ, 100, .inl gb))]) (va_runS (As := [.long vy]) (rest := [.long (Int64.ofInt (ctP vx)), .ref m0]) ⟨hx, hb, hml, hown, hts⟩ (c_X5_cut l D cI cZ cB cJ H.size vy) (va_cwS 1 hts gX5_move_X5_cut rfl rfl rfl (by decide +kernel) ⟨Nat.le_of_ble_eq_true rfl, Nat.le_of_ble_eq_true rfl⟩) (q_pre (wc := []) hP hD hK hN [] (by decide) rfl) rfl rfl hl.1 rfl (lv_room (Nat.le_of_ble_eq_true rfl)) dX5_move_33 ⟨Nat.zero_le _, Nat.zero_le _⟩) hS hA hP hD [] [0, 1, 2, 3] rfl rfl (by decide) (by decide) (fun r_33 u H locs hp_33 hP hD hS => ?_)
  have hP : va_P D qCl [(m0, .inr (5, [.int (nI 0), .int (nI wd), .int (nI ht), .int (nI pn), .ref m1, .ref m2, .ref m3, .int (nI cn), .ref m4, .ref m5, .ref m6, .int fl, .int (nI bf), .int (nI bt), .int (nI xn), .ref m7, .ref m8, .ref m9, .int ip, .int (nI ps), .ref ma])), (m4, .inl (cJ, 100, .inr (.inl gx))), (m5, .inl (cJ, 100, .inr (.inl gy))), (m6, .inl (cZ, 100, .inl gb))] H := hP
  have hD : va_D A [(m0, .inr (5, [.int (nI 0), .int (nI wd), .int (nI ht), .int (nI pn), .ref m1, .ref m2, .ref m3, .int (nI cn), .ref m4, .ref m5, .ref m6, .int fl, .int (nI bf), .int (nI bt), .int (nI xn), .ref m7, .ref m8, .ref m9, .int ip, .int (nI ps), .ref ma])), (m4, .inl (cJ, 100, .inr (.inl gx))), (m5, .inl (cJ, 100, .inr (.inl gy))), (m6, .inl (cZ, 100, .inl gb))] := hD
  have hp_33 : r_33 = Int64.ofInt (ctP vy) := hp_33
  subst hp_33
  refine lv_iconst (v := nI 1) hx hb dX5_move_36 (by decide) ?_
  refine q_eqi (y := 1) (by decide) ?_
  refine q_v0 (wr := []) (va_runV (As := [.long (Int64.ofInt (ctP vx)), .long (Int64.ofInt (ctP vy)), .int 1]) (rest := []) ⟨hx, hb, hml, hown, hts⟩ (c_X5_add l D cI cZ cB cJ H.size m0 m1 m2 m3 m4 m5 m6 m7 m8 m9 ma (nI 0) wd ht pn cn fl bf bt xn ip ps gx gy gb (Int64.ofInt (ctP vx)) (Int64.ofInt (ctP vy)) 1 hc (Or.inr rfl)) (cwV 3 hts gX5_move_X5_add rfl rfl rfl (by decide +kernel) ⟨Nat.le_of_ble_eq_true rfl, Nat.le_of_ble_eq_true rfl⟩) (q_preV (q_pre (wc := [(m0, .inr (5, [.int (nI 0), .int (nI wd), .int (nI ht), .int (nI pn), .ref m1, .ref m2, .ref m3, .int (nI cn), .ref m4, .ref m5, .ref m6, .int fl, .int (nI bf), .int (nI bt), .int (nI xn), .ref m7, .ref m8, .ref m9, .int ip, .int (nI ps), .ref ma])), (m4, .inl (cJ, 100, .inr (.inl gx))), (m5, .inl (cJ, 100, .inr (.inl gy))), (m6, .inl (cZ, 100, .inl gb))]) hP hD hK hN [0, 1, 2, 3] (by decide) rfl) (va_recv hK hP (ci := 5) (q0 := 0) rfl rfl)) rfl rfl hl.1 rfl (lv_room (Nat.le_of_ble_eq_true rfl)) dX5_move_37 ⟨Nat.zero_le _, Nat.zero_le _⟩) hS hA hP hD [0, 1, 2, 3] [] rfl rfl (by decide) (by decide) (fun u H locs hp_37 hP hD hS => ?_)
  have hP : va_P D qCl [(m0, .inr (5, [.int (nI 0), .int (nI wd), .int (nI ht), .int (nI pn), .ref m1, .ref m2, .ref m3, .int (nI (cn + 1)), .ref m4, .ref m5, .ref m6, .int fl, .int (nI bf), .int (nI bt), .int (nI xn), .ref m7, .ref m8, .ref m9, .int ip, .int (nI ps), .ref ma])), (m4, .inl (cJ, 100, .inr (.inl (vp_updL gx cn (Int64.ofInt (ctP vx)))))), (m5, .inl (cJ, 100, .inr (.inl (vp_updL gy cn (Int64.ofInt (ctP vy)))))), (m6, .inl (cZ, 100, .inl (upd gb cn 1)))] H := hP
  have hD : va_D A [(m0, .inr (5, [.int (nI 0), .int (nI wd), .int (nI ht), .int (nI pn), .ref m1, .ref m2, .ref m3, .int (nI (cn + 1)), .ref m4, .ref m5, .ref m6, .int fl, .int (nI bf), .int (nI bt), .int (nI xn), .ref m7, .ref m8, .ref m9, .int ip, .int (nI ps), .ref ma])), (m4, .inl (cJ, 100, .inr (.inl (vp_updL gx cn (Int64.ofInt (ctP vx)))))), (m5, .inl (cJ, 100, .inr (.inl (vp_updL gy cn (Int64.ofInt (ctP vy)))))), (m6, .inl (cZ, 100, .inl (upd gb cn 1)))] := hD
  refine lv_aload_n hx hb dX5_move_40 rfl (lv_at hl 0 rfl) ?_
  refine va_get (D := D) (ci := 5) (v := .int (nI (cn + 1))) (C := RX5) (T := TX5) (N := 21) hx hb hts iX5 hown hK hP 0 rfl rfl 7 (by decide) f_62 (fun _ h9 => h9) rfl dX5_move_41 ?_
  have hr9 : (nI (cn + 1)) = nI (cn + 1) ∧ (PathM (vp_updL gx cn (Int64.ofInt (ctP vx))) (vp_updL gy cn (Int64.ofInt (ctP vy))) (upd gb cn 1) (add1 X cn (ctP vx)) (add1 Y cn (ctP vy)) (upd bg cn 1) (cn + 1)) := ⟨rfl, PathM_add hR hc 1 ⟨by have := ctP_bd vx; omega, by have := ctP_bd vx; omega⟩ ⟨by have := ctP_bd vy; omega, by have := ctP_bd vy; omega⟩⟩
  exact hQ _ _ _ _ (nI (cn + 1)) (vp_updL gx cn (Int64.ofInt (ctP vx)), vp_updL gy cn (Int64.ofInt (ctP vy)), upd gb cn 1) _ _ dX5_move_44 (Nat.le_refl _) (Nat.le_refl _) hr9 (hP.sub [0, 1, 2, 3] rfl) hK (hD.sub [0, 1, 2, 3] (by decide) rfl) hS

abbrev rm_X5_move_no : Room := { frames := 0, cells := 0, slots := 0, locals := 0 }
set_option maxHeartbeats 4000000 in
set_option maxRecDepth 100000 in
theorem c_X5_move_no (l : Launch) (D : va_G) (cI cZ cB cJ : ClassId) (sz : Nat) (m0 : Nat) (m1 : Nat) (m2 : Nat) (m3 : Nat) (m4 : Nat) (m5 : Nat) (m6 : Nat) (m7 : Nat) (m8 : Nat) (m9 : Nat) (ma : Nat) (th : Int32) (wd : Nat) (ht : Nat) (pn : Nat) (cn : Nat) (fl : Int32) (bf : Nat) (bt : Nat) (xn : Nat) (ip : Int32) (ps : Nat) (vx : Int64) (vy : Int64) (hc : cn = 100) : Met l yX5_move wsX5_move rm_X5_move_no (va_Pc [.ref m0, .long vx, .long vy] (PC D (qT cI cZ cB cJ) [(m0, .inr (5, [.int th, .int (nI wd), .int (nI ht), .int (nI pn), .ref m1, .ref m2, .ref m3, .int (nI cn), .ref m4, .ref m5, .ref m6, .int fl, .int (nI bf), .int (nI bt), .int (nI xn), .ref m7, .ref m8, .ref m9, .int ip, .int (nI ps), .ref ma]))] sz)) (va_Qi (fun (r : Int32) (u : Unit) => True) (fun (u : Unit) => PO D (qT cI cZ cB cJ) (va_A [(m0, .inr (5, [.int th, .int (nI wd), .int (nI ht), .int (nI pn), .ref m1, .ref m2, .ref m3, .int (nI cn), .ref m4, .ref m5, .ref m6, .int fl, .int (nI bf), .int (nI bt), .int (nI xn), .ref m7, .ref m8, .ref m9, .int ip, .int (nI ps), .ref ma]))] sz) [(m0, .inr (5, [.int (nI 1), .int (nI wd), .int (nI ht), .int (nI pn), .ref m1, .ref m2, .ref m3, .int (nI cn), .ref m4, .ref m5, .ref m6, .int fl, .int (nI bf), .int (nI bt), .int (nI xn), .ref m7, .ref m8, .ref m9, .int ip, .int (nI ps), .ref ma]))]) (va_A [(m0, .inr (5, [.int th, .int (nI wd), .int (nI ht), .int (nI pn), .ref m1, .ref m2, .ref m3, .int (nI cn), .ref m4, .ref m5, .ref m6, .int fl, .int (nI bf), .int (nI bt), .int (nI xn), .ref m7, .ref m8, .ref m9, .int ip, .int (nI ps), .ref ma]))] sz)) 0 0 (va_A [(m0, .inr (5, [.int th, .int (nI wd), .int (nI ht), .int (nI pn), .ref m1, .ref m2, .ref m3, .int (nI cn), .ref m4, .ref m5, .ref m6, .int fl, .int (nI bf), .int (nI bt), .int (nI xn), .ref m7, .ref m8, .ref m9, .int ip, .int (nI ps), .ref ma]))] sz) := by
  refine q_entI (cc := cX5_move) (maxL := 5) (by decide +kernel) rfl (Nat.le_of_ble_eq_true rfl) ?_
  intro p e s m below meth c A Q ls hq hl hQ
  obtain ⟨hx, hb, hml, hts, hown, hin, hN, hK, hsz, hA, hP, hD, hS⟩ := hq
  have hown : s.vm.findClass RX5 = some m.cls := hown
  obtain ⟨H, hH⟩ : ∃ H, H = s.heap := ⟨_, rfl⟩
  rw [← hH] at hP ⊢
  have hS : va_S A s.heap H [] := by rw [hH]; exact va_S.rf
  clear hH
  have hl : lv_has ls 5 [(0, .ref m0), (1, .long vx), (3, .long vy)] := hl
  have iX5 : ∀ w ∈ wsX50, w ∈ wsX5_move := by decide +kernel
  have f_62 := hts (.fieldLink RX5 62 "RasterCoverModel" "points" "I") (by decide +kernel)
  have f_55 := hts (.fieldLink RX5 55 "RasterCoverModel" "thrown" "I") (by decide +kernel)
  refine lv_aload_n hx hb dX5_move_0 rfl (lv_at hl 0 rfl) ?_
  refine lv_aload_n hx hb dX5_move_1 rfl (lv_at hl 0 rfl) ?_
  refine va_get (D := D) (ci := 5) (v := .int (nI cn)) (C := RX5) (T := TX5) (N := 21) hx hb hts iX5 hown hK hP 0 rfl rfl 7 (by decide) f_62 (fun _ h9 => h9) rfl dX5_move_2 ?_
  refine lv_bipush (v := nI 100) hx hb dX5_move_5 (by decide) ?_
  refine q_ne (tgt := 14) hx hb (by omega) (by omega) dX5_move_7 (by decide) (fun h_7 => by omega) (fun h_7 => ?_)
  refine lv_iconst (v := nI 1) hx hb dX5_move_10 (by decide) ?_
  refine lv_goto (tgt := 15) hx hb dX5_move_11 (by decide) ?_
  refine va_put (D := D) (ci := 5) (v := .int (nI 1)) (ty := .int) (C := RX5) (T := TX5) (N := 21) hx hb hts iX5 tyX5 tyX5_ok nmX5 hown hK hP hD hS 0 rfl rfl 0 (by decide) f_55 (fun _ h9 => h9) rfl (by decide +kernel) rfl rfl (Nat.le_of_ble_eq_true rfl) dX5_move_15 (fun H locs hP hD hS => ?_)
  have hP : va_P D qCl [(m0, .inr (5, [.int (nI 1), .int (nI wd), .int (nI ht), .int (nI pn), .ref m1, .ref m2, .ref m3, .int (nI cn), .ref m4, .ref m5, .ref m6, .int fl, .int (nI bf), .int (nI bt), .int (nI xn), .ref m7, .ref m8, .ref m9, .int ip, .int (nI ps), .ref ma]))] H := hP
  have hD : va_D A [(m0, .inr (5, [.int (nI 1), .int (nI wd), .int (nI ht), .int (nI pn), .ref m1, .ref m2, .ref m3, .int (nI cn), .ref m4, .ref m5, .ref m6, .int fl, .int (nI bf), .int (nI bt), .int (nI xn), .ref m7, .ref m8, .ref m9, .int ip, .int (nI ps), .ref ma]))] := hD
  refine lv_aload_n hx hb dX5_move_18 rfl (lv_at hl 0 rfl) ?_
  refine va_get (D := D) (ci := 5) (v := .int (nI 1)) (C := RX5) (T := TX5) (N := 21) hx hb hts iX5 hown hK hP 0 rfl rfl 0 (by decide) f_55 (fun _ h9 => h9) rfl dX5_move_19 ?_
  refine q_if_le (tgt := 27) hx hb (by omega) dX5_move_22 (by decide) (fun h_22 => by omega) (fun h_22 => ?_)
  refine lv_iconst (v := nI 0) hx hb dX5_move_25 (by decide) ?_
  exact hQ _ _ _ _ (nI 0) () _ _ dX5_move_26 (Nat.le_refl _) (Nat.le_refl _) trivial (hP.sub [0] rfl) hK (hD.sub [0] (by decide) rfl) hS

abbrev rm_X5_line_ok : Room := { frames := 1, cells := 0, slots := 0, locals := 25 }
set_option maxHeartbeats 4000000 in
set_option maxRecDepth 100000 in
theorem c_X5_line_ok (l : Launch) (D : va_G) (cI cZ cB cJ : ClassId) (sz : Nat) (m0 : Nat) (m1 : Nat) (m2 : Nat) (m3 : Nat) (m4 : Nat) (m5 : Nat) (m6 : Nat) (m7 : Nat) (m8 : Nat) (m9 : Nat) (ma : Nat) (th : Int32) (wd : Nat) (ht : Nat) (pn : Nat) (cn : Nat) (fl : Int32) (bf : Nat) (bt : Nat) (xn : Nat) (ip : Int32) (ps : Nat) (gx : Nat → Int64) (gy : Nat → Int64) (gb : Nat → Int32) (X : Nat → Int) (Y : Nat → Int) (bg : Nat → Int32) (vx : Int64) (vy : Int64) (hR : PathM gx gy gb X Y bg cn) (hc : cn < 100) (hc0 : 0 < cn) : Met l yX5_line wsX5_line rm_X5_line_ok (va_Pc [.ref m0, .long vx, .long vy] (PC D (qT cI cZ cB cJ) [(m0, .inr (5, [.int th, .int (nI wd), .int (nI ht), .int (nI pn), .ref m1, .ref m2, .ref m3, .int (nI cn), .ref m4, .ref m5, .ref m6, .int fl, .int (nI bf), .int (nI bt), .int (nI xn), .ref m7, .ref m8, .ref m9, .int ip, .int (nI ps), .ref ma])), (m4, .inl (cJ, 100, .inr (.inl gx))), (m5, .inl (cJ, 100, .inr (.inl gy))), (m6, .inl (cZ, 100, .inl gb))] sz)) (va_Qi (fun (r : Int32) (u : (Nat → Int64) × (Nat → Int64) × (Nat → Int32)) => r = nI (cn + 1) ∧ (PathM u.1 u.2.1 u.2.2 (add1 X cn (ctP vx)) (add1 Y cn (ctP vy)) (upd bg cn 0) (cn + 1))) (fun (u : (Nat → Int64) × (Nat → Int64) × (Nat → Int32)) => PO D (qT cI cZ cB cJ) (va_A [(m0, .inr (5, [.int th, .int (nI wd), .int (nI ht), .int (nI pn), .ref m1, .ref m2, .ref m3, .int (nI cn), .ref m4, .ref m5, .ref m6, .int fl, .int (nI bf), .int (nI bt), .int (nI xn), .ref m7, .ref m8, .ref m9, .int ip, .int (nI ps), .ref ma])), (m4, .inl (cJ, 100, .inr (.inl gx))), (m5, .inl (cJ, 100, .inr (.inl gy))), (m6, .inl (cZ, 100, .inl gb))] sz) [(m0, .inr (5, [.int (nI 0), .int (nI wd), .int (nI ht), .int (nI pn), .ref m1, .ref m2, .ref m3, .int (nI (cn + 1)), .ref m4, .ref m5, .ref m6, .int fl, .int (nI bf), .int (nI bt), .int (nI xn), .ref m7, .ref m8, .ref m9, .int ip, .int (nI ps), .ref ma])), (m4, .inl (cJ, 100, .inr (.inl u.1))), (m5, .inl (cJ, 100, .inr (.inl u.2.1))), (m6, .inl (cZ, 100, .inl u.2.2))]) (va_A [(m0, .inr (5, [.int th, .int (nI wd), .int (nI ht), .int (nI pn), .ref m1, .ref m2, .ref m3, .int (nI cn), .ref m4, .ref m5, .ref m6, .int fl, .int (nI bf), .int (nI bt), .int (nI xn), .ref m7, .ref m8, .ref m9, .int ip, .int (nI ps), .ref ma])), (m4, .inl (cJ, 100, .inr (.inl gx))), (m5, .inl (cJ, 100, .inr (.inl gy))), (m6, .inl (cZ, 100, .inl gb))] sz)) 0 0 (va_A [(m0, .inr (5, [.int th, .int (nI wd), .int (nI ht), .int (nI pn), .ref m1, .ref m2, .ref m3, .int (nI cn), .ref m4, .ref m5, .ref m6, .int fl, .int (nI bf), .int (nI bt), .int (nI xn), .ref m7, .ref m8, .ref m9, .int ip, .int (nI ps), .ref ma])), (m4, .inl (cJ, 100, .inr (.inl gx))), (m5, .inl (cJ, 100, .inr (.inl gy))), (m6, .inl (cZ, 100, .inl gb))] sz) := by
  refine q_entI (cc := cX5_line) (maxL := 5) (by decide +kernel) rfl (Nat.le_of_ble_eq_true rfl) ?_
  intro p e s m below meth c A Q ls hq hl hQ
  obtain ⟨hx, hb, hml, hts, hown, hin, hN, hK, hsz, hA, hP, hD, hS⟩ := hq
  have hown : s.vm.findClass RX5 = some m.cls := hown
  obtain ⟨H, hH⟩ : ∃ H, H = s.heap := ⟨_, rfl⟩
  rw [← hH] at hP ⊢
  have hS : va_S A s.heap H [] := by rw [hH]; exact va_S.rf
  clear hH
  have hl : lv_has ls 5 [(0, .ref m0), (1, .long vx), (3, .long vy)] := hl
  have iX5 : ∀ w ∈ wsX50, w ∈ wsX5_line := by decide +kernel
  have f_62 := hts (.fieldLink RX5 62 "RasterCoverModel" "points" "I") (by decide +kernel)
  have f_55 := hts (.fieldLink RX5 55 "RasterCoverModel" "thrown" "I") (by decide +kernel)
  refine lv_aload_n hx hb dX5_line_0 rfl (lv_at hl 0 rfl) ?_
  refine lv_aload_n hx hb dX5_line_1 rfl (lv_at hl 0 rfl) ?_
  refine va_get (D := D) (ci := 5) (v := .int (nI cn)) (C := RX5) (T := TX5) (N := 21) hx hb hts iX5 hown hK hP 0 rfl rfl 7 (by decide) f_62 (fun _ h9 => h9) rfl dX5_line_2 ?_
  refine q_if_ne (tgt := 12) hx hb (by omega) dX5_line_5 (by decide) (fun h_5 => ?_) (fun h_5 => by omega)
  refine lv_aload_n hx hb dX5_line_12 rfl (lv_at hl 0 rfl) ?_
  refine va_get (D := D) (ci := 5) (v := .int (nI cn)) (C := RX5) (T := TX5) (N := 21) hx hb hts iX5 hown hK hP 0 rfl rfl 7 (by decide) f_62 (fun _ h9 => h9) rfl dX5_line_13 ?_
  refine lv_bipush (v := nI 100) hx hb dX5_line_16 (by decide) ?_
  refine q_ne (tgt := 25) hx hb (by omega) (by omega) dX5_line_18 (by decide) (fun h_18 => ?_) (fun h_18 => by omega)
  refine lv_iconst (v := nI 0) hx hb dX5_line_25 (by decide) ?_
  refine va_put (D := D) (ci := 5) (v := .int (nI 0)) (ty := .int) (C := RX5) (T := TX5) (N := 21) hx hb hts iX5 tyX5 tyX5_ok nmX5 hown hK hP hD hS 0 rfl rfl 0 (by decide) f_55 (fun _ h9 => h9) rfl (by decide +kernel) rfl rfl (Nat.le_of_ble_eq_true rfl) dX5_line_26 (fun H locs hP hD hS => ?_)
  have hP : va_P D qCl [(m0, .inr (5, [.int (nI 0), .int (nI wd), .int (nI ht), .int (nI pn), .ref m1, .ref m2, .ref m3, .int (nI cn), .ref m4, .ref m5, .ref m6, .int fl, .int (nI bf), .int (nI bt), .int (nI xn), .ref m7, .ref m8, .ref m9, .int ip, .int (nI ps), .ref ma])), (m4, .inl (cJ, 100, .inr (.inl gx))), (m5, .inl (cJ, 100, .inr (.inl gy))), (m6, .inl (cZ, 100, .inl gb))] H := hP
  have hD : va_D A [(m0, .inr (5, [.int (nI 0), .int (nI wd), .int (nI ht), .int (nI pn), .ref m1, .ref m2, .ref m3, .int (nI cn), .ref m4, .ref m5, .ref m6, .int fl, .int (nI bf), .int (nI bt), .int (nI xn), .ref m7, .ref m8, .ref m9, .int ip, .int (nI ps), .ref ma])), (m4, .inl (cJ, 100, .inr (.inl gx))), (m5, .inl (cJ, 100, .inr (.inl gy))), (m6, .inl (cZ, 100, .inl gb))] := hD
  refine lv_aload_n hx hb dX5_line_29 rfl (lv_at hl 0 rfl) ?_
  refine va_get (D := D) (ci := 5) (v := .int (nI 0)) (C := RX5) (T := TX5) (N := 21) hx hb hts iX5 hown hK hP 0 rfl rfl 0 (by decide) f_55 (fun _ h9 => h9) rfl dX5_line_30 ?_
  refine q_if_le (tgt := 38) hx hb (by omega) dX5_line_33 (by decide) (fun h_33 => ?_) (fun h_33 => by omega)
  refine lv_aload_n hx hb dX5_line_38 rfl (lv_at hl 0 rfl) ?_
  refine lv_lload_n hx hb dX5_line_39 rfl (lv_at hl 1 rfl) ?_
  refine q_l0 (wr := [(m0, .inr (5, [.int (nI 0), .int (nI wd), .int (nI ht), .int (nI pn), .ref m1, .ref m2, .ref m3, .int (nI cn), .ref m4, .ref m5, .ref m6, .int fl, .int (nI bf), .int (nI bt), .int (nI xn), .ref m7, .ref m8, .ref m9, .int ip, .int (nI ps), .ref ma])), (m4, .inl (cJ, 100, .inr (.inl gx))), (m5, .inl (cJ, 100, .inr (.inl gy))), (m6, .inl (cZ, 100, .inl gb))]) (va_runS (As := [.long vx]) (rest := [.ref m0]) ⟨hx, hb, hml, hown, hts⟩ (c_X5_cut l D cI cZ cB cJ H.size vx) (va_cwS 1 hts gX5_line_X5_cut rfl rfl rfl (by decide +kernel) ⟨Nat.le_of_ble_eq_true rfl, Nat.le_of_ble_eq_true rfl⟩) (q_pre (wc := []) hP hD hK hN [] (by decide) rfl) rfl rfl hl.1 rfl (lv_room (Nat.le_of_ble_eq_true rfl)) dX5_line_40 ⟨Nat.zero_le _, Nat.zero_le _⟩) hS hA hP hD [] [0, 1, 2, 3] rfl rfl (by decide) (by decide) (fun r_40 u H locs hp_40 hP hD hS => ?_)
  have hP : va_P D qCl [(m0, .inr (5, [.int (nI 0), .int (nI wd), .int (nI ht), .int (nI pn), .ref m1, .ref m2, .ref m3, .int (nI cn), .ref m4, .ref m5, .ref m6, .int fl, .int (nI bf), .int (nI bt), .int (nI xn), .ref m7, .ref m8, .ref m9, .int ip, .int (nI ps), .ref ma])), (m4, .inl (cJ, 100, .inr (.inl gx))), (m5, .inl (cJ, 100, .inr (.inl gy))), (m6, .inl (cZ, 100, .inl gb))] H := hP
  have hD : va_D A [(m0, .inr (5, [.int (nI 0), .int (nI wd), .int (nI ht), .int (nI pn), .ref m1, .ref m2, .ref m3, .int (nI cn), .ref m4, .ref m5, .ref m6, .int fl, .int (nI bf), .int (nI bt), .int (nI xn), .ref m7, .ref m8, .ref m9, .int ip, .int (nI ps), .ref ma])), (m4, .inl (cJ, 100, .inr (.inl gx))), (m5, .inl (cJ, 100, .inr (.inl gy))), (m6, .inl (cZ, 100, .inl gb))] := hD
  have hp_40 : r_40 = Int64.ofInt (ctP vx) := hp_40
  subst hp_40
  refine lv_lload_n hx hb dX5_line_43 rfl (lv_at hl 2 rfl) ?_
  refine q_l0 (wr := [(m0, .inr (5, [.int (nI 0), .int (nI wd), .int (nI ht), .int (nI pn), .ref m1, .ref m2, .ref m3, .int (nI cn), .ref m4, .ref m5, .ref m6, .int fl, .int (nI bf), .int (nI bt), .int (nI xn), .ref m7, .ref m8, .ref m9, .int ip, .int (nI ps), .ref ma])), (m4, .inl (cJ, 100, .inr (.inl gx))), (m5, .inl (cJ, 100, .inr (.inl gy))), (m6, .inl (cZ, 100, .inl gb))]) (va_runS (As := [.long vy]) (rest := [.long (Int64.ofInt (ctP vx)), .ref m0]) ⟨hx, hb, hml, hown, hts⟩ (c_X5_cut l D cI cZ cB cJ H.size vy) (va_cwS 1 hts gX5_line_X5_cut rfl rfl rfl (by decide +kernel) ⟨Nat.le_of_ble_eq_true rfl, Nat.le_of_ble_eq_true rfl⟩) (q_pre (wc := []) hP hD hK hN [] (by decide) rfl) rfl rfl hl.1 rfl (lv_room (Nat.le_of_ble_eq_true rfl)) dX5_line_44 ⟨Nat.zero_le _, Nat.zero_le _⟩) hS hA hP hD [] [0, 1, 2, 3] rfl rfl (by decide) (by decide) (fun r_44 u H locs hp_44 hP hD hS => ?_)
  have hP : va_P D qCl [(m0, .inr (5, [.int (nI 0), .int (nI wd), .int (nI ht), .int (nI pn), .ref m1, .ref m2, .ref m3, .int (nI cn), .ref m4, .ref m5, .ref m6, .int fl, .int (nI bf), .int (nI bt), .int (nI xn), .ref m7, .ref m8, .ref m9, .int ip, .int (nI ps), .ref ma])), (m4, .inl (cJ, 100, .inr (.inl gx))), (m5, .inl (cJ, 100, .inr (.inl gy))), (m6, .inl (cZ, 100, .inl gb))] H := hP
  have hD : va_D A [(m0, .inr (5, [.int (nI 0), .int (nI wd), .int (nI ht), .int (nI pn), .ref m1, .ref m2, .ref m3, .int (nI cn), .ref m4, .ref m5, .ref m6, .int fl, .int (nI bf), .int (nI bt), .int (nI xn), .ref m7, .ref m8, .ref m9, .int ip, .int (nI ps), .ref ma])), (m4, .inl (cJ, 100, .inr (.inl gx))), (m5, .inl (cJ, 100, .inr (.inl gy))), (m6, .inl (cZ, 100, .inl gb))] := hD
  have hp_44 : r_44 = Int64.ofInt (ctP vy) := hp_44
  subst hp_44
  refine lv_iconst (v := nI 0) hx hb dX5_line_47 (by decide) ?_
  refine q_eqi (y := 0) (by decide) ?_
  refine q_v0 (wr := []) (va_runV (As := [.long (Int64.ofInt (ctP vx)), .long (Int64.ofInt (ctP vy)), .int 0]) (rest := []) ⟨hx, hb, hml, hown, hts⟩ (c_X5_add l D cI cZ cB cJ H.size m0 m1 m2 m3 m4 m5 m6 m7 m8 m9 ma (nI 0) wd ht pn cn fl bf bt xn ip ps gx gy gb (Int64.ofInt (ctP vx)) (Int64.ofInt (ctP vy)) 0 hc (Or.inl rfl)) (cwV 3 hts gX5_line_X5_add rfl rfl rfl (by decide +kernel) ⟨Nat.le_of_ble_eq_true rfl, Nat.le_of_ble_eq_true rfl⟩) (q_preV (q_pre (wc := [(m0, .inr (5, [.int (nI 0), .int (nI wd), .int (nI ht), .int (nI pn), .ref m1, .ref m2, .ref m3, .int (nI cn), .ref m4, .ref m5, .ref m6, .int fl, .int (nI bf), .int (nI bt), .int (nI xn), .ref m7, .ref m8, .ref m9, .int ip, .int (nI ps), .ref ma])), (m4, .inl (cJ, 100, .inr (.inl gx))), (m5, .inl (cJ, 100, .inr (.inl gy))), (m6, .inl (cZ, 100, .inl gb))]) hP hD hK hN [0, 1, 2, 3] (by decide) rfl) (va_recv hK hP (ci := 5) (q0 := 0) rfl rfl)) rfl rfl hl.1 rfl (lv_room (Nat.le_of_ble_eq_true rfl)) dX5_line_48 ⟨Nat.zero_le _, Nat.zero_le _⟩) hS hA hP hD [0, 1, 2, 3] [] rfl rfl (by decide) (by decide) (fun u H locs hp_48 hP hD hS => ?_)
  have hP : va_P D qCl [(m0, .inr (5, [.int (nI 0), .int (nI wd), .int (nI ht), .int (nI pn), .ref m1, .ref m2, .ref m3, .int (nI (cn + 1)), .ref m4, .ref m5, .ref m6, .int fl, .int (nI bf), .int (nI bt), .int (nI xn), .ref m7, .ref m8, .ref m9, .int ip, .int (nI ps), .ref ma])), (m4, .inl (cJ, 100, .inr (.inl (vp_updL gx cn (Int64.ofInt (ctP vx)))))), (m5, .inl (cJ, 100, .inr (.inl (vp_updL gy cn (Int64.ofInt (ctP vy)))))), (m6, .inl (cZ, 100, .inl (upd gb cn 0)))] H := hP
  have hD : va_D A [(m0, .inr (5, [.int (nI 0), .int (nI wd), .int (nI ht), .int (nI pn), .ref m1, .ref m2, .ref m3, .int (nI (cn + 1)), .ref m4, .ref m5, .ref m6, .int fl, .int (nI bf), .int (nI bt), .int (nI xn), .ref m7, .ref m8, .ref m9, .int ip, .int (nI ps), .ref ma])), (m4, .inl (cJ, 100, .inr (.inl (vp_updL gx cn (Int64.ofInt (ctP vx)))))), (m5, .inl (cJ, 100, .inr (.inl (vp_updL gy cn (Int64.ofInt (ctP vy)))))), (m6, .inl (cZ, 100, .inl (upd gb cn 0)))] := hD
  refine lv_aload_n hx hb dX5_line_51 rfl (lv_at hl 0 rfl) ?_
  refine va_get (D := D) (ci := 5) (v := .int (nI (cn + 1))) (C := RX5) (T := TX5) (N := 21) hx hb hts iX5 hown hK hP 0 rfl rfl 7 (by decide) f_62 (fun _ h9 => h9) rfl dX5_line_52 ?_
  have hr9 : (nI (cn + 1)) = nI (cn + 1) ∧ (PathM (vp_updL gx cn (Int64.ofInt (ctP vx))) (vp_updL gy cn (Int64.ofInt (ctP vy))) (upd gb cn 0) (add1 X cn (ctP vx)) (add1 Y cn (ctP vy)) (upd bg cn 0) (cn + 1)) := ⟨rfl, PathM_add hR hc 0 ⟨by have := ctP_bd vx; omega, by have := ctP_bd vx; omega⟩ ⟨by have := ctP_bd vy; omega, by have := ctP_bd vy; omega⟩⟩
  exact hQ _ _ _ _ (nI (cn + 1)) (vp_updL gx cn (Int64.ofInt (ctP vx)), vp_updL gy cn (Int64.ofInt (ctP vy)), upd gb cn 0) _ _ dX5_line_55 (Nat.le_refl _) (Nat.le_refl _) hr9 (hP.sub [0, 1, 2, 3] rfl) hK (hD.sub [0, 1, 2, 3] (by decide) rfl) hS

abbrev rm_X5_line_none : Room := { frames := 0, cells := 0, slots := 0, locals := 0 }
set_option maxHeartbeats 4000000 in
set_option maxRecDepth 100000 in
theorem c_X5_line_none (l : Launch) (D : va_G) (cI cZ cB cJ : ClassId) (sz : Nat) (m0 : Nat) (m1 : Nat) (m2 : Nat) (m3 : Nat) (m4 : Nat) (m5 : Nat) (m6 : Nat) (m7 : Nat) (m8 : Nat) (m9 : Nat) (ma : Nat) (th : Int32) (wd : Nat) (ht : Nat) (pn : Nat) (cn : Nat) (fl : Int32) (bf : Nat) (bt : Nat) (xn : Nat) (ip : Int32) (ps : Nat) (vx : Int64) (vy : Int64) (hc : cn = 0) : Met l yX5_line wsX5_line rm_X5_line_none (va_Pc [.ref m0, .long vx, .long vy] (PC D (qT cI cZ cB cJ) [(m0, .inr (5, [.int th, .int (nI wd), .int (nI ht), .int (nI pn), .ref m1, .ref m2, .ref m3, .int (nI cn), .ref m4, .ref m5, .ref m6, .int fl, .int (nI bf), .int (nI bt), .int (nI xn), .ref m7, .ref m8, .ref m9, .int ip, .int (nI ps), .ref ma]))] sz)) (va_Qi (fun (r : Int32) (u : Unit) => True) (fun (u : Unit) => PO D (qT cI cZ cB cJ) (va_A [(m0, .inr (5, [.int th, .int (nI wd), .int (nI ht), .int (nI pn), .ref m1, .ref m2, .ref m3, .int (nI cn), .ref m4, .ref m5, .ref m6, .int fl, .int (nI bf), .int (nI bt), .int (nI xn), .ref m7, .ref m8, .ref m9, .int ip, .int (nI ps), .ref ma]))] sz) [(m0, .inr (5, [.int (nI 1), .int (nI wd), .int (nI ht), .int (nI pn), .ref m1, .ref m2, .ref m3, .int (nI cn), .ref m4, .ref m5, .ref m6, .int fl, .int (nI bf), .int (nI bt), .int (nI xn), .ref m7, .ref m8, .ref m9, .int ip, .int (nI ps), .ref ma]))]) (va_A [(m0, .inr (5, [.int th, .int (nI wd), .int (nI ht), .int (nI pn), .ref m1, .ref m2, .ref m3, .int (nI cn), .ref m4, .ref m5, .ref m6, .int fl, .int (nI bf), .int (nI bt), .int (nI xn), .ref m7, .ref m8, .ref m9, .int ip, .int (nI ps), .ref ma]))] sz)) 0 0 (va_A [(m0, .inr (5, [.int th, .int (nI wd), .int (nI ht), .int (nI pn), .ref m1, .ref m2, .ref m3, .int (nI cn), .ref m4, .ref m5, .ref m6, .int fl, .int (nI bf), .int (nI bt), .int (nI xn), .ref m7, .ref m8, .ref m9, .int ip, .int (nI ps), .ref ma]))] sz) := by
  refine q_entI (cc := cX5_line) (maxL := 5) (by decide +kernel) rfl (Nat.le_of_ble_eq_true rfl) ?_
  intro p e s m below meth c A Q ls hq hl hQ
  obtain ⟨hx, hb, hml, hts, hown, hin, hN, hK, hsz, hA, hP, hD, hS⟩ := hq
  have hown : s.vm.findClass RX5 = some m.cls := hown
  obtain ⟨H, hH⟩ : ∃ H, H = s.heap := ⟨_, rfl⟩
  rw [← hH] at hP ⊢
  have hS : va_S A s.heap H [] := by rw [hH]; exact va_S.rf
  clear hH
  have hl : lv_has ls 5 [(0, .ref m0), (1, .long vx), (3, .long vy)] := hl
  have iX5 : ∀ w ∈ wsX50, w ∈ wsX5_line := by decide +kernel
  have f_62 := hts (.fieldLink RX5 62 "RasterCoverModel" "points" "I") (by decide +kernel)
  have f_55 := hts (.fieldLink RX5 55 "RasterCoverModel" "thrown" "I") (by decide +kernel)
  refine lv_aload_n hx hb dX5_line_0 rfl (lv_at hl 0 rfl) ?_
  refine lv_aload_n hx hb dX5_line_1 rfl (lv_at hl 0 rfl) ?_
  refine va_get (D := D) (ci := 5) (v := .int (nI cn)) (C := RX5) (T := TX5) (N := 21) hx hb hts iX5 hown hK hP 0 rfl rfl 7 (by decide) f_62 (fun _ h9 => h9) rfl dX5_line_2 ?_
  refine q_if_ne (tgt := 12) hx hb (by omega) dX5_line_5 (by decide) (fun h_5 => by omega) (fun h_5 => ?_)
  refine lv_iconst (v := nI 1) hx hb dX5_line_8 (by decide) ?_
  refine lv_goto (tgt := 26) hx hb dX5_line_9 (by decide) ?_
  refine va_put (D := D) (ci := 5) (v := .int (nI 1)) (ty := .int) (C := RX5) (T := TX5) (N := 21) hx hb hts iX5 tyX5 tyX5_ok nmX5 hown hK hP hD hS 0 rfl rfl 0 (by decide) f_55 (fun _ h9 => h9) rfl (by decide +kernel) rfl rfl (Nat.le_of_ble_eq_true rfl) dX5_line_26 (fun H locs hP hD hS => ?_)
  have hP : va_P D qCl [(m0, .inr (5, [.int (nI 1), .int (nI wd), .int (nI ht), .int (nI pn), .ref m1, .ref m2, .ref m3, .int (nI cn), .ref m4, .ref m5, .ref m6, .int fl, .int (nI bf), .int (nI bt), .int (nI xn), .ref m7, .ref m8, .ref m9, .int ip, .int (nI ps), .ref ma]))] H := hP
  have hD : va_D A [(m0, .inr (5, [.int (nI 1), .int (nI wd), .int (nI ht), .int (nI pn), .ref m1, .ref m2, .ref m3, .int (nI cn), .ref m4, .ref m5, .ref m6, .int fl, .int (nI bf), .int (nI bt), .int (nI xn), .ref m7, .ref m8, .ref m9, .int ip, .int (nI ps), .ref ma]))] := hD
  refine lv_aload_n hx hb dX5_line_29 rfl (lv_at hl 0 rfl) ?_
  refine va_get (D := D) (ci := 5) (v := .int (nI 1)) (C := RX5) (T := TX5) (N := 21) hx hb hts iX5 hown hK hP 0 rfl rfl 0 (by decide) f_55 (fun _ h9 => h9) rfl dX5_line_30 ?_
  refine q_if_le (tgt := 38) hx hb (by omega) dX5_line_33 (by decide) (fun h_33 => by omega) (fun h_33 => ?_)
  refine lv_iconst (v := nI 0) hx hb dX5_line_36 (by decide) ?_
  exact hQ _ _ _ _ (nI 0) () _ _ dX5_line_37 (Nat.le_refl _) (Nat.le_refl _) trivial (hP.sub [0] rfl) hK (hD.sub [0] (by decide) rfl) hS

abbrev rm_X5_line_full : Room := { frames := 0, cells := 0, slots := 0, locals := 0 }
set_option maxHeartbeats 4000000 in
set_option maxRecDepth 100000 in
theorem c_X5_line_full (l : Launch) (D : va_G) (cI cZ cB cJ : ClassId) (sz : Nat) (m0 : Nat) (m1 : Nat) (m2 : Nat) (m3 : Nat) (m4 : Nat) (m5 : Nat) (m6 : Nat) (m7 : Nat) (m8 : Nat) (m9 : Nat) (ma : Nat) (th : Int32) (wd : Nat) (ht : Nat) (pn : Nat) (cn : Nat) (fl : Int32) (bf : Nat) (bt : Nat) (xn : Nat) (ip : Int32) (ps : Nat) (vx : Int64) (vy : Int64) (hc : cn = 100) : Met l yX5_line wsX5_line rm_X5_line_full (va_Pc [.ref m0, .long vx, .long vy] (PC D (qT cI cZ cB cJ) [(m0, .inr (5, [.int th, .int (nI wd), .int (nI ht), .int (nI pn), .ref m1, .ref m2, .ref m3, .int (nI cn), .ref m4, .ref m5, .ref m6, .int fl, .int (nI bf), .int (nI bt), .int (nI xn), .ref m7, .ref m8, .ref m9, .int ip, .int (nI ps), .ref ma]))] sz)) (va_Qi (fun (r : Int32) (u : Unit) => True) (fun (u : Unit) => PO D (qT cI cZ cB cJ) (va_A [(m0, .inr (5, [.int th, .int (nI wd), .int (nI ht), .int (nI pn), .ref m1, .ref m2, .ref m3, .int (nI cn), .ref m4, .ref m5, .ref m6, .int fl, .int (nI bf), .int (nI bt), .int (nI xn), .ref m7, .ref m8, .ref m9, .int ip, .int (nI ps), .ref ma]))] sz) [(m0, .inr (5, [.int (nI 2), .int (nI wd), .int (nI ht), .int (nI pn), .ref m1, .ref m2, .ref m3, .int (nI cn), .ref m4, .ref m5, .ref m6, .int fl, .int (nI bf), .int (nI bt), .int (nI xn), .ref m7, .ref m8, .ref m9, .int ip, .int (nI ps), .ref ma]))]) (va_A [(m0, .inr (5, [.int th, .int (nI wd), .int (nI ht), .int (nI pn), .ref m1, .ref m2, .ref m3, .int (nI cn), .ref m4, .ref m5, .ref m6, .int fl, .int (nI bf), .int (nI bt), .int (nI xn), .ref m7, .ref m8, .ref m9, .int ip, .int (nI ps), .ref ma]))] sz)) 0 0 (va_A [(m0, .inr (5, [.int th, .int (nI wd), .int (nI ht), .int (nI pn), .ref m1, .ref m2, .ref m3, .int (nI cn), .ref m4, .ref m5, .ref m6, .int fl, .int (nI bf), .int (nI bt), .int (nI xn), .ref m7, .ref m8, .ref m9, .int ip, .int (nI ps), .ref ma]))] sz) := by
  refine q_entI (cc := cX5_line) (maxL := 5) (by decide +kernel) rfl (Nat.le_of_ble_eq_true rfl) ?_
  intro p e s m below meth c A Q ls hq hl hQ
  obtain ⟨hx, hb, hml, hts, hown, hin, hN, hK, hsz, hA, hP, hD, hS⟩ := hq
  have hown : s.vm.findClass RX5 = some m.cls := hown
  obtain ⟨H, hH⟩ : ∃ H, H = s.heap := ⟨_, rfl⟩
  rw [← hH] at hP ⊢
  have hS : va_S A s.heap H [] := by rw [hH]; exact va_S.rf
  clear hH
  have hl : lv_has ls 5 [(0, .ref m0), (1, .long vx), (3, .long vy)] := hl
  have iX5 : ∀ w ∈ wsX50, w ∈ wsX5_line := by decide +kernel
  have f_62 := hts (.fieldLink RX5 62 "RasterCoverModel" "points" "I") (by decide +kernel)
  have f_55 := hts (.fieldLink RX5 55 "RasterCoverModel" "thrown" "I") (by decide +kernel)
  refine lv_aload_n hx hb dX5_line_0 rfl (lv_at hl 0 rfl) ?_
  refine lv_aload_n hx hb dX5_line_1 rfl (lv_at hl 0 rfl) ?_
  refine va_get (D := D) (ci := 5) (v := .int (nI cn)) (C := RX5) (T := TX5) (N := 21) hx hb hts iX5 hown hK hP 0 rfl rfl 7 (by decide) f_62 (fun _ h9 => h9) rfl dX5_line_2 ?_
  refine q_if_ne (tgt := 12) hx hb (by omega) dX5_line_5 (by decide) (fun h_5 => ?_) (fun h_5 => by omega)
  refine lv_aload_n hx hb dX5_line_12 rfl (lv_at hl 0 rfl) ?_
  refine va_get (D := D) (ci := 5) (v := .int (nI cn)) (C := RX5) (T := TX5) (N := 21) hx hb hts iX5 hown hK hP 0 rfl rfl 7 (by decide) f_62 (fun _ h9 => h9) rfl dX5_line_13 ?_
  refine lv_bipush (v := nI 100) hx hb dX5_line_16 (by decide) ?_
  refine q_ne (tgt := 25) hx hb (by omega) (by omega) dX5_line_18 (by decide) (fun h_18 => by omega) (fun h_18 => ?_)
  refine lv_iconst (v := nI 2) hx hb dX5_line_21 (by decide) ?_
  refine lv_goto (tgt := 26) hx hb dX5_line_22 (by decide) ?_
  refine va_put (D := D) (ci := 5) (v := .int (nI 2)) (ty := .int) (C := RX5) (T := TX5) (N := 21) hx hb hts iX5 tyX5 tyX5_ok nmX5 hown hK hP hD hS 0 rfl rfl 0 (by decide) f_55 (fun _ h9 => h9) rfl (by decide +kernel) rfl rfl (Nat.le_of_ble_eq_true rfl) dX5_line_26 (fun H locs hP hD hS => ?_)
  have hP : va_P D qCl [(m0, .inr (5, [.int (nI 2), .int (nI wd), .int (nI ht), .int (nI pn), .ref m1, .ref m2, .ref m3, .int (nI cn), .ref m4, .ref m5, .ref m6, .int fl, .int (nI bf), .int (nI bt), .int (nI xn), .ref m7, .ref m8, .ref m9, .int ip, .int (nI ps), .ref ma]))] H := hP
  have hD : va_D A [(m0, .inr (5, [.int (nI 2), .int (nI wd), .int (nI ht), .int (nI pn), .ref m1, .ref m2, .ref m3, .int (nI cn), .ref m4, .ref m5, .ref m6, .int fl, .int (nI bf), .int (nI bt), .int (nI xn), .ref m7, .ref m8, .ref m9, .int ip, .int (nI ps), .ref ma]))] := hD
  refine lv_aload_n hx hb dX5_line_29 rfl (lv_at hl 0 rfl) ?_
  refine va_get (D := D) (ci := 5) (v := .int (nI 2)) (C := RX5) (T := TX5) (N := 21) hx hb hts iX5 hown hK hP 0 rfl rfl 0 (by decide) f_55 (fun _ h9 => h9) rfl dX5_line_30 ?_
  refine q_if_le (tgt := 38) hx hb (by omega) dX5_line_33 (by decide) (fun h_33 => by omega) (fun h_33 => ?_)
  refine lv_iconst (v := nI 0) hx hb dX5_line_36 (by decide) ?_
  exact hQ _ _ _ _ (nI 0) () _ _ dX5_line_37 (Nat.le_refl _) (Nat.le_refl _) trivial (hP.sub [0] rfl) hK (hD.sub [0] (by decide) rfl) hS

abbrev rm_X5_size : Room := { frames := 0, cells := 0, slots := 0, locals := 0 }
set_option maxHeartbeats 4000000 in
set_option maxRecDepth 100000 in
theorem c_X5_size (l : Launch) (D : va_G) (cI cZ cB cJ : ClassId) (sz : Nat) (zz : Int) (hz1 : -9223372036854775808 < zz) (hz2 : zz < 9223372036854775808) : Met l yX5_size wsX5_size rm_X5_size (va_Pc [.long (Int64.ofInt zz)] (PC D (qT cI cZ cB cJ) [] sz)) (va_Ql (fun (r : Int64) (u : Unit) => r = Int64.ofInt (zz.natAbs : Int)) (fun (u : Unit) => PO D (qT cI cZ cB cJ) (va_A [] sz) []) (va_A [] sz)) 0 0 (va_A [] sz) := by
  refine q_entL (cc := cX5_size) (maxL := 2) (by decide +kernel) rfl (Nat.le_of_ble_eq_true rfl) ?_
  intro p e s m below meth c A Q ls hq hl hQ
  obtain ⟨hx, hb, hml, hts, hown, hin, hN, hK, hsz, hA, hP, hD, hS⟩ := hq
  have hown : s.vm.findClass RX5 = some m.cls := hown
  obtain ⟨H, hH⟩ : ∃ H, H = s.heap := ⟨_, rfl⟩
  rw [← hH] at hP ⊢
  have hS : va_S A s.heap H [] := by rw [hH]; exact va_S.rf
  clear hH
  have hl : lv_has ls 2 [(0, .long (Int64.ofInt zz))] := hl
  refine lv_lload_n hx hb dX5_size_0 rfl (lv_at hl 0 rfl) ?_
  refine lv_lconst (v := 0) hx hb dX5_size_1 (by decide) ?_
  refine W.lcmp hx hb dX5_size_2 ?_
  refine lv_if_ge (tgt := 11) hx hb dX5_size_3 (by decide) (fun h_3 => ?_) (fun h_3 => ?_)
  · refine lv_lload_n hx hb dX5_size_11 rfl (lv_at hl 0 rfl) ?_
    have hr9 : (Int64.ofInt zz) = Int64.ofInt (zz.natAbs : Int) := ((absJ hz1 hz2).1 h_3)
    exact hQ _ _ _ _ (Int64.ofInt zz) () _ _ dX5_size_12 (Nat.le_refl _) (Nat.le_refl _) hr9 (hP.sub [] rfl) hK (hD.sub [] (by decide) rfl) hS
  refine lv_lload_n hx hb dX5_size_6 rfl (lv_at hl 0 rfl) ?_
  refine lv_lneg hx hb dX5_size_7 ?_
  refine lv_goto (tgt := 12) hx hb dX5_size_8 (by decide) ?_
  have hr9 : (-(Int64.ofInt zz)) = Int64.ofInt (zz.natAbs : Int) := ((absJ hz1 hz2).2 h_3)
  exact hQ _ _ _ _ (-(Int64.ofInt zz)) () _ _ dX5_size_12 (Nat.le_refl _) (Nat.le_refl _) hr9 (hP.sub [] rfl) hK (hD.sub [] (by decide) rfl) hS

abbrev rm_X5_hair_ok : Room := { frames := 1, cells := 0, slots := 0, locals := 25 }
set_option maxHeartbeats 4000000 in
set_option maxRecDepth 100000 in
theorem c_X5_hair_ok (l : Launch) (D : va_G) (cI cZ cB cJ : ClassId) (sz : Nat) (m0 : Nat) (m1 : Nat) (m2 : Nat) (m3 : Nat) (m4 : Nat) (m5 : Nat) (m6 : Nat) (m7 : Nat) (m8 : Nat) (m9 : Nat) (ma : Nat) (th : Int32) (wd : Nat) (ht : Nat) (pn : Nat) (cn : Nat) (fl : Int32) (bf : Nat) (bt : Nat) (xn : Nat) (ip : Int32) (ps : Nat) (gx : Nat → Int64) (gy : Nat → Int64) (gb : Nat → Int32) (X : Nat → Int) (Y : Nat → Int) (bg : Nat → Int32) (vx : Int64) (vy : Int64) (vu : Int64) (vv : Int64) (hR : PathM gx gy gb X Y bg cn) (hc4 : cn + 4 ≤ 100) : Met l yX5_hair wsX5_hair rm_X5_hair_ok (va_Pc [.ref m0, .long vx, .long vy, .long vu, .long vv] (PC D (qT cI cZ cB cJ) [(m0, .inr (5, [.int th, .int (nI wd), .int (nI ht), .int (nI pn), .ref m1, .ref m2, .ref m3, .int (nI cn), .ref m4, .ref m5, .ref m6, .int fl, .int (nI bf), .int (nI bt), .int (nI xn), .ref m7, .ref m8, .ref m9, .int ip, .int (nI ps), .ref ma])), (m4, .inl (cJ, 100, .inr (.inl gx))), (m5, .inl (cJ, 100, .inr (.inl gy))), (m6, .inl (cZ, 100, .inl gb))] sz)) (va_Qi (fun (r : Int32) (u : (Nat → Int64) × (Nat → Int64) × (Nat → Int32)) => r = nI (cn + 1 + 1 + 1 + 1) ∧ (PathM u.1 u.2.1 u.2.2 (hairX X cn (ctP vx) (ctP vy) (ctP vu) (ctP vv)) (hairY Y cn (ctP vx) (ctP vy) (ctP vu) (ctP vv)) (hrB bg cn) (cn + 1 + 1 + 1 + 1))) (fun (u : (Nat → Int64) × (Nat → Int64) × (Nat → Int32)) => PO D (qT cI cZ cB cJ) (va_A [(m0, .inr (5, [.int th, .int (nI wd), .int (nI ht), .int (nI pn), .ref m1, .ref m2, .ref m3, .int (nI cn), .ref m4, .ref m5, .ref m6, .int fl, .int (nI bf), .int (nI bt), .int (nI xn), .ref m7, .ref m8, .ref m9, .int ip, .int (nI ps), .ref ma])), (m4, .inl (cJ, 100, .inr (.inl gx))), (m5, .inl (cJ, 100, .inr (.inl gy))), (m6, .inl (cZ, 100, .inl gb))] sz) [(m0, .inr (5, [.int (nI 0), .int (nI wd), .int (nI ht), .int (nI pn), .ref m1, .ref m2, .ref m3, .int (nI (cn + 1 + 1 + 1 + 1)), .ref m4, .ref m5, .ref m6, .int fl, .int (nI bf), .int (nI bt), .int (nI xn), .ref m7, .ref m8, .ref m9, .int ip, .int (nI ps), .ref ma])), (m4, .inl (cJ, 100, .inr (.inl u.1))), (m5, .inl (cJ, 100, .inr (.inl u.2.1))), (m6, .inl (cZ, 100, .inl u.2.2))]) (va_A [(m0, .inr (5, [.int th, .int (nI wd), .int (nI ht), .int (nI pn), .ref m1, .ref m2, .ref m3, .int (nI cn), .ref m4, .ref m5, .ref m6, .int fl, .int (nI bf), .int (nI bt), .int (nI xn), .ref m7, .ref m8, .ref m9, .int ip, .int (nI ps), .ref ma])), (m4, .inl (cJ, 100, .inr (.inl gx))), (m5, .inl (cJ, 100, .inr (.inl gy))), (m6, .inl (cZ, 100, .inl gb))] sz)) 0 0 (va_A [(m0, .inr (5, [.int th, .int (nI wd), .int (nI ht), .int (nI pn), .ref m1, .ref m2, .ref m3, .int (nI cn), .ref m4, .ref m5, .ref m6, .int fl, .int (nI bf), .int (nI bt), .int (nI xn), .ref m7, .ref m8, .ref m9, .int ip, .int (nI ps), .ref ma])), (m4, .inl (cJ, 100, .inr (.inl gx))), (m5, .inl (cJ, 100, .inr (.inl gy))), (m6, .inl (cZ, 100, .inl gb))] sz) := by
  refine q_entI (cc := cX5_hair) (maxL := 23) (by decide +kernel) rfl (Nat.le_of_ble_eq_true rfl) ?_
  intro p e s m below meth c A Q ls hq hl hQ
  obtain ⟨hx, hb, hml, hts, hown, hin, hN, hK, hsz, hA, hP, hD, hS⟩ := hq
  have hown : s.vm.findClass RX5 = some m.cls := hown
  obtain ⟨H, hH⟩ : ∃ H, H = s.heap := ⟨_, rfl⟩
  rw [← hH] at hP ⊢
  have hS : va_S A s.heap H [] := by rw [hH]; exact va_S.rf
  clear hH
  have hl : lv_has ls 23 [(0, .ref m0), (1, .long vx), (3, .long vy), (5, .long vu), (7, .long vv)] := hl
  have iX5 : ∀ w ∈ wsX50, w ∈ wsX5_hair := by decide +kernel
  have f_62 := hts (.fieldLink RX5 62 "RasterCoverModel" "points" "I") (by decide +kernel)
  have f_55 := hts (.fieldLink RX5 55 "RasterCoverModel" "thrown" "I") (by decide +kernel)
  have k_76 := hts (.constantLong RX5 76 (128)) (by decide +kernel)
  have hx9 := ctP_bd vx
  have hy9 := ctP_bd vy
  have hu9 := ctP_bd vu
  have hv9 := ctP_bd vv
  refine lv_aload_n hx hb dX5_hair_0 rfl (lv_at hl 0 rfl) ?_
  refine lv_aload_n hx hb dX5_hair_1 rfl (lv_at hl 0 rfl) ?_
  refine va_get (D := D) (ci := 5) (v := .int (nI cn)) (C := RX5) (T := TX5) (N := 21) hx hb hts iX5 hown hK hP 0 rfl rfl 7 (by decide) f_62 (fun _ h9 => h9) rfl dX5_hair_2 ?_
  refine lv_bipush (v := nI 96) hx hb dX5_hair_5 (by decide) ?_
  refine q_le (tgt := 14) hx hb (by omega) (by omega) dX5_hair_7 (by decide) (fun h_7 => ?_) (fun h_7 => by omega)
  refine lv_iconst (v := nI 0) hx hb dX5_hair_14 (by decide) ?_
  refine va_put (D := D) (ci := 5) (v := .int (nI 0)) (ty := .int) (C := RX5) (T := TX5) (N := 21) hx hb hts iX5 tyX5 tyX5_ok nmX5 hown hK hP hD hS 0 rfl rfl 0 (by decide) f_55 (fun _ h9 => h9) rfl (by decide +kernel) rfl rfl (Nat.le_of_ble_eq_true rfl) dX5_hair_15 (fun H locs hP hD hS => ?_)
  have hP : va_P D qCl [(m0, .inr (5, [.int (nI 0), .int (nI wd), .int (nI ht), .int (nI pn), .ref m1, .ref m2, .ref m3, .int (nI cn), .ref m4, .ref m5, .ref m6, .int fl, .int (nI bf), .int (nI bt), .int (nI xn), .ref m7, .ref m8, .ref m9, .int ip, .int (nI ps), .ref ma])), (m4, .inl (cJ, 100, .inr (.inl gx))), (m5, .inl (cJ, 100, .inr (.inl gy))), (m6, .inl (cZ, 100, .inl gb))] H := hP
  have hD : va_D A [(m0, .inr (5, [.int (nI 0), .int (nI wd), .int (nI ht), .int (nI pn), .ref m1, .ref m2, .ref m3, .int (nI cn), .ref m4, .ref m5, .ref m6, .int fl, .int (nI bf), .int (nI bt), .int (nI xn), .ref m7, .ref m8, .ref m9, .int ip, .int (nI ps), .ref ma])), (m4, .inl (cJ, 100, .inr (.inl gx))), (m5, .inl (cJ, 100, .inr (.inl gy))), (m6, .inl (cZ, 100, .inl gb))] := hD
  refine lv_aload_n hx hb dX5_hair_18 rfl (lv_at hl 0 rfl) ?_
  refine va_get (D := D) (ci := 5) (v := .int (nI 0)) (C := RX5) (T := TX5) (N := 21) hx hb hts iX5 hown hK hP 0 rfl rfl 0 (by decide) f_55 (fun _ h9 => h9) rfl dX5_hair_19 ?_
  refine q_if_le (tgt := 27) hx hb (by omega) dX5_hair_22 (by decide) (fun h_22 => ?_) (fun h_22 => by omega)
  refine lv_lload_n hx hb dX5_hair_27 rfl (lv_at hl 1 rfl) ?_
  refine q_l0 (wr := [(m0, .inr (5, [.int (nI 0), .int (nI wd), .int (nI ht), .int (nI pn), .ref m1, .ref m2, .ref m3, .int (nI cn), .ref m4, .ref m5, .ref m6, .int fl, .int (nI bf), .int (nI bt), .int (nI xn), .ref m7, .ref m8, .ref m9, .int ip, .int (nI ps), .ref ma])), (m4, .inl (cJ, 100, .inr (.inl gx))), (m5, .inl (cJ, 100, .inr (.inl gy))), (m6, .inl (cZ, 100, .inl gb))]) (va_runS (As := [.long vx]) (rest := []) ⟨hx, hb, hml, hown, hts⟩ (c_X5_cut l D cI cZ cB cJ H.size vx) (va_cwS 1 hts gX5_hair_X5_cut rfl rfl rfl (by decide +kernel) ⟨Nat.le_of_ble_eq_true rfl, Nat.le_of_ble_eq_true rfl⟩) (q_pre (wc := []) hP hD hK hN [] (by decide) rfl) rfl rfl hl.1 rfl (lv_room (Nat.le_of_ble_eq_true rfl)) dX5_hair_28 ⟨Nat.zero_le _, Nat.zero_le _⟩) hS hA hP hD [] [0, 1, 2, 3] rfl rfl (by decide) (by decide) (fun r_28 u H locs hp_28 hP hD hS => ?_)
  have hP : va_P D qCl [(m0, .inr (5, [.int (nI 0), .int (nI wd), .int (nI ht), .int (nI pn), .ref m1, .ref m2, .ref m3, .int (nI cn), .ref m4, .ref m5, .ref m6, .int fl, .int (nI bf), .int (nI bt), .int (nI xn), .ref m7, .ref m8, .ref m9, .int ip, .int (nI ps), .ref ma])), (m4, .inl (cJ, 100, .inr (.inl gx))), (m5, .inl (cJ, 100, .inr (.inl gy))), (m6, .inl (cZ, 100, .inl gb))] H := hP
  have hD : va_D A [(m0, .inr (5, [.int (nI 0), .int (nI wd), .int (nI ht), .int (nI pn), .ref m1, .ref m2, .ref m3, .int (nI cn), .ref m4, .ref m5, .ref m6, .int fl, .int (nI bf), .int (nI bt), .int (nI xn), .ref m7, .ref m8, .ref m9, .int ip, .int (nI ps), .ref ma])), (m4, .inl (cJ, 100, .inr (.inl gx))), (m5, .inl (cJ, 100, .inr (.inl gy))), (m6, .inl (cZ, 100, .inl gb))] := hD
  have hp_28 : r_28 = Int64.ofInt (ctP vx) := hp_28
  subst hp_28
  refine lv_lstore (lv' := [(9, .long (Int64.ofInt (ctP vx))), (0, .ref m0), (1, .long vx), (3, .long vy), (5, .long vu), (7, .long vv)]) hx hb dX5_hair_31 hl (by decide) rfl (fun ls hl => ?_)
  refine lv_lload_n hx hb dX5_hair_33 rfl (lv_at hl 3 rfl) ?_
  refine q_l0 (wr := [(m0, .inr (5, [.int (nI 0), .int (nI wd), .int (nI ht), .int (nI pn), .ref m1, .ref m2, .ref m3, .int (nI cn), .ref m4, .ref m5, .ref m6, .int fl, .int (nI bf), .int (nI bt), .int (nI xn), .ref m7, .ref m8, .ref m9, .int ip, .int (nI ps), .ref ma])), (m4, .inl (cJ, 100, .inr (.inl gx))), (m5, .inl (cJ, 100, .inr (.inl gy))), (m6, .inl (cZ, 100, .inl gb))]) (va_runS (As := [.long vy]) (rest := []) ⟨hx, hb, hml, hown, hts⟩ (c_X5_cut l D cI cZ cB cJ H.size vy) (va_cwS 1 hts gX5_hair_X5_cut rfl rfl rfl (by decide +kernel) ⟨Nat.le_of_ble_eq_true rfl, Nat.le_of_ble_eq_true rfl⟩) (q_pre (wc := []) hP hD hK hN [] (by decide) rfl) rfl rfl hl.1 rfl (lv_room (Nat.le_of_ble_eq_true rfl)) dX5_hair_34 ⟨Nat.zero_le _, Nat.zero_le _⟩) hS hA hP hD [] [0, 1, 2, 3] rfl rfl (by decide) (by decide) (fun r_34 u H locs hp_34 hP hD hS => ?_)
  have hP : va_P D qCl [(m0, .inr (5, [.int (nI 0), .int (nI wd), .int (nI ht), .int (nI pn), .ref m1, .ref m2, .ref m3, .int (nI cn), .ref m4, .ref m5, .ref m6, .int fl, .int (nI bf), .int (nI bt), .int (nI xn), .ref m7, .ref m8, .ref m9, .int ip, .int (nI ps), .ref ma])), (m4, .inl (cJ, 100, .inr (.inl gx))), (m5, .inl (cJ, 100, .inr (.inl gy))), (m6, .inl (cZ, 100, .inl gb))] H := hP
  have hD : va_D A [(m0, .inr (5, [.int (nI 0), .int (nI wd), .int (nI ht), .int (nI pn), .ref m1, .ref m2, .ref m3, .int (nI cn), .ref m4, .ref m5, .ref m6, .int fl, .int (nI bf), .int (nI bt), .int (nI xn), .ref m7, .ref m8, .ref m9, .int ip, .int (nI ps), .ref ma])), (m4, .inl (cJ, 100, .inr (.inl gx))), (m5, .inl (cJ, 100, .inr (.inl gy))), (m6, .inl (cZ, 100, .inl gb))] := hD
  have hp_34 : r_34 = Int64.ofInt (ctP vy) := hp_34
  subst hp_34
  refine lv_lstore (lv' := [(11, .long (Int64.ofInt (ctP vy))), (9, .long (Int64.ofInt (ctP vx))), (0, .ref m0), (1, .long vx), (3, .long vy), (5, .long vu), (7, .long vv)]) hx hb dX5_hair_37 hl (by decide) rfl (fun ls hl => ?_)
  refine lv_lload hx hb dX5_hair_39 (lv_at hl 5 rfl) ?_
  refine q_l0 (wr := [(m0, .inr (5, [.int (nI 0), .int (nI wd), .int (nI ht), .int (nI pn), .ref m1, .ref m2, .ref m3, .int (nI cn), .ref m4, .ref m5, .ref m6, .int fl, .int (nI bf), .int (nI bt), .int (nI xn), .ref m7, .ref m8, .ref m9, .int ip, .int (nI ps), .ref ma])), (m4, .inl (cJ, 100, .inr (.inl gx))), (m5, .inl (cJ, 100, .inr (.inl gy))), (m6, .inl (cZ, 100, .inl gb))]) (va_runS (As := [.long vu]) (rest := []) ⟨hx, hb, hml, hown, hts⟩ (c_X5_cut l D cI cZ cB cJ H.size vu) (va_cwS 1 hts gX5_hair_X5_cut rfl rfl rfl (by decide +kernel) ⟨Nat.le_of_ble_eq_true rfl, Nat.le_of_ble_eq_true rfl⟩) (q_pre (wc := []) hP hD hK hN [] (by decide) rfl) rfl rfl hl.1 rfl (lv_room (Nat.le_of_ble_eq_true rfl)) dX5_hair_41 ⟨Nat.zero_le _, Nat.zero_le _⟩) hS hA hP hD [] [0, 1, 2, 3] rfl rfl (by decide) (by decide) (fun r_41 u H locs hp_41 hP hD hS => ?_)
  have hP : va_P D qCl [(m0, .inr (5, [.int (nI 0), .int (nI wd), .int (nI ht), .int (nI pn), .ref m1, .ref m2, .ref m3, .int (nI cn), .ref m4, .ref m5, .ref m6, .int fl, .int (nI bf), .int (nI bt), .int (nI xn), .ref m7, .ref m8, .ref m9, .int ip, .int (nI ps), .ref ma])), (m4, .inl (cJ, 100, .inr (.inl gx))), (m5, .inl (cJ, 100, .inr (.inl gy))), (m6, .inl (cZ, 100, .inl gb))] H := hP
  have hD : va_D A [(m0, .inr (5, [.int (nI 0), .int (nI wd), .int (nI ht), .int (nI pn), .ref m1, .ref m2, .ref m3, .int (nI cn), .ref m4, .ref m5, .ref m6, .int fl, .int (nI bf), .int (nI bt), .int (nI xn), .ref m7, .ref m8, .ref m9, .int ip, .int (nI ps), .ref ma])), (m4, .inl (cJ, 100, .inr (.inl gx))), (m5, .inl (cJ, 100, .inr (.inl gy))), (m6, .inl (cZ, 100, .inl gb))] := hD
  have hp_41 : r_41 = Int64.ofInt (ctP vu) := hp_41
  subst hp_41
  refine lv_lstore (lv' := [(13, .long (Int64.ofInt (ctP vu))), (11, .long (Int64.ofInt (ctP vy))), (9, .long (Int64.ofInt (ctP vx))), (0, .ref m0), (1, .long vx), (3, .long vy), (5, .long vu), (7, .long vv)]) hx hb dX5_hair_44 hl (by decide) rfl (fun ls hl => ?_)
  refine lv_lload hx hb dX5_hair_46 (lv_at hl 7 rfl) ?_
  refine q_l0 (wr := [(m0, .inr (5, [.int (nI 0), .int (nI wd), .int (nI ht), .int (nI pn), .ref m1, .ref m2, .ref m3, .int (nI cn), .ref m4, .ref m5, .ref m6, .int fl, .int (nI bf), .int (nI bt), .int (nI xn), .ref m7, .ref m8, .ref m9, .int ip, .int (nI ps), .ref ma])), (m4, .inl (cJ, 100, .inr (.inl gx))), (m5, .inl (cJ, 100, .inr (.inl gy))), (m6, .inl (cZ, 100, .inl gb))]) (va_runS (As := [.long vv]) (rest := []) ⟨hx, hb, hml, hown, hts⟩ (c_X5_cut l D cI cZ cB cJ H.size vv) (va_cwS 1 hts gX5_hair_X5_cut rfl rfl rfl (by decide +kernel) ⟨Nat.le_of_ble_eq_true rfl, Nat.le_of_ble_eq_true rfl⟩) (q_pre (wc := []) hP hD hK hN [] (by decide) rfl) rfl rfl hl.1 rfl (lv_room (Nat.le_of_ble_eq_true rfl)) dX5_hair_48 ⟨Nat.zero_le _, Nat.zero_le _⟩) hS hA hP hD [] [0, 1, 2, 3] rfl rfl (by decide) (by decide) (fun r_48 u H locs hp_48 hP hD hS => ?_)
  have hP : va_P D qCl [(m0, .inr (5, [.int (nI 0), .int (nI wd), .int (nI ht), .int (nI pn), .ref m1, .ref m2, .ref m3, .int (nI cn), .ref m4, .ref m5, .ref m6, .int fl, .int (nI bf), .int (nI bt), .int (nI xn), .ref m7, .ref m8, .ref m9, .int ip, .int (nI ps), .ref ma])), (m4, .inl (cJ, 100, .inr (.inl gx))), (m5, .inl (cJ, 100, .inr (.inl gy))), (m6, .inl (cZ, 100, .inl gb))] H := hP
  have hD : va_D A [(m0, .inr (5, [.int (nI 0), .int (nI wd), .int (nI ht), .int (nI pn), .ref m1, .ref m2, .ref m3, .int (nI cn), .ref m4, .ref m5, .ref m6, .int fl, .int (nI bf), .int (nI bt), .int (nI xn), .ref m7, .ref m8, .ref m9, .int ip, .int (nI ps), .ref ma])), (m4, .inl (cJ, 100, .inr (.inl gx))), (m5, .inl (cJ, 100, .inr (.inl gy))), (m6, .inl (cZ, 100, .inl gb))] := hD
  have hp_48 : r_48 = Int64.ofInt (ctP vv) := hp_48
  subst hp_48
  refine lv_lstore (lv' := [(15, .long (Int64.ofInt (ctP vv))), (13, .long (Int64.ofInt (ctP vu))), (11, .long (Int64.ofInt (ctP vy))), (9, .long (Int64.ofInt (ctP vx))), (0, .ref m0), (1, .long vx), (3, .long vy), (5, .long vu), (7, .long vv)]) hx hb dX5_hair_51 hl (by decide) rfl (fun ls hl => ?_)
  have J_73 : (¬ (ctP vx = ctP vu ∧ ctP vy = ctP vv)) → ∀ (H : Heap) (locs : List Loc) (ls : Array Slot), va_P D qCl [(m0, .inr (5, [.int (nI 0), .int (nI wd), .int (nI ht), .int (nI pn), .ref m1, .ref m2, .ref m3, .int (nI cn), .ref m4, .ref m5, .ref m6, .int fl, .int (nI bf), .int (nI bt), .int (nI xn), .ref m7, .ref m8, .ref m9, .int ip, .int (nI ps), .ref ma])), (m4, .inl (cJ, 100, .inr (.inl gx))), (m5, .inl (cJ, 100, .inr (.inl gy))), (m6, .inl (cZ, 100, .inl gb))] H → va_D A [(m0, .inr (5, [.int (nI 0), .int (nI wd), .int (nI ht), .int (nI pn), .ref m1, .ref m2, .ref m3, .int (nI cn), .ref m4, .ref m5, .ref m6, .int fl, .int (nI bf), .int (nI bt), .int (nI xn), .ref m7, .ref m8, .ref m9, .int ip, .int (nI ps), .ref ma])), (m4, .inl (cJ, 100, .inr (.inl gx))), (m5, .inl (cJ, 100, .inr (.inl gy))), (m6, .inl (cZ, 100, .inl gb))] → va_S A s.heap H locs → lv_has ls 23 [(15, .long (Int64.ofInt (ctP vv))), (13, .long (Int64.ofInt (ctP vu))), (11, .long (Int64.ofInt (ctP vy))), (9, .long (Int64.ofInt (ctP vx))), (0, .ref m0), (1, .long vx), (3, .long vy), (5, .long vu), (7, .long vv)] → W p l e rm_X5_hair_ok s m ([.ref m0, .long vx, .long vy, .long vu, .long vv] : List Value).toArray below meth c H locs 0 0 Q (F0 m 73 ls []) := by
    intro  hne H locs ls hP hD hS hl
    refine lv_iconst (v := nI 0) hx hb dX5_hair_73 (by decide) ?_
    refine lv_istore (lv' := [(17, .int (nI 0)), (15, .long (Int64.ofInt (ctP vv))), (13, .long (Int64.ofInt (ctP vu))), (11, .long (Int64.ofInt (ctP vy))), (9, .long (Int64.ofInt (ctP vx))), (0, .ref m0), (1, .long vx), (3, .long vy), (5, .long vu), (7, .long vv)]) hx hb dX5_hair_74 hl (by decide) rfl (fun ls hl => ?_)
    refine lv_lload hx hb dX5_hair_76 (lv_at hl 2 rfl) ?_
    refine lv_lload hx hb dX5_hair_78 (lv_at hl 4 rfl) ?_
    refine lv_lsub hx hb dX5_hair_80 ?_
    refine q_eql (y := Int64.ofInt ((ctP vu) - (ctP vx))) (by exact w_sub _ _) ?_
    refine q_l0 (wr := [(m0, .inr (5, [.int (nI 0), .int (nI wd), .int (nI ht), .int (nI pn), .ref m1, .ref m2, .ref m3, .int (nI cn), .ref m4, .ref m5, .ref m6, .int fl, .int (nI bf), .int (nI bt), .int (nI xn), .ref m7, .ref m8, .ref m9, .int ip, .int (nI ps), .ref ma])), (m4, .inl (cJ, 100, .inr (.inl gx))), (m5, .inl (cJ, 100, .inr (.inl gy))), (m6, .inl (cZ, 100, .inl gb))]) (va_runS (As := [.long (Int64.ofInt ((ctP vu) - (ctP vx)))]) (rest := []) ⟨hx, hb, hml, hown, hts⟩ (c_X5_size l D cI cZ cB cJ H.size ((ctP vu) - (ctP vx)) (by omega) (by omega)) (va_cwS 1 hts gX5_hair_X5_size rfl rfl rfl (by decide +kernel) ⟨Nat.le_of_ble_eq_true rfl, Nat.le_of_ble_eq_true rfl⟩) (q_pre (wc := []) hP hD hK hN [] (by decide) rfl) rfl rfl hl.1 rfl (lv_room (Nat.le_of_ble_eq_true rfl)) dX5_hair_81 ⟨Nat.zero_le _, Nat.zero_le _⟩) hS hA hP hD [] [0, 1, 2, 3] rfl rfl (by decide) (by decide) (fun r_81 u H locs hp_81 hP hD hS => ?_)
    have hP : va_P D qCl [(m0, .inr (5, [.int (nI 0), .int (nI wd), .int (nI ht), .int (nI pn), .ref m1, .ref m2, .ref m3, .int (nI cn), .ref m4, .ref m5, .ref m6, .int fl, .int (nI bf), .int (nI bt), .int (nI xn), .ref m7, .ref m8, .ref m9, .int ip, .int (nI ps), .ref ma])), (m4, .inl (cJ, 100, .inr (.inl gx))), (m5, .inl (cJ, 100, .inr (.inl gy))), (m6, .inl (cZ, 100, .inl gb))] H := hP
    have hD : va_D A [(m0, .inr (5, [.int (nI 0), .int (nI wd), .int (nI ht), .int (nI pn), .ref m1, .ref m2, .ref m3, .int (nI cn), .ref m4, .ref m5, .ref m6, .int fl, .int (nI bf), .int (nI bt), .int (nI xn), .ref m7, .ref m8, .ref m9, .int ip, .int (nI ps), .ref ma])), (m4, .inl (cJ, 100, .inr (.inl gx))), (m5, .inl (cJ, 100, .inr (.inl gy))), (m6, .inl (cZ, 100, .inl gb))] := hD
    have hp_81 : r_81 = Int64.ofInt (((ctP vu) - (ctP vx)).natAbs : Int) := hp_81
    subst hp_81
    refine lv_lload hx hb dX5_hair_84 (lv_at hl 1 rfl) ?_
    refine lv_lload hx hb dX5_hair_86 (lv_at hl 3 rfl) ?_
    refine lv_lsub hx hb dX5_hair_88 ?_
    refine q_eql (y := Int64.ofInt ((ctP vv) - (ctP vy))) (by exact w_sub _ _) ?_
    refine q_l0 (wr := [(m0, .inr (5, [.int (nI 0), .int (nI wd), .int (nI ht), .int (nI pn), .ref m1, .ref m2, .ref m3, .int (nI cn), .ref m4, .ref m5, .ref m6, .int fl, .int (nI bf), .int (nI bt), .int (nI xn), .ref m7, .ref m8, .ref m9, .int ip, .int (nI ps), .ref ma])), (m4, .inl (cJ, 100, .inr (.inl gx))), (m5, .inl (cJ, 100, .inr (.inl gy))), (m6, .inl (cZ, 100, .inl gb))]) (va_runS (As := [.long (Int64.ofInt ((ctP vv) - (ctP vy)))]) (rest := [.long (Int64.ofInt (((ctP vu) - (ctP vx)).natAbs : Int))]) ⟨hx, hb, hml, hown, hts⟩ (c_X5_size l D cI cZ cB cJ H.size ((ctP vv) - (ctP vy)) (by omega) (by omega)) (va_cwS 1 hts gX5_hair_X5_size rfl rfl rfl (by decide +kernel) ⟨Nat.le_of_ble_eq_true rfl, Nat.le_of_ble_eq_true rfl⟩) (q_pre (wc := []) hP hD hK hN [] (by decide) rfl) rfl rfl hl.1 rfl (lv_room (Nat.le_of_ble_eq_true rfl)) dX5_hair_89 ⟨Nat.zero_le _, Nat.zero_le _⟩) hS hA hP hD [] [0, 1, 2, 3] rfl rfl (by decide) (by decide) (fun r_89 u H locs hp_89 hP hD hS => ?_)
    have hP : va_P D qCl [(m0, .inr (5, [.int (nI 0), .int (nI wd), .int (nI ht), .int (nI pn), .ref m1, .ref m2, .ref m3, .int (nI cn), .ref m4, .ref m5, .ref m6, .int fl, .int (nI bf), .int (nI bt), .int (nI xn), .ref m7, .ref m8, .ref m9, .int ip, .int (nI ps), .ref ma])), (m4, .inl (cJ, 100, .inr (.inl gx))), (m5, .inl (cJ, 100, .inr (.inl gy))), (m6, .inl (cZ, 100, .inl gb))] H := hP
    have hD : va_D A [(m0, .inr (5, [.int (nI 0), .int (nI wd), .int (nI ht), .int (nI pn), .ref m1, .ref m2, .ref m3, .int (nI cn), .ref m4, .ref m5, .ref m6, .int fl, .int (nI bf), .int (nI bt), .int (nI xn), .ref m7, .ref m8, .ref m9, .int ip, .int (nI ps), .ref ma])), (m4, .inl (cJ, 100, .inr (.inl gx))), (m5, .inl (cJ, 100, .inr (.inl gy))), (m6, .inl (cZ, 100, .inl gb))] := hD
    have hp_89 : r_89 = Int64.ofInt (((ctP vv) - (ctP vy)).natAbs : Int) := hp_89
    subst hp_89
    refine W.lcmp hx hb dX5_hair_92 ?_
    refine lv_if_lt (tgt := 100) hx hb dX5_hair_93 (by decide) (fun h_93 => ?_) (fun h_93 => ?_)
    · have h_93 : ¬ (ctP vv - ctP vy).natAbs ≤ (ctP vu - ctP vx).natAbs := by rw [lgc_lt, j_lt, w_t (by omega) (by omega), w_t (by omega) (by omega)] at h_93; omega
      refine lv_iconst (v := nI 0) hx hb dX5_hair_100 (by decide) ?_
      refine lv_istore (lv' := [(18, .int (nI 0)), (17, .int (nI 0)), (15, .long (Int64.ofInt (ctP vv))), (13, .long (Int64.ofInt (ctP vu))), (11, .long (Int64.ofInt (ctP vy))), (9, .long (Int64.ofInt (ctP vx))), (0, .ref m0), (1, .long vx), (3, .long vy), (5, .long vu), (7, .long vv)]) hx hb dX5_hair_101 hl (by decide) rfl (fun ls hl => ?_)
      refine lv_iload hx hb dX5_hair_103 (lv_at hl 0 rfl) ?_
      refine q_if_eq (tgt := 117) hx hb (by omega) dX5_hair_105 (by decide) (fun h_105 => ?_) (fun h_105 => by omega)
      refine lv_ldc2 hx hb hown k_76 dX5_hair_117 ?_
      refine lv_lstore (lv' := [(19, .long 128), (18, .int (nI 0)), (17, .int (nI 0)), (15, .long (Int64.ofInt (ctP vv))), (13, .long (Int64.ofInt (ctP vu))), (11, .long (Int64.ofInt (ctP vy))), (9, .long (Int64.ofInt (ctP vx))), (0, .ref m0), (1, .long vx), (3, .long vy), (5, .long vu), (7, .long vv)]) hx hb dX5_hair_120 hl (by decide) rfl (fun ls hl => ?_)
      refine lv_iload hx hb dX5_hair_122 (lv_at hl 1 rfl) ?_
      refine q_if_eq (tgt := 133) hx hb (by omega) dX5_hair_124 (by decide) (fun h_124 => ?_) (fun h_124 => by omega)
      refine lv_lconst (v := 0) hx hb dX5_hair_133 (by decide) ?_
      refine lv_lstore (lv' := [(21, .long 0), (19, .long 128), (18, .int (nI 0)), (17, .int (nI 0)), (15, .long (Int64.ofInt (ctP vv))), (13, .long (Int64.ofInt (ctP vu))), (11, .long (Int64.ofInt (ctP vy))), (9, .long (Int64.ofInt (ctP vx))), (0, .ref m0), (1, .long vx), (3, .long vy), (5, .long vu), (7, .long vv)]) hx hb dX5_hair_134 hl (by decide) rfl (fun ls hl => ?_)
      refine lv_iload hx hb dX5_hair_136 (lv_at hl 3 rfl) ?_
      refine q_if_eq (tgt := 212) hx hb (by omega) dX5_hair_138 (by decide) (fun h_138 => ?_) (fun h_138 => by omega)
      refine lv_aload_n hx hb dX5_hair_212 rfl (lv_at hl 8 rfl) ?_
      refine lv_lload hx hb dX5_hair_213 (lv_at hl 7 rfl) ?_
      refine lv_lload hx hb dX5_hair_215 (lv_at hl 1 rfl) ?_
      refine lv_lsub hx hb dX5_hair_217 ?_
      refine q_eql (y := Int64.ofInt ((ctP vx) - 128)) (by exact w_sub _ 128) ?_
      refine lv_lload hx hb dX5_hair_218 (lv_at hl 6 rfl) ?_
      refine lv_lload hx hb dX5_hair_220 (lv_at hl 0 rfl) ?_
      refine lv_lsub hx hb dX5_hair_222 ?_
      refine q_eql (y := Int64.ofInt ((ctP vy) - 0)) (by exact w_sub _ 0) ?_
      refine lv_iconst (v := nI 1) hx hb dX5_hair_223 (by decide) ?_
      refine q_eqi (y := 1) (by decide) ?_
      refine q_v0 (wr := []) (va_runV (As := [.long (Int64.ofInt ((ctP vx) - 128)), .long (Int64.ofInt ((ctP vy) - 0)), .int 1]) (rest := []) ⟨hx, hb, hml, hown, hts⟩ (c_X5_add l D cI cZ cB cJ H.size m0 m1 m2 m3 m4 m5 m6 m7 m8 m9 ma (nI 0) wd ht pn cn fl bf bt xn ip ps gx gy gb (Int64.ofInt ((ctP vx) - 128)) (Int64.ofInt ((ctP vy) - 0)) 1 (by omega) (by first | exact Or.inl rfl | exact Or.inr rfl)) (cwV 3 hts gX5_hair_X5_add rfl rfl rfl (by decide +kernel) ⟨Nat.le_of_ble_eq_true rfl, Nat.le_of_ble_eq_true rfl⟩) (q_preV (q_pre (wc := [(m0, .inr (5, [.int (nI 0), .int (nI wd), .int (nI ht), .int (nI pn), .ref m1, .ref m2, .ref m3, .int (nI cn), .ref m4, .ref m5, .ref m6, .int fl, .int (nI bf), .int (nI bt), .int (nI xn), .ref m7, .ref m8, .ref m9, .int ip, .int (nI ps), .ref ma])), (m4, .inl (cJ, 100, .inr (.inl gx))), (m5, .inl (cJ, 100, .inr (.inl gy))), (m6, .inl (cZ, 100, .inl gb))]) hP hD hK hN [0, 1, 2, 3] (by decide) rfl) (va_recv hK hP (ci := 5) (q0 := 0) rfl rfl)) rfl rfl hl.1 rfl (lv_room (Nat.le_of_ble_eq_true rfl)) dX5_hair_224 ⟨Nat.zero_le _, Nat.zero_le _⟩) hS hA hP hD [0, 1, 2, 3] [] rfl rfl (by decide) (by decide) (fun u H locs hp_224 hP hD hS => ?_)
      have hP : va_P D qCl [(m0, .inr (5, [.int (nI 0), .int (nI wd), .int (nI ht), .int (nI pn), .ref m1, .ref m2, .ref m3, .int (nI (cn + 1)), .ref m4, .ref m5, .ref m6, .int fl, .int (nI bf), .int (nI bt), .int (nI xn), .ref m7, .ref m8, .ref m9, .int ip, .int (nI ps), .ref ma])), (m4, .inl (cJ, 100, .inr (.inl (vp_updL gx cn (Int64.ofInt ((ctP vx) - 128)))))), (m5, .inl (cJ, 100, .inr (.inl (vp_updL gy cn (Int64.ofInt ((ctP vy) - 0)))))), (m6, .inl (cZ, 100, .inl (upd gb cn 1)))] H := hP
      have hD : va_D A [(m0, .inr (5, [.int (nI 0), .int (nI wd), .int (nI ht), .int (nI pn), .ref m1, .ref m2, .ref m3, .int (nI (cn + 1)), .ref m4, .ref m5, .ref m6, .int fl, .int (nI bf), .int (nI bt), .int (nI xn), .ref m7, .ref m8, .ref m9, .int ip, .int (nI ps), .ref ma])), (m4, .inl (cJ, 100, .inr (.inl (vp_updL gx cn (Int64.ofInt ((ctP vx) - 128)))))), (m5, .inl (cJ, 100, .inr (.inl (vp_updL gy cn (Int64.ofInt ((ctP vy) - 0)))))), (m6, .inl (cZ, 100, .inl (upd gb cn 1)))] := hD
      refine lv_aload_n hx hb dX5_hair_227 rfl (lv_at hl 8 rfl) ?_
      refine lv_lload hx hb dX5_hair_228 (lv_at hl 5 rfl) ?_
      refine lv_lload hx hb dX5_hair_230 (lv_at hl 1 rfl) ?_
      refine lv_lsub hx hb dX5_hair_232 ?_
      refine q_eql (y := Int64.ofInt ((ctP vu) - 128)) (by exact w_sub _ 128) ?_
      refine lv_lload hx hb dX5_hair_233 (lv_at hl 4 rfl) ?_
      refine lv_lload hx hb dX5_hair_235 (lv_at hl 0 rfl) ?_
      refine lv_lsub hx hb dX5_hair_237 ?_
      refine q_eql (y := Int64.ofInt ((ctP vv) - 0)) (by exact w_sub _ 0) ?_
      refine lv_iconst (v := nI 0) hx hb dX5_hair_238 (by decide) ?_
      refine q_eqi (y := 0) (by decide) ?_
      refine q_v0 (wr := []) (va_runV (As := [.long (Int64.ofInt ((ctP vu) - 128)), .long (Int64.ofInt ((ctP vv) - 0)), .int 0]) (rest := []) ⟨hx, hb, hml, hown, hts⟩ (c_X5_add l D cI cZ cB cJ H.size m0 m1 m2 m3 m4 m5 m6 m7 m8 m9 ma (nI 0) wd ht pn (cn + 1) fl bf bt xn ip ps (vp_updL gx cn (Int64.ofInt ((ctP vx) - 128))) (vp_updL gy cn (Int64.ofInt ((ctP vy) - 0))) (upd gb cn 1) (Int64.ofInt ((ctP vu) - 128)) (Int64.ofInt ((ctP vv) - 0)) 0 (by omega) (by first | exact Or.inl rfl | exact Or.inr rfl)) (cwV 3 hts gX5_hair_X5_add rfl rfl rfl (by decide +kernel) ⟨Nat.le_of_ble_eq_true rfl, Nat.le_of_ble_eq_true rfl⟩) (q_preV (q_pre (wc := [(m0, .inr (5, [.int (nI 0), .int (nI wd), .int (nI ht), .int (nI pn), .ref m1, .ref m2, .ref m3, .int (nI (cn + 1)), .ref m4, .ref m5, .ref m6, .int fl, .int (nI bf), .int (nI bt), .int (nI xn), .ref m7, .ref m8, .ref m9, .int ip, .int (nI ps), .ref ma])), (m4, .inl (cJ, 100, .inr (.inl (vp_updL gx cn (Int64.ofInt ((ctP vx) - 128)))))), (m5, .inl (cJ, 100, .inr (.inl (vp_updL gy cn (Int64.ofInt ((ctP vy) - 0)))))), (m6, .inl (cZ, 100, .inl (upd gb cn 1)))]) hP hD hK hN [0, 1, 2, 3] (by decide) rfl) (va_recv hK hP (ci := 5) (q0 := 0) rfl rfl)) rfl rfl hl.1 rfl (lv_room (Nat.le_of_ble_eq_true rfl)) dX5_hair_239 ⟨Nat.zero_le _, Nat.zero_le _⟩) hS hA hP hD [0, 1, 2, 3] [] rfl rfl (by decide) (by decide) (fun u H locs hp_239 hP hD hS => ?_)
      have hP : va_P D qCl [(m0, .inr (5, [.int (nI 0), .int (nI wd), .int (nI ht), .int (nI pn), .ref m1, .ref m2, .ref m3, .int (nI ((cn + 1) + 1)), .ref m4, .ref m5, .ref m6, .int fl, .int (nI bf), .int (nI bt), .int (nI xn), .ref m7, .ref m8, .ref m9, .int ip, .int (nI ps), .ref ma])), (m4, .inl (cJ, 100, .inr (.inl (vp_updL (vp_updL gx cn (Int64.ofInt ((ctP vx) - 128))) (cn + 1) (Int64.ofInt ((ctP vu) - 128)))))), (m5, .inl (cJ, 100, .inr (.inl (vp_updL (vp_updL gy cn (Int64.ofInt ((ctP vy) - 0))) (cn + 1) (Int64.ofInt ((ctP vv) - 0)))))), (m6, .inl (cZ, 100, .inl (upd (upd gb cn 1) (cn + 1) 0)))] H := hP
      have hD : va_D A [(m0, .inr (5, [.int (nI 0), .int (nI wd), .int (nI ht), .int (nI pn), .ref m1, .ref m2, .ref m3, .int (nI ((cn + 1) + 1)), .ref m4, .ref m5, .ref m6, .int fl, .int (nI bf), .int (nI bt), .int (nI xn), .ref m7, .ref m8, .ref m9, .int ip, .int (nI ps), .ref ma])), (m4, .inl (cJ, 100, .inr (.inl (vp_updL (vp_updL gx cn (Int64.ofInt ((ctP vx) - 128))) (cn + 1) (Int64.ofInt ((ctP vu) - 128)))))), (m5, .inl (cJ, 100, .inr (.inl (vp_updL (vp_updL gy cn (Int64.ofInt ((ctP vy) - 0))) (cn + 1) (Int64.ofInt ((ctP vv) - 0)))))), (m6, .inl (cZ, 100, .inl (upd (upd gb cn 1) (cn + 1) 0)))] := hD
      refine lv_aload_n hx hb dX5_hair_242 rfl (lv_at hl 8 rfl) ?_
      refine lv_lload hx hb dX5_hair_243 (lv_at hl 5 rfl) ?_
      refine lv_lload hx hb dX5_hair_245 (lv_at hl 1 rfl) ?_
      refine lv_ladd hx hb dX5_hair_247 ?_
      refine q_eql (y := Int64.ofInt ((ctP vu) + 128)) (by exact w_add _ 128) ?_
      refine lv_lload hx hb dX5_hair_248 (lv_at hl 4 rfl) ?_
      refine lv_lload hx hb dX5_hair_250 (lv_at hl 0 rfl) ?_
      refine lv_ladd hx hb dX5_hair_252 ?_
      refine q_eql (y := Int64.ofInt ((ctP vv) + 0)) (by exact w_add _ 0) ?_
      refine lv_iconst (v := nI 0) hx hb dX5_hair_253 (by decide) ?_
      refine q_eqi (y := 0) (by decide) ?_
      refine q_v0 (wr := []) (va_runV (As := [.long (Int64.ofInt ((ctP vu) + 128)), .long (Int64.ofInt ((ctP vv) + 0)), .int 0]) (rest := []) ⟨hx, hb, hml, hown, hts⟩ (c_X5_add l D cI cZ cB cJ H.size m0 m1 m2 m3 m4 m5 m6 m7 m8 m9 ma (nI 0) wd ht pn ((cn + 1) + 1) fl bf bt xn ip ps (vp_updL (vp_updL gx cn (Int64.ofInt ((ctP vx) - 128))) (cn + 1) (Int64.ofInt ((ctP vu) - 128))) (vp_updL (vp_updL gy cn (Int64.ofInt ((ctP vy) - 0))) (cn + 1) (Int64.ofInt ((ctP vv) - 0))) (upd (upd gb cn 1) (cn + 1) 0) (Int64.ofInt ((ctP vu) + 128)) (Int64.ofInt ((ctP vv) + 0)) 0 (by omega) (by first | exact Or.inl rfl | exact Or.inr rfl)) (cwV 3 hts gX5_hair_X5_add rfl rfl rfl (by decide +kernel) ⟨Nat.le_of_ble_eq_true rfl, Nat.le_of_ble_eq_true rfl⟩) (q_preV (q_pre (wc := [(m0, .inr (5, [.int (nI 0), .int (nI wd), .int (nI ht), .int (nI pn), .ref m1, .ref m2, .ref m3, .int (nI ((cn + 1) + 1)), .ref m4, .ref m5, .ref m6, .int fl, .int (nI bf), .int (nI bt), .int (nI xn), .ref m7, .ref m8, .ref m9, .int ip, .int (nI ps), .ref ma])), (m4, .inl (cJ, 100, .inr (.inl (vp_updL (vp_updL gx cn (Int64.ofInt ((ctP vx) - 128))) (cn + 1) (Int64.ofInt ((ctP vu) - 128)))))), (m5, .inl (cJ, 100, .inr (.inl (vp_updL (vp_updL gy cn (Int64.ofInt ((ctP vy) - 0))) (cn + 1) (Int64.ofInt ((ctP vv) - 0)))))), (m6, .inl (cZ, 100, .inl (upd (upd gb cn 1) (cn + 1) 0)))]) hP hD hK hN [0, 1, 2, 3] (by decide) rfl) (va_recv hK hP (ci := 5) (q0 := 0) rfl rfl)) rfl rfl hl.1 rfl (lv_room (Nat.le_of_ble_eq_true rfl)) dX5_hair_254 ⟨Nat.zero_le _, Nat.zero_le _⟩) hS hA hP hD [0, 1, 2, 3] [] rfl rfl (by decide) (by decide) (fun u H locs hp_254 hP hD hS => ?_)
      have hP : va_P D qCl [(m0, .inr (5, [.int (nI 0), .int (nI wd), .int (nI ht), .int (nI pn), .ref m1, .ref m2, .ref m3, .int (nI (((cn + 1) + 1) + 1)), .ref m4, .ref m5, .ref m6, .int fl, .int (nI bf), .int (nI bt), .int (nI xn), .ref m7, .ref m8, .ref m9, .int ip, .int (nI ps), .ref ma])), (m4, .inl (cJ, 100, .inr (.inl (vp_updL (vp_updL (vp_updL gx cn (Int64.ofInt ((ctP vx) - 128))) (cn + 1) (Int64.ofInt ((ctP vu) - 128))) ((cn + 1) + 1) (Int64.ofInt ((ctP vu) + 128)))))), (m5, .inl (cJ, 100, .inr (.inl (vp_updL (vp_updL (vp_updL gy cn (Int64.ofInt ((ctP vy) - 0))) (cn + 1) (Int64.ofInt ((ctP vv) - 0))) ((cn + 1) + 1) (Int64.ofInt ((ctP vv) + 0)))))), (m6, .inl (cZ, 100, .inl (upd (upd (upd gb cn 1) (cn + 1) 0) ((cn + 1) + 1) 0)))] H := hP
      have hD : va_D A [(m0, .inr (5, [.int (nI 0), .int (nI wd), .int (nI ht), .int (nI pn), .ref m1, .ref m2, .ref m3, .int (nI (((cn + 1) + 1) + 1)), .ref m4, .ref m5, .ref m6, .int fl, .int (nI bf), .int (nI bt), .int (nI xn), .ref m7, .ref m8, .ref m9, .int ip, .int (nI ps), .ref ma])), (m4, .inl (cJ, 100, .inr (.inl (vp_updL (vp_updL (vp_updL gx cn (Int64.ofInt ((ctP vx) - 128))) (cn + 1) (Int64.ofInt ((ctP vu) - 128))) ((cn + 1) + 1) (Int64.ofInt ((ctP vu) + 128)))))), (m5, .inl (cJ, 100, .inr (.inl (vp_updL (vp_updL (vp_updL gy cn (Int64.ofInt ((ctP vy) - 0))) (cn + 1) (Int64.ofInt ((ctP vv) - 0))) ((cn + 1) + 1) (Int64.ofInt ((ctP vv) + 0)))))), (m6, .inl (cZ, 100, .inl (upd (upd (upd gb cn 1) (cn + 1) 0) ((cn + 1) + 1) 0)))] := hD
      refine lv_aload_n hx hb dX5_hair_257 rfl (lv_at hl 8 rfl) ?_
      refine lv_lload hx hb dX5_hair_258 (lv_at hl 7 rfl) ?_
      refine lv_lload hx hb dX5_hair_260 (lv_at hl 1 rfl) ?_
      refine lv_ladd hx hb dX5_hair_262 ?_
      refine q_eql (y := Int64.ofInt ((ctP vx) + 128)) (by exact w_add _ 128) ?_
      refine lv_lload hx hb dX5_hair_263 (lv_at hl 6 rfl) ?_
      refine lv_lload hx hb dX5_hair_265 (lv_at hl 0 rfl) ?_
      refine lv_ladd hx hb dX5_hair_267 ?_
      refine q_eql (y := Int64.ofInt ((ctP vy) + 0)) (by exact w_add _ 0) ?_
      refine lv_iconst (v := nI 0) hx hb dX5_hair_268 (by decide) ?_
      refine q_eqi (y := 0) (by decide) ?_
      refine q_v0 (wr := []) (va_runV (As := [.long (Int64.ofInt ((ctP vx) + 128)), .long (Int64.ofInt ((ctP vy) + 0)), .int 0]) (rest := []) ⟨hx, hb, hml, hown, hts⟩ (c_X5_add l D cI cZ cB cJ H.size m0 m1 m2 m3 m4 m5 m6 m7 m8 m9 ma (nI 0) wd ht pn (((cn + 1) + 1) + 1) fl bf bt xn ip ps (vp_updL (vp_updL (vp_updL gx cn (Int64.ofInt ((ctP vx) - 128))) (cn + 1) (Int64.ofInt ((ctP vu) - 128))) ((cn + 1) + 1) (Int64.ofInt ((ctP vu) + 128))) (vp_updL (vp_updL (vp_updL gy cn (Int64.ofInt ((ctP vy) - 0))) (cn + 1) (Int64.ofInt ((ctP vv) - 0))) ((cn + 1) + 1) (Int64.ofInt ((ctP vv) + 0))) (upd (upd (upd gb cn 1) (cn + 1) 0) ((cn + 1) + 1) 0) (Int64.ofInt ((ctP vx) + 128)) (Int64.ofInt ((ctP vy) + 0)) 0 (by omega) (by first | exact Or.inl rfl | exact Or.inr rfl)) (cwV 3 hts gX5_hair_X5_add rfl rfl rfl (by decide +kernel) ⟨Nat.le_of_ble_eq_true rfl, Nat.le_of_ble_eq_true rfl⟩) (q_preV (q_pre (wc := [(m0, .inr (5, [.int (nI 0), .int (nI wd), .int (nI ht), .int (nI pn), .ref m1, .ref m2, .ref m3, .int (nI (((cn + 1) + 1) + 1)), .ref m4, .ref m5, .ref m6, .int fl, .int (nI bf), .int (nI bt), .int (nI xn), .ref m7, .ref m8, .ref m9, .int ip, .int (nI ps), .ref ma])), (m4, .inl (cJ, 100, .inr (.inl (vp_updL (vp_updL (vp_updL gx cn (Int64.ofInt ((ctP vx) - 128))) (cn + 1) (Int64.ofInt ((ctP vu) - 128))) ((cn + 1) + 1) (Int64.ofInt ((ctP vu) + 128)))))), (m5, .inl (cJ, 100, .inr (.inl (vp_updL (vp_updL (vp_updL gy cn (Int64.ofInt ((ctP vy) - 0))) (cn + 1) (Int64.ofInt ((ctP vv) - 0))) ((cn + 1) + 1) (Int64.ofInt ((ctP vv) + 0)))))), (m6, .inl (cZ, 100, .inl (upd (upd (upd gb cn 1) (cn + 1) 0) ((cn + 1) + 1) 0)))]) hP hD hK hN [0, 1, 2, 3] (by decide) rfl) (va_recv hK hP (ci := 5) (q0 := 0) rfl rfl)) rfl rfl hl.1 rfl (lv_room (Nat.le_of_ble_eq_true rfl)) dX5_hair_269 ⟨Nat.zero_le _, Nat.zero_le _⟩) hS hA hP hD [0, 1, 2, 3] [] rfl rfl (by decide) (by decide) (fun u H locs hp_269 hP hD hS => ?_)
      have hP : va_P D qCl [(m0, .inr (5, [.int (nI 0), .int (nI wd), .int (nI ht), .int (nI pn), .ref m1, .ref m2, .ref m3, .int (nI ((((cn + 1) + 1) + 1) + 1)), .ref m4, .ref m5, .ref m6, .int fl, .int (nI bf), .int (nI bt), .int (nI xn), .ref m7, .ref m8, .ref m9, .int ip, .int (nI ps), .ref ma])), (m4, .inl (cJ, 100, .inr (.inl (vp_updL (vp_updL (vp_updL (vp_updL gx cn (Int64.ofInt ((ctP vx) - 128))) (cn + 1) (Int64.ofInt ((ctP vu) - 128))) ((cn + 1) + 1) (Int64.ofInt ((ctP vu) + 128))) (((cn + 1) + 1) + 1) (Int64.ofInt ((ctP vx) + 128)))))), (m5, .inl (cJ, 100, .inr (.inl (vp_updL (vp_updL (vp_updL (vp_updL gy cn (Int64.ofInt ((ctP vy) - 0))) (cn + 1) (Int64.ofInt ((ctP vv) - 0))) ((cn + 1) + 1) (Int64.ofInt ((ctP vv) + 0))) (((cn + 1) + 1) + 1) (Int64.ofInt ((ctP vy) + 0)))))), (m6, .inl (cZ, 100, .inl (upd (upd (upd (upd gb cn 1) (cn + 1) 0) ((cn + 1) + 1) 0) (((cn + 1) + 1) + 1) 0)))] H := hP
      have hD : va_D A [(m0, .inr (5, [.int (nI 0), .int (nI wd), .int (nI ht), .int (nI pn), .ref m1, .ref m2, .ref m3, .int (nI ((((cn + 1) + 1) + 1) + 1)), .ref m4, .ref m5, .ref m6, .int fl, .int (nI bf), .int (nI bt), .int (nI xn), .ref m7, .ref m8, .ref m9, .int ip, .int (nI ps), .ref ma])), (m4, .inl (cJ, 100, .inr (.inl (vp_updL (vp_updL (vp_updL (vp_updL gx cn (Int64.ofInt ((ctP vx) - 128))) (cn + 1) (Int64.ofInt ((ctP vu) - 128))) ((cn + 1) + 1) (Int64.ofInt ((ctP vu) + 128))) (((cn + 1) + 1) + 1) (Int64.ofInt ((ctP vx) + 128)))))), (m5, .inl (cJ, 100, .inr (.inl (vp_updL (vp_updL (vp_updL (vp_updL gy cn (Int64.ofInt ((ctP vy) - 0))) (cn + 1) (Int64.ofInt ((ctP vv) - 0))) ((cn + 1) + 1) (Int64.ofInt ((ctP vv) + 0))) (((cn + 1) + 1) + 1) (Int64.ofInt ((ctP vy) + 0)))))), (m6, .inl (cZ, 100, .inl (upd (upd (upd (upd gb cn 1) (cn + 1) 0) ((cn + 1) + 1) 0) (((cn + 1) + 1) + 1) 0)))] := hD
      refine lv_aload_n hx hb dX5_hair_272 rfl (lv_at hl 8 rfl) ?_
      refine va_get (D := D) (ci := 5) (v := .int (nI ((((cn + 1) + 1) + 1) + 1))) (C := RX5) (T := TX5) (N := 21) hx hb hts iX5 hown hK hP 0 rfl rfl 7 (by decide) f_62 (fun _ h9 => h9) rfl dX5_hair_273 ?_
      have hr9 : (nI ((((cn + 1) + 1) + 1) + 1)) = nI (cn + 1 + 1 + 1 + 1) ∧ (PathM (vp_updL (vp_updL (vp_updL (vp_updL gx cn (Int64.ofInt ((ctP vx) - 128))) (cn + 1) (Int64.ofInt ((ctP vu) - 128))) ((cn + 1) + 1) (Int64.ofInt ((ctP vu) + 128))) (((cn + 1) + 1) + 1) (Int64.ofInt ((ctP vx) + 128))) (vp_updL (vp_updL (vp_updL (vp_updL gy cn (Int64.ofInt ((ctP vy) - 0))) (cn + 1) (Int64.ofInt ((ctP vv) - 0))) ((cn + 1) + 1) (Int64.ofInt ((ctP vv) + 0))) (((cn + 1) + 1) + 1) (Int64.ofInt ((ctP vy) + 0))) (upd (upd (upd (upd gb cn 1) (cn + 1) 0) ((cn + 1) + 1) 0) (((cn + 1) + 1) + 1) 0) (hairX X cn (ctP vx) (ctP vy) (ctP vu) (ctP vv)) (hairY Y cn (ctP vx) (ctP vy) (ctP vu) (ctP vv)) (hrB bg cn) (cn + 1 + 1 + 1 + 1)) := ⟨rfl, (by rw [(hair_steep hne h_93 X Y cn).1, (hair_steep hne h_93 X Y cn).2]; exact PathM_add4 hR hc4 (by constructor <;> omega) (by constructor <;> omega) (by constructor <;> omega) (by constructor <;> omega) (by constructor <;> omega) (by constructor <;> omega) (by constructor <;> omega) (by constructor <;> omega))⟩
      exact hQ _ _ _ _ (nI ((((cn + 1) + 1) + 1) + 1)) (vp_updL (vp_updL (vp_updL (vp_updL gx cn (Int64.ofInt ((ctP vx) - 128))) (cn + 1) (Int64.ofInt ((ctP vu) - 128))) ((cn + 1) + 1) (Int64.ofInt ((ctP vu) + 128))) (((cn + 1) + 1) + 1) (Int64.ofInt ((ctP vx) + 128)), vp_updL (vp_updL (vp_updL (vp_updL gy cn (Int64.ofInt ((ctP vy) - 0))) (cn + 1) (Int64.ofInt ((ctP vv) - 0))) ((cn + 1) + 1) (Int64.ofInt ((ctP vv) + 0))) (((cn + 1) + 1) + 1) (Int64.ofInt ((ctP vy) + 0)), upd (upd (upd (upd gb cn 1) (cn + 1) 0) ((cn + 1) + 1) 0) (((cn + 1) + 1) + 1) 0) _ _ dX5_hair_276 (Nat.le_refl _) (Nat.le_refl _) hr9 (hP.sub [0, 1, 2, 3] rfl) hK (hD.sub [0, 1, 2, 3] (by decide) rfl) hS
    have h_93 : (ctP vv - ctP vy).natAbs ≤ (ctP vu - ctP vx).natAbs := by rw [lgc_lt, j_lt, w_t (by omega) (by omega), w_t (by omega) (by omega)] at h_93; omega
    refine lv_iconst (v := nI 1) hx hb dX5_hair_96 (by decide) ?_
    refine lv_goto (tgt := 101) hx hb dX5_hair_97 (by decide) ?_
    refine lv_istore (lv' := [(18, .int (nI 1)), (17, .int (nI 0)), (15, .long (Int64.ofInt (ctP vv))), (13, .long (Int64.ofInt (ctP vu))), (11, .long (Int64.ofInt (ctP vy))), (9, .long (Int64.ofInt (ctP vx))), (0, .ref m0), (1, .long vx), (3, .long vy), (5, .long vu), (7, .long vv)]) hx hb dX5_hair_101 hl (by decide) rfl (fun ls hl => ?_)
    refine lv_iload hx hb dX5_hair_103 (lv_at hl 0 rfl) ?_
    refine q_if_eq (tgt := 117) hx hb (by omega) dX5_hair_105 (by decide) (fun h_105 => by omega) (fun h_105 => ?_)
    refine lv_iload hx hb dX5_hair_108 (lv_at hl 1 rfl) ?_
    refine q_if_ne (tgt := 117) hx hb (by omega) dX5_hair_110 (by decide) (fun h_110 => by omega) (fun h_110 => ?_)
    refine lv_lconst (v := 0) hx hb dX5_hair_113 (by decide) ?_
    refine lv_goto (tgt := 120) hx hb dX5_hair_114 (by decide) ?_
    refine lv_lstore (lv' := [(19, .long 0), (18, .int (nI 1)), (17, .int (nI 0)), (15, .long (Int64.ofInt (ctP vv))), (13, .long (Int64.ofInt (ctP vu))), (11, .long (Int64.ofInt (ctP vy))), (9, .long (Int64.ofInt (ctP vx))), (0, .ref m0), (1, .long vx), (3, .long vy), (5, .long vu), (7, .long vv)]) hx hb dX5_hair_120 hl (by decide) rfl (fun ls hl => ?_)
    refine lv_iload hx hb dX5_hair_122 (lv_at hl 1 rfl) ?_
    refine q_if_eq (tgt := 133) hx hb (by omega) dX5_hair_124 (by decide) (fun h_124 => by omega) (fun h_124 => ?_)
    refine lv_ldc2 hx hb hown k_76 dX5_hair_127 ?_
    refine lv_goto (tgt := 134) hx hb dX5_hair_130 (by decide) ?_
    refine lv_lstore (lv' := [(21, .long 128), (19, .long 0), (18, .int (nI 1)), (17, .int (nI 0)), (15, .long (Int64.ofInt (ctP vv))), (13, .long (Int64.ofInt (ctP vu))), (11, .long (Int64.ofInt (ctP vy))), (9, .long (Int64.ofInt (ctP vx))), (0, .ref m0), (1, .long vx), (3, .long vy), (5, .long vu), (7, .long vv)]) hx hb dX5_hair_134 hl (by decide) rfl (fun ls hl => ?_)
    refine lv_iload hx hb dX5_hair_136 (lv_at hl 3 rfl) ?_
    refine q_if_eq (tgt := 212) hx hb (by omega) dX5_hair_138 (by decide) (fun h_138 => ?_) (fun h_138 => by omega)
    refine lv_aload_n hx hb dX5_hair_212 rfl (lv_at hl 8 rfl) ?_
    refine lv_lload hx hb dX5_hair_213 (lv_at hl 7 rfl) ?_
    refine lv_lload hx hb dX5_hair_215 (lv_at hl 1 rfl) ?_
    refine lv_lsub hx hb dX5_hair_217 ?_
    refine q_eql (y := Int64.ofInt ((ctP vx) - 0)) (by exact w_sub _ 0) ?_
    refine lv_lload hx hb dX5_hair_218 (lv_at hl 6 rfl) ?_
    refine lv_lload hx hb dX5_hair_220 (lv_at hl 0 rfl) ?_
    refine lv_lsub hx hb dX5_hair_222 ?_
    refine q_eql (y := Int64.ofInt ((ctP vy) - 128)) (by exact w_sub _ 128) ?_
    refine lv_iconst (v := nI 1) hx hb dX5_hair_223 (by decide) ?_
    refine q_eqi (y := 1) (by decide) ?_
    refine q_v0 (wr := []) (va_runV (As := [.long (Int64.ofInt ((ctP vx) - 0)), .long (Int64.ofInt ((ctP vy) - 128)), .int 1]) (rest := []) ⟨hx, hb, hml, hown, hts⟩ (c_X5_add l D cI cZ cB cJ H.size m0 m1 m2 m3 m4 m5 m6 m7 m8 m9 ma (nI 0) wd ht pn cn fl bf bt xn ip ps gx gy gb (Int64.ofInt ((ctP vx) - 0)) (Int64.ofInt ((ctP vy) - 128)) 1 (by omega) (by first | exact Or.inl rfl | exact Or.inr rfl)) (cwV 3 hts gX5_hair_X5_add rfl rfl rfl (by decide +kernel) ⟨Nat.le_of_ble_eq_true rfl, Nat.le_of_ble_eq_true rfl⟩) (q_preV (q_pre (wc := [(m0, .inr (5, [.int (nI 0), .int (nI wd), .int (nI ht), .int (nI pn), .ref m1, .ref m2, .ref m3, .int (nI cn), .ref m4, .ref m5, .ref m6, .int fl, .int (nI bf), .int (nI bt), .int (nI xn), .ref m7, .ref m8, .ref m9, .int ip, .int (nI ps), .ref ma])), (m4, .inl (cJ, 100, .inr (.inl gx))), (m5, .inl (cJ, 100, .inr (.inl gy))), (m6, .inl (cZ, 100, .inl gb))]) hP hD hK hN [0, 1, 2, 3] (by decide) rfl) (va_recv hK hP (ci := 5) (q0 := 0) rfl rfl)) rfl rfl hl.1 rfl (lv_room (Nat.le_of_ble_eq_true rfl)) dX5_hair_224 ⟨Nat.zero_le _, Nat.zero_le _⟩) hS hA hP hD [0, 1, 2, 3] [] rfl rfl (by decide) (by decide) (fun u H locs hp_224 hP hD hS => ?_)
    have hP : va_P D qCl [(m0, .inr (5, [.int (nI 0), .int (nI wd), .int (nI ht), .int (nI pn), .ref m1, .ref m2, .ref m3, .int (nI (cn + 1)), .ref m4, .ref m5, .ref m6, .int fl, .int (nI bf), .int (nI bt), .int (nI xn), .ref m7, .ref m8, .ref m9, .int ip, .int (nI ps), .ref ma])), (m4, .inl (cJ, 100, .inr (.inl (vp_updL gx cn (Int64.ofInt ((ctP vx) - 0)))))), (m5, .inl (cJ, 100, .inr (.inl (vp_updL gy cn (Int64.ofInt ((ctP vy) - 128)))))), (m6, .inl (cZ, 100, .inl (upd gb cn 1)))] H := hP
    have hD : va_D A [(m0, .inr (5, [.int (nI 0), .int (nI wd), .int (nI ht), .int (nI pn), .ref m1, .ref m2, .ref m3, .int (nI (cn + 1)), .ref m4, .ref m5, .ref m6, .int fl, .int (nI bf), .int (nI bt), .int (nI xn), .ref m7, .ref m8, .ref m9, .int ip, .int (nI ps), .ref ma])), (m4, .inl (cJ, 100, .inr (.inl (vp_updL gx cn (Int64.ofInt ((ctP vx) - 0)))))), (m5, .inl (cJ, 100, .inr (.inl (vp_updL gy cn (Int64.ofInt ((ctP vy) - 128)))))), (m6, .inl (cZ, 100, .inl (upd gb cn 1)))] := hD
    refine lv_aload_n hx hb dX5_hair_227 rfl (lv_at hl 8 rfl) ?_
    refine lv_lload hx hb dX5_hair_228 (lv_at hl 5 rfl) ?_
    refine lv_lload hx hb dX5_hair_230 (lv_at hl 1 rfl) ?_
    refine lv_lsub hx hb dX5_hair_232 ?_
    refine q_eql (y := Int64.ofInt ((ctP vu) - 0)) (by exact w_sub _ 0) ?_
    refine lv_lload hx hb dX5_hair_233 (lv_at hl 4 rfl) ?_
    refine lv_lload hx hb dX5_hair_235 (lv_at hl 0 rfl) ?_
    refine lv_lsub hx hb dX5_hair_237 ?_
    refine q_eql (y := Int64.ofInt ((ctP vv) - 128)) (by exact w_sub _ 128) ?_
    refine lv_iconst (v := nI 0) hx hb dX5_hair_238 (by decide) ?_
    refine q_eqi (y := 0) (by decide) ?_
    refine q_v0 (wr := []) (va_runV (As := [.long (Int64.ofInt ((ctP vu) - 0)), .long (Int64.ofInt ((ctP vv) - 128)), .int 0]) (rest := []) ⟨hx, hb, hml, hown, hts⟩ (c_X5_add l D cI cZ cB cJ H.size m0 m1 m2 m3 m4 m5 m6 m7 m8 m9 ma (nI 0) wd ht pn (cn + 1) fl bf bt xn ip ps (vp_updL gx cn (Int64.ofInt ((ctP vx) - 0))) (vp_updL gy cn (Int64.ofInt ((ctP vy) - 128))) (upd gb cn 1) (Int64.ofInt ((ctP vu) - 0)) (Int64.ofInt ((ctP vv) - 128)) 0 (by omega) (by first | exact Or.inl rfl | exact Or.inr rfl)) (cwV 3 hts gX5_hair_X5_add rfl rfl rfl (by decide +kernel) ⟨Nat.le_of_ble_eq_true rfl, Nat.le_of_ble_eq_true rfl⟩) (q_preV (q_pre (wc := [(m0, .inr (5, [.int (nI 0), .int (nI wd), .int (nI ht), .int (nI pn), .ref m1, .ref m2, .ref m3, .int (nI (cn + 1)), .ref m4, .ref m5, .ref m6, .int fl, .int (nI bf), .int (nI bt), .int (nI xn), .ref m7, .ref m8, .ref m9, .int ip, .int (nI ps), .ref ma])), (m4, .inl (cJ, 100, .inr (.inl (vp_updL gx cn (Int64.ofInt ((ctP vx) - 0)))))), (m5, .inl (cJ, 100, .inr (.inl (vp_updL gy cn (Int64.ofInt ((ctP vy) - 128)))))), (m6, .inl (cZ, 100, .inl (upd gb cn 1)))]) hP hD hK hN [0, 1, 2, 3] (by decide) rfl) (va_recv hK hP (ci := 5) (q0 := 0) rfl rfl)) rfl rfl hl.1 rfl (lv_room (Nat.le_of_ble_eq_true rfl)) dX5_hair_239 ⟨Nat.zero_le _, Nat.zero_le _⟩) hS hA hP hD [0, 1, 2, 3] [] rfl rfl (by decide) (by decide) (fun u H locs hp_239 hP hD hS => ?_)
    have hP : va_P D qCl [(m0, .inr (5, [.int (nI 0), .int (nI wd), .int (nI ht), .int (nI pn), .ref m1, .ref m2, .ref m3, .int (nI ((cn + 1) + 1)), .ref m4, .ref m5, .ref m6, .int fl, .int (nI bf), .int (nI bt), .int (nI xn), .ref m7, .ref m8, .ref m9, .int ip, .int (nI ps), .ref ma])), (m4, .inl (cJ, 100, .inr (.inl (vp_updL (vp_updL gx cn (Int64.ofInt ((ctP vx) - 0))) (cn + 1) (Int64.ofInt ((ctP vu) - 0)))))), (m5, .inl (cJ, 100, .inr (.inl (vp_updL (vp_updL gy cn (Int64.ofInt ((ctP vy) - 128))) (cn + 1) (Int64.ofInt ((ctP vv) - 128)))))), (m6, .inl (cZ, 100, .inl (upd (upd gb cn 1) (cn + 1) 0)))] H := hP
    have hD : va_D A [(m0, .inr (5, [.int (nI 0), .int (nI wd), .int (nI ht), .int (nI pn), .ref m1, .ref m2, .ref m3, .int (nI ((cn + 1) + 1)), .ref m4, .ref m5, .ref m6, .int fl, .int (nI bf), .int (nI bt), .int (nI xn), .ref m7, .ref m8, .ref m9, .int ip, .int (nI ps), .ref ma])), (m4, .inl (cJ, 100, .inr (.inl (vp_updL (vp_updL gx cn (Int64.ofInt ((ctP vx) - 0))) (cn + 1) (Int64.ofInt ((ctP vu) - 0)))))), (m5, .inl (cJ, 100, .inr (.inl (vp_updL (vp_updL gy cn (Int64.ofInt ((ctP vy) - 128))) (cn + 1) (Int64.ofInt ((ctP vv) - 128)))))), (m6, .inl (cZ, 100, .inl (upd (upd gb cn 1) (cn + 1) 0)))] := hD
    refine lv_aload_n hx hb dX5_hair_242 rfl (lv_at hl 8 rfl) ?_
    refine lv_lload hx hb dX5_hair_243 (lv_at hl 5 rfl) ?_
    refine lv_lload hx hb dX5_hair_245 (lv_at hl 1 rfl) ?_
    refine lv_ladd hx hb dX5_hair_247 ?_
    refine q_eql (y := Int64.ofInt ((ctP vu) + 0)) (by exact w_add _ 0) ?_
    refine lv_lload hx hb dX5_hair_248 (lv_at hl 4 rfl) ?_
    refine lv_lload hx hb dX5_hair_250 (lv_at hl 0 rfl) ?_
    refine lv_ladd hx hb dX5_hair_252 ?_
    refine q_eql (y := Int64.ofInt ((ctP vv) + 128)) (by exact w_add _ 128) ?_
    refine lv_iconst (v := nI 0) hx hb dX5_hair_253 (by decide) ?_
    refine q_eqi (y := 0) (by decide) ?_
    refine q_v0 (wr := []) (va_runV (As := [.long (Int64.ofInt ((ctP vu) + 0)), .long (Int64.ofInt ((ctP vv) + 128)), .int 0]) (rest := []) ⟨hx, hb, hml, hown, hts⟩ (c_X5_add l D cI cZ cB cJ H.size m0 m1 m2 m3 m4 m5 m6 m7 m8 m9 ma (nI 0) wd ht pn ((cn + 1) + 1) fl bf bt xn ip ps (vp_updL (vp_updL gx cn (Int64.ofInt ((ctP vx) - 0))) (cn + 1) (Int64.ofInt ((ctP vu) - 0))) (vp_updL (vp_updL gy cn (Int64.ofInt ((ctP vy) - 128))) (cn + 1) (Int64.ofInt ((ctP vv) - 128))) (upd (upd gb cn 1) (cn + 1) 0) (Int64.ofInt ((ctP vu) + 0)) (Int64.ofInt ((ctP vv) + 128)) 0 (by omega) (by first | exact Or.inl rfl | exact Or.inr rfl)) (cwV 3 hts gX5_hair_X5_add rfl rfl rfl (by decide +kernel) ⟨Nat.le_of_ble_eq_true rfl, Nat.le_of_ble_eq_true rfl⟩) (q_preV (q_pre (wc := [(m0, .inr (5, [.int (nI 0), .int (nI wd), .int (nI ht), .int (nI pn), .ref m1, .ref m2, .ref m3, .int (nI ((cn + 1) + 1)), .ref m4, .ref m5, .ref m6, .int fl, .int (nI bf), .int (nI bt), .int (nI xn), .ref m7, .ref m8, .ref m9, .int ip, .int (nI ps), .ref ma])), (m4, .inl (cJ, 100, .inr (.inl (vp_updL (vp_updL gx cn (Int64.ofInt ((ctP vx) - 0))) (cn + 1) (Int64.ofInt ((ctP vu) - 0)))))), (m5, .inl (cJ, 100, .inr (.inl (vp_updL (vp_updL gy cn (Int64.ofInt ((ctP vy) - 128))) (cn + 1) (Int64.ofInt ((ctP vv) - 128)))))), (m6, .inl (cZ, 100, .inl (upd (upd gb cn 1) (cn + 1) 0)))]) hP hD hK hN [0, 1, 2, 3] (by decide) rfl) (va_recv hK hP (ci := 5) (q0 := 0) rfl rfl)) rfl rfl hl.1 rfl (lv_room (Nat.le_of_ble_eq_true rfl)) dX5_hair_254 ⟨Nat.zero_le _, Nat.zero_le _⟩) hS hA hP hD [0, 1, 2, 3] [] rfl rfl (by decide) (by decide) (fun u H locs hp_254 hP hD hS => ?_)
    have hP : va_P D qCl [(m0, .inr (5, [.int (nI 0), .int (nI wd), .int (nI ht), .int (nI pn), .ref m1, .ref m2, .ref m3, .int (nI (((cn + 1) + 1) + 1)), .ref m4, .ref m5, .ref m6, .int fl, .int (nI bf), .int (nI bt), .int (nI xn), .ref m7, .ref m8, .ref m9, .int ip, .int (nI ps), .ref ma])), (m4, .inl (cJ, 100, .inr (.inl (vp_updL (vp_updL (vp_updL gx cn (Int64.ofInt ((ctP vx) - 0))) (cn + 1) (Int64.ofInt ((ctP vu) - 0))) ((cn + 1) + 1) (Int64.ofInt ((ctP vu) + 0)))))), (m5, .inl (cJ, 100, .inr (.inl (vp_updL (vp_updL (vp_updL gy cn (Int64.ofInt ((ctP vy) - 128))) (cn + 1) (Int64.ofInt ((ctP vv) - 128))) ((cn + 1) + 1) (Int64.ofInt ((ctP vv) + 128)))))), (m6, .inl (cZ, 100, .inl (upd (upd (upd gb cn 1) (cn + 1) 0) ((cn + 1) + 1) 0)))] H := hP
    have hD : va_D A [(m0, .inr (5, [.int (nI 0), .int (nI wd), .int (nI ht), .int (nI pn), .ref m1, .ref m2, .ref m3, .int (nI (((cn + 1) + 1) + 1)), .ref m4, .ref m5, .ref m6, .int fl, .int (nI bf), .int (nI bt), .int (nI xn), .ref m7, .ref m8, .ref m9, .int ip, .int (nI ps), .ref ma])), (m4, .inl (cJ, 100, .inr (.inl (vp_updL (vp_updL (vp_updL gx cn (Int64.ofInt ((ctP vx) - 0))) (cn + 1) (Int64.ofInt ((ctP vu) - 0))) ((cn + 1) + 1) (Int64.ofInt ((ctP vu) + 0)))))), (m5, .inl (cJ, 100, .inr (.inl (vp_updL (vp_updL (vp_updL gy cn (Int64.ofInt ((ctP vy) - 128))) (cn + 1) (Int64.ofInt ((ctP vv) - 128))) ((cn + 1) + 1) (Int64.ofInt ((ctP vv) + 128)))))), (m6, .inl (cZ, 100, .inl (upd (upd (upd gb cn 1) (cn + 1) 0) ((cn + 1) + 1) 0)))] := hD
    refine lv_aload_n hx hb dX5_hair_257 rfl (lv_at hl 8 rfl) ?_
    refine lv_lload hx hb dX5_hair_258 (lv_at hl 7 rfl) ?_
    refine lv_lload hx hb dX5_hair_260 (lv_at hl 1 rfl) ?_
    refine lv_ladd hx hb dX5_hair_262 ?_
    refine q_eql (y := Int64.ofInt ((ctP vx) + 0)) (by exact w_add _ 0) ?_
    refine lv_lload hx hb dX5_hair_263 (lv_at hl 6 rfl) ?_
    refine lv_lload hx hb dX5_hair_265 (lv_at hl 0 rfl) ?_
    refine lv_ladd hx hb dX5_hair_267 ?_
    refine q_eql (y := Int64.ofInt ((ctP vy) + 128)) (by exact w_add _ 128) ?_
    refine lv_iconst (v := nI 0) hx hb dX5_hair_268 (by decide) ?_
    refine q_eqi (y := 0) (by decide) ?_
    refine q_v0 (wr := []) (va_runV (As := [.long (Int64.ofInt ((ctP vx) + 0)), .long (Int64.ofInt ((ctP vy) + 128)), .int 0]) (rest := []) ⟨hx, hb, hml, hown, hts⟩ (c_X5_add l D cI cZ cB cJ H.size m0 m1 m2 m3 m4 m5 m6 m7 m8 m9 ma (nI 0) wd ht pn (((cn + 1) + 1) + 1) fl bf bt xn ip ps (vp_updL (vp_updL (vp_updL gx cn (Int64.ofInt ((ctP vx) - 0))) (cn + 1) (Int64.ofInt ((ctP vu) - 0))) ((cn + 1) + 1) (Int64.ofInt ((ctP vu) + 0))) (vp_updL (vp_updL (vp_updL gy cn (Int64.ofInt ((ctP vy) - 128))) (cn + 1) (Int64.ofInt ((ctP vv) - 128))) ((cn + 1) + 1) (Int64.ofInt ((ctP vv) + 128))) (upd (upd (upd gb cn 1) (cn + 1) 0) ((cn + 1) + 1) 0) (Int64.ofInt ((ctP vx) + 0)) (Int64.ofInt ((ctP vy) + 128)) 0 (by omega) (by first | exact Or.inl rfl | exact Or.inr rfl)) (cwV 3 hts gX5_hair_X5_add rfl rfl rfl (by decide +kernel) ⟨Nat.le_of_ble_eq_true rfl, Nat.le_of_ble_eq_true rfl⟩) (q_preV (q_pre (wc := [(m0, .inr (5, [.int (nI 0), .int (nI wd), .int (nI ht), .int (nI pn), .ref m1, .ref m2, .ref m3, .int (nI (((cn + 1) + 1) + 1)), .ref m4, .ref m5, .ref m6, .int fl, .int (nI bf), .int (nI bt), .int (nI xn), .ref m7, .ref m8, .ref m9, .int ip, .int (nI ps), .ref ma])), (m4, .inl (cJ, 100, .inr (.inl (vp_updL (vp_updL (vp_updL gx cn (Int64.ofInt ((ctP vx) - 0))) (cn + 1) (Int64.ofInt ((ctP vu) - 0))) ((cn + 1) + 1) (Int64.ofInt ((ctP vu) + 0)))))), (m5, .inl (cJ, 100, .inr (.inl (vp_updL (vp_updL (vp_updL gy cn (Int64.ofInt ((ctP vy) - 128))) (cn + 1) (Int64.ofInt ((ctP vv) - 128))) ((cn + 1) + 1) (Int64.ofInt ((ctP vv) + 128)))))), (m6, .inl (cZ, 100, .inl (upd (upd (upd gb cn 1) (cn + 1) 0) ((cn + 1) + 1) 0)))]) hP hD hK hN [0, 1, 2, 3] (by decide) rfl) (va_recv hK hP (ci := 5) (q0 := 0) rfl rfl)) rfl rfl hl.1 rfl (lv_room (Nat.le_of_ble_eq_true rfl)) dX5_hair_269 ⟨Nat.zero_le _, Nat.zero_le _⟩) hS hA hP hD [0, 1, 2, 3] [] rfl rfl (by decide) (by decide) (fun u H locs hp_269 hP hD hS => ?_)
    have hP : va_P D qCl [(m0, .inr (5, [.int (nI 0), .int (nI wd), .int (nI ht), .int (nI pn), .ref m1, .ref m2, .ref m3, .int (nI ((((cn + 1) + 1) + 1) + 1)), .ref m4, .ref m5, .ref m6, .int fl, .int (nI bf), .int (nI bt), .int (nI xn), .ref m7, .ref m8, .ref m9, .int ip, .int (nI ps), .ref ma])), (m4, .inl (cJ, 100, .inr (.inl (vp_updL (vp_updL (vp_updL (vp_updL gx cn (Int64.ofInt ((ctP vx) - 0))) (cn + 1) (Int64.ofInt ((ctP vu) - 0))) ((cn + 1) + 1) (Int64.ofInt ((ctP vu) + 0))) (((cn + 1) + 1) + 1) (Int64.ofInt ((ctP vx) + 0)))))), (m5, .inl (cJ, 100, .inr (.inl (vp_updL (vp_updL (vp_updL (vp_updL gy cn (Int64.ofInt ((ctP vy) - 128))) (cn + 1) (Int64.ofInt ((ctP vv) - 128))) ((cn + 1) + 1) (Int64.ofInt ((ctP vv) + 128))) (((cn + 1) + 1) + 1) (Int64.ofInt ((ctP vy) + 128)))))), (m6, .inl (cZ, 100, .inl (upd (upd (upd (upd gb cn 1) (cn + 1) 0) ((cn + 1) + 1) 0) (((cn + 1) + 1) + 1) 0)))] H := hP
    have hD : va_D A [(m0, .inr (5, [.int (nI 0), .int (nI wd), .int (nI ht), .int (nI pn), .ref m1, .ref m2, .ref m3, .int (nI ((((cn + 1) + 1) + 1) + 1)), .ref m4, .ref m5, .ref m6, .int fl, .int (nI bf), .int (nI bt), .int (nI xn), .ref m7, .ref m8, .ref m9, .int ip, .int (nI ps), .ref ma])), (m4, .inl (cJ, 100, .inr (.inl (vp_updL (vp_updL (vp_updL (vp_updL gx cn (Int64.ofInt ((ctP vx) - 0))) (cn + 1) (Int64.ofInt ((ctP vu) - 0))) ((cn + 1) + 1) (Int64.ofInt ((ctP vu) + 0))) (((cn + 1) + 1) + 1) (Int64.ofInt ((ctP vx) + 0)))))), (m5, .inl (cJ, 100, .inr (.inl (vp_updL (vp_updL (vp_updL (vp_updL gy cn (Int64.ofInt ((ctP vy) - 128))) (cn + 1) (Int64.ofInt ((ctP vv) - 128))) ((cn + 1) + 1) (Int64.ofInt ((ctP vv) + 128))) (((cn + 1) + 1) + 1) (Int64.ofInt ((ctP vy) + 128)))))), (m6, .inl (cZ, 100, .inl (upd (upd (upd (upd gb cn 1) (cn + 1) 0) ((cn + 1) + 1) 0) (((cn + 1) + 1) + 1) 0)))] := hD
    refine lv_aload_n hx hb dX5_hair_272 rfl (lv_at hl 8 rfl) ?_
    refine va_get (D := D) (ci := 5) (v := .int (nI ((((cn + 1) + 1) + 1) + 1))) (C := RX5) (T := TX5) (N := 21) hx hb hts iX5 hown hK hP 0 rfl rfl 7 (by decide) f_62 (fun _ h9 => h9) rfl dX5_hair_273 ?_
    have hr9 : (nI ((((cn + 1) + 1) + 1) + 1)) = nI (cn + 1 + 1 + 1 + 1) ∧ (PathM (vp_updL (vp_updL (vp_updL (vp_updL gx cn (Int64.ofInt ((ctP vx) - 0))) (cn + 1) (Int64.ofInt ((ctP vu) - 0))) ((cn + 1) + 1) (Int64.ofInt ((ctP vu) + 0))) (((cn + 1) + 1) + 1) (Int64.ofInt ((ctP vx) + 0))) (vp_updL (vp_updL (vp_updL (vp_updL gy cn (Int64.ofInt ((ctP vy) - 128))) (cn + 1) (Int64.ofInt ((ctP vv) - 128))) ((cn + 1) + 1) (Int64.ofInt ((ctP vv) + 128))) (((cn + 1) + 1) + 1) (Int64.ofInt ((ctP vy) + 128))) (upd (upd (upd (upd gb cn 1) (cn + 1) 0) ((cn + 1) + 1) 0) (((cn + 1) + 1) + 1) 0) (hairX X cn (ctP vx) (ctP vy) (ctP vu) (ctP vv)) (hairY Y cn (ctP vx) (ctP vy) (ctP vu) (ctP vv)) (hrB bg cn) (cn + 1 + 1 + 1 + 1)) := ⟨rfl, (by rw [(hair_flat hne h_93 X Y cn).1, (hair_flat hne h_93 X Y cn).2]; exact PathM_add4 hR hc4 (by constructor <;> omega) (by constructor <;> omega) (by constructor <;> omega) (by constructor <;> omega) (by constructor <;> omega) (by constructor <;> omega) (by constructor <;> omega) (by constructor <;> omega))⟩
    exact hQ _ _ _ _ (nI ((((cn + 1) + 1) + 1) + 1)) (vp_updL (vp_updL (vp_updL (vp_updL gx cn (Int64.ofInt ((ctP vx) - 0))) (cn + 1) (Int64.ofInt ((ctP vu) - 0))) ((cn + 1) + 1) (Int64.ofInt ((ctP vu) + 0))) (((cn + 1) + 1) + 1) (Int64.ofInt ((ctP vx) + 0)), vp_updL (vp_updL (vp_updL (vp_updL gy cn (Int64.ofInt ((ctP vy) - 128))) (cn + 1) (Int64.ofInt ((ctP vv) - 128))) ((cn + 1) + 1) (Int64.ofInt ((ctP vv) + 128))) (((cn + 1) + 1) + 1) (Int64.ofInt ((ctP vy) + 128)), upd (upd (upd (upd gb cn 1) (cn + 1) 0) ((cn + 1) + 1) 0) (((cn + 1) + 1) + 1) 0) _ _ dX5_hair_276 (Nat.le_refl _) (Nat.le_refl _) hr9 (hP.sub [0, 1, 2, 3] rfl) hK (hD.sub [0, 1, 2, 3] (by decide) rfl) hS
  refine lv_lload hx hb dX5_hair_53 (lv_at hl 3 rfl) ?_
  refine lv_lload hx hb dX5_hair_55 (lv_at hl 1 rfl) ?_
  refine W.lcmp hx hb dX5_hair_57 ?_
  refine lv_if_ne (tgt := 73) hx hb dX5_hair_58 (by decide) (fun h_58 => ?_) (fun h_58 => ?_)
  · rw [lgc_eq, j_eq, w_t (by omega) (by omega), w_t (by omega) (by omega)] at h_58
    exact J_73 (fun z => h_58 z.1) _ _ _ (hP.sub [0, 1, 2, 3] rfl) (hD.sub [0, 1, 2, 3] (by decide) rfl) hS (lv_sub hl [0, 1, 2, 3, 4, 5, 6, 7, 8] rfl)
  rw [lgc_eq, j_eq, w_t (by omega) (by omega), w_t (by omega) (by omega)] at h_58
  refine lv_lload hx hb dX5_hair_61 (lv_at hl 2 rfl) ?_
  refine lv_lload hx hb dX5_hair_63 (lv_at hl 0 rfl) ?_
  refine W.lcmp hx hb dX5_hair_65 ?_
  refine lv_if_ne (tgt := 73) hx hb dX5_hair_66 (by decide) (fun h_66 => ?_) (fun h_66 => ?_)
  · rw [lgc_eq, j_eq, w_t (by omega) (by omega), w_t (by omega) (by omega)] at h_66
    exact J_73 (fun z => h_66 z.2) _ _ _ (hP.sub [0, 1, 2, 3] rfl) (hD.sub [0, 1, 2, 3] (by decide) rfl) hS (lv_sub hl [0, 1, 2, 3, 4, 5, 6, 7, 8] rfl)
  rw [lgc_eq, j_eq, w_t (by omega) (by omega), w_t (by omega) (by omega)] at h_66
  refine lv_iconst (v := nI 1) hx hb dX5_hair_69 (by decide) ?_
  refine lv_goto (tgt := 74) hx hb dX5_hair_70 (by decide) ?_
  refine lv_istore (lv' := [(17, .int (nI 1)), (15, .long (Int64.ofInt (ctP vv))), (13, .long (Int64.ofInt (ctP vu))), (11, .long (Int64.ofInt (ctP vy))), (9, .long (Int64.ofInt (ctP vx))), (0, .ref m0), (1, .long vx), (3, .long vy), (5, .long vu), (7, .long vv)]) hx hb dX5_hair_74 hl (by decide) rfl (fun ls hl => ?_)
  refine lv_lload hx hb dX5_hair_76 (lv_at hl 2 rfl) ?_
  refine lv_lload hx hb dX5_hair_78 (lv_at hl 4 rfl) ?_
  refine lv_lsub hx hb dX5_hair_80 ?_
  refine q_eql (y := Int64.ofInt ((ctP vu) - (ctP vx))) (by exact w_sub _ _) ?_
  refine q_l0 (wr := [(m0, .inr (5, [.int (nI 0), .int (nI wd), .int (nI ht), .int (nI pn), .ref m1, .ref m2, .ref m3, .int (nI cn), .ref m4, .ref m5, .ref m6, .int fl, .int (nI bf), .int (nI bt), .int (nI xn), .ref m7, .ref m8, .ref m9, .int ip, .int (nI ps), .ref ma])), (m4, .inl (cJ, 100, .inr (.inl gx))), (m5, .inl (cJ, 100, .inr (.inl gy))), (m6, .inl (cZ, 100, .inl gb))]) (va_runS (As := [.long (Int64.ofInt ((ctP vu) - (ctP vx)))]) (rest := []) ⟨hx, hb, hml, hown, hts⟩ (c_X5_size l D cI cZ cB cJ H.size ((ctP vu) - (ctP vx)) (by omega) (by omega)) (va_cwS 1 hts gX5_hair_X5_size rfl rfl rfl (by decide +kernel) ⟨Nat.le_of_ble_eq_true rfl, Nat.le_of_ble_eq_true rfl⟩) (q_pre (wc := []) hP hD hK hN [] (by decide) rfl) rfl rfl hl.1 rfl (lv_room (Nat.le_of_ble_eq_true rfl)) dX5_hair_81 ⟨Nat.zero_le _, Nat.zero_le _⟩) hS hA hP hD [] [0, 1, 2, 3] rfl rfl (by decide) (by decide) (fun r_81 u H locs hp_81 hP hD hS => ?_)
  have hP : va_P D qCl [(m0, .inr (5, [.int (nI 0), .int (nI wd), .int (nI ht), .int (nI pn), .ref m1, .ref m2, .ref m3, .int (nI cn), .ref m4, .ref m5, .ref m6, .int fl, .int (nI bf), .int (nI bt), .int (nI xn), .ref m7, .ref m8, .ref m9, .int ip, .int (nI ps), .ref ma])), (m4, .inl (cJ, 100, .inr (.inl gx))), (m5, .inl (cJ, 100, .inr (.inl gy))), (m6, .inl (cZ, 100, .inl gb))] H := hP
  have hD : va_D A [(m0, .inr (5, [.int (nI 0), .int (nI wd), .int (nI ht), .int (nI pn), .ref m1, .ref m2, .ref m3, .int (nI cn), .ref m4, .ref m5, .ref m6, .int fl, .int (nI bf), .int (nI bt), .int (nI xn), .ref m7, .ref m8, .ref m9, .int ip, .int (nI ps), .ref ma])), (m4, .inl (cJ, 100, .inr (.inl gx))), (m5, .inl (cJ, 100, .inr (.inl gy))), (m6, .inl (cZ, 100, .inl gb))] := hD
  have hp_81 : r_81 = Int64.ofInt (((ctP vu) - (ctP vx)).natAbs : Int) := hp_81
  subst hp_81
  refine lv_lload hx hb dX5_hair_84 (lv_at hl 1 rfl) ?_
  refine lv_lload hx hb dX5_hair_86 (lv_at hl 3 rfl) ?_
  refine lv_lsub hx hb dX5_hair_88 ?_
  refine q_eql (y := Int64.ofInt ((ctP vv) - (ctP vy))) (by exact w_sub _ _) ?_
  refine q_l0 (wr := [(m0, .inr (5, [.int (nI 0), .int (nI wd), .int (nI ht), .int (nI pn), .ref m1, .ref m2, .ref m3, .int (nI cn), .ref m4, .ref m5, .ref m6, .int fl, .int (nI bf), .int (nI bt), .int (nI xn), .ref m7, .ref m8, .ref m9, .int ip, .int (nI ps), .ref ma])), (m4, .inl (cJ, 100, .inr (.inl gx))), (m5, .inl (cJ, 100, .inr (.inl gy))), (m6, .inl (cZ, 100, .inl gb))]) (va_runS (As := [.long (Int64.ofInt ((ctP vv) - (ctP vy)))]) (rest := [.long (Int64.ofInt (((ctP vu) - (ctP vx)).natAbs : Int))]) ⟨hx, hb, hml, hown, hts⟩ (c_X5_size l D cI cZ cB cJ H.size ((ctP vv) - (ctP vy)) (by omega) (by omega)) (va_cwS 1 hts gX5_hair_X5_size rfl rfl rfl (by decide +kernel) ⟨Nat.le_of_ble_eq_true rfl, Nat.le_of_ble_eq_true rfl⟩) (q_pre (wc := []) hP hD hK hN [] (by decide) rfl) rfl rfl hl.1 rfl (lv_room (Nat.le_of_ble_eq_true rfl)) dX5_hair_89 ⟨Nat.zero_le _, Nat.zero_le _⟩) hS hA hP hD [] [0, 1, 2, 3] rfl rfl (by decide) (by decide) (fun r_89 u H locs hp_89 hP hD hS => ?_)
  have hP : va_P D qCl [(m0, .inr (5, [.int (nI 0), .int (nI wd), .int (nI ht), .int (nI pn), .ref m1, .ref m2, .ref m3, .int (nI cn), .ref m4, .ref m5, .ref m6, .int fl, .int (nI bf), .int (nI bt), .int (nI xn), .ref m7, .ref m8, .ref m9, .int ip, .int (nI ps), .ref ma])), (m4, .inl (cJ, 100, .inr (.inl gx))), (m5, .inl (cJ, 100, .inr (.inl gy))), (m6, .inl (cZ, 100, .inl gb))] H := hP
  have hD : va_D A [(m0, .inr (5, [.int (nI 0), .int (nI wd), .int (nI ht), .int (nI pn), .ref m1, .ref m2, .ref m3, .int (nI cn), .ref m4, .ref m5, .ref m6, .int fl, .int (nI bf), .int (nI bt), .int (nI xn), .ref m7, .ref m8, .ref m9, .int ip, .int (nI ps), .ref ma])), (m4, .inl (cJ, 100, .inr (.inl gx))), (m5, .inl (cJ, 100, .inr (.inl gy))), (m6, .inl (cZ, 100, .inl gb))] := hD
  have hp_89 : r_89 = Int64.ofInt (((ctP vv) - (ctP vy)).natAbs : Int) := hp_89
  subst hp_89
  refine W.lcmp hx hb dX5_hair_92 ?_
  refine lv_if_lt (tgt := 100) hx hb dX5_hair_93 (by decide) (fun h_93 => ?_) (fun h_93 => ?_)
  · have h_93 : ¬ (ctP vv - ctP vy).natAbs ≤ (ctP vu - ctP vx).natAbs := by rw [lgc_lt, j_lt, w_t (by omega) (by omega), w_t (by omega) (by omega)] at h_93; omega
    refine lv_iconst (v := nI 0) hx hb dX5_hair_100 (by decide) ?_
    refine lv_istore (lv' := [(18, .int (nI 0)), (17, .int (nI 1)), (15, .long (Int64.ofInt (ctP vv))), (13, .long (Int64.ofInt (ctP vu))), (11, .long (Int64.ofInt (ctP vy))), (9, .long (Int64.ofInt (ctP vx))), (0, .ref m0), (1, .long vx), (3, .long vy), (5, .long vu), (7, .long vv)]) hx hb dX5_hair_101 hl (by decide) rfl (fun ls hl => ?_)
    refine lv_iload hx hb dX5_hair_103 (lv_at hl 0 rfl) ?_
    refine q_if_eq (tgt := 117) hx hb (by omega) dX5_hair_105 (by decide) (fun h_105 => ?_) (fun h_105 => by omega)
    refine lv_ldc2 hx hb hown k_76 dX5_hair_117 ?_
    refine lv_lstore (lv' := [(19, .long 128), (18, .int (nI 0)), (17, .int (nI 1)), (15, .long (Int64.ofInt (ctP vv))), (13, .long (Int64.ofInt (ctP vu))), (11, .long (Int64.ofInt (ctP vy))), (9, .long (Int64.ofInt (ctP vx))), (0, .ref m0), (1, .long vx), (3, .long vy), (5, .long vu), (7, .long vv)]) hx hb dX5_hair_120 hl (by decide) rfl (fun ls hl => ?_)
    refine lv_iload hx hb dX5_hair_122 (lv_at hl 1 rfl) ?_
    refine q_if_eq (tgt := 133) hx hb (by omega) dX5_hair_124 (by decide) (fun h_124 => ?_) (fun h_124 => by omega)
    refine lv_lconst (v := 0) hx hb dX5_hair_133 (by decide) ?_
    refine lv_lstore (lv' := [(21, .long 0), (19, .long 128), (18, .int (nI 0)), (17, .int (nI 1)), (15, .long (Int64.ofInt (ctP vv))), (13, .long (Int64.ofInt (ctP vu))), (11, .long (Int64.ofInt (ctP vy))), (9, .long (Int64.ofInt (ctP vx))), (0, .ref m0), (1, .long vx), (3, .long vy), (5, .long vu), (7, .long vv)]) hx hb dX5_hair_134 hl (by decide) rfl (fun ls hl => ?_)
    refine lv_iload hx hb dX5_hair_136 (lv_at hl 3 rfl) ?_
    refine q_if_eq (tgt := 212) hx hb (by omega) dX5_hair_138 (by decide) (fun h_138 => by omega) (fun h_138 => ?_)
    refine lv_aload_n hx hb dX5_hair_141 rfl (lv_at hl 8 rfl) ?_
    refine lv_lload hx hb dX5_hair_142 (lv_at hl 7 rfl) ?_
    refine lv_ldc2 hx hb hown k_76 dX5_hair_144 ?_
    refine lv_lsub hx hb dX5_hair_147 ?_
    refine q_eql (y := Int64.ofInt ((ctP vx) - 128)) (by exact w_sub _ 128) ?_
    refine lv_lload hx hb dX5_hair_148 (lv_at hl 6 rfl) ?_
    refine lv_ldc2 hx hb hown k_76 dX5_hair_150 ?_
    refine lv_lsub hx hb dX5_hair_153 ?_
    refine q_eql (y := Int64.ofInt ((ctP vy) - 128)) (by exact w_sub _ 128) ?_
    refine lv_iconst (v := nI 1) hx hb dX5_hair_154 (by decide) ?_
    refine q_eqi (y := 1) (by decide) ?_
    refine q_v0 (wr := []) (va_runV (As := [.long (Int64.ofInt ((ctP vx) - 128)), .long (Int64.ofInt ((ctP vy) - 128)), .int 1]) (rest := []) ⟨hx, hb, hml, hown, hts⟩ (c_X5_add l D cI cZ cB cJ H.size m0 m1 m2 m3 m4 m5 m6 m7 m8 m9 ma (nI 0) wd ht pn cn fl bf bt xn ip ps gx gy gb (Int64.ofInt ((ctP vx) - 128)) (Int64.ofInt ((ctP vy) - 128)) 1 (by omega) (by first | exact Or.inl rfl | exact Or.inr rfl)) (cwV 3 hts gX5_hair_X5_add rfl rfl rfl (by decide +kernel) ⟨Nat.le_of_ble_eq_true rfl, Nat.le_of_ble_eq_true rfl⟩) (q_preV (q_pre (wc := [(m0, .inr (5, [.int (nI 0), .int (nI wd), .int (nI ht), .int (nI pn), .ref m1, .ref m2, .ref m3, .int (nI cn), .ref m4, .ref m5, .ref m6, .int fl, .int (nI bf), .int (nI bt), .int (nI xn), .ref m7, .ref m8, .ref m9, .int ip, .int (nI ps), .ref ma])), (m4, .inl (cJ, 100, .inr (.inl gx))), (m5, .inl (cJ, 100, .inr (.inl gy))), (m6, .inl (cZ, 100, .inl gb))]) hP hD hK hN [0, 1, 2, 3] (by decide) rfl) (va_recv hK hP (ci := 5) (q0 := 0) rfl rfl)) rfl rfl hl.1 rfl (lv_room (Nat.le_of_ble_eq_true rfl)) dX5_hair_155 ⟨Nat.zero_le _, Nat.zero_le _⟩) hS hA hP hD [0, 1, 2, 3] [] rfl rfl (by decide) (by decide) (fun u H locs hp_155 hP hD hS => ?_)
    have hP : va_P D qCl [(m0, .inr (5, [.int (nI 0), .int (nI wd), .int (nI ht), .int (nI pn), .ref m1, .ref m2, .ref m3, .int (nI (cn + 1)), .ref m4, .ref m5, .ref m6, .int fl, .int (nI bf), .int (nI bt), .int (nI xn), .ref m7, .ref m8, .ref m9, .int ip, .int (nI ps), .ref ma])), (m4, .inl (cJ, 100, .inr (.inl (vp_updL gx cn (Int64.ofInt ((ctP vx) - 128)))))), (m5, .inl (cJ, 100, .inr (.inl (vp_updL gy cn (Int64.ofInt ((ctP vy) - 128)))))), (m6, .inl (cZ, 100, .inl (upd gb cn 1)))] H := hP
    have hD : va_D A [(m0, .inr (5, [.int (nI 0), .int (nI wd), .int (nI ht), .int (nI pn), .ref m1, .ref m2, .ref m3, .int (nI (cn + 1)), .ref m4, .ref m5, .ref m6, .int fl, .int (nI bf), .int (nI bt), .int (nI xn), .ref m7, .ref m8, .ref m9, .int ip, .int (nI ps), .ref ma])), (m4, .inl (cJ, 100, .inr (.inl (vp_updL gx cn (Int64.ofInt ((ctP vx) - 128)))))), (m5, .inl (cJ, 100, .inr (.inl (vp_updL gy cn (Int64.ofInt ((ctP vy) - 128)))))), (m6, .inl (cZ, 100, .inl (upd gb cn 1)))] := hD
    refine lv_aload_n hx hb dX5_hair_158 rfl (lv_at hl 8 rfl) ?_
    refine lv_lload hx hb dX5_hair_159 (lv_at hl 7 rfl) ?_
    refine lv_ldc2 hx hb hown k_76 dX5_hair_161 ?_
    refine lv_ladd hx hb dX5_hair_164 ?_
    refine q_eql (y := Int64.ofInt ((ctP vx) + 128)) (by exact w_add _ 128) ?_
    refine lv_lload hx hb dX5_hair_165 (lv_at hl 6 rfl) ?_
    refine lv_ldc2 hx hb hown k_76 dX5_hair_167 ?_
    refine lv_lsub hx hb dX5_hair_170 ?_
    refine q_eql (y := Int64.ofInt ((ctP vy) - 128)) (by exact w_sub _ 128) ?_
    refine lv_iconst (v := nI 0) hx hb dX5_hair_171 (by decide) ?_
    refine q_eqi (y := 0) (by decide) ?_
    refine q_v0 (wr := []) (va_runV (As := [.long (Int64.ofInt ((ctP vx) + 128)), .long (Int64.ofInt ((ctP vy) - 128)), .int 0]) (rest := []) ⟨hx, hb, hml, hown, hts⟩ (c_X5_add l D cI cZ cB cJ H.size m0 m1 m2 m3 m4 m5 m6 m7 m8 m9 ma (nI 0) wd ht pn (cn + 1) fl bf bt xn ip ps (vp_updL gx cn (Int64.ofInt ((ctP vx) - 128))) (vp_updL gy cn (Int64.ofInt ((ctP vy) - 128))) (upd gb cn 1) (Int64.ofInt ((ctP vx) + 128)) (Int64.ofInt ((ctP vy) - 128)) 0 (by omega) (by first | exact Or.inl rfl | exact Or.inr rfl)) (cwV 3 hts gX5_hair_X5_add rfl rfl rfl (by decide +kernel) ⟨Nat.le_of_ble_eq_true rfl, Nat.le_of_ble_eq_true rfl⟩) (q_preV (q_pre (wc := [(m0, .inr (5, [.int (nI 0), .int (nI wd), .int (nI ht), .int (nI pn), .ref m1, .ref m2, .ref m3, .int (nI (cn + 1)), .ref m4, .ref m5, .ref m6, .int fl, .int (nI bf), .int (nI bt), .int (nI xn), .ref m7, .ref m8, .ref m9, .int ip, .int (nI ps), .ref ma])), (m4, .inl (cJ, 100, .inr (.inl (vp_updL gx cn (Int64.ofInt ((ctP vx) - 128)))))), (m5, .inl (cJ, 100, .inr (.inl (vp_updL gy cn (Int64.ofInt ((ctP vy) - 128)))))), (m6, .inl (cZ, 100, .inl (upd gb cn 1)))]) hP hD hK hN [0, 1, 2, 3] (by decide) rfl) (va_recv hK hP (ci := 5) (q0 := 0) rfl rfl)) rfl rfl hl.1 rfl (lv_room (Nat.le_of_ble_eq_true rfl)) dX5_hair_172 ⟨Nat.zero_le _, Nat.zero_le _⟩) hS hA hP hD [0, 1, 2, 3] [] rfl rfl (by decide) (by decide) (fun u H locs hp_172 hP hD hS => ?_)
    have hP : va_P D qCl [(m0, .inr (5, [.int (nI 0), .int (nI wd), .int (nI ht), .int (nI pn), .ref m1, .ref m2, .ref m3, .int (nI ((cn + 1) + 1)), .ref m4, .ref m5, .ref m6, .int fl, .int (nI bf), .int (nI bt), .int (nI xn), .ref m7, .ref m8, .ref m9, .int ip, .int (nI ps), .ref ma])), (m4, .inl (cJ, 100, .inr (.inl (vp_updL (vp_updL gx cn (Int64.ofInt ((ctP vx) - 128))) (cn + 1) (Int64.ofInt ((ctP vx) + 128)))))), (m5, .inl (cJ, 100, .inr (.inl (vp_updL (vp_updL gy cn (Int64.ofInt ((ctP vy) - 128))) (cn + 1) (Int64.ofInt ((ctP vy) - 128)))))), (m6, .inl (cZ, 100, .inl (upd (upd gb cn 1) (cn + 1) 0)))] H := hP
    have hD : va_D A [(m0, .inr (5, [.int (nI 0), .int (nI wd), .int (nI ht), .int (nI pn), .ref m1, .ref m2, .ref m3, .int (nI ((cn + 1) + 1)), .ref m4, .ref m5, .ref m6, .int fl, .int (nI bf), .int (nI bt), .int (nI xn), .ref m7, .ref m8, .ref m9, .int ip, .int (nI ps), .ref ma])), (m4, .inl (cJ, 100, .inr (.inl (vp_updL (vp_updL gx cn (Int64.ofInt ((ctP vx) - 128))) (cn + 1) (Int64.ofInt ((ctP vx) + 128)))))), (m5, .inl (cJ, 100, .inr (.inl (vp_updL (vp_updL gy cn (Int64.ofInt ((ctP vy) - 128))) (cn + 1) (Int64.ofInt ((ctP vy) - 128)))))), (m6, .inl (cZ, 100, .inl (upd (upd gb cn 1) (cn + 1) 0)))] := hD
    refine lv_aload_n hx hb dX5_hair_175 rfl (lv_at hl 8 rfl) ?_
    refine lv_lload hx hb dX5_hair_176 (lv_at hl 7 rfl) ?_
    refine lv_ldc2 hx hb hown k_76 dX5_hair_178 ?_
    refine lv_ladd hx hb dX5_hair_181 ?_
    refine q_eql (y := Int64.ofInt ((ctP vx) + 128)) (by exact w_add _ 128) ?_
    refine lv_lload hx hb dX5_hair_182 (lv_at hl 6 rfl) ?_
    refine lv_ldc2 hx hb hown k_76 dX5_hair_184 ?_
    refine lv_ladd hx hb dX5_hair_187 ?_
    refine q_eql (y := Int64.ofInt ((ctP vy) + 128)) (by exact w_add _ 128) ?_
    refine lv_iconst (v := nI 0) hx hb dX5_hair_188 (by decide) ?_
    refine q_eqi (y := 0) (by decide) ?_
    refine q_v0 (wr := []) (va_runV (As := [.long (Int64.ofInt ((ctP vx) + 128)), .long (Int64.ofInt ((ctP vy) + 128)), .int 0]) (rest := []) ⟨hx, hb, hml, hown, hts⟩ (c_X5_add l D cI cZ cB cJ H.size m0 m1 m2 m3 m4 m5 m6 m7 m8 m9 ma (nI 0) wd ht pn ((cn + 1) + 1) fl bf bt xn ip ps (vp_updL (vp_updL gx cn (Int64.ofInt ((ctP vx) - 128))) (cn + 1) (Int64.ofInt ((ctP vx) + 128))) (vp_updL (vp_updL gy cn (Int64.ofInt ((ctP vy) - 128))) (cn + 1) (Int64.ofInt ((ctP vy) - 128))) (upd (upd gb cn 1) (cn + 1) 0) (Int64.ofInt ((ctP vx) + 128)) (Int64.ofInt ((ctP vy) + 128)) 0 (by omega) (by first | exact Or.inl rfl | exact Or.inr rfl)) (cwV 3 hts gX5_hair_X5_add rfl rfl rfl (by decide +kernel) ⟨Nat.le_of_ble_eq_true rfl, Nat.le_of_ble_eq_true rfl⟩) (q_preV (q_pre (wc := [(m0, .inr (5, [.int (nI 0), .int (nI wd), .int (nI ht), .int (nI pn), .ref m1, .ref m2, .ref m3, .int (nI ((cn + 1) + 1)), .ref m4, .ref m5, .ref m6, .int fl, .int (nI bf), .int (nI bt), .int (nI xn), .ref m7, .ref m8, .ref m9, .int ip, .int (nI ps), .ref ma])), (m4, .inl (cJ, 100, .inr (.inl (vp_updL (vp_updL gx cn (Int64.ofInt ((ctP vx) - 128))) (cn + 1) (Int64.ofInt ((ctP vx) + 128)))))), (m5, .inl (cJ, 100, .inr (.inl (vp_updL (vp_updL gy cn (Int64.ofInt ((ctP vy) - 128))) (cn + 1) (Int64.ofInt ((ctP vy) - 128)))))), (m6, .inl (cZ, 100, .inl (upd (upd gb cn 1) (cn + 1) 0)))]) hP hD hK hN [0, 1, 2, 3] (by decide) rfl) (va_recv hK hP (ci := 5) (q0 := 0) rfl rfl)) rfl rfl hl.1 rfl (lv_room (Nat.le_of_ble_eq_true rfl)) dX5_hair_189 ⟨Nat.zero_le _, Nat.zero_le _⟩) hS hA hP hD [0, 1, 2, 3] [] rfl rfl (by decide) (by decide) (fun u H locs hp_189 hP hD hS => ?_)
    have hP : va_P D qCl [(m0, .inr (5, [.int (nI 0), .int (nI wd), .int (nI ht), .int (nI pn), .ref m1, .ref m2, .ref m3, .int (nI (((cn + 1) + 1) + 1)), .ref m4, .ref m5, .ref m6, .int fl, .int (nI bf), .int (nI bt), .int (nI xn), .ref m7, .ref m8, .ref m9, .int ip, .int (nI ps), .ref ma])), (m4, .inl (cJ, 100, .inr (.inl (vp_updL (vp_updL (vp_updL gx cn (Int64.ofInt ((ctP vx) - 128))) (cn + 1) (Int64.ofInt ((ctP vx) + 128))) ((cn + 1) + 1) (Int64.ofInt ((ctP vx) + 128)))))), (m5, .inl (cJ, 100, .inr (.inl (vp_updL (vp_updL (vp_updL gy cn (Int64.ofInt ((ctP vy) - 128))) (cn + 1) (Int64.ofInt ((ctP vy) - 128))) ((cn + 1) + 1) (Int64.ofInt ((ctP vy) + 128)))))), (m6, .inl (cZ, 100, .inl (upd (upd (upd gb cn 1) (cn + 1) 0) ((cn + 1) + 1) 0)))] H := hP
    have hD : va_D A [(m0, .inr (5, [.int (nI 0), .int (nI wd), .int (nI ht), .int (nI pn), .ref m1, .ref m2, .ref m3, .int (nI (((cn + 1) + 1) + 1)), .ref m4, .ref m5, .ref m6, .int fl, .int (nI bf), .int (nI bt), .int (nI xn), .ref m7, .ref m8, .ref m9, .int ip, .int (nI ps), .ref ma])), (m4, .inl (cJ, 100, .inr (.inl (vp_updL (vp_updL (vp_updL gx cn (Int64.ofInt ((ctP vx) - 128))) (cn + 1) (Int64.ofInt ((ctP vx) + 128))) ((cn + 1) + 1) (Int64.ofInt ((ctP vx) + 128)))))), (m5, .inl (cJ, 100, .inr (.inl (vp_updL (vp_updL (vp_updL gy cn (Int64.ofInt ((ctP vy) - 128))) (cn + 1) (Int64.ofInt ((ctP vy) - 128))) ((cn + 1) + 1) (Int64.ofInt ((ctP vy) + 128)))))), (m6, .inl (cZ, 100, .inl (upd (upd (upd gb cn 1) (cn + 1) 0) ((cn + 1) + 1) 0)))] := hD
    refine lv_aload_n hx hb dX5_hair_192 rfl (lv_at hl 8 rfl) ?_
    refine lv_lload hx hb dX5_hair_193 (lv_at hl 7 rfl) ?_
    refine lv_ldc2 hx hb hown k_76 dX5_hair_195 ?_
    refine lv_lsub hx hb dX5_hair_198 ?_
    refine q_eql (y := Int64.ofInt ((ctP vx) - 128)) (by exact w_sub _ 128) ?_
    refine lv_lload hx hb dX5_hair_199 (lv_at hl 6 rfl) ?_
    refine lv_ldc2 hx hb hown k_76 dX5_hair_201 ?_
    refine lv_ladd hx hb dX5_hair_204 ?_
    refine q_eql (y := Int64.ofInt ((ctP vy) + 128)) (by exact w_add _ 128) ?_
    refine lv_iconst (v := nI 0) hx hb dX5_hair_205 (by decide) ?_
    refine q_eqi (y := 0) (by decide) ?_
    refine q_v0 (wr := []) (va_runV (As := [.long (Int64.ofInt ((ctP vx) - 128)), .long (Int64.ofInt ((ctP vy) + 128)), .int 0]) (rest := []) ⟨hx, hb, hml, hown, hts⟩ (c_X5_add l D cI cZ cB cJ H.size m0 m1 m2 m3 m4 m5 m6 m7 m8 m9 ma (nI 0) wd ht pn (((cn + 1) + 1) + 1) fl bf bt xn ip ps (vp_updL (vp_updL (vp_updL gx cn (Int64.ofInt ((ctP vx) - 128))) (cn + 1) (Int64.ofInt ((ctP vx) + 128))) ((cn + 1) + 1) (Int64.ofInt ((ctP vx) + 128))) (vp_updL (vp_updL (vp_updL gy cn (Int64.ofInt ((ctP vy) - 128))) (cn + 1) (Int64.ofInt ((ctP vy) - 128))) ((cn + 1) + 1) (Int64.ofInt ((ctP vy) + 128))) (upd (upd (upd gb cn 1) (cn + 1) 0) ((cn + 1) + 1) 0) (Int64.ofInt ((ctP vx) - 128)) (Int64.ofInt ((ctP vy) + 128)) 0 (by omega) (by first | exact Or.inl rfl | exact Or.inr rfl)) (cwV 3 hts gX5_hair_X5_add rfl rfl rfl (by decide +kernel) ⟨Nat.le_of_ble_eq_true rfl, Nat.le_of_ble_eq_true rfl⟩) (q_preV (q_pre (wc := [(m0, .inr (5, [.int (nI 0), .int (nI wd), .int (nI ht), .int (nI pn), .ref m1, .ref m2, .ref m3, .int (nI (((cn + 1) + 1) + 1)), .ref m4, .ref m5, .ref m6, .int fl, .int (nI bf), .int (nI bt), .int (nI xn), .ref m7, .ref m8, .ref m9, .int ip, .int (nI ps), .ref ma])), (m4, .inl (cJ, 100, .inr (.inl (vp_updL (vp_updL (vp_updL gx cn (Int64.ofInt ((ctP vx) - 128))) (cn + 1) (Int64.ofInt ((ctP vx) + 128))) ((cn + 1) + 1) (Int64.ofInt ((ctP vx) + 128)))))), (m5, .inl (cJ, 100, .inr (.inl (vp_updL (vp_updL (vp_updL gy cn (Int64.ofInt ((ctP vy) - 128))) (cn + 1) (Int64.ofInt ((ctP vy) - 128))) ((cn + 1) + 1) (Int64.ofInt ((ctP vy) + 128)))))), (m6, .inl (cZ, 100, .inl (upd (upd (upd gb cn 1) (cn + 1) 0) ((cn + 1) + 1) 0)))]) hP hD hK hN [0, 1, 2, 3] (by decide) rfl) (va_recv hK hP (ci := 5) (q0 := 0) rfl rfl)) rfl rfl hl.1 rfl (lv_room (Nat.le_of_ble_eq_true rfl)) dX5_hair_206 ⟨Nat.zero_le _, Nat.zero_le _⟩) hS hA hP hD [0, 1, 2, 3] [] rfl rfl (by decide) (by decide) (fun u H locs hp_206 hP hD hS => ?_)
    have hP : va_P D qCl [(m0, .inr (5, [.int (nI 0), .int (nI wd), .int (nI ht), .int (nI pn), .ref m1, .ref m2, .ref m3, .int (nI ((((cn + 1) + 1) + 1) + 1)), .ref m4, .ref m5, .ref m6, .int fl, .int (nI bf), .int (nI bt), .int (nI xn), .ref m7, .ref m8, .ref m9, .int ip, .int (nI ps), .ref ma])), (m4, .inl (cJ, 100, .inr (.inl (vp_updL (vp_updL (vp_updL (vp_updL gx cn (Int64.ofInt ((ctP vx) - 128))) (cn + 1) (Int64.ofInt ((ctP vx) + 128))) ((cn + 1) + 1) (Int64.ofInt ((ctP vx) + 128))) (((cn + 1) + 1) + 1) (Int64.ofInt ((ctP vx) - 128)))))), (m5, .inl (cJ, 100, .inr (.inl (vp_updL (vp_updL (vp_updL (vp_updL gy cn (Int64.ofInt ((ctP vy) - 128))) (cn + 1) (Int64.ofInt ((ctP vy) - 128))) ((cn + 1) + 1) (Int64.ofInt ((ctP vy) + 128))) (((cn + 1) + 1) + 1) (Int64.ofInt ((ctP vy) + 128)))))), (m6, .inl (cZ, 100, .inl (upd (upd (upd (upd gb cn 1) (cn + 1) 0) ((cn + 1) + 1) 0) (((cn + 1) + 1) + 1) 0)))] H := hP
    have hD : va_D A [(m0, .inr (5, [.int (nI 0), .int (nI wd), .int (nI ht), .int (nI pn), .ref m1, .ref m2, .ref m3, .int (nI ((((cn + 1) + 1) + 1) + 1)), .ref m4, .ref m5, .ref m6, .int fl, .int (nI bf), .int (nI bt), .int (nI xn), .ref m7, .ref m8, .ref m9, .int ip, .int (nI ps), .ref ma])), (m4, .inl (cJ, 100, .inr (.inl (vp_updL (vp_updL (vp_updL (vp_updL gx cn (Int64.ofInt ((ctP vx) - 128))) (cn + 1) (Int64.ofInt ((ctP vx) + 128))) ((cn + 1) + 1) (Int64.ofInt ((ctP vx) + 128))) (((cn + 1) + 1) + 1) (Int64.ofInt ((ctP vx) - 128)))))), (m5, .inl (cJ, 100, .inr (.inl (vp_updL (vp_updL (vp_updL (vp_updL gy cn (Int64.ofInt ((ctP vy) - 128))) (cn + 1) (Int64.ofInt ((ctP vy) - 128))) ((cn + 1) + 1) (Int64.ofInt ((ctP vy) + 128))) (((cn + 1) + 1) + 1) (Int64.ofInt ((ctP vy) + 128)))))), (m6, .inl (cZ, 100, .inl (upd (upd (upd (upd gb cn 1) (cn + 1) 0) ((cn + 1) + 1) 0) (((cn + 1) + 1) + 1) 0)))] := hD
    refine lv_goto (tgt := 272) hx hb dX5_hair_209 (by decide) ?_
    refine lv_aload_n hx hb dX5_hair_272 rfl (lv_at hl 8 rfl) ?_
    refine va_get (D := D) (ci := 5) (v := .int (nI ((((cn + 1) + 1) + 1) + 1))) (C := RX5) (T := TX5) (N := 21) hx hb hts iX5 hown hK hP 0 rfl rfl 7 (by decide) f_62 (fun _ h9 => h9) rfl dX5_hair_273 ?_
    have hr9 : (nI ((((cn + 1) + 1) + 1) + 1)) = nI (cn + 1 + 1 + 1 + 1) ∧ (PathM (vp_updL (vp_updL (vp_updL (vp_updL gx cn (Int64.ofInt ((ctP vx) - 128))) (cn + 1) (Int64.ofInt ((ctP vx) + 128))) ((cn + 1) + 1) (Int64.ofInt ((ctP vx) + 128))) (((cn + 1) + 1) + 1) (Int64.ofInt ((ctP vx) - 128))) (vp_updL (vp_updL (vp_updL (vp_updL gy cn (Int64.ofInt ((ctP vy) - 128))) (cn + 1) (Int64.ofInt ((ctP vy) - 128))) ((cn + 1) + 1) (Int64.ofInt ((ctP vy) + 128))) (((cn + 1) + 1) + 1) (Int64.ofInt ((ctP vy) + 128))) (upd (upd (upd (upd gb cn 1) (cn + 1) 0) ((cn + 1) + 1) 0) (((cn + 1) + 1) + 1) 0) (hairX X cn (ctP vx) (ctP vy) (ctP vu) (ctP vv)) (hairY Y cn (ctP vx) (ctP vy) (ctP vu) (ctP vv)) (hrB bg cn) (cn + 1 + 1 + 1 + 1)) := ⟨rfl, (by rw [(hair_one ⟨h_58, h_66⟩ X Y cn).1, (hair_one ⟨h_58, h_66⟩ X Y cn).2]; exact PathM_add4 hR hc4 (by constructor <;> omega) (by constructor <;> omega) (by constructor <;> omega) (by constructor <;> omega) (by constructor <;> omega) (by constructor <;> omega) (by constructor <;> omega) (by constructor <;> omega))⟩
    exact hQ _ _ _ _ (nI ((((cn + 1) + 1) + 1) + 1)) (vp_updL (vp_updL (vp_updL (vp_updL gx cn (Int64.ofInt ((ctP vx) - 128))) (cn + 1) (Int64.ofInt ((ctP vx) + 128))) ((cn + 1) + 1) (Int64.ofInt ((ctP vx) + 128))) (((cn + 1) + 1) + 1) (Int64.ofInt ((ctP vx) - 128)), vp_updL (vp_updL (vp_updL (vp_updL gy cn (Int64.ofInt ((ctP vy) - 128))) (cn + 1) (Int64.ofInt ((ctP vy) - 128))) ((cn + 1) + 1) (Int64.ofInt ((ctP vy) + 128))) (((cn + 1) + 1) + 1) (Int64.ofInt ((ctP vy) + 128)), upd (upd (upd (upd gb cn 1) (cn + 1) 0) ((cn + 1) + 1) 0) (((cn + 1) + 1) + 1) 0) _ _ dX5_hair_276 (Nat.le_refl _) (Nat.le_refl _) hr9 (hP.sub [0, 1, 2, 3] rfl) hK (hD.sub [0, 1, 2, 3] (by decide) rfl) hS
  have h_93 : (ctP vv - ctP vy).natAbs ≤ (ctP vu - ctP vx).natAbs := by rw [lgc_lt, j_lt, w_t (by omega) (by omega), w_t (by omega) (by omega)] at h_93; omega
  refine lv_iconst (v := nI 1) hx hb dX5_hair_96 (by decide) ?_
  refine lv_goto (tgt := 101) hx hb dX5_hair_97 (by decide) ?_
  refine lv_istore (lv' := [(18, .int (nI 1)), (17, .int (nI 1)), (15, .long (Int64.ofInt (ctP vv))), (13, .long (Int64.ofInt (ctP vu))), (11, .long (Int64.ofInt (ctP vy))), (9, .long (Int64.ofInt (ctP vx))), (0, .ref m0), (1, .long vx), (3, .long vy), (5, .long vu), (7, .long vv)]) hx hb dX5_hair_101 hl (by decide) rfl (fun ls hl => ?_)
  refine lv_iload hx hb dX5_hair_103 (lv_at hl 0 rfl) ?_
  refine q_if_eq (tgt := 117) hx hb (by omega) dX5_hair_105 (by decide) (fun h_105 => by omega) (fun h_105 => ?_)
  refine lv_iload hx hb dX5_hair_108 (lv_at hl 1 rfl) ?_
  refine q_if_ne (tgt := 117) hx hb (by omega) dX5_hair_110 (by decide) (fun h_110 => ?_) (fun h_110 => by omega)
  refine lv_ldc2 hx hb hown k_76 dX5_hair_117 ?_
  refine lv_lstore (lv' := [(19, .long 128), (18, .int (nI 1)), (17, .int (nI 1)), (15, .long (Int64.ofInt (ctP vv))), (13, .long (Int64.ofInt (ctP vu))), (11, .long (Int64.ofInt (ctP vy))), (9, .long (Int64.ofInt (ctP vx))), (0, .ref m0), (1, .long vx), (3, .long vy), (5, .long vu), (7, .long vv)]) hx hb dX5_hair_120 hl (by decide) rfl (fun ls hl => ?_)
  refine lv_iload hx hb dX5_hair_122 (lv_at hl 1 rfl) ?_
  refine q_if_eq (tgt := 133) hx hb (by omega) dX5_hair_124 (by decide) (fun h_124 => by omega) (fun h_124 => ?_)
  refine lv_ldc2 hx hb hown k_76 dX5_hair_127 ?_
  refine lv_goto (tgt := 134) hx hb dX5_hair_130 (by decide) ?_
  refine lv_lstore (lv' := [(21, .long 128), (19, .long 128), (18, .int (nI 1)), (17, .int (nI 1)), (15, .long (Int64.ofInt (ctP vv))), (13, .long (Int64.ofInt (ctP vu))), (11, .long (Int64.ofInt (ctP vy))), (9, .long (Int64.ofInt (ctP vx))), (0, .ref m0), (1, .long vx), (3, .long vy), (5, .long vu), (7, .long vv)]) hx hb dX5_hair_134 hl (by decide) rfl (fun ls hl => ?_)
  refine lv_iload hx hb dX5_hair_136 (lv_at hl 3 rfl) ?_
  refine q_if_eq (tgt := 212) hx hb (by omega) dX5_hair_138 (by decide) (fun h_138 => by omega) (fun h_138 => ?_)
  refine lv_aload_n hx hb dX5_hair_141 rfl (lv_at hl 8 rfl) ?_
  refine lv_lload hx hb dX5_hair_142 (lv_at hl 7 rfl) ?_
  refine lv_ldc2 hx hb hown k_76 dX5_hair_144 ?_
  refine lv_lsub hx hb dX5_hair_147 ?_
  refine q_eql (y := Int64.ofInt ((ctP vx) - 128)) (by exact w_sub _ 128) ?_
  refine lv_lload hx hb dX5_hair_148 (lv_at hl 6 rfl) ?_
  refine lv_ldc2 hx hb hown k_76 dX5_hair_150 ?_
  refine lv_lsub hx hb dX5_hair_153 ?_
  refine q_eql (y := Int64.ofInt ((ctP vy) - 128)) (by exact w_sub _ 128) ?_
  refine lv_iconst (v := nI 1) hx hb dX5_hair_154 (by decide) ?_
  refine q_eqi (y := 1) (by decide) ?_
  refine q_v0 (wr := []) (va_runV (As := [.long (Int64.ofInt ((ctP vx) - 128)), .long (Int64.ofInt ((ctP vy) - 128)), .int 1]) (rest := []) ⟨hx, hb, hml, hown, hts⟩ (c_X5_add l D cI cZ cB cJ H.size m0 m1 m2 m3 m4 m5 m6 m7 m8 m9 ma (nI 0) wd ht pn cn fl bf bt xn ip ps gx gy gb (Int64.ofInt ((ctP vx) - 128)) (Int64.ofInt ((ctP vy) - 128)) 1 (by omega) (by first | exact Or.inl rfl | exact Or.inr rfl)) (cwV 3 hts gX5_hair_X5_add rfl rfl rfl (by decide +kernel) ⟨Nat.le_of_ble_eq_true rfl, Nat.le_of_ble_eq_true rfl⟩) (q_preV (q_pre (wc := [(m0, .inr (5, [.int (nI 0), .int (nI wd), .int (nI ht), .int (nI pn), .ref m1, .ref m2, .ref m3, .int (nI cn), .ref m4, .ref m5, .ref m6, .int fl, .int (nI bf), .int (nI bt), .int (nI xn), .ref m7, .ref m8, .ref m9, .int ip, .int (nI ps), .ref ma])), (m4, .inl (cJ, 100, .inr (.inl gx))), (m5, .inl (cJ, 100, .inr (.inl gy))), (m6, .inl (cZ, 100, .inl gb))]) hP hD hK hN [0, 1, 2, 3] (by decide) rfl) (va_recv hK hP (ci := 5) (q0 := 0) rfl rfl)) rfl rfl hl.1 rfl (lv_room (Nat.le_of_ble_eq_true rfl)) dX5_hair_155 ⟨Nat.zero_le _, Nat.zero_le _⟩) hS hA hP hD [0, 1, 2, 3] [] rfl rfl (by decide) (by decide) (fun u H locs hp_155 hP hD hS => ?_)
  have hP : va_P D qCl [(m0, .inr (5, [.int (nI 0), .int (nI wd), .int (nI ht), .int (nI pn), .ref m1, .ref m2, .ref m3, .int (nI (cn + 1)), .ref m4, .ref m5, .ref m6, .int fl, .int (nI bf), .int (nI bt), .int (nI xn), .ref m7, .ref m8, .ref m9, .int ip, .int (nI ps), .ref ma])), (m4, .inl (cJ, 100, .inr (.inl (vp_updL gx cn (Int64.ofInt ((ctP vx) - 128)))))), (m5, .inl (cJ, 100, .inr (.inl (vp_updL gy cn (Int64.ofInt ((ctP vy) - 128)))))), (m6, .inl (cZ, 100, .inl (upd gb cn 1)))] H := hP
  have hD : va_D A [(m0, .inr (5, [.int (nI 0), .int (nI wd), .int (nI ht), .int (nI pn), .ref m1, .ref m2, .ref m3, .int (nI (cn + 1)), .ref m4, .ref m5, .ref m6, .int fl, .int (nI bf), .int (nI bt), .int (nI xn), .ref m7, .ref m8, .ref m9, .int ip, .int (nI ps), .ref ma])), (m4, .inl (cJ, 100, .inr (.inl (vp_updL gx cn (Int64.ofInt ((ctP vx) - 128)))))), (m5, .inl (cJ, 100, .inr (.inl (vp_updL gy cn (Int64.ofInt ((ctP vy) - 128)))))), (m6, .inl (cZ, 100, .inl (upd gb cn 1)))] := hD
  refine lv_aload_n hx hb dX5_hair_158 rfl (lv_at hl 8 rfl) ?_
  refine lv_lload hx hb dX5_hair_159 (lv_at hl 7 rfl) ?_
  refine lv_ldc2 hx hb hown k_76 dX5_hair_161 ?_
  refine lv_ladd hx hb dX5_hair_164 ?_
  refine q_eql (y := Int64.ofInt ((ctP vx) + 128)) (by exact w_add _ 128) ?_
  refine lv_lload hx hb dX5_hair_165 (lv_at hl 6 rfl) ?_
  refine lv_ldc2 hx hb hown k_76 dX5_hair_167 ?_
  refine lv_lsub hx hb dX5_hair_170 ?_
  refine q_eql (y := Int64.ofInt ((ctP vy) - 128)) (by exact w_sub _ 128) ?_
  refine lv_iconst (v := nI 0) hx hb dX5_hair_171 (by decide) ?_
  refine q_eqi (y := 0) (by decide) ?_
  refine q_v0 (wr := []) (va_runV (As := [.long (Int64.ofInt ((ctP vx) + 128)), .long (Int64.ofInt ((ctP vy) - 128)), .int 0]) (rest := []) ⟨hx, hb, hml, hown, hts⟩ (c_X5_add l D cI cZ cB cJ H.size m0 m1 m2 m3 m4 m5 m6 m7 m8 m9 ma (nI 0) wd ht pn (cn + 1) fl bf bt xn ip ps (vp_updL gx cn (Int64.ofInt ((ctP vx) - 128))) (vp_updL gy cn (Int64.ofInt ((ctP vy) - 128))) (upd gb cn 1) (Int64.ofInt ((ctP vx) + 128)) (Int64.ofInt ((ctP vy) - 128)) 0 (by omega) (by first | exact Or.inl rfl | exact Or.inr rfl)) (cwV 3 hts gX5_hair_X5_add rfl rfl rfl (by decide +kernel) ⟨Nat.le_of_ble_eq_true rfl, Nat.le_of_ble_eq_true rfl⟩) (q_preV (q_pre (wc := [(m0, .inr (5, [.int (nI 0), .int (nI wd), .int (nI ht), .int (nI pn), .ref m1, .ref m2, .ref m3, .int (nI (cn + 1)), .ref m4, .ref m5, .ref m6, .int fl, .int (nI bf), .int (nI bt), .int (nI xn), .ref m7, .ref m8, .ref m9, .int ip, .int (nI ps), .ref ma])), (m4, .inl (cJ, 100, .inr (.inl (vp_updL gx cn (Int64.ofInt ((ctP vx) - 128)))))), (m5, .inl (cJ, 100, .inr (.inl (vp_updL gy cn (Int64.ofInt ((ctP vy) - 128)))))), (m6, .inl (cZ, 100, .inl (upd gb cn 1)))]) hP hD hK hN [0, 1, 2, 3] (by decide) rfl) (va_recv hK hP (ci := 5) (q0 := 0) rfl rfl)) rfl rfl hl.1 rfl (lv_room (Nat.le_of_ble_eq_true rfl)) dX5_hair_172 ⟨Nat.zero_le _, Nat.zero_le _⟩) hS hA hP hD [0, 1, 2, 3] [] rfl rfl (by decide) (by decide) (fun u H locs hp_172 hP hD hS => ?_)
  have hP : va_P D qCl [(m0, .inr (5, [.int (nI 0), .int (nI wd), .int (nI ht), .int (nI pn), .ref m1, .ref m2, .ref m3, .int (nI ((cn + 1) + 1)), .ref m4, .ref m5, .ref m6, .int fl, .int (nI bf), .int (nI bt), .int (nI xn), .ref m7, .ref m8, .ref m9, .int ip, .int (nI ps), .ref ma])), (m4, .inl (cJ, 100, .inr (.inl (vp_updL (vp_updL gx cn (Int64.ofInt ((ctP vx) - 128))) (cn + 1) (Int64.ofInt ((ctP vx) + 128)))))), (m5, .inl (cJ, 100, .inr (.inl (vp_updL (vp_updL gy cn (Int64.ofInt ((ctP vy) - 128))) (cn + 1) (Int64.ofInt ((ctP vy) - 128)))))), (m6, .inl (cZ, 100, .inl (upd (upd gb cn 1) (cn + 1) 0)))] H := hP
  have hD : va_D A [(m0, .inr (5, [.int (nI 0), .int (nI wd), .int (nI ht), .int (nI pn), .ref m1, .ref m2, .ref m3, .int (nI ((cn + 1) + 1)), .ref m4, .ref m5, .ref m6, .int fl, .int (nI bf), .int (nI bt), .int (nI xn), .ref m7, .ref m8, .ref m9, .int ip, .int (nI ps), .ref ma])), (m4, .inl (cJ, 100, .inr (.inl (vp_updL (vp_updL gx cn (Int64.ofInt ((ctP vx) - 128))) (cn + 1) (Int64.ofInt ((ctP vx) + 128)))))), (m5, .inl (cJ, 100, .inr (.inl (vp_updL (vp_updL gy cn (Int64.ofInt ((ctP vy) - 128))) (cn + 1) (Int64.ofInt ((ctP vy) - 128)))))), (m6, .inl (cZ, 100, .inl (upd (upd gb cn 1) (cn + 1) 0)))] := hD
  refine lv_aload_n hx hb dX5_hair_175 rfl (lv_at hl 8 rfl) ?_
  refine lv_lload hx hb dX5_hair_176 (lv_at hl 7 rfl) ?_
  refine lv_ldc2 hx hb hown k_76 dX5_hair_178 ?_
  refine lv_ladd hx hb dX5_hair_181 ?_
  refine q_eql (y := Int64.ofInt ((ctP vx) + 128)) (by exact w_add _ 128) ?_
  refine lv_lload hx hb dX5_hair_182 (lv_at hl 6 rfl) ?_
  refine lv_ldc2 hx hb hown k_76 dX5_hair_184 ?_
  refine lv_ladd hx hb dX5_hair_187 ?_
  refine q_eql (y := Int64.ofInt ((ctP vy) + 128)) (by exact w_add _ 128) ?_
  refine lv_iconst (v := nI 0) hx hb dX5_hair_188 (by decide) ?_
  refine q_eqi (y := 0) (by decide) ?_
  refine q_v0 (wr := []) (va_runV (As := [.long (Int64.ofInt ((ctP vx) + 128)), .long (Int64.ofInt ((ctP vy) + 128)), .int 0]) (rest := []) ⟨hx, hb, hml, hown, hts⟩ (c_X5_add l D cI cZ cB cJ H.size m0 m1 m2 m3 m4 m5 m6 m7 m8 m9 ma (nI 0) wd ht pn ((cn + 1) + 1) fl bf bt xn ip ps (vp_updL (vp_updL gx cn (Int64.ofInt ((ctP vx) - 128))) (cn + 1) (Int64.ofInt ((ctP vx) + 128))) (vp_updL (vp_updL gy cn (Int64.ofInt ((ctP vy) - 128))) (cn + 1) (Int64.ofInt ((ctP vy) - 128))) (upd (upd gb cn 1) (cn + 1) 0) (Int64.ofInt ((ctP vx) + 128)) (Int64.ofInt ((ctP vy) + 128)) 0 (by omega) (by first | exact Or.inl rfl | exact Or.inr rfl)) (cwV 3 hts gX5_hair_X5_add rfl rfl rfl (by decide +kernel) ⟨Nat.le_of_ble_eq_true rfl, Nat.le_of_ble_eq_true rfl⟩) (q_preV (q_pre (wc := [(m0, .inr (5, [.int (nI 0), .int (nI wd), .int (nI ht), .int (nI pn), .ref m1, .ref m2, .ref m3, .int (nI ((cn + 1) + 1)), .ref m4, .ref m5, .ref m6, .int fl, .int (nI bf), .int (nI bt), .int (nI xn), .ref m7, .ref m8, .ref m9, .int ip, .int (nI ps), .ref ma])), (m4, .inl (cJ, 100, .inr (.inl (vp_updL (vp_updL gx cn (Int64.ofInt ((ctP vx) - 128))) (cn + 1) (Int64.ofInt ((ctP vx) + 128)))))), (m5, .inl (cJ, 100, .inr (.inl (vp_updL (vp_updL gy cn (Int64.ofInt ((ctP vy) - 128))) (cn + 1) (Int64.ofInt ((ctP vy) - 128)))))), (m6, .inl (cZ, 100, .inl (upd (upd gb cn 1) (cn + 1) 0)))]) hP hD hK hN [0, 1, 2, 3] (by decide) rfl) (va_recv hK hP (ci := 5) (q0 := 0) rfl rfl)) rfl rfl hl.1 rfl (lv_room (Nat.le_of_ble_eq_true rfl)) dX5_hair_189 ⟨Nat.zero_le _, Nat.zero_le _⟩) hS hA hP hD [0, 1, 2, 3] [] rfl rfl (by decide) (by decide) (fun u H locs hp_189 hP hD hS => ?_)
  have hP : va_P D qCl [(m0, .inr (5, [.int (nI 0), .int (nI wd), .int (nI ht), .int (nI pn), .ref m1, .ref m2, .ref m3, .int (nI (((cn + 1) + 1) + 1)), .ref m4, .ref m5, .ref m6, .int fl, .int (nI bf), .int (nI bt), .int (nI xn), .ref m7, .ref m8, .ref m9, .int ip, .int (nI ps), .ref ma])), (m4, .inl (cJ, 100, .inr (.inl (vp_updL (vp_updL (vp_updL gx cn (Int64.ofInt ((ctP vx) - 128))) (cn + 1) (Int64.ofInt ((ctP vx) + 128))) ((cn + 1) + 1) (Int64.ofInt ((ctP vx) + 128)))))), (m5, .inl (cJ, 100, .inr (.inl (vp_updL (vp_updL (vp_updL gy cn (Int64.ofInt ((ctP vy) - 128))) (cn + 1) (Int64.ofInt ((ctP vy) - 128))) ((cn + 1) + 1) (Int64.ofInt ((ctP vy) + 128)))))), (m6, .inl (cZ, 100, .inl (upd (upd (upd gb cn 1) (cn + 1) 0) ((cn + 1) + 1) 0)))] H := hP
  have hD : va_D A [(m0, .inr (5, [.int (nI 0), .int (nI wd), .int (nI ht), .int (nI pn), .ref m1, .ref m2, .ref m3, .int (nI (((cn + 1) + 1) + 1)), .ref m4, .ref m5, .ref m6, .int fl, .int (nI bf), .int (nI bt), .int (nI xn), .ref m7, .ref m8, .ref m9, .int ip, .int (nI ps), .ref ma])), (m4, .inl (cJ, 100, .inr (.inl (vp_updL (vp_updL (vp_updL gx cn (Int64.ofInt ((ctP vx) - 128))) (cn + 1) (Int64.ofInt ((ctP vx) + 128))) ((cn + 1) + 1) (Int64.ofInt ((ctP vx) + 128)))))), (m5, .inl (cJ, 100, .inr (.inl (vp_updL (vp_updL (vp_updL gy cn (Int64.ofInt ((ctP vy) - 128))) (cn + 1) (Int64.ofInt ((ctP vy) - 128))) ((cn + 1) + 1) (Int64.ofInt ((ctP vy) + 128)))))), (m6, .inl (cZ, 100, .inl (upd (upd (upd gb cn 1) (cn + 1) 0) ((cn + 1) + 1) 0)))] := hD
  refine lv_aload_n hx hb dX5_hair_192 rfl (lv_at hl 8 rfl) ?_
  refine lv_lload hx hb dX5_hair_193 (lv_at hl 7 rfl) ?_
  refine lv_ldc2 hx hb hown k_76 dX5_hair_195 ?_
  refine lv_lsub hx hb dX5_hair_198 ?_
  refine q_eql (y := Int64.ofInt ((ctP vx) - 128)) (by exact w_sub _ 128) ?_
  refine lv_lload hx hb dX5_hair_199 (lv_at hl 6 rfl) ?_
  refine lv_ldc2 hx hb hown k_76 dX5_hair_201 ?_
  refine lv_ladd hx hb dX5_hair_204 ?_
  refine q_eql (y := Int64.ofInt ((ctP vy) + 128)) (by exact w_add _ 128) ?_
  refine lv_iconst (v := nI 0) hx hb dX5_hair_205 (by decide) ?_
  refine q_eqi (y := 0) (by decide) ?_
  refine q_v0 (wr := []) (va_runV (As := [.long (Int64.ofInt ((ctP vx) - 128)), .long (Int64.ofInt ((ctP vy) + 128)), .int 0]) (rest := []) ⟨hx, hb, hml, hown, hts⟩ (c_X5_add l D cI cZ cB cJ H.size m0 m1 m2 m3 m4 m5 m6 m7 m8 m9 ma (nI 0) wd ht pn (((cn + 1) + 1) + 1) fl bf bt xn ip ps (vp_updL (vp_updL (vp_updL gx cn (Int64.ofInt ((ctP vx) - 128))) (cn + 1) (Int64.ofInt ((ctP vx) + 128))) ((cn + 1) + 1) (Int64.ofInt ((ctP vx) + 128))) (vp_updL (vp_updL (vp_updL gy cn (Int64.ofInt ((ctP vy) - 128))) (cn + 1) (Int64.ofInt ((ctP vy) - 128))) ((cn + 1) + 1) (Int64.ofInt ((ctP vy) + 128))) (upd (upd (upd gb cn 1) (cn + 1) 0) ((cn + 1) + 1) 0) (Int64.ofInt ((ctP vx) - 128)) (Int64.ofInt ((ctP vy) + 128)) 0 (by omega) (by first | exact Or.inl rfl | exact Or.inr rfl)) (cwV 3 hts gX5_hair_X5_add rfl rfl rfl (by decide +kernel) ⟨Nat.le_of_ble_eq_true rfl, Nat.le_of_ble_eq_true rfl⟩) (q_preV (q_pre (wc := [(m0, .inr (5, [.int (nI 0), .int (nI wd), .int (nI ht), .int (nI pn), .ref m1, .ref m2, .ref m3, .int (nI (((cn + 1) + 1) + 1)), .ref m4, .ref m5, .ref m6, .int fl, .int (nI bf), .int (nI bt), .int (nI xn), .ref m7, .ref m8, .ref m9, .int ip, .int (nI ps), .ref ma])), (m4, .inl (cJ, 100, .inr (.inl (vp_updL (vp_updL (vp_updL gx cn (Int64.ofInt ((ctP vx) - 128))) (cn + 1) (Int64.ofInt ((ctP vx) + 128))) ((cn + 1) + 1) (Int64.ofInt ((ctP vx) + 128)))))), (m5, .inl (cJ, 100, .inr (.inl (vp_updL (vp_updL (vp_updL gy cn (Int64.ofInt ((ctP vy) - 128))) (cn + 1) (Int64.ofInt ((ctP vy) - 128))) ((cn + 1) + 1) (Int64.ofInt ((ctP vy) + 128)))))), (m6, .inl (cZ, 100, .inl (upd (upd (upd gb cn 1) (cn + 1) 0) ((cn + 1) + 1) 0)))]) hP hD hK hN [0, 1, 2, 3] (by decide) rfl) (va_recv hK hP (ci := 5) (q0 := 0) rfl rfl)) rfl rfl hl.1 rfl (lv_room (Nat.le_of_ble_eq_true rfl)) dX5_hair_206 ⟨Nat.zero_le _, Nat.zero_le _⟩) hS hA hP hD [0, 1, 2, 3] [] rfl rfl (by decide) (by decide) (fun u H locs hp_206 hP hD hS => ?_)
  have hP : va_P D qCl [(m0, .inr (5, [.int (nI 0), .int (nI wd), .int (nI ht), .int (nI pn), .ref m1, .ref m2, .ref m3, .int (nI ((((cn + 1) + 1) + 1) + 1)), .ref m4, .ref m5, .ref m6, .int fl, .int (nI bf), .int (nI bt), .int (nI xn), .ref m7, .ref m8, .ref m9, .int ip, .int (nI ps), .ref ma])), (m4, .inl (cJ, 100, .inr (.inl (vp_updL (vp_updL (vp_updL (vp_updL gx cn (Int64.ofInt ((ctP vx) - 128))) (cn + 1) (Int64.ofInt ((ctP vx) + 128))) ((cn + 1) + 1) (Int64.ofInt ((ctP vx) + 128))) (((cn + 1) + 1) + 1) (Int64.ofInt ((ctP vx) - 128)))))), (m5, .inl (cJ, 100, .inr (.inl (vp_updL (vp_updL (vp_updL (vp_updL gy cn (Int64.ofInt ((ctP vy) - 128))) (cn + 1) (Int64.ofInt ((ctP vy) - 128))) ((cn + 1) + 1) (Int64.ofInt ((ctP vy) + 128))) (((cn + 1) + 1) + 1) (Int64.ofInt ((ctP vy) + 128)))))), (m6, .inl (cZ, 100, .inl (upd (upd (upd (upd gb cn 1) (cn + 1) 0) ((cn + 1) + 1) 0) (((cn + 1) + 1) + 1) 0)))] H := hP
  have hD : va_D A [(m0, .inr (5, [.int (nI 0), .int (nI wd), .int (nI ht), .int (nI pn), .ref m1, .ref m2, .ref m3, .int (nI ((((cn + 1) + 1) + 1) + 1)), .ref m4, .ref m5, .ref m6, .int fl, .int (nI bf), .int (nI bt), .int (nI xn), .ref m7, .ref m8, .ref m9, .int ip, .int (nI ps), .ref ma])), (m4, .inl (cJ, 100, .inr (.inl (vp_updL (vp_updL (vp_updL (vp_updL gx cn (Int64.ofInt ((ctP vx) - 128))) (cn + 1) (Int64.ofInt ((ctP vx) + 128))) ((cn + 1) + 1) (Int64.ofInt ((ctP vx) + 128))) (((cn + 1) + 1) + 1) (Int64.ofInt ((ctP vx) - 128)))))), (m5, .inl (cJ, 100, .inr (.inl (vp_updL (vp_updL (vp_updL (vp_updL gy cn (Int64.ofInt ((ctP vy) - 128))) (cn + 1) (Int64.ofInt ((ctP vy) - 128))) ((cn + 1) + 1) (Int64.ofInt ((ctP vy) + 128))) (((cn + 1) + 1) + 1) (Int64.ofInt ((ctP vy) + 128)))))), (m6, .inl (cZ, 100, .inl (upd (upd (upd (upd gb cn 1) (cn + 1) 0) ((cn + 1) + 1) 0) (((cn + 1) + 1) + 1) 0)))] := hD
  refine lv_goto (tgt := 272) hx hb dX5_hair_209 (by decide) ?_
  refine lv_aload_n hx hb dX5_hair_272 rfl (lv_at hl 8 rfl) ?_
  refine va_get (D := D) (ci := 5) (v := .int (nI ((((cn + 1) + 1) + 1) + 1))) (C := RX5) (T := TX5) (N := 21) hx hb hts iX5 hown hK hP 0 rfl rfl 7 (by decide) f_62 (fun _ h9 => h9) rfl dX5_hair_273 ?_
  have hr9 : (nI ((((cn + 1) + 1) + 1) + 1)) = nI (cn + 1 + 1 + 1 + 1) ∧ (PathM (vp_updL (vp_updL (vp_updL (vp_updL gx cn (Int64.ofInt ((ctP vx) - 128))) (cn + 1) (Int64.ofInt ((ctP vx) + 128))) ((cn + 1) + 1) (Int64.ofInt ((ctP vx) + 128))) (((cn + 1) + 1) + 1) (Int64.ofInt ((ctP vx) - 128))) (vp_updL (vp_updL (vp_updL (vp_updL gy cn (Int64.ofInt ((ctP vy) - 128))) (cn + 1) (Int64.ofInt ((ctP vy) - 128))) ((cn + 1) + 1) (Int64.ofInt ((ctP vy) + 128))) (((cn + 1) + 1) + 1) (Int64.ofInt ((ctP vy) + 128))) (upd (upd (upd (upd gb cn 1) (cn + 1) 0) ((cn + 1) + 1) 0) (((cn + 1) + 1) + 1) 0) (hairX X cn (ctP vx) (ctP vy) (ctP vu) (ctP vv)) (hairY Y cn (ctP vx) (ctP vy) (ctP vu) (ctP vv)) (hrB bg cn) (cn + 1 + 1 + 1 + 1)) := ⟨rfl, (by rw [(hair_one ⟨h_58, h_66⟩ X Y cn).1, (hair_one ⟨h_58, h_66⟩ X Y cn).2]; exact PathM_add4 hR hc4 (by constructor <;> omega) (by constructor <;> omega) (by constructor <;> omega) (by constructor <;> omega) (by constructor <;> omega) (by constructor <;> omega) (by constructor <;> omega) (by constructor <;> omega))⟩
  exact hQ _ _ _ _ (nI ((((cn + 1) + 1) + 1) + 1)) (vp_updL (vp_updL (vp_updL (vp_updL gx cn (Int64.ofInt ((ctP vx) - 128))) (cn + 1) (Int64.ofInt ((ctP vx) + 128))) ((cn + 1) + 1) (Int64.ofInt ((ctP vx) + 128))) (((cn + 1) + 1) + 1) (Int64.ofInt ((ctP vx) - 128)), vp_updL (vp_updL (vp_updL (vp_updL gy cn (Int64.ofInt ((ctP vy) - 128))) (cn + 1) (Int64.ofInt ((ctP vy) - 128))) ((cn + 1) + 1) (Int64.ofInt ((ctP vy) + 128))) (((cn + 1) + 1) + 1) (Int64.ofInt ((ctP vy) + 128)), upd (upd (upd (upd gb cn 1) (cn + 1) 0) ((cn + 1) + 1) 0) (((cn + 1) + 1) + 1) 0) _ _ dX5_hair_276 (Nat.le_refl _) (Nat.le_refl _) hr9 (hP.sub [0, 1, 2, 3] rfl) hK (hD.sub [0, 1, 2, 3] (by decide) rfl) hS

abbrev rm_X5_hair_no : Room := { frames := 0, cells := 0, slots := 0, locals := 0 }
set_option maxHeartbeats 4000000 in
set_option maxRecDepth 100000 in
theorem c_X5_hair_no (l : Launch) (D : va_G) (cI cZ cB cJ : ClassId) (sz : Nat) (m0 : Nat) (m1 : Nat) (m2 : Nat) (m3 : Nat) (m4 : Nat) (m5 : Nat) (m6 : Nat) (m7 : Nat) (m8 : Nat) (m9 : Nat) (ma : Nat) (th : Int32) (wd : Nat) (ht : Nat) (pn : Nat) (cn : Nat) (fl : Int32) (bf : Nat) (bt : Nat) (xn : Nat) (ip : Int32) (ps : Nat) (vx : Int64) (vy : Int64) (vu : Int64) (vv : Int64) (hc : 96 < cn) (hc2 : cn ≤ 100) : Met l yX5_hair wsX5_hair rm_X5_hair_no (va_Pc [.ref m0, .long vx, .long vy, .long vu, .long vv] (PC D (qT cI cZ cB cJ) [(m0, .inr (5, [.int th, .int (nI wd), .int (nI ht), .int (nI pn), .ref m1, .ref m2, .ref m3, .int (nI cn), .ref m4, .ref m5, .ref m6, .int fl, .int (nI bf), .int (nI bt), .int (nI xn), .ref m7, .ref m8, .ref m9, .int ip, .int (nI ps), .ref ma]))] sz)) (va_Qi (fun (r : Int32) (u : Unit) => True) (fun (u : Unit) => PO D (qT cI cZ cB cJ) (va_A [(m0, .inr (5, [.int th, .int (nI wd), .int (nI ht), .int (nI pn), .ref m1, .ref m2, .ref m3, .int (nI cn), .ref m4, .ref m5, .ref m6, .int fl, .int (nI bf), .int (nI bt), .int (nI xn), .ref m7, .ref m8, .ref m9, .int ip, .int (nI ps), .ref ma]))] sz) [(m0, .inr (5, [.int (nI 1), .int (nI wd), .int (nI ht), .int (nI pn), .ref m1, .ref m2, .ref m3, .int (nI cn), .ref m4, .ref m5, .ref m6, .int fl, .int (nI bf), .int (nI bt), .int (nI xn), .ref m7, .ref m8, .ref m9, .int ip, .int (nI ps), .ref ma]))]) (va_A [(m0, .inr (5, [.int th, .int (nI wd), .int (nI ht), .int (nI pn), .ref m1, .ref m2, .ref m3, .int (nI cn), .ref m4, .ref m5, .ref m6, .int fl, .int (nI bf), .int (nI bt), .int (nI xn), .ref m7, .ref m8, .ref m9, .int ip, .int (nI ps), .ref ma]))] sz)) 0 0 (va_A [(m0, .inr (5, [.int th, .int (nI wd), .int (nI ht), .int (nI pn), .ref m1, .ref m2, .ref m3, .int (nI cn), .ref m4, .ref m5, .ref m6, .int fl, .int (nI bf), .int (nI bt), .int (nI xn), .ref m7, .ref m8, .ref m9, .int ip, .int (nI ps), .ref ma]))] sz) := by
  refine q_entI (cc := cX5_hair) (maxL := 23) (by decide +kernel) rfl (Nat.le_of_ble_eq_true rfl) ?_
  intro p e s m below meth c A Q ls hq hl hQ
  obtain ⟨hx, hb, hml, hts, hown, hin, hN, hK, hsz, hA, hP, hD, hS⟩ := hq
  have hown : s.vm.findClass RX5 = some m.cls := hown
  obtain ⟨H, hH⟩ : ∃ H, H = s.heap := ⟨_, rfl⟩
  rw [← hH] at hP ⊢
  have hS : va_S A s.heap H [] := by rw [hH]; exact va_S.rf
  clear hH
  have hl : lv_has ls 23 [(0, .ref m0), (1, .long vx), (3, .long vy), (5, .long vu), (7, .long vv)] := hl
  have iX5 : ∀ w ∈ wsX50, w ∈ wsX5_hair := by decide +kernel
  have f_62 := hts (.fieldLink RX5 62 "RasterCoverModel" "points" "I") (by decide +kernel)
  have f_55 := hts (.fieldLink RX5 55 "RasterCoverModel" "thrown" "I") (by decide +kernel)
  refine lv_aload_n hx hb dX5_hair_0 rfl (lv_at hl 0 rfl) ?_
  refine lv_aload_n hx hb dX5_hair_1 rfl (lv_at hl 0 rfl) ?_
  refine va_get (D := D) (ci := 5) (v := .int (nI cn)) (C := RX5) (T := TX5) (N := 21) hx hb hts iX5 hown hK hP 0 rfl rfl 7 (by decide) f_62 (fun _ h9 => h9) rfl dX5_hair_2 ?_
  refine lv_bipush (v := nI 96) hx hb dX5_hair_5 (by decide) ?_
  refine q_le (tgt := 14) hx hb (by omega) (by omega) dX5_hair_7 (by decide) (fun h_7 => by omega) (fun h_7 => ?_)
  refine lv_iconst (v := nI 1) hx hb dX5_hair_10 (by decide) ?_
  refine lv_goto (tgt := 15) hx hb dX5_hair_11 (by decide) ?_
  refine va_put (D := D) (ci := 5) (v := .int (nI 1)) (ty := .int) (C := RX5) (T := TX5) (N := 21) hx hb hts iX5 tyX5 tyX5_ok nmX5 hown hK hP hD hS 0 rfl rfl 0 (by decide) f_55 (fun _ h9 => h9) rfl (by decide +kernel) rfl rfl (Nat.le_of_ble_eq_true rfl) dX5_hair_15 (fun H locs hP hD hS => ?_)
  have hP : va_P D qCl [(m0, .inr (5, [.int (nI 1), .int (nI wd), .int (nI ht), .int (nI pn), .ref m1, .ref m2, .ref m3, .int (nI cn), .ref m4, .ref m5, .ref m6, .int fl, .int (nI bf), .int (nI bt), .int (nI xn), .ref m7, .ref m8, .ref m9, .int ip, .int (nI ps), .ref ma]))] H := hP
  have hD : va_D A [(m0, .inr (5, [.int (nI 1), .int (nI wd), .int (nI ht), .int (nI pn), .ref m1, .ref m2, .ref m3, .int (nI cn), .ref m4, .ref m5, .ref m6, .int fl, .int (nI bf), .int (nI bt), .int (nI xn), .ref m7, .ref m8, .ref m9, .int ip, .int (nI ps), .ref ma]))] := hD
  refine lv_aload_n hx hb dX5_hair_18 rfl (lv_at hl 0 rfl) ?_
  refine va_get (D := D) (ci := 5) (v := .int (nI 1)) (C := RX5) (T := TX5) (N := 21) hx hb hts iX5 hown hK hP 0 rfl rfl 0 (by decide) f_55 (fun _ h9 => h9) rfl dX5_hair_19 ?_
  refine q_if_le (tgt := 27) hx hb (by omega) dX5_hair_22 (by decide) (fun h_22 => by omega) (fun h_22 => ?_)
  refine lv_iconst (v := nI 0) hx hb dX5_hair_25 (by decide) ?_
  exact hQ _ _ _ _ (nI 0) () _ _ dX5_hair_26 (Nat.le_refl _) (Nat.le_refl _) trivial (hP.sub [0] rfl) hK (hD.sub [0] (by decide) rfl) hS

abbrev rm_X5_down : Room := { frames := 0, cells := 0, slots := 0, locals := 0 }
set_option maxHeartbeats 4000000 in
set_option maxRecDepth 100000 in
theorem c_X5_down (l : Launch) (D : va_G) (cI cZ cB cJ : ClassId) (sz : Nat) (a : Int64) (b : Int64) (hb0 : ¬ b = 0) : Met l yX5_down wsX5_down rm_X5_down (va_Pc [.long a, .long b] (PC D (qT cI cZ cB cJ) [] sz)) (va_Ql (fun (r : Int64) (u : Unit) => r = dnJ a b) (fun (u : Unit) => PO D (qT cI cZ cB cJ) (va_A [] sz) []) (va_A [] sz)) 0 0 (va_A [] sz) := by
  refine q_entL (cc := cX5_down) (maxL := 6) (by decide +kernel) rfl (Nat.le_of_ble_eq_true rfl) ?_
  intro p e s m below meth c A Q ls hq hl hQ
  obtain ⟨hx, hb, hml, hts, hown, hin, hN, hK, hsz, hA, hP, hD, hS⟩ := hq
  have hown : s.vm.findClass RX5 = some m.cls := hown
  obtain ⟨H, hH⟩ : ∃ H, H = s.heap := ⟨_, rfl⟩
  rw [← hH] at hP ⊢
  have hS : va_S A s.heap H [] := by rw [hH]; exact va_S.rf
  clear hH
  have hl : lv_has ls 6 [(0, .long a), (2, .long b)] := hl
  refine lv_lload_n hx hb dX5_down_0 rfl (lv_at hl 0 rfl) ?_
  refine lv_lload_n hx hb dX5_down_1 rfl (lv_at hl 1 rfl) ?_
  refine lv_ldiv hx hb dX5_down_2 hb0 ?_
  refine lv_lstore (lv' := [(4, .long (a / b)), (0, .long a), (2, .long b)]) hx hb dX5_down_3 hl (by decide) rfl (fun ls hl => ?_)
  refine lv_lload_n hx hb dX5_down_5 rfl (lv_at hl 1 rfl) ?_
  refine lv_lload_n hx hb dX5_down_6 rfl (lv_at hl 2 rfl) ?_
  refine lv_lrem hx hb dX5_down_7 hb0 ?_
  refine lv_lconst (v := 0) hx hb dX5_down_8 (by decide) ?_
  refine W.lcmp hx hb dX5_down_9 ?_
  refine lv_if_ge (tgt := 20) hx hb dX5_down_10 (by decide) (fun h_10 => ?_) (fun h_10 => ?_)
  · refine lv_lload hx hb dX5_down_20 (lv_at hl 0 rfl) ?_
    have hr9 : (a / b) = dnJ a b := (by unfold dnJ; rw [if_neg (fun z => by rw [lgc_ge, j_le] at h_10; rw [j_lt] at z; omega)])
    exact hQ _ _ _ _ (a / b) () _ _ dX5_down_22 (Nat.le_refl _) (Nat.le_refl _) hr9 (hP.sub [] rfl) hK (hD.sub [] (by decide) rfl) hS
  refine lv_lload hx hb dX5_down_13 (lv_at hl 0 rfl) ?_
  refine lv_lconst (v := 1) hx hb dX5_down_15 (by decide) ?_
  refine lv_lsub hx hb dX5_down_16 ?_
  refine lv_goto (tgt := 22) hx hb dX5_down_17 (by decide) ?_
  have hr9 : ((a / b) - 1) = dnJ a b := (by unfold dnJ; rw [if_pos (by rw [lgc_ge, j_le] at h_10; rw [j_lt]; omega)])
  exact hQ _ _ _ _ ((a / b) - 1) () _ _ dX5_down_22 (Nat.le_refl _) (Nat.le_refl _) hr9 (hP.sub [] rfl) hK (hD.sub [] (by decide) rfl) hS

abbrev rm_X5_cross : Room := { frames := 1, cells := 0, slots := 0, locals := 25 }
set_option maxHeartbeats 4000000 in
set_option maxRecDepth 100000 in
theorem c_X5_cross (l : Launch) (D : va_G) (cI cZ cB cJ : ClassId) (sz : Nat) (m0 : Nat) (m1 : Nat) (m2 : Nat) (m3 : Nat) (m4 : Nat) (m5 : Nat) (m6 : Nat) (m7 : Nat) (m8 : Nat) (m9 : Nat) (ma : Nat) (th : Int32) (wd : Nat) (ht : Nat) (pn : Nat) (cn : Nat) (fl : Int32) (bf : Nat) (bt : Nat) (xn : Nat) (ip : Int32) (ps : Nat) (gx : Nat → Int64) (gy : Nat → Int64) (gb : Nat → Int32) (X : Nat → Int) (Y : Nat → Int) (bg : Nat → Int32) (gp : Nat → Int64) (gt : Nat → Int32) (mu : (Int → Int → Int) → Int) (ka : Nat) (kb : Nat) (L : Int) (hR : PathM gx gy gb X Y bg cn) (hxn : xn < 200) (hC : CM gp gt xn mu) (hka : ka < cn) (hkb : kb < cn) (hL : 0 ≤ L ∧ L ≤ 100000) : Met l yX5_cross wsX5_cross rm_X5_cross (va_Pc [.ref m0, .int (nI ka), .int (nI kb), .long (Int64.ofInt L)] (PC D (qT cI cZ cB cJ) [(m0, .inr (5, [.int th, .int (nI wd), .int (nI ht), .int (nI pn), .ref m1, .ref m2, .ref m3, .int (nI cn), .ref m4, .ref m5, .ref m6, .int fl, .int (nI bf), .int (nI bt), .int (nI xn), .ref m7, .ref m8, .ref m9, .int ip, .int (nI ps), .ref ma])), (m4, .inl (cJ, 100, .inr (.inl gx))), (m5, .inl (cJ, 100, .inr (.inl gy))), (m6, .inl (cZ, 100, .inl gb)), (m7, .inl (cJ, 200, .inr (.inl gp))), (m8, .inl (cI, 200, .inl gt))] sz)) (va_Qv (fun (u : (Nat → Int64) × (Nat → Int32) × Nat) => CM u.1 u.2.1 u.2.2 (fun f => mu f + crsM X Y L ka kb f) ∧ u.2.2 ≤ xn + 1) (fun (u : (Nat → Int64) × (Nat → Int32) × Nat) => PO D (qT cI cZ cB cJ) (va_A [(m0, .inr (5, [.int th, .int (nI wd), .int (nI ht), .int (nI pn), .ref m1, .ref m2, .ref m3, .int (nI cn), .ref m4, .ref m5, .ref m6, .int fl, .int (nI bf), .int (nI bt), .int (nI xn), .ref m7, .ref m8, .ref m9, .int ip, .int (nI ps), .ref ma])), (m4, .inl (cJ, 100, .inr (.inl gx))), (m5, .inl (cJ, 100, .inr (.inl gy))), (m6, .inl (cZ, 100, .inl gb)), (m7, .inl (cJ, 200, .inr (.inl gp))), (m8, .inl (cI, 200, .inl gt))] sz) [(m0, .inr (5, [.int th, .int (nI wd), .int (nI ht), .int (nI pn), .ref m1, .ref m2, .ref m3, .int (nI cn), .ref m4, .ref m5, .ref m6, .int fl, .int (nI bf), .int (nI bt), .int (nI u.2.2), .ref m7, .ref m8, .ref m9, .int ip, .int (nI ps), .ref ma])), (m4, .inl (cJ, 100, .inr (.inl gx))), (m5, .inl (cJ, 100, .inr (.inl gy))), (m6, .inl (cZ, 100, .inl gb)), (m7, .inl (cJ, 200, .inr (.inl u.1))), (m8, .inl (cI, 200, .inl u.2.1))]) (va_A [(m0, .inr (5, [.int th, .int (nI wd), .int (nI ht), .int (nI pn), .ref m1, .ref m2, .ref m3, .int (nI cn), .ref m4, .ref m5, .ref m6, .int fl, .int (nI bf), .int (nI bt), .int (nI xn), .ref m7, .ref m8, .ref m9, .int ip, .int (nI ps), .ref ma])), (m4, .inl (cJ, 100, .inr (.inl gx))), (m5, .inl (cJ, 100, .inr (.inl gy))), (m6, .inl (cZ, 100, .inl gb)), (m7, .inl (cJ, 200, .inr (.inl gp))), (m8, .inl (cI, 200, .inl gt))] sz)) 0 0 (va_A [(m0, .inr (5, [.int th, .int (nI wd), .int (nI ht), .int (nI pn), .ref m1, .ref m2, .ref m3, .int (nI cn), .ref m4, .ref m5, .ref m6, .int fl, .int (nI bf), .int (nI bt), .int (nI xn), .ref m7, .ref m8, .ref m9, .int ip, .int (nI ps), .ref ma])), (m4, .inl (cJ, 100, .inr (.inl gx))), (m5, .inl (cJ, 100, .inr (.inl gy))), (m6, .inl (cZ, 100, .inl gb)), (m7, .inl (cJ, 200, .inr (.inl gp))), (m8, .inl (cI, 200, .inl gt))] sz) := by
  refine q_entV (cc := cX5_cross) (maxL := 8) (by decide +kernel) rfl (Nat.le_of_ble_eq_true rfl) ?_
  intro p e s m below meth c A Q ls hq hl hQ
  obtain ⟨hx, hb, hml, hts, hown, hin, hN, hK, hsz, hA, hP, hD, hS⟩ := hq
  have hown : s.vm.findClass RX5 = some m.cls := hown
  obtain ⟨H, hH⟩ : ∃ H, H = s.heap := ⟨_, rfl⟩
  rw [← hH] at hP ⊢
  have hS : va_S A s.heap H [] := by rw [hH]; exact va_S.rf
  clear hH
  have hl : lv_has ls 8 [(0, .ref m0), (1, .int (nI ka)), (2, .int (nI kb)), (3, .long (Int64.ofInt L))] := hl
  have iX5 : ∀ w ∈ wsX50, w ∈ wsX5_cross := by decide +kernel
  have f_24 := hts (.fieldLink RX5 24 "RasterCoverModel" "py" "[J") (by decide +kernel)
  have f_30 := hts (.fieldLink RX5 30 "RasterCoverModel" "place" "[J") (by decide +kernel)
  have f_78 := hts (.fieldLink RX5 78 "RasterCoverModel" "crossings" "I") (by decide +kernel)
  have f_20 := hts (.fieldLink RX5 20 "RasterCoverModel" "px" "[J") (by decide +kernel)
  have f_33 := hts (.fieldLink RX5 33 "RasterCoverModel" "turn" "[I") (by decide +kernel)
  have hcn := hR.1
  obtain ⟨exa, eya, -, ⟨bxa1, bxa2⟩, bya1, bya2⟩ := hR.2 ka hka
  obtain ⟨exb, eyb, -, ⟨bxb1, bxb2⟩, byb1, byb2⟩ := hR.2 kb hkb
  refine lv_aload_n hx hb dX5_cross_0 rfl (lv_at hl 0 rfl) ?_
  refine va_get (D := D) (ci := 5) (v := .ref m5) (C := RX5) (T := TX5) (N := 21) hx hb hts iX5 hown hK hP 0 rfl rfl 9 (by decide) f_24 (fun _ h9 => h9) rfl dX5_cross_1 ?_
  refine lv_iload_n hx hb dX5_cross_4 rfl (lv_at hl 1 rfl) ?_
  refine q_lald hx hb hK hP 2 3 rfl rfl (k := ka) (by omega) (by omega) dX5_cross_5 ?_
  refine q_eql (y := Int64.ofInt (Y ka)) (hR.2 ka hka).2.1 ?_
  refine lv_aload_n hx hb dX5_cross_6 rfl (lv_at hl 0 rfl) ?_
  refine va_get (D := D) (ci := 5) (v := .ref m5) (C := RX5) (T := TX5) (N := 21) hx hb hts iX5 hown hK hP 0 rfl rfl 9 (by decide) f_24 (fun _ h9 => h9) rfl dX5_cross_7 ?_
  refine lv_iload_n hx hb dX5_cross_10 rfl (lv_at hl 2 rfl) ?_
  refine q_lald hx hb hK hP 2 3 rfl rfl (k := kb) (by omega) (by omega) dX5_cross_11 ?_
  refine q_eql (y := Int64.ofInt (Y kb)) (hR.2 kb hkb).2.1 ?_
  refine W.lcmp hx hb dX5_cross_12 ?_
  refine lv_if_gt (tgt := 20) hx hb dX5_cross_13 (by decide) (fun h_13 => ?_) (fun h_13 => ?_)
  · rw [lgc_gt, j_lt, w_t (by omega) (by omega), w_t (by omega) (by omega)] at h_13
    refine lv_iconst (v := nI 0) hx hb dX5_cross_20 (by decide) ?_
    refine lv_istore (lv' := [(5, .int (nI 0)), (0, .ref m0), (1, .int (nI ka)), (2, .int (nI kb)), (3, .long (Int64.ofInt L))]) hx hb dX5_cross_21 hl (by decide) rfl (fun ls hl => ?_)
    refine lv_iload hx hb dX5_cross_23 (lv_at hl 0 rfl) ?_
    refine q_if_eq (tgt := 32) hx hb (by omega) dX5_cross_25 (by decide) (fun h_25 => ?_) (fun h_25 => by omega)
    refine lv_iload_n hx hb dX5_cross_32 rfl (lv_at hl 3 rfl) ?_
    refine lv_istore (lv' := [(6, .int (nI kb)), (5, .int (nI 0)), (0, .ref m0), (1, .int (nI ka)), (2, .int (nI kb)), (3, .long (Int64.ofInt L))]) hx hb dX5_cross_33 hl (by decide) rfl (fun ls hl => ?_)
    refine lv_iload hx hb dX5_cross_35 (lv_at hl 1 rfl) ?_
    refine q_if_eq (tgt := 44) hx hb (by omega) dX5_cross_37 (by decide) (fun h_37 => ?_) (fun h_37 => by omega)
    refine lv_iload_n hx hb dX5_cross_44 rfl (lv_at hl 3 rfl) ?_
    refine lv_istore (lv' := [(7, .int (nI ka)), (6, .int (nI kb)), (5, .int (nI 0)), (0, .ref m0), (1, .int (nI ka)), (2, .int (nI kb)), (3, .long (Int64.ofInt L))]) hx hb dX5_cross_45 hl (by decide) rfl (fun ls hl => ?_)
    refine lv_aload_n hx hb dX5_cross_47 rfl (lv_at hl 3 rfl) ?_
    refine va_get (D := D) (ci := 5) (v := .ref m5) (C := RX5) (T := TX5) (N := 21) hx hb hts iX5 hown hK hP 0 rfl rfl 9 (by decide) f_24 (fun _ h9 => h9) rfl dX5_cross_48 ?_
    refine lv_iload hx hb dX5_cross_51 (lv_at hl 1 rfl) ?_
    refine q_lald hx hb hK hP 2 3 rfl rfl (k := kb) (by omega) (by omega) dX5_cross_53 ?_
    refine q_eql (y := Int64.ofInt (Y kb)) (hR.2 kb hkb).2.1 ?_
    refine lv_lload_n hx hb dX5_cross_54 rfl (lv_at hl 6 rfl) ?_
    refine W.lcmp hx hb dX5_cross_55 ?_
    refine lv_if_gt (tgt := 71) hx hb dX5_cross_56 (by decide) (fun h_56 => ?_) (fun h_56 => ?_)
    · rw [lgc_gt, j_lt, w_t (by omega) (by omega), w_t (by omega) (by omega)] at h_56
      have hr9 : CM gp gt xn (fun f => mu f + crsM X Y L ka kb f) ∧ xn ≤ xn + 1 := ⟨CM_congr hC (fun f => by show mu f = mu f + (if Y ka ≤ Y kb then _ else _); split; (· unfold crs; rw [if_neg (by omega)]; omega); (· unfold crs; rw [if_neg (by omega)]; omega)), by omega⟩
      exact hQ _ _ _ _ (gp, gt, xn) _ _ dX5_cross_71 (Nat.le_refl _) (Nat.le_refl _) hr9 (hP.sub [0, 1, 2, 3, 4, 5] rfl) hK (hD.sub [0, 1, 2, 3, 4, 5] (by decide) rfl) hS
    rw [lgc_gt, j_lt, w_t (by omega) (by omega), w_t (by omega) (by omega)] at h_56
    refine lv_aload_n hx hb dX5_cross_59 rfl (lv_at hl 3 rfl) ?_
    refine va_get (D := D) (ci := 5) (v := .ref m5) (C := RX5) (T := TX5) (N := 21) hx hb hts iX5 hown hK hP 0 rfl rfl 9 (by decide) f_24 (fun _ h9 => h9) rfl dX5_cross_60 ?_
    refine lv_iload hx hb dX5_cross_63 (lv_at hl 0 rfl) ?_
    refine q_lald hx hb hK hP 2 3 rfl rfl (k := ka) (by omega) (by omega) dX5_cross_65 ?_
    refine q_eql (y := Int64.ofInt (Y ka)) (hR.2 ka hka).2.1 ?_
    refine lv_lload_n hx hb dX5_cross_66 rfl (lv_at hl 6 rfl) ?_
    refine W.lcmp hx hb dX5_cross_67 ?_
    refine lv_if_gt (tgt := 72) hx hb dX5_cross_68 (by decide) (fun h_68 => ?_) (fun h_68 => ?_)
    · rw [lgc_gt, j_lt, w_t (by omega) (by omega), w_t (by omega) (by omega)] at h_68
      refine lv_aload_n hx hb dX5_cross_72 rfl (lv_at hl 3 rfl) ?_
      refine va_get (D := D) (ci := 5) (v := .ref m7) (C := RX5) (T := TX5) (N := 21) hx hb hts iX5 hown hK hP 0 rfl rfl 15 (by decide) f_30 (fun _ h9 => h9) rfl dX5_cross_73 ?_
      refine lv_aload_n hx hb dX5_cross_76 rfl (lv_at hl 3 rfl) ?_
      refine va_get (D := D) (ci := 5) (v := .int (nI xn)) (C := RX5) (T := TX5) (N := 21) hx hb hts iX5 hown hK hP 0 rfl rfl 14 (by decide) f_78 (fun _ h9 => h9) rfl dX5_cross_77 ?_
      refine lv_aload_n hx hb dX5_cross_80 rfl (lv_at hl 3 rfl) ?_
      refine va_get (D := D) (ci := 5) (v := .ref m4) (C := RX5) (T := TX5) (N := 21) hx hb hts iX5 hown hK hP 0 rfl rfl 8 (by decide) f_20 (fun _ h9 => h9) rfl dX5_cross_81 ?_
      refine lv_iload hx hb dX5_cross_84 (lv_at hl 1 rfl) ?_
      refine q_lald hx hb hK hP 1 3 rfl rfl (k := kb) (by omega) (by omega) dX5_cross_86 ?_
      refine q_eql (y := Int64.ofInt (X kb)) (hR.2 kb hkb).1 ?_
      refine lv_lload_n hx hb dX5_cross_87 rfl (lv_at hl 6 rfl) ?_
      refine lv_aload_n hx hb dX5_cross_88 rfl (lv_at hl 3 rfl) ?_
      refine va_get (D := D) (ci := 5) (v := .ref m5) (C := RX5) (T := TX5) (N := 21) hx hb hts iX5 hown hK hP 0 rfl rfl 9 (by decide) f_24 (fun _ h9 => h9) rfl dX5_cross_89 ?_
      refine lv_iload hx hb dX5_cross_92 (lv_at hl 1 rfl) ?_
      refine q_lald hx hb hK hP 2 3 rfl rfl (k := kb) (by omega) (by omega) dX5_cross_94 ?_
      refine q_eql (y := Int64.ofInt (Y kb)) (hR.2 kb hkb).2.1 ?_
      refine lv_lsub hx hb dX5_cross_95 ?_
      refine q_eql (y := Int64.ofInt (L - (Y kb))) (by exact w_sub _ _) ?_
      refine lv_aload_n hx hb dX5_cross_96 rfl (lv_at hl 3 rfl) ?_
      refine va_get (D := D) (ci := 5) (v := .ref m4) (C := RX5) (T := TX5) (N := 21) hx hb hts iX5 hown hK hP 0 rfl rfl 8 (by decide) f_20 (fun _ h9 => h9) rfl dX5_cross_97 ?_
      refine lv_iload hx hb dX5_cross_100 (lv_at hl 0 rfl) ?_
      refine q_lald hx hb hK hP 1 3 rfl rfl (k := ka) (by omega) (by omega) dX5_cross_102 ?_
      refine q_eql (y := Int64.ofInt (X ka)) (hR.2 ka hka).1 ?_
      refine lv_aload_n hx hb dX5_cross_103 rfl (lv_at hl 3 rfl) ?_
      refine va_get (D := D) (ci := 5) (v := .ref m4) (C := RX5) (T := TX5) (N := 21) hx hb hts iX5 hown hK hP 0 rfl rfl 8 (by decide) f_20 (fun _ h9 => h9) rfl dX5_cross_104 ?_
      refine lv_iload hx hb dX5_cross_107 (lv_at hl 1 rfl) ?_
      refine q_lald hx hb hK hP 1 3 rfl rfl (k := kb) (by omega) (by omega) dX5_cross_109 ?_
      refine q_eql (y := Int64.ofInt (X kb)) (hR.2 kb hkb).1 ?_
      refine lv_lsub hx hb dX5_cross_110 ?_
      refine q_eql (y := Int64.ofInt ((X ka) - (X kb))) (by exact w_sub _ _) ?_
      refine lv_lmul hx hb dX5_cross_111 ?_
      refine q_eql (y := Int64.ofInt ((L - (Y kb)) * ((X ka) - (X kb)))) (w_mul _ _) ?_
      refine lv_aload_n hx hb dX5_cross_112 rfl (lv_at hl 3 rfl) ?_
      refine va_get (D := D) (ci := 5) (v := .ref m5) (C := RX5) (T := TX5) (N := 21) hx hb hts iX5 hown hK hP 0 rfl rfl 9 (by decide) f_24 (fun _ h9 => h9) rfl dX5_cross_113 ?_
      refine lv_iload hx hb dX5_cross_116 (lv_at hl 0 rfl) ?_
      refine q_lald hx hb hK hP 2 3 rfl rfl (k := ka) (by omega) (by omega) dX5_cross_118 ?_
      refine q_eql (y := Int64.ofInt (Y ka)) (hR.2 ka hka).2.1 ?_
      refine lv_aload_n hx hb dX5_cross_119 rfl (lv_at hl 3 rfl) ?_
      refine va_get (D := D) (ci := 5) (v := .ref m5) (C := RX5) (T := TX5) (N := 21) hx hb hts iX5 hown hK hP 0 rfl rfl 9 (by decide) f_24 (fun _ h9 => h9) rfl dX5_cross_120 ?_
      refine lv_iload hx hb dX5_cross_123 (lv_at hl 1 rfl) ?_
      refine q_lald hx hb hK hP 2 3 rfl rfl (k := kb) (by omega) (by omega) dX5_cross_125 ?_
      refine q_eql (y := Int64.ofInt (Y kb)) (hR.2 kb hkb).2.1 ?_
      refine lv_lsub hx hb dX5_cross_126 ?_
      refine q_eql (y := Int64.ofInt ((Y ka) - (Y kb))) (by exact w_sub _ _) ?_
      refine q_l0 (wr := [(m0, .inr (5, [.int th, .int (nI wd), .int (nI ht), .int (nI pn), .ref m1, .ref m2, .ref m3, .int (nI cn), .ref m4, .ref m5, .ref m6, .int fl, .int (nI bf), .int (nI bt), .int (nI xn), .ref m7, .ref m8, .ref m9, .int ip, .int (nI ps), .ref ma])), (m4, .inl (cJ, 100, .inr (.inl gx))), (m5, .inl (cJ, 100, .inr (.inl gy))), (m6, .inl (cZ, 100, .inl gb)), (m7, .inl (cJ, 200, .inr (.inl gp))), (m8, .inl (cI, 200, .inl gt))]) (va_runS (As := [.long (Int64.ofInt ((L - (Y kb)) * ((X ka) - (X kb)))), .long (Int64.ofInt ((Y ka) - (Y kb)))]) (rest := [.long (Int64.ofInt (X kb)), .int (nI xn), .ref m7]) ⟨hx, hb, hml, hown, hts⟩ (c_X5_down l D cI cZ cB cJ H.size (Int64.ofInt ((L - (Y kb)) * ((X ka) - (X kb)))) (Int64.ofInt ((Y ka) - (Y kb))) (fun z => by rw [j_eq, w_t (by omega) (by omega), show (0 : Int64).toInt = 0 from by decide] at z; omega)) (va_cwS 2 hts gX5_cross_X5_down rfl rfl rfl (by decide +kernel) ⟨Nat.le_of_ble_eq_true rfl, Nat.le_of_ble_eq_true rfl⟩) (q_pre (wc := []) hP hD hK hN [] (by decide) rfl) rfl rfl hl.1 rfl (lv_room (Nat.le_of_ble_eq_true rfl)) dX5_cross_127 ⟨Nat.zero_le _, Nat.zero_le _⟩) hS hA hP hD [] [0, 1, 2, 3, 4, 5] rfl rfl (by decide) (by decide) (fun r_127 u H locs hp_127 hP hD hS => ?_)
      have hP : va_P D qCl [(m0, .inr (5, [.int th, .int (nI wd), .int (nI ht), .int (nI pn), .ref m1, .ref m2, .ref m3, .int (nI cn), .ref m4, .ref m5, .ref m6, .int fl, .int (nI bf), .int (nI bt), .int (nI xn), .ref m7, .ref m8, .ref m9, .int ip, .int (nI ps), .ref ma])), (m4, .inl (cJ, 100, .inr (.inl gx))), (m5, .inl (cJ, 100, .inr (.inl gy))), (m6, .inl (cZ, 100, .inl gb)), (m7, .inl (cJ, 200, .inr (.inl gp))), (m8, .inl (cI, 200, .inl gt))] H := hP
      have hD : va_D A [(m0, .inr (5, [.int th, .int (nI wd), .int (nI ht), .int (nI pn), .ref m1, .ref m2, .ref m3, .int (nI cn), .ref m4, .ref m5, .ref m6, .int fl, .int (nI bf), .int (nI bt), .int (nI xn), .ref m7, .ref m8, .ref m9, .int ip, .int (nI ps), .ref ma])), (m4, .inl (cJ, 100, .inr (.inl gx))), (m5, .inl (cJ, 100, .inr (.inl gy))), (m6, .inl (cZ, 100, .inl gb)), (m7, .inl (cJ, 200, .inr (.inl gp))), (m8, .inl (cI, 200, .inl gt))] := hD
      have hp_127 : r_127 = dnJ (Int64.ofInt ((L - (Y kb)) * ((X ka) - (X kb)))) (Int64.ofInt ((Y ka) - (Y kb))) := hp_127
      subst hp_127
      have hm9 := mul_bd (a := (L - (Y kb))) (b := ((X ka) - (X kb))) (by omega) (by omega) (by omega) (by omega)
      refine q_eql (y := Int64.ofInt (((L - (Y kb)) * ((X ka) - (X kb))) / ((Y ka) - (Y kb)))) (dnJ_eq (by omega) (by omega) (by omega) (by omega)) ?_
      refine lv_ladd hx hb dX5_cross_130 ?_
      refine q_eql (y := Int64.ofInt (plc X Y L kb ka)) (w_add _ _) ?_
      refine q_last hx hb hK hP hD hS 4 3 rfl rfl (k := xn) (by omega) (by omega) dX5_cross_131 (fun H locs hP hD hS => ?_)
      have hP : va_P D qCl [(m0, .inr (5, [.int th, .int (nI wd), .int (nI ht), .int (nI pn), .ref m1, .ref m2, .ref m3, .int (nI cn), .ref m4, .ref m5, .ref m6, .int fl, .int (nI bf), .int (nI bt), .int (nI xn), .ref m7, .ref m8, .ref m9, .int ip, .int (nI ps), .ref ma])), (m4, .inl (cJ, 100, .inr (.inl gx))), (m5, .inl (cJ, 100, .inr (.inl gy))), (m6, .inl (cZ, 100, .inl gb)), (m7, .inl (cJ, 200, .inr (.inl (vp_updL gp xn (Int64.ofInt (plc X Y L kb ka)))))), (m8, .inl (cI, 200, .inl gt))] H := hP
      have hD : va_D A [(m0, .inr (5, [.int th, .int (nI wd), .int (nI ht), .int (nI pn), .ref m1, .ref m2, .ref m3, .int (nI cn), .ref m4, .ref m5, .ref m6, .int fl, .int (nI bf), .int (nI bt), .int (nI xn), .ref m7, .ref m8, .ref m9, .int ip, .int (nI ps), .ref ma])), (m4, .inl (cJ, 100, .inr (.inl gx))), (m5, .inl (cJ, 100, .inr (.inl gy))), (m6, .inl (cZ, 100, .inl gb)), (m7, .inl (cJ, 200, .inr (.inl (vp_updL gp xn (Int64.ofInt (plc X Y L kb ka)))))), (m8, .inl (cI, 200, .inl gt))] := hD
      refine lv_aload_n hx hb dX5_cross_132 rfl (lv_at hl 3 rfl) ?_
      refine va_get (D := D) (ci := 5) (v := .ref m8) (C := RX5) (T := TX5) (N := 21) hx hb hts iX5 hown hK hP 0 rfl rfl 16 (by decide) f_33 (fun _ h9 => h9) rfl dX5_cross_133 ?_
      refine lv_aload_n hx hb dX5_cross_136 rfl (lv_at hl 3 rfl) ?_
      refine va_get (D := D) (ci := 5) (v := .int (nI xn)) (C := RX5) (T := TX5) (N := 21) hx hb hts iX5 hown hK hP 0 rfl rfl 14 (by decide) f_78 (fun _ h9 => h9) rfl dX5_cross_137 ?_
      refine lv_iload hx hb dX5_cross_140 (lv_at hl 2 rfl) ?_
      refine q_if_eq (tgt := 149) hx hb (by omega) dX5_cross_142 (by decide) (fun h_142 => ?_) (fun h_142 => by omega)
      refine lv_iconst (v := (-1)) hx hb dX5_cross_149 (by decide) ?_
      refine q_eqi (y := Int32.ofInt (-1)) (by decide) ?_
      refine q_iast hx hb hK hP hD hS 5 0 rfl rfl (k := xn) (by omega) (by omega) dX5_cross_150 (fun H locs hP hD hS => ?_)
      have hP : va_P D qCl [(m0, .inr (5, [.int th, .int (nI wd), .int (nI ht), .int (nI pn), .ref m1, .ref m2, .ref m3, .int (nI cn), .ref m4, .ref m5, .ref m6, .int fl, .int (nI bf), .int (nI bt), .int (nI xn), .ref m7, .ref m8, .ref m9, .int ip, .int (nI ps), .ref ma])), (m4, .inl (cJ, 100, .inr (.inl gx))), (m5, .inl (cJ, 100, .inr (.inl gy))), (m6, .inl (cZ, 100, .inl gb)), (m7, .inl (cJ, 200, .inr (.inl (vp_updL gp xn (Int64.ofInt (plc X Y L kb ka)))))), (m8, .inl (cI, 200, .inl (upd gt xn (Int32.ofInt (-1)))))] H := hP
      have hD : va_D A [(m0, .inr (5, [.int th, .int (nI wd), .int (nI ht), .int (nI pn), .ref m1, .ref m2, .ref m3, .int (nI cn), .ref m4, .ref m5, .ref m6, .int fl, .int (nI bf), .int (nI bt), .int (nI xn), .ref m7, .ref m8, .ref m9, .int ip, .int (nI ps), .ref ma])), (m4, .inl (cJ, 100, .inr (.inl gx))), (m5, .inl (cJ, 100, .inr (.inl gy))), (m6, .inl (cZ, 100, .inl gb)), (m7, .inl (cJ, 200, .inr (.inl (vp_updL gp xn (Int64.ofInt (plc X Y L kb ka)))))), (m8, .inl (cI, 200, .inl (upd gt xn (Int32.ofInt (-1)))))] := hD
      refine lv_aload_n hx hb dX5_cross_151 rfl (lv_at hl 3 rfl) ?_
      refine lv_dup hx hb dX5_cross_152 rfl ?_
      refine va_get (D := D) (ci := 5) (v := .int (nI xn)) (C := RX5) (T := TX5) (N := 21) hx hb hts iX5 hown hK hP 0 rfl rfl 14 (by decide) f_78 (fun _ h9 => h9) rfl dX5_cross_153 ?_
      refine lv_iconst (v := nI 1) hx hb dX5_cross_156 (by decide) ?_
      refine lv_iadd hx hb dX5_cross_157 ?_
      refine q_eqi (nI_add _ _) ?_
      refine va_put (D := D) (ci := 5) (v := .int (nI (xn + 1))) (ty := .int) (C := RX5) (T := TX5) (N := 21) hx hb hts iX5 tyX5 tyX5_ok nmX5 hown hK hP hD hS 0 rfl rfl 14 (by decide) f_78 (fun _ h9 => h9) rfl (by decide +kernel) rfl rfl (Nat.le_of_ble_eq_true rfl) dX5_cross_158 (fun H locs hP hD hS => ?_)
      have hP : va_P D qCl [(m0, .inr (5, [.int th, .int (nI wd), .int (nI ht), .int (nI pn), .ref m1, .ref m2, .ref m3, .int (nI cn), .ref m4, .ref m5, .ref m6, .int fl, .int (nI bf), .int (nI bt), .int (nI (xn + 1)), .ref m7, .ref m8, .ref m9, .int ip, .int (nI ps), .ref ma])), (m4, .inl (cJ, 100, .inr (.inl gx))), (m5, .inl (cJ, 100, .inr (.inl gy))), (m6, .inl (cZ, 100, .inl gb)), (m7, .inl (cJ, 200, .inr (.inl (vp_updL gp xn (Int64.ofInt (plc X Y L kb ka)))))), (m8, .inl (cI, 200, .inl (upd gt xn (Int32.ofInt (-1)))))] H := hP
      have hD : va_D A [(m0, .inr (5, [.int th, .int (nI wd), .int (nI ht), .int (nI pn), .ref m1, .ref m2, .ref m3, .int (nI cn), .ref m4, .ref m5, .ref m6, .int fl, .int (nI bf), .int (nI bt), .int (nI (xn + 1)), .ref m7, .ref m8, .ref m9, .int ip, .int (nI ps), .ref ma])), (m4, .inl (cJ, 100, .inr (.inl gx))), (m5, .inl (cJ, 100, .inr (.inl gy))), (m6, .inl (cZ, 100, .inl gb)), (m7, .inl (cJ, 200, .inr (.inl (vp_updL gp xn (Int64.ofInt (plc X Y L kb ka)))))), (m8, .inl (cI, 200, .inl (upd gt xn (Int32.ofInt (-1)))))] := hD
      have hr9 : CM (vp_updL gp xn (Int64.ofInt (plc X Y L kb ka))) (upd gt xn (Int32.ofInt (-1))) (xn + 1) (fun f => mu f + crsM X Y L ka kb f) ∧ (xn + 1) ≤ xn + 1 := ⟨CM_congr (CM_add hC (-1) (plc_bd (by omega) (by omega) ⟨bxb1, bxb2⟩ ⟨bxa1, bxa2⟩)) (fun f => by show mu f + f (plc X Y L kb ka) (-1) = mu f + (if Y ka ≤ Y kb then _ else _); rw [if_neg (by omega)]; unfold crs; rw [if_pos ⟨by omega, by omega⟩]), Nat.le_refl _⟩
      exact hQ _ _ _ _ (vp_updL gp xn (Int64.ofInt (plc X Y L kb ka)), upd gt xn (Int32.ofInt (-1)), xn + 1) _ _ dX5_cross_161 (Nat.le_refl _) (Nat.le_refl _) hr9 (hP.sub [0, 1, 2, 3, 4, 5] rfl) hK (hD.sub [0, 1, 2, 3, 4, 5] (by decide) rfl) hS
    rw [lgc_gt, j_lt, w_t (by omega) (by omega), w_t (by omega) (by omega)] at h_68
    have hr9 : CM gp gt xn (fun f => mu f + crsM X Y L ka kb f) ∧ xn ≤ xn + 1 := ⟨CM_congr hC (fun f => by show mu f = mu f + (if Y ka ≤ Y kb then _ else _); split; (· unfold crs; rw [if_neg (by omega)]; omega); (· unfold crs; rw [if_neg (by omega)]; omega)), by omega⟩
    exact hQ _ _ _ _ (gp, gt, xn) _ _ dX5_cross_71 (Nat.le_refl _) (Nat.le_refl _) hr9 (hP.sub [0, 1, 2, 3, 4, 5] rfl) hK (hD.sub [0, 1, 2, 3, 4, 5] (by decide) rfl) hS
  rw [lgc_gt, j_lt, w_t (by omega) (by omega), w_t (by omega) (by omega)] at h_13
  refine lv_iconst (v := nI 1) hx hb dX5_cross_16 (by decide) ?_
  refine lv_goto (tgt := 21) hx hb dX5_cross_17 (by decide) ?_
  refine lv_istore (lv' := [(5, .int (nI 1)), (0, .ref m0), (1, .int (nI ka)), (2, .int (nI kb)), (3, .long (Int64.ofInt L))]) hx hb dX5_cross_21 hl (by decide) rfl (fun ls hl => ?_)
  refine lv_iload hx hb dX5_cross_23 (lv_at hl 0 rfl) ?_
  refine q_if_eq (tgt := 32) hx hb (by omega) dX5_cross_25 (by decide) (fun h_25 => by omega) (fun h_25 => ?_)
  refine lv_iload_n hx hb dX5_cross_28 rfl (lv_at hl 2 rfl) ?_
  refine lv_goto (tgt := 33) hx hb dX5_cross_29 (by decide) ?_
  refine lv_istore (lv' := [(6, .int (nI ka)), (5, .int (nI 1)), (0, .ref m0), (1, .int (nI ka)), (2, .int (nI kb)), (3, .long (Int64.ofInt L))]) hx hb dX5_cross_33 hl (by decide) rfl (fun ls hl => ?_)
  refine lv_iload hx hb dX5_cross_35 (lv_at hl 1 rfl) ?_
  refine q_if_eq (tgt := 44) hx hb (by omega) dX5_cross_37 (by decide) (fun h_37 => by omega) (fun h_37 => ?_)
  refine lv_iload_n hx hb dX5_cross_40 rfl (lv_at hl 4 rfl) ?_
  refine lv_goto (tgt := 45) hx hb dX5_cross_41 (by decide) ?_
  refine lv_istore (lv' := [(7, .int (nI kb)), (6, .int (nI ka)), (5, .int (nI 1)), (0, .ref m0), (1, .int (nI ka)), (2, .int (nI kb)), (3, .long (Int64.ofInt L))]) hx hb dX5_cross_45 hl (by decide) rfl (fun ls hl => ?_)
  refine lv_aload_n hx hb dX5_cross_47 rfl (lv_at hl 3 rfl) ?_
  refine va_get (D := D) (ci := 5) (v := .ref m5) (C := RX5) (T := TX5) (N := 21) hx hb hts iX5 hown hK hP 0 rfl rfl 9 (by decide) f_24 (fun _ h9 => h9) rfl dX5_cross_48 ?_
  refine lv_iload hx hb dX5_cross_51 (lv_at hl 1 rfl) ?_
  refine q_lald hx hb hK hP 2 3 rfl rfl (k := ka) (by omega) (by omega) dX5_cross_53 ?_
  refine q_eql (y := Int64.ofInt (Y ka)) (hR.2 ka hka).2.1 ?_
  refine lv_lload_n hx hb dX5_cross_54 rfl (lv_at hl 6 rfl) ?_
  refine W.lcmp hx hb dX5_cross_55 ?_
  refine lv_if_gt (tgt := 71) hx hb dX5_cross_56 (by decide) (fun h_56 => ?_) (fun h_56 => ?_)
  · rw [lgc_gt, j_lt, w_t (by omega) (by omega), w_t (by omega) (by omega)] at h_56
    have hr9 : CM gp gt xn (fun f => mu f + crsM X Y L ka kb f) ∧ xn ≤ xn + 1 := ⟨CM_congr hC (fun f => by show mu f = mu f + (if Y ka ≤ Y kb then _ else _); split; (· unfold crs; rw [if_neg (by omega)]; omega); (· unfold crs; rw [if_neg (by omega)]; omega)), by omega⟩
    exact hQ _ _ _ _ (gp, gt, xn) _ _ dX5_cross_71 (Nat.le_refl _) (Nat.le_refl _) hr9 (hP.sub [0, 1, 2, 3, 4, 5] rfl) hK (hD.sub [0, 1, 2, 3, 4, 5] (by decide) rfl) hS
  rw [lgc_gt, j_lt, w_t (by omega) (by omega), w_t (by omega) (by omega)] at h_56
  refine lv_aload_n hx hb dX5_cross_59 rfl (lv_at hl 3 rfl) ?_
  refine va_get (D := D) (ci := 5) (v := .ref m5) (C := RX5) (T := TX5) (N := 21) hx hb hts iX5 hown hK hP 0 rfl rfl 9 (by decide) f_24 (fun _ h9 => h9) rfl dX5_cross_60 ?_
  refine lv_iload hx hb dX5_cross_63 (lv_at hl 0 rfl) ?_
  refine q_lald hx hb hK hP 2 3 rfl rfl (k := kb) (by omega) (by omega) dX5_cross_65 ?_
  refine q_eql (y := Int64.ofInt (Y kb)) (hR.2 kb hkb).2.1 ?_
  refine lv_lload_n hx hb dX5_cross_66 rfl (lv_at hl 6 rfl) ?_
  refine W.lcmp hx hb dX5_cross_67 ?_
  refine lv_if_gt (tgt := 72) hx hb dX5_cross_68 (by decide) (fun h_68 => ?_) (fun h_68 => ?_)
  · rw [lgc_gt, j_lt, w_t (by omega) (by omega), w_t (by omega) (by omega)] at h_68
    refine lv_aload_n hx hb dX5_cross_72 rfl (lv_at hl 3 rfl) ?_
    refine va_get (D := D) (ci := 5) (v := .ref m7) (C := RX5) (T := TX5) (N := 21) hx hb hts iX5 hown hK hP 0 rfl rfl 15 (by decide) f_30 (fun _ h9 => h9) rfl dX5_cross_73 ?_
    refine lv_aload_n hx hb dX5_cross_76 rfl (lv_at hl 3 rfl) ?_
    refine va_get (D := D) (ci := 5) (v := .int (nI xn)) (C := RX5) (T := TX5) (N := 21) hx hb hts iX5 hown hK hP 0 rfl rfl 14 (by decide) f_78 (fun _ h9 => h9) rfl dX5_cross_77 ?_
    refine lv_aload_n hx hb dX5_cross_80 rfl (lv_at hl 3 rfl) ?_
    refine va_get (D := D) (ci := 5) (v := .ref m4) (C := RX5) (T := TX5) (N := 21) hx hb hts iX5 hown hK hP 0 rfl rfl 8 (by decide) f_20 (fun _ h9 => h9) rfl dX5_cross_81 ?_
    refine lv_iload hx hb dX5_cross_84 (lv_at hl 1 rfl) ?_
    refine q_lald hx hb hK hP 1 3 rfl rfl (k := ka) (by omega) (by omega) dX5_cross_86 ?_
    refine q_eql (y := Int64.ofInt (X ka)) (hR.2 ka hka).1 ?_
    refine lv_lload_n hx hb dX5_cross_87 rfl (lv_at hl 6 rfl) ?_
    refine lv_aload_n hx hb dX5_cross_88 rfl (lv_at hl 3 rfl) ?_
    refine va_get (D := D) (ci := 5) (v := .ref m5) (C := RX5) (T := TX5) (N := 21) hx hb hts iX5 hown hK hP 0 rfl rfl 9 (by decide) f_24 (fun _ h9 => h9) rfl dX5_cross_89 ?_
    refine lv_iload hx hb dX5_cross_92 (lv_at hl 1 rfl) ?_
    refine q_lald hx hb hK hP 2 3 rfl rfl (k := ka) (by omega) (by omega) dX5_cross_94 ?_
    refine q_eql (y := Int64.ofInt (Y ka)) (hR.2 ka hka).2.1 ?_
    refine lv_lsub hx hb dX5_cross_95 ?_
    refine q_eql (y := Int64.ofInt (L - (Y ka))) (by exact w_sub _ _) ?_
    refine lv_aload_n hx hb dX5_cross_96 rfl (lv_at hl 3 rfl) ?_
    refine va_get (D := D) (ci := 5) (v := .ref m4) (C := RX5) (T := TX5) (N := 21) hx hb hts iX5 hown hK hP 0 rfl rfl 8 (by decide) f_20 (fun _ h9 => h9) rfl dX5_cross_97 ?_
    refine lv_iload hx hb dX5_cross_100 (lv_at hl 0 rfl) ?_
    refine q_lald hx hb hK hP 1 3 rfl rfl (k := kb) (by omega) (by omega) dX5_cross_102 ?_
    refine q_eql (y := Int64.ofInt (X kb)) (hR.2 kb hkb).1 ?_
    refine lv_aload_n hx hb dX5_cross_103 rfl (lv_at hl 3 rfl) ?_
    refine va_get (D := D) (ci := 5) (v := .ref m4) (C := RX5) (T := TX5) (N := 21) hx hb hts iX5 hown hK hP 0 rfl rfl 8 (by decide) f_20 (fun _ h9 => h9) rfl dX5_cross_104 ?_
    refine lv_iload hx hb dX5_cross_107 (lv_at hl 1 rfl) ?_
    refine q_lald hx hb hK hP 1 3 rfl rfl (k := ka) (by omega) (by omega) dX5_cross_109 ?_
    refine q_eql (y := Int64.ofInt (X ka)) (hR.2 ka hka).1 ?_
    refine lv_lsub hx hb dX5_cross_110 ?_
    refine q_eql (y := Int64.ofInt ((X kb) - (X ka))) (by exact w_sub _ _) ?_
    refine lv_lmul hx hb dX5_cross_111 ?_
    refine q_eql (y := Int64.ofInt ((L - (Y ka)) * ((X kb) - (X ka)))) (w_mul _ _) ?_
    refine lv_aload_n hx hb dX5_cross_112 rfl (lv_at hl 3 rfl) ?_
    refine va_get (D := D) (ci := 5) (v := .ref m5) (C := RX5) (T := TX5) (N := 21) hx hb hts iX5 hown hK hP 0 rfl rfl 9 (by decide) f_24 (fun _ h9 => h9) rfl dX5_cross_113 ?_
    refine lv_iload hx hb dX5_cross_116 (lv_at hl 0 rfl) ?_
    refine q_lald hx hb hK hP 2 3 rfl rfl (k := kb) (by omega) (by omega) dX5_cross_118 ?_
    refine q_eql (y := Int64.ofInt (Y kb)) (hR.2 kb hkb).2.1 ?_
    refine lv_aload_n hx hb dX5_cross_119 rfl (lv_at hl 3 rfl) ?_
    refine va_get (D := D) (ci := 5) (v := .ref m5) (C := RX5) (T := TX5) (N := 21) hx hb hts iX5 hown hK hP 0 rfl rfl 9 (by decide) f_24 (fun _ h9 => h9) rfl dX5_cross_120 ?_
    refine lv_iload hx hb dX5_cross_123 (lv_at hl 1 rfl) ?_
    refine q_lald hx hb hK hP 2 3 rfl rfl (k := ka) (by omega) (by omega) dX5_cross_125 ?_
    refine q_eql (y := Int64.ofInt (Y ka)) (hR.2 ka hka).2.1 ?_
    refine lv_lsub hx hb dX5_cross_126 ?_
    refine q_eql (y := Int64.ofInt ((Y kb) - (Y ka))) (by exact w_sub _ _) ?_
    refine q_l0 (wr := [(m0, .inr (5, [.int th, .int (nI wd), .int (nI ht), .int (nI pn), .ref m1, .ref m2, .ref m3, .int (nI cn), .ref m4, .ref m5, .ref m6, .int fl, .int (nI bf), .int (nI bt), .int (nI xn), .ref m7, .ref m8, .ref m9, .int ip, .int (nI ps), .ref ma])), (m4, .inl (cJ, 100, .inr (.inl gx))), (m5, .inl (cJ, 100, .inr (.inl gy))), (m6, .inl (cZ, 100, .inl gb)), (m7, .inl (cJ, 200, .inr (.inl gp))), (m8, .inl (cI, 200, .inl gt))]) (va_runS (As := [.long (Int64.ofInt ((L - (Y ka)) * ((X kb) - (X ka)))), .long (Int64.ofInt ((Y kb) - (Y ka)))]) (rest := [.long (Int64.ofInt (X ka)), .int (nI xn), .ref m7]) ⟨hx, hb, hml, hown, hts⟩ (c_X5_down l D cI cZ cB cJ H.size (Int64.ofInt ((L - (Y ka)) * ((X kb) - (X ka)))) (Int64.ofInt ((Y kb) - (Y ka))) (fun z => by rw [j_eq, w_t (by omega) (by omega), show (0 : Int64).toInt = 0 from by decide] at z; omega)) (va_cwS 2 hts gX5_cross_X5_down rfl rfl rfl (by decide +kernel) ⟨Nat.le_of_ble_eq_true rfl, Nat.le_of_ble_eq_true rfl⟩) (q_pre (wc := []) hP hD hK hN [] (by decide) rfl) rfl rfl hl.1 rfl (lv_room (Nat.le_of_ble_eq_true rfl)) dX5_cross_127 ⟨Nat.zero_le _, Nat.zero_le _⟩) hS hA hP hD [] [0, 1, 2, 3, 4, 5] rfl rfl (by decide) (by decide) (fun r_127 u H locs hp_127 hP hD hS => ?_)
    have hP : va_P D qCl [(m0, .inr (5, [.int th, .int (nI wd), .int (nI ht), .int (nI pn), .ref m1, .ref m2, .ref m3, .int (nI cn), .ref m4, .ref m5, .ref m6, .int fl, .int (nI bf), .int (nI bt), .int (nI xn), .ref m7, .ref m8, .ref m9, .int ip, .int (nI ps), .ref ma])), (m4, .inl (cJ, 100, .inr (.inl gx))), (m5, .inl (cJ, 100, .inr (.inl gy))), (m6, .inl (cZ, 100, .inl gb)), (m7, .inl (cJ, 200, .inr (.inl gp))), (m8, .inl (cI, 200, .inl gt))] H := hP
    have hD : va_D A [(m0, .inr (5, [.int th, .int (nI wd), .int (nI ht), .int (nI pn), .ref m1, .ref m2, .ref m3, .int (nI cn), .ref m4, .ref m5, .ref m6, .int fl, .int (nI bf), .int (nI bt), .int (nI xn), .ref m7, .ref m8, .ref m9, .int ip, .int (nI ps), .ref ma])), (m4, .inl (cJ, 100, .inr (.inl gx))), (m5, .inl (cJ, 100, .inr (.inl gy))), (m6, .inl (cZ, 100, .inl gb)), (m7, .inl (cJ, 200, .inr (.inl gp))), (m8, .inl (cI, 200, .inl gt))] := hD
    have hp_127 : r_127 = dnJ (Int64.ofInt ((L - (Y ka)) * ((X kb) - (X ka)))) (Int64.ofInt ((Y kb) - (Y ka))) := hp_127
    subst hp_127
    have hm9 := mul_bd (a := (L - (Y ka))) (b := ((X kb) - (X ka))) (by omega) (by omega) (by omega) (by omega)
    refine q_eql (y := Int64.ofInt (((L - (Y ka)) * ((X kb) - (X ka))) / ((Y kb) - (Y ka)))) (dnJ_eq (by omega) (by omega) (by omega) (by omega)) ?_
    refine lv_ladd hx hb dX5_cross_130 ?_
    refine q_eql (y := Int64.ofInt (plc X Y L ka kb)) (w_add _ _) ?_
    refine q_last hx hb hK hP hD hS 4 3 rfl rfl (k := xn) (by omega) (by omega) dX5_cross_131 (fun H locs hP hD hS => ?_)
    have hP : va_P D qCl [(m0, .inr (5, [.int th, .int (nI wd), .int (nI ht), .int (nI pn), .ref m1, .ref m2, .ref m3, .int (nI cn), .ref m4, .ref m5, .ref m6, .int fl, .int (nI bf), .int (nI bt), .int (nI xn), .ref m7, .ref m8, .ref m9, .int ip, .int (nI ps), .ref ma])), (m4, .inl (cJ, 100, .inr (.inl gx))), (m5, .inl (cJ, 100, .inr (.inl gy))), (m6, .inl (cZ, 100, .inl gb)), (m7, .inl (cJ, 200, .inr (.inl (vp_updL gp xn (Int64.ofInt (plc X Y L ka kb)))))), (m8, .inl (cI, 200, .inl gt))] H := hP
    have hD : va_D A [(m0, .inr (5, [.int th, .int (nI wd), .int (nI ht), .int (nI pn), .ref m1, .ref m2, .ref m3, .int (nI cn), .ref m4, .ref m5, .ref m6, .int fl, .int (nI bf), .int (nI bt), .int (nI xn), .ref m7, .ref m8, .ref m9, .int ip, .int (nI ps), .ref ma])), (m4, .inl (cJ, 100, .inr (.inl gx))), (m5, .inl (cJ, 100, .inr (.inl gy))), (m6, .inl (cZ, 100, .inl gb)), (m7, .inl (cJ, 200, .inr (.inl (vp_updL gp xn (Int64.ofInt (plc X Y L ka kb)))))), (m8, .inl (cI, 200, .inl gt))] := hD
    refine lv_aload_n hx hb dX5_cross_132 rfl (lv_at hl 3 rfl) ?_
    refine va_get (D := D) (ci := 5) (v := .ref m8) (C := RX5) (T := TX5) (N := 21) hx hb hts iX5 hown hK hP 0 rfl rfl 16 (by decide) f_33 (fun _ h9 => h9) rfl dX5_cross_133 ?_
    refine lv_aload_n hx hb dX5_cross_136 rfl (lv_at hl 3 rfl) ?_
    refine va_get (D := D) (ci := 5) (v := .int (nI xn)) (C := RX5) (T := TX5) (N := 21) hx hb hts iX5 hown hK hP 0 rfl rfl 14 (by decide) f_78 (fun _ h9 => h9) rfl dX5_cross_137 ?_
    refine lv_iload hx hb dX5_cross_140 (lv_at hl 2 rfl) ?_
    refine q_if_eq (tgt := 149) hx hb (by omega) dX5_cross_142 (by decide) (fun h_142 => by omega) (fun h_142 => ?_)
    refine lv_iconst (v := nI 1) hx hb dX5_cross_145 (by decide) ?_
    refine q_eqi (y := Int32.ofInt 1) (by decide) ?_
    refine lv_goto (tgt := 150) hx hb dX5_cross_146 (by decide) ?_
    refine q_iast hx hb hK hP hD hS 5 0 rfl rfl (k := xn) (by omega) (by omega) dX5_cross_150 (fun H locs hP hD hS => ?_)
    have hP : va_P D qCl [(m0, .inr (5, [.int th, .int (nI wd), .int (nI ht), .int (nI pn), .ref m1, .ref m2, .ref m3, .int (nI cn), .ref m4, .ref m5, .ref m6, .int fl, .int (nI bf), .int (nI bt), .int (nI xn), .ref m7, .ref m8, .ref m9, .int ip, .int (nI ps), .ref ma])), (m4, .inl (cJ, 100, .inr (.inl gx))), (m5, .inl (cJ, 100, .inr (.inl gy))), (m6, .inl (cZ, 100, .inl gb)), (m7, .inl (cJ, 200, .inr (.inl (vp_updL gp xn (Int64.ofInt (plc X Y L ka kb)))))), (m8, .inl (cI, 200, .inl (upd gt xn (Int32.ofInt 1))))] H := hP
    have hD : va_D A [(m0, .inr (5, [.int th, .int (nI wd), .int (nI ht), .int (nI pn), .ref m1, .ref m2, .ref m3, .int (nI cn), .ref m4, .ref m5, .ref m6, .int fl, .int (nI bf), .int (nI bt), .int (nI xn), .ref m7, .ref m8, .ref m9, .int ip, .int (nI ps), .ref ma])), (m4, .inl (cJ, 100, .inr (.inl gx))), (m5, .inl (cJ, 100, .inr (.inl gy))), (m6, .inl (cZ, 100, .inl gb)), (m7, .inl (cJ, 200, .inr (.inl (vp_updL gp xn (Int64.ofInt (plc X Y L ka kb)))))), (m8, .inl (cI, 200, .inl (upd gt xn (Int32.ofInt 1))))] := hD
    refine lv_aload_n hx hb dX5_cross_151 rfl (lv_at hl 3 rfl) ?_
    refine lv_dup hx hb dX5_cross_152 rfl ?_
    refine va_get (D := D) (ci := 5) (v := .int (nI xn)) (C := RX5) (T := TX5) (N := 21) hx hb hts iX5 hown hK hP 0 rfl rfl 14 (by decide) f_78 (fun _ h9 => h9) rfl dX5_cross_153 ?_
    refine lv_iconst (v := nI 1) hx hb dX5_cross_156 (by decide) ?_
    refine lv_iadd hx hb dX5_cross_157 ?_
    refine q_eqi (nI_add _ _) ?_
    refine va_put (D := D) (ci := 5) (v := .int (nI (xn + 1))) (ty := .int) (C := RX5) (T := TX5) (N := 21) hx hb hts iX5 tyX5 tyX5_ok nmX5 hown hK hP hD hS 0 rfl rfl 14 (by decide) f_78 (fun _ h9 => h9) rfl (by decide +kernel) rfl rfl (Nat.le_of_ble_eq_true rfl) dX5_cross_158 (fun H locs hP hD hS => ?_)
    have hP : va_P D qCl [(m0, .inr (5, [.int th, .int (nI wd), .int (nI ht), .int (nI pn), .ref m1, .ref m2, .ref m3, .int (nI cn), .ref m4, .ref m5, .ref m6, .int fl, .int (nI bf), .int (nI bt), .int (nI (xn + 1)), .ref m7, .ref m8, .ref m9, .int ip, .int (nI ps), .ref ma])), (m4, .inl (cJ, 100, .inr (.inl gx))), (m5, .inl (cJ, 100, .inr (.inl gy))), (m6, .inl (cZ, 100, .inl gb)), (m7, .inl (cJ, 200, .inr (.inl (vp_updL gp xn (Int64.ofInt (plc X Y L ka kb)))))), (m8, .inl (cI, 200, .inl (upd gt xn (Int32.ofInt 1))))] H := hP
    have hD : va_D A [(m0, .inr (5, [.int th, .int (nI wd), .int (nI ht), .int (nI pn), .ref m1, .ref m2, .ref m3, .int (nI cn), .ref m4, .ref m5, .ref m6, .int fl, .int (nI bf), .int (nI bt), .int (nI (xn + 1)), .ref m7, .ref m8, .ref m9, .int ip, .int (nI ps), .ref ma])), (m4, .inl (cJ, 100, .inr (.inl gx))), (m5, .inl (cJ, 100, .inr (.inl gy))), (m6, .inl (cZ, 100, .inl gb)), (m7, .inl (cJ, 200, .inr (.inl (vp_updL gp xn (Int64.ofInt (plc X Y L ka kb)))))), (m8, .inl (cI, 200, .inl (upd gt xn (Int32.ofInt 1))))] := hD
    have hr9 : CM (vp_updL gp xn (Int64.ofInt (plc X Y L ka kb))) (upd gt xn (Int32.ofInt 1)) (xn + 1) (fun f => mu f + crsM X Y L ka kb f) ∧ (xn + 1) ≤ xn + 1 := ⟨CM_congr (CM_add hC 1 (plc_bd (by omega) (by omega) ⟨bxa1, bxa2⟩ ⟨bxb1, bxb2⟩)) (fun f => by show mu f + f (plc X Y L ka kb) 1 = mu f + (if Y ka ≤ Y kb then _ else _); rw [if_pos (by omega)]; unfold crs; rw [if_pos ⟨by omega, by omega⟩]), Nat.le_refl _⟩
    exact hQ _ _ _ _ (vp_updL gp xn (Int64.ofInt (plc X Y L ka kb)), upd gt xn (Int32.ofInt 1), xn + 1) _ _ dX5_cross_161 (Nat.le_refl _) (Nat.le_refl _) hr9 (hP.sub [0, 1, 2, 3, 4, 5] rfl) hK (hD.sub [0, 1, 2, 3, 4, 5] (by decide) rfl) hS
  rw [lgc_gt, j_lt, w_t (by omega) (by omega), w_t (by omega) (by omega)] at h_68
  have hr9 : CM gp gt xn (fun f => mu f + crsM X Y L ka kb f) ∧ xn ≤ xn + 1 := ⟨CM_congr hC (fun f => by show mu f = mu f + (if Y ka ≤ Y kb then _ else _); split; (· unfold crs; rw [if_neg (by omega)]; omega); (· unfold crs; rw [if_neg (by omega)]; omega)), by omega⟩
  exact hQ _ _ _ _ (gp, gt, xn) _ _ dX5_cross_71 (Nat.le_refl _) (Nat.le_refl _) hr9 (hP.sub [0, 1, 2, 3, 4, 5] rfl) hK (hD.sub [0, 1, 2, 3, 4, 5] (by decide) rfl) hS

abbrev rm_X5_crossAll : Room := { frames := 2, cells := 0, slots := 0, locals := 52 }
set_option maxHeartbeats 4000000 in
set_option maxRecDepth 100000 in
theorem c_X5_crossAll (l : Launch) (D : va_G) (cI cZ cB cJ : ClassId) (sz : Nat) (m0 : Nat) (m1 : Nat) (m2 : Nat) (m3 : Nat) (m4 : Nat) (m5 : Nat) (m6 : Nat) (m7 : Nat) (m8 : Nat) (m9 : Nat) (ma : Nat) (th : Int32) (wd : Nat) (ht : Nat) (pn : Nat) (cn : Nat) (fl : Int32) (bf : Nat) (bt : Nat) (xn : Nat) (ip : Int32) (ps : Nat) (gx : Nat → Int64) (gy : Nat → Int64) (gb : Nat → Int32) (X : Nat → Int) (Y : Nat → Int) (bg : Nat → Int32) (gp : Nat → Int64) (gt : Nat → Int32) (L : Int) (hR : PathM gx gy gb X Y bg cn) (hL : 0 ≤ L ∧ L ≤ 100000) : Met l yX5_crossAll wsX5_crossAll rm_X5_crossAll (va_Pc [.ref m0, .long (Int64.ofInt L)] (PC D (qT cI cZ cB cJ) [(m0, .inr (5, [.int th, .int (nI wd), .int (nI ht), .int (nI pn), .ref m1, .ref m2, .ref m3, .int (nI cn), .ref m4, .ref m5, .ref m6, .int fl, .int (nI bf), .int (nI bt), .int (nI xn), .ref m7, .ref m8, .ref m9, .int ip, .int (nI ps), .ref ma])), (m4, .inl (cJ, 100, .inr (.inl gx))), (m5, .inl (cJ, 100, .inr (.inl gy))), (m6, .inl (cZ, 100, .inl gb)), (m7, .inl (cJ, 200, .inr (.inl gp))), (m8, .inl (cI, 200, .inl gt))] sz)) (va_Qv (fun (u : (Nat → Int64) × (Nat → Int32) × Nat) => CM u.1 u.2.1 u.2.2 (fun f => muL X Y bg cn L cn f) ∧ u.2.2 ≤ cn) (fun (u : (Nat → Int64) × (Nat → Int32) × Nat) => PO D (qT cI cZ cB cJ) (va_A [(m0, .inr (5, [.int th, .int (nI wd), .int (nI ht), .int (nI pn), .ref m1, .ref m2, .ref m3, .int (nI cn), .ref m4, .ref m5, .ref m6, .int fl, .int (nI bf), .int (nI bt), .int (nI xn), .ref m7, .ref m8, .ref m9, .int ip, .int (nI ps), .ref ma])), (m4, .inl (cJ, 100, .inr (.inl gx))), (m5, .inl (cJ, 100, .inr (.inl gy))), (m6, .inl (cZ, 100, .inl gb)), (m7, .inl (cJ, 200, .inr (.inl gp))), (m8, .inl (cI, 200, .inl gt))] sz) [(m0, .inr (5, [.int th, .int (nI wd), .int (nI ht), .int (nI pn), .ref m1, .ref m2, .ref m3, .int (nI cn), .ref m4, .ref m5, .ref m6, .int fl, .int (nI bf), .int (nI bt), .int (nI u.2.2), .ref m7, .ref m8, .ref m9, .int ip, .int (nI ps), .ref ma])), (m4, .inl (cJ, 100, .inr (.inl gx))), (m5, .inl (cJ, 100, .inr (.inl gy))), (m6, .inl (cZ, 100, .inl gb)), (m7, .inl (cJ, 200, .inr (.inl u.1))), (m8, .inl (cI, 200, .inl u.2.1))]) (va_A [(m0, .inr (5, [.int th, .int (nI wd), .int (nI ht), .int (nI pn), .ref m1, .ref m2, .ref m3, .int (nI cn), .ref m4, .ref m5, .ref m6, .int fl, .int (nI bf), .int (nI bt), .int (nI xn), .ref m7, .ref m8, .ref m9, .int ip, .int (nI ps), .ref ma])), (m4, .inl (cJ, 100, .inr (.inl gx))), (m5, .inl (cJ, 100, .inr (.inl gy))), (m6, .inl (cZ, 100, .inl gb)), (m7, .inl (cJ, 200, .inr (.inl gp))), (m8, .inl (cI, 200, .inl gt))] sz)) 0 0 (va_A [(m0, .inr (5, [.int th, .int (nI wd), .int (nI ht), .int (nI pn), .ref m1, .ref m2, .ref m3, .int (nI cn), .ref m4, .ref m5, .ref m6, .int fl, .int (nI bf), .int (nI bt), .int (nI xn), .ref m7, .ref m8, .ref m9, .int ip, .int (nI ps), .ref ma])), (m4, .inl (cJ, 100, .inr (.inl gx))), (m5, .inl (cJ, 100, .inr (.inl gy))), (m6, .inl (cZ, 100, .inl gb)), (m7, .inl (cJ, 200, .inr (.inl gp))), (m8, .inl (cI, 200, .inl gt))] sz) := by
  refine q_entV (cc := cX5_crossAll) (maxL := 6) (by decide +kernel) rfl (Nat.le_of_ble_eq_true rfl) ?_
  intro p e s m below meth c A Q ls hq hl hQ
  obtain ⟨hx, hb, hml, hts, hown, hin, hN, hK, hsz, hA, hP, hD, hS⟩ := hq
  have hown : s.vm.findClass RX5 = some m.cls := hown
  obtain ⟨H, hH⟩ : ∃ H, H = s.heap := ⟨_, rfl⟩
  rw [← hH] at hP ⊢
  have hS : va_S A s.heap H [] := by rw [hH]; exact va_S.rf
  clear hH
  have hl : lv_has ls 6 [(0, .ref m0), (1, .long (Int64.ofInt L))] := hl
  have iX5 : ∀ w ∈ wsX50, w ∈ wsX5_crossAll := by decide +kernel
  have f_78 := hts (.fieldLink RX5 78 "RasterCoverModel" "crossings" "I") (by decide +kernel)
  have f_62 := hts (.fieldLink RX5 62 "RasterCoverModel" "points" "I") (by decide +kernel)
  have f_27 := hts (.fieldLink RX5 27 "RasterCoverModel" "begins" "[Z") (by decide +kernel)
  have hcn := hR.1
  refine lv_aload_n hx hb dX5_crossAll_0 rfl (lv_at hl 0 rfl) ?_
  refine lv_iconst (v := nI 0) hx hb dX5_crossAll_1 (by decide) ?_
  refine va_put (D := D) (ci := 5) (v := .int (nI 0)) (ty := .int) (C := RX5) (T := TX5) (N := 21) hx hb hts iX5 tyX5 tyX5_ok nmX5 hown hK hP hD hS 0 rfl rfl 14 (by decide) f_78 (fun _ h9 => h9) rfl (by decide +kernel) rfl rfl (Nat.le_of_ble_eq_true rfl) dX5_crossAll_2 (fun H locs hP hD hS => ?_)
  have hP : va_P D qCl [(m0, .inr (5, [.int th, .int (nI wd), .int (nI ht), .int (nI pn), .ref m1, .ref m2, .ref m3, .int (nI cn), .ref m4, .ref m5, .ref m6, .int fl, .int (nI bf), .int (nI bt), .int (nI 0), .ref m7, .ref m8, .ref m9, .int ip, .int (nI ps), .ref ma])), (m4, .inl (cJ, 100, .inr (.inl gx))), (m5, .inl (cJ, 100, .inr (.inl gy))), (m6, .inl (cZ, 100, .inl gb)), (m7, .inl (cJ, 200, .inr (.inl gp))), (m8, .inl (cI, 200, .inl gt))] H := hP
  have hD : va_D A [(m0, .inr (5, [.int th, .int (nI wd), .int (nI ht), .int (nI pn), .ref m1, .ref m2, .ref m3, .int (nI cn), .ref m4, .ref m5, .ref m6, .int fl, .int (nI bf), .int (nI bt), .int (nI 0), .ref m7, .ref m8, .ref m9, .int ip, .int (nI ps), .ref ma])), (m4, .inl (cJ, 100, .inr (.inl gx))), (m5, .inl (cJ, 100, .inr (.inl gy))), (m6, .inl (cZ, 100, .inl gb)), (m7, .inl (cJ, 200, .inr (.inl gp))), (m8, .inl (cI, 200, .inl gt))] := hD
  refine lv_iconst (v := nI 0) hx hb dX5_crossAll_5 (by decide) ?_
  refine lv_istore_n (lv' := [(3, .int (nI 0)), (0, .ref m0), (1, .long (Int64.ofInt L))]) hx hb dX5_crossAll_6 rfl hl (by decide) rfl (fun ls hl => ?_)
  refine lv_iconst (v := nI 0) hx hb dX5_crossAll_7 (by decide) ?_
  refine lv_istore (lv' := [(4, .int (nI 0)), (3, .int (nI 0)), (0, .ref m0), (1, .long (Int64.ofInt L))]) hx hb dX5_crossAll_8 hl (by decide) rfl (fun ls hl => ?_)
  have L_10 : ∀ (fuel : Nat) (i : Nat) (nn : Nat) (fv : Nat) (gp2 : Nat → Int64) (gt2 : Nat → Int32), cn - i < fuel → (fv = fiP bg i) → (i ≤ cn) → (nn ≤ i) → (CM gp2 gt2 nn (fun f => muL X Y bg cn L i f)) → ∀ (H : Heap) (locs : List Loc) (ls : Array Slot), va_P D qCl [(m0, .inr (5, [.int th, .int (nI wd), .int (nI ht), .int (nI pn), .ref m1, .ref m2, .ref m3, .int (nI cn), .ref m4, .ref m5, .ref m6, .int fl, .int (nI bf), .int (nI bt), .int (nI nn), .ref m7, .ref m8, .ref m9, .int ip, .int (nI ps), .ref ma])), (m4, .inl (cJ, 100, .inr (.inl gx))), (m5, .inl (cJ, 100, .inr (.inl gy))), (m6, .inl (cZ, 100, .inl gb)), (m7, .inl (cJ, 200, .inr (.inl gp2))), (m8, .inl (cI, 200, .inl gt2))] H → va_D A [(m0, .inr (5, [.int th, .int (nI wd), .int (nI ht), .int (nI pn), .ref m1, .ref m2, .ref m3, .int (nI cn), .ref m4, .ref m5, .ref m6, .int fl, .int (nI bf), .int (nI bt), .int (nI nn), .ref m7, .ref m8, .ref m9, .int ip, .int (nI ps), .ref ma])), (m4, .inl (cJ, 100, .inr (.inl gx))), (m5, .inl (cJ, 100, .inr (.inl gy))), (m6, .inl (cZ, 100, .inl gb)), (m7, .inl (cJ, 200, .inr (.inl gp2))), (m8, .inl (cI, 200, .inl gt2))] → va_S A s.heap H locs → lv_has ls 6 [(4, .int (nI i)), (3, .int (nI fv)), (0, .ref m0), (1, .long (Int64.ofInt L))] → W p l e rm_X5_crossAll s m ([.ref m0, .long (Int64.ofInt L)] : List Value).toArray below meth c H locs 0 0 Q (F0 m 10 ls []) := by
    intro fuel
    induction fuel with
    | zero =>
      intro i nn fv gp2 gt2 hm
      exact absurd hm (Nat.not_lt_zero _)
    | succ fuel ih_10 =>
      intro i nn fv gp2 gt2 hm_10 hfv hi hnn hC H locs ls hP hD hS hl
      refine lv_iload hx hb dX5_crossAll_10 (lv_at hl 0 rfl) ?_
      refine lv_aload_n hx hb dX5_crossAll_12 rfl (lv_at hl 2 rfl) ?_
      refine va_get (D := D) (ci := 5) (v := .int (nI cn)) (C := RX5) (T := TX5) (N := 21) hx hb hts iX5 hown hK hP 0 rfl rfl 7 (by decide) f_62 (fun _ h9 => h9) rfl dX5_crossAll_13 ?_
      refine q_ge (tgt := 92) hx hb (by omega) (by omega) dX5_crossAll_16 (by decide) (fun h_16 => ?_) (fun h_16 => ?_)
      · have e9 : i = cn := by omega
        rw [e9] at hC hnn
        have hr9 : CM gp2 gt2 nn (fun f => muL X Y bg cn L cn f) ∧ nn ≤ cn := ⟨hC, hnn⟩
        exact hQ _ _ _ _ (gp2, gt2, nn) _ _ dX5_crossAll_92 (Nat.le_refl _) (Nat.le_refl _) hr9 (hP.sub [0, 1, 2, 3, 4, 5] rfl) hK (hD.sub [0, 1, 2, 3, 4, 5] (by decide) rfl) hS
      have J_35 : ∀ (w : Nat), (w = fiP bg (i + 1)) → ∀ (H : Heap) (locs : List Loc) (ls : Array Slot), va_P D qCl [(m0, .inr (5, [.int th, .int (nI wd), .int (nI ht), .int (nI pn), .ref m1, .ref m2, .ref m3, .int (nI cn), .ref m4, .ref m5, .ref m6, .int fl, .int (nI bf), .int (nI bt), .int (nI nn), .ref m7, .ref m8, .ref m9, .int ip, .int (nI ps), .ref ma])), (m4, .inl (cJ, 100, .inr (.inl gx))), (m5, .inl (cJ, 100, .inr (.inl gy))), (m6, .inl (cZ, 100, .inl gb)), (m7, .inl (cJ, 200, .inr (.inl gp2))), (m8, .inl (cI, 200, .inl gt2))] H → va_D A [(m0, .inr (5, [.int th, .int (nI wd), .int (nI ht), .int (nI pn), .ref m1, .ref m2, .ref m3, .int (nI cn), .ref m4, .ref m5, .ref m6, .int fl, .int (nI bf), .int (nI bt), .int (nI nn), .ref m7, .ref m8, .ref m9, .int ip, .int (nI ps), .ref ma])), (m4, .inl (cJ, 100, .inr (.inl gx))), (m5, .inl (cJ, 100, .inr (.inl gy))), (m6, .inl (cZ, 100, .inl gb)), (m7, .inl (cJ, 200, .inr (.inl gp2))), (m8, .inl (cI, 200, .inl gt2))] → va_S A s.heap H locs → lv_has ls 6 [(4, .int (nI i)), (3, .int (nI fv)), (0, .ref m0), (1, .long (Int64.ofInt L))] → W p l e rm_X5_crossAll s m ([.ref m0, .long (Int64.ofInt L)] : List Value).toArray below meth c H locs 0 0 Q (F0 m 35 ls [.int (nI w)]) := by
        intro w hw H locs ls hP hD hS hl
        refine lv_istore_n (lv' := [(3, .int (nI w)), (4, .int (nI i)), (0, .ref m0), (1, .long (Int64.ofInt L))]) hx hb dX5_crossAll_35 rfl hl (by decide) rfl (fun ls hl => ?_)
        have J_82 : ∀ (j : Nat), (j = nxP bg cn i) → ∀ (H : Heap) (locs : List Loc) (ls : Array Slot), va_P D qCl [(m0, .inr (5, [.int th, .int (nI wd), .int (nI ht), .int (nI pn), .ref m1, .ref m2, .ref m3, .int (nI cn), .ref m4, .ref m5, .ref m6, .int fl, .int (nI bf), .int (nI bt), .int (nI nn), .ref m7, .ref m8, .ref m9, .int ip, .int (nI ps), .ref ma])), (m4, .inl (cJ, 100, .inr (.inl gx))), (m5, .inl (cJ, 100, .inr (.inl gy))), (m6, .inl (cZ, 100, .inl gb)), (m7, .inl (cJ, 200, .inr (.inl gp2))), (m8, .inl (cI, 200, .inl gt2))] H → va_D A [(m0, .inr (5, [.int th, .int (nI wd), .int (nI ht), .int (nI pn), .ref m1, .ref m2, .ref m3, .int (nI cn), .ref m4, .ref m5, .ref m6, .int fl, .int (nI bf), .int (nI bt), .int (nI nn), .ref m7, .ref m8, .ref m9, .int ip, .int (nI ps), .ref ma])), (m4, .inl (cJ, 100, .inr (.inl gx))), (m5, .inl (cJ, 100, .inr (.inl gy))), (m6, .inl (cZ, 100, .inl gb)), (m7, .inl (cJ, 200, .inr (.inl gp2))), (m8, .inl (cI, 200, .inl gt2))] → va_S A s.heap H locs → lv_has ls 6 [(3, .int (nI w)), (4, .int (nI i)), (0, .ref m0), (1, .long (Int64.ofInt L))] → W p l e rm_X5_crossAll s m ([.ref m0, .long (Int64.ofInt L)] : List Value).toArray below meth c H locs 0 0 Q (F0 m 82 ls [.int (nI j), .int (nI i), .ref m0]) := by
          intro j hj H locs ls hP hD hS hl
          have hjl : j < cn := by rw [hj]; exact nxP_lt (by omega)
          refine lv_lload_n hx hb dX5_crossAll_82 rfl (lv_at hl 3 rfl) ?_
          refine q_v0 (wr := []) (va_runV (As := [.int (nI i), .int (nI j), .long (Int64.ofInt L)]) (rest := []) ⟨hx, hb, hml, hown, hts⟩ (c_X5_cross l D cI cZ cB cJ H.size m0 m1 m2 m3 m4 m5 m6 m7 m8 m9 ma th wd ht pn cn fl bf bt nn ip ps gx gy gb X Y bg gp2 gt2 (fun f => muL X Y bg cn L i f) i j L hR (by omega) hC (by omega) hjl hL) (cwV 3 hts gX5_crossAll_X5_cross rfl rfl rfl (by decide +kernel) ⟨Nat.le_of_ble_eq_true rfl, Nat.le_of_ble_eq_true rfl⟩) (q_preV (q_pre (wc := [(m0, .inr (5, [.int th, .int (nI wd), .int (nI ht), .int (nI pn), .ref m1, .ref m2, .ref m3, .int (nI cn), .ref m4, .ref m5, .ref m6, .int fl, .int (nI bf), .int (nI bt), .int (nI nn), .ref m7, .ref m8, .ref m9, .int ip, .int (nI ps), .ref ma])), (m4, .inl (cJ, 100, .inr (.inl gx))), (m5, .inl (cJ, 100, .inr (.inl gy))), (m6, .inl (cZ, 100, .inl gb)), (m7, .inl (cJ, 200, .inr (.inl gp2))), (m8, .inl (cI, 200, .inl gt2))]) hP hD hK hN [0, 1, 2, 3, 4, 5] (by decide) rfl) (va_recv hK hP (ci := 5) (q0 := 0) rfl rfl)) rfl rfl hl.1 rfl (lv_room (Nat.le_of_ble_eq_true rfl)) dX5_crossAll_83 ⟨Nat.zero_le _, Nat.zero_le _⟩) hS hA hP hD [0, 1, 2, 3, 4, 5] [] rfl rfl (by decide) (by decide) (fun u H locs hp_83 hP hD hS => ?_)
          obtain ⟨gp3, gt3, n3⟩ := u
          have hP : va_P D qCl [(m0, .inr (5, [.int th, .int (nI wd), .int (nI ht), .int (nI pn), .ref m1, .ref m2, .ref m3, .int (nI cn), .ref m4, .ref m5, .ref m6, .int fl, .int (nI bf), .int (nI bt), .int (nI n3), .ref m7, .ref m8, .ref m9, .int ip, .int (nI ps), .ref ma])), (m4, .inl (cJ, 100, .inr (.inl gx))), (m5, .inl (cJ, 100, .inr (.inl gy))), (m6, .inl (cZ, 100, .inl gb)), (m7, .inl (cJ, 200, .inr (.inl gp3))), (m8, .inl (cI, 200, .inl gt3))] H := hP
          have hD : va_D A [(m0, .inr (5, [.int th, .int (nI wd), .int (nI ht), .int (nI pn), .ref m1, .ref m2, .ref m3, .int (nI cn), .ref m4, .ref m5, .ref m6, .int fl, .int (nI bf), .int (nI bt), .int (nI n3), .ref m7, .ref m8, .ref m9, .int ip, .int (nI ps), .ref ma])), (m4, .inl (cJ, 100, .inr (.inl gx))), (m5, .inl (cJ, 100, .inr (.inl gy))), (m6, .inl (cZ, 100, .inl gb)), (m7, .inl (cJ, 200, .inr (.inl gp3))), (m8, .inl (cI, 200, .inl gt3))] := hD
          have hp_83 : CM gp3 gt3 n3 (fun f => (fun f => muL X Y bg cn L i f) f + crsM X Y L i j f) ∧ n3 ≤ nn + 1 := hp_83
          refine lv_iinc (v := nI (i + 1)) (lv' := [(4, .int (nI (i + 1))), (3, .int (nI w)), (0, .ref m0), (1, .long (Int64.ofInt L))]) hx hb dX5_crossAll_86 hl (k := 1) rfl (q_inc _) (by decide) rfl (fun ls hl => ?_)
          refine lv_goto (tgt := 10) hx hb dX5_crossAll_89 (by decide) ?_
          exact ih_10 (i + 1) n3 w gp3 gt3 (by omega) hw (by omega) (by omega) (CM_congr hp_83.1 (fun f => by show muL X Y bg cn L i f + crsM X Y L i j f = muL X Y bg cn L i f + edg X Y bg cn L i f; rw [hj]; rfl)) _ _ _ (hP.sub [0, 1, 2, 3, 4, 5] rfl) (hD.sub [0, 1, 2, 3, 4, 5] (by decide) rfl) hS (lv_sub hl [0, 1, 2, 3] rfl)
        refine lv_iload hx hb dX5_crossAll_36 (lv_at hl 1 rfl) ?_
        refine lv_iconst (v := nI 1) hx hb dX5_crossAll_38 (by decide) ?_
        refine lv_iadd hx hb dX5_crossAll_39 ?_
        refine q_eqi (nI_add _ _) ?_
        refine lv_aload_n hx hb dX5_crossAll_40 rfl (lv_at hl 2 rfl) ?_
        refine va_get (D := D) (ci := 5) (v := .int (nI cn)) (C := RX5) (T := TX5) (N := 21) hx hb hts iX5 hown hK hP 0 rfl rfl 7 (by decide) f_62 (fun _ h9 => h9) rfl dX5_crossAll_41 ?_
        refine q_eq (tgt := 59) hx hb (by omega) (by omega) dX5_crossAll_44 (by decide) (fun h_44 => ?_) (fun h_44 => ?_)
        · refine lv_iconst (v := nI 1) hx hb dX5_crossAll_59 (by decide) ?_
          refine lv_goto (tgt := 64) hx hb dX5_crossAll_60 (by decide) ?_
          refine lv_istore (lv' := [(5, .int (nI 1)), (3, .int (nI w)), (4, .int (nI i)), (0, .ref m0), (1, .long (Int64.ofInt L))]) hx hb dX5_crossAll_64 hl (by decide) rfl (fun ls hl => ?_)
          refine lv_aload_n hx hb dX5_crossAll_66 rfl (lv_at hl 3 rfl) ?_
          refine lv_iload hx hb dX5_crossAll_67 (lv_at hl 2 rfl) ?_
          refine lv_iload hx hb dX5_crossAll_69 (lv_at hl 0 rfl) ?_
          refine q_if_eq (tgt := 78) hx hb (by omega) dX5_crossAll_71 (by decide) (fun h_71 => by omega) (fun h_71 => ?_)
          refine lv_iload_n hx hb dX5_crossAll_74 rfl (lv_at hl 1 rfl) ?_
          refine lv_goto (tgt := 82) hx hb dX5_crossAll_75 (by decide) ?_
          exact J_82 w (by unfold nxP; rw [if_pos (Or.inl h_44)]; exact hw) _ _ _ (hP.sub [0, 1, 2, 3, 4, 5] rfl) (hD.sub [0, 1, 2, 3, 4, 5] (by decide) rfl) hS (lv_sub hl [1, 2, 3, 4] rfl)
        refine lv_aload_n hx hb dX5_crossAll_47 rfl (lv_at hl 2 rfl) ?_
        refine va_get (D := D) (ci := 5) (v := .ref m6) (C := RX5) (T := TX5) (N := 21) hx hb hts iX5 hown hK hP 0 rfl rfl 10 (by decide) f_27 (fun _ h9 => h9) rfl dX5_crossAll_48 ?_
        refine lv_iload hx hb dX5_crossAll_51 (lv_at hl 1 rfl) ?_
        refine lv_iconst (v := nI 1) hx hb dX5_crossAll_53 (by decide) ?_
        refine lv_iadd hx hb dX5_crossAll_54 ?_
        refine q_eqi (nI_add _ _) ?_
        refine q_zald hx hb hK hP 3 1 rfl rfl (k := (i + 1)) (by omega) (by omega) dX5_crossAll_55 ?_
        refine q_eqi (y := bg (i + 1)) (hR.2 (i + 1) (by omega)).2.2.1 ?_
        refine lv_if_eq (tgt := 63) hx hb dX5_crossAll_56 (by decide) (fun h_56 => ?_) (fun h_56 => ?_)
        · refine lv_iconst (v := nI 0) hx hb dX5_crossAll_63 (by decide) ?_
          refine lv_istore (lv' := [(5, .int (nI 0)), (3, .int (nI w)), (4, .int (nI i)), (0, .ref m0), (1, .long (Int64.ofInt L))]) hx hb dX5_crossAll_64 hl (by decide) rfl (fun ls hl => ?_)
          refine lv_aload_n hx hb dX5_crossAll_66 rfl (lv_at hl 3 rfl) ?_
          refine lv_iload hx hb dX5_crossAll_67 (lv_at hl 2 rfl) ?_
          refine lv_iload hx hb dX5_crossAll_69 (lv_at hl 0 rfl) ?_
          refine q_if_eq (tgt := 78) hx hb (by omega) dX5_crossAll_71 (by decide) (fun h_71 => ?_) (fun h_71 => by omega)
          refine lv_iload hx hb dX5_crossAll_78 (lv_at hl 2 rfl) ?_
          refine lv_iconst (v := nI 1) hx hb dX5_crossAll_80 (by decide) ?_
          refine lv_iadd hx hb dX5_crossAll_81 ?_
          refine q_eqi (nI_add _ _) ?_
          exact J_82 (i + 1) (by unfold nxP; rw [if_neg (by rintro (z | z); (· exact h_44 z); (· exact z h_56))]) _ _ _ (hP.sub [0, 1, 2, 3, 4, 5] rfl) (hD.sub [0, 1, 2, 3, 4, 5] (by decide) rfl) hS (lv_sub hl [1, 2, 3, 4] rfl)
        refine lv_iconst (v := nI 1) hx hb dX5_crossAll_59 (by decide) ?_
        refine lv_goto (tgt := 64) hx hb dX5_crossAll_60 (by decide) ?_
        refine lv_istore (lv' := [(5, .int (nI 1)), (3, .int (nI w)), (4, .int (nI i)), (0, .ref m0), (1, .long (Int64.ofInt L))]) hx hb dX5_crossAll_64 hl (by decide) rfl (fun ls hl => ?_)
        refine lv_aload_n hx hb dX5_crossAll_66 rfl (lv_at hl 3 rfl) ?_
        refine lv_iload hx hb dX5_crossAll_67 (lv_at hl 2 rfl) ?_
        refine lv_iload hx hb dX5_crossAll_69 (lv_at hl 0 rfl) ?_
        refine q_if_eq (tgt := 78) hx hb (by omega) dX5_crossAll_71 (by decide) (fun h_71 => by omega) (fun h_71 => ?_)
        refine lv_iload_n hx hb dX5_crossAll_74 rfl (lv_at hl 1 rfl) ?_
        refine lv_goto (tgt := 82) hx hb dX5_crossAll_75 (by decide) ?_
        exact J_82 w (by unfold nxP; rw [if_pos (Or.inr h_56)]; exact hw) _ _ _ (hP.sub [0, 1, 2, 3, 4, 5] rfl) (hD.sub [0, 1, 2, 3, 4, 5] (by decide) rfl) hS (lv_sub hl [1, 2, 3, 4] rfl)
      refine lv_aload_n hx hb dX5_crossAll_19 rfl (lv_at hl 2 rfl) ?_
      refine va_get (D := D) (ci := 5) (v := .ref m6) (C := RX5) (T := TX5) (N := 21) hx hb hts iX5 hown hK hP 0 rfl rfl 10 (by decide) f_27 (fun _ h9 => h9) rfl dX5_crossAll_20 ?_
      refine lv_iload hx hb dX5_crossAll_23 (lv_at hl 0 rfl) ?_
      refine q_zald hx hb hK hP 3 1 rfl rfl (k := i) (by omega) (by omega) dX5_crossAll_25 ?_
      refine q_eqi (y := bg i) (hR.2 i (by omega)).2.2.1 ?_
      refine lv_if_eq (tgt := 34) hx hb dX5_crossAll_26 (by decide) (fun h_26 => ?_) (fun h_26 => ?_)
      · refine lv_iload_n hx hb dX5_crossAll_34 rfl (lv_at hl 1 rfl) ?_
        exact J_35 fv (by show fv = if bg i = 0 then fiP bg i else i; rw [if_pos h_26]; exact hfv) _ _ _ (hP.sub [0, 1, 2, 3, 4, 5] rfl) (hD.sub [0, 1, 2, 3, 4, 5] (by decide) rfl) hS (lv_sub hl [0, 1, 2, 3] rfl)
      refine lv_iload hx hb dX5_crossAll_29 (lv_at hl 0 rfl) ?_
      refine lv_goto (tgt := 35) hx hb dX5_crossAll_31 (by decide) ?_
      exact J_35 i (by show i = if bg i = 0 then fiP bg i else i; rw [if_neg h_26]) _ _ _ (hP.sub [0, 1, 2, 3, 4, 5] rfl) (hD.sub [0, 1, 2, 3, 4, 5] (by decide) rfl) hS (lv_sub hl [0, 1, 2, 3] rfl)
  exact L_10 _ 0 0 0 gp gt (Nat.lt_succ_self _) rfl (Nat.zero_le _) (Nat.le_refl _) (CM_0 (fun f => rfl)) _ _ _ (hP.sub [0, 1, 2, 3, 4, 5] rfl) (hD.sub [0, 1, 2, 3, 4, 5] (by decide) rfl) hS (lv_sub hl [0, 1, 2, 3] rfl)
