abbrev rm_X2_add : Room := { frames := 0, cells := 0, slots := 0, locals := 0 }
set_option maxHeartbeats 4000000 in
set_option maxRecDepth 100000 in
/-- Path.add: room is there -/
theorem c_X2_add (l : Launch) (D : va_G) (cI cZ cB cJ : ClassId) (sz : Nat) (h0 : Nat) (h1 : Nat) (h2 : Nat) (h3 : Nat) (n : Nat) (fx : Nat → Int32) (fy : Nat → Int32) (fb : Nat → Int32) (x : Int32) (y : Int32) (b : Int32) (hn : n < 100) (hb01 : b = 0 ∨ b = 1) : Met l yX2_add wsX2_add rm_X2_add (va_Pc [.ref h0, .int x, .int y, .int b] (PC D (qT cI cZ cB cJ) [(h0, .inr (2, [.ref h1, .ref h2, .ref h3, .int (nI n)])), (h1, .inl (cI, 100, .inl fx)), (h2, .inl (cI, 100, .inl fy)), (h3, .inl (cZ, 100, .inl fb))] sz)) (va_Qv (fun (u : Unit) => True) (fun (u : Unit) => PO D (qT cI cZ cB cJ) (va_A [(h0, .inr (2, [.ref h1, .ref h2, .ref h3, .int (nI n)])), (h1, .inl (cI, 100, .inl fx)), (h2, .inl (cI, 100, .inl fy)), (h3, .inl (cZ, 100, .inl fb))] sz) [(h0, .inr (2, [.ref h1, .ref h2, .ref h3, .int (nI (n + 1))])), (h1, .inl (cI, 100, .inl (upd fx n x))), (h2, .inl (cI, 100, .inl (upd fy n y))), (h3, .inl (cZ, 100, .inl (upd fb n b)))]) (va_A [(h0, .inr (2, [.ref h1, .ref h2, .ref h3, .int (nI n)])), (h1, .inl (cI, 100, .inl fx)), (h2, .inl (cI, 100, .inl fy)), (h3, .inl (cZ, 100, .inl fb))] sz)) 0 0 (va_A [(h0, .inr (2, [.ref h1, .ref h2, .ref h3, .int (nI n)])), (h1, .inl (cI, 100, .inl fx)), (h2, .inl (cI, 100, .inl fy)), (h3, .inl (cZ, 100, .inl fb))] sz) := by
  refine q_entV (cc := cX2_add) (maxL := 4) (by decide +kernel) rfl (Nat.le_of_ble_eq_true rfl) ?_
  intro p e s m below meth c A Q ls hq hl hQ
  obtain ⟨hx, hb, hml, hts, hown, hin, hN, hK, hsz, hA, hP, hD, hS⟩ := hq
  have hown : s.vm.findClass RX2 = some m.cls := hown
  obtain ⟨H, hH⟩ : ∃ H, H = s.heap := ⟨_, rfl⟩
  rw [← hH] at hP ⊢
  have hS : va_S A s.heap H [] := by rw [hH]; exact va_S.rf
  clear hH
  have hl : lv_has ls 4 [(0, .ref h0), (1, .int x), (2, .int y), (3, .int b)] := hl
  have iX2 : ∀ w ∈ wsX20, w ∈ wsX2_add := by decide +kernel
  have f_20 := hts (.fieldLink RX2 20 "RasterCover$Path" "count" "I") (by decide +kernel)
  have f_9 := hts (.fieldLink RX2 9 "RasterCover$Path" "xs" "[I") (by decide +kernel)
  have f_13 := hts (.fieldLink RX2 13 "RasterCover$Path" "ys" "[I") (by decide +kernel)
  have f_16 := hts (.fieldLink RX2 16 "RasterCover$Path" "begins" "[Z") (by decide +kernel)
  refine lv_aload_n hx hb dX2_add_0 rfl (lv_at hl 0 rfl) ?_
  refine va_get (D := D) (ci := 2) (v := .int (nI n)) (C := RX2) (T := TX2) (N := 4) hx hb hts iX2 hown hK hP 0 rfl rfl 3 (by decide) f_20 (fun _ h9 => h9) rfl dX2_add_1 ?_
  refine lv_bipush (v := nI 100) hx hb dX2_add_4 (by decide) ?_
  refine q_ge (tgt := 49) hx hb (by omega) (by omega) dX2_add_6 (by decide) (fun h_6 => by omega) (fun h_6 => ?_)
  refine lv_aload_n hx hb dX2_add_9 rfl (lv_at hl 0 rfl) ?_
  refine va_get (D := D) (ci := 2) (v := .ref h1) (C := RX2) (T := TX2) (N := 4) hx hb hts iX2 hown hK hP 0 rfl rfl 0 (by decide) f_9 (fun _ h9 => h9) rfl dX2_add_10 ?_
  refine lv_aload_n hx hb dX2_add_13 rfl (lv_at hl 0 rfl) ?_
  refine va_get (D := D) (ci := 2) (v := .int (nI n)) (C := RX2) (T := TX2) (N := 4) hx hb hts iX2 hown hK hP 0 rfl rfl 3 (by decide) f_20 (fun _ h9 => h9) rfl dX2_add_14 ?_
  refine lv_iload_n hx hb dX2_add_17 rfl (lv_at hl 1 rfl) ?_
  refine q_iast hx hb hK hP hD hS 1 0 rfl rfl (k := n) (by omega) (by omega) dX2_add_18 (fun H locs hP hD hS => ?_)
  have hP : va_P D qCl [(h0, .inr (2, [.ref h1, .ref h2, .ref h3, .int (nI n)])), (h1, .inl (cI, 100, .inl (upd fx n x))), (h2, .inl (cI, 100, .inl fy)), (h3, .inl (cZ, 100, .inl fb))] H := hP
  have hD : va_D A [(h0, .inr (2, [.ref h1, .ref h2, .ref h3, .int (nI n)])), (h1, .inl (cI, 100, .inl (upd fx n x))), (h2, .inl (cI, 100, .inl fy)), (h3, .inl (cZ, 100, .inl fb))] := hD
  refine lv_aload_n hx hb dX2_add_19 rfl (lv_at hl 0 rfl) ?_
  refine va_get (D := D) (ci := 2) (v := .ref h2) (C := RX2) (T := TX2) (N := 4) hx hb hts iX2 hown hK hP 0 rfl rfl 1 (by decide) f_13 (fun _ h9 => h9) rfl dX2_add_20 ?_
  refine lv_aload_n hx hb dX2_add_23 rfl (lv_at hl 0 rfl) ?_
  refine va_get (D := D) (ci := 2) (v := .int (nI n)) (C := RX2) (T := TX2) (N := 4) hx hb hts iX2 hown hK hP 0 rfl rfl 3 (by decide) f_20 (fun _ h9 => h9) rfl dX2_add_24 ?_
  refine lv_iload_n hx hb dX2_add_27 rfl (lv_at hl 2 rfl) ?_
  refine q_iast hx hb hK hP hD hS 2 0 rfl rfl (k := n) (by omega) (by omega) dX2_add_28 (fun H locs hP hD hS => ?_)
  have hP : va_P D qCl [(h0, .inr (2, [.ref h1, .ref h2, .ref h3, .int (nI n)])), (h1, .inl (cI, 100, .inl (upd fx n x))), (h2, .inl (cI, 100, .inl (upd fy n y))), (h3, .inl (cZ, 100, .inl fb))] H := hP
  have hD : va_D A [(h0, .inr (2, [.ref h1, .ref h2, .ref h3, .int (nI n)])), (h1, .inl (cI, 100, .inl (upd fx n x))), (h2, .inl (cI, 100, .inl (upd fy n y))), (h3, .inl (cZ, 100, .inl fb))] := hD
  refine lv_aload_n hx hb dX2_add_29 rfl (lv_at hl 0 rfl) ?_
  refine va_get (D := D) (ci := 2) (v := .ref h3) (C := RX2) (T := TX2) (N := 4) hx hb hts iX2 hown hK hP 0 rfl rfl 2 (by decide) f_16 (fun _ h9 => h9) rfl dX2_add_30 ?_
  refine lv_aload_n hx hb dX2_add_33 rfl (lv_at hl 0 rfl) ?_
  refine va_get (D := D) (ci := 2) (v := .int (nI n)) (C := RX2) (T := TX2) (N := 4) hx hb hts iX2 hown hK hP 0 rfl rfl 3 (by decide) f_20 (fun _ h9 => h9) rfl dX2_add_34 ?_
  refine lv_iload_n hx hb dX2_add_37 rfl (lv_at hl 3 rfl) ?_
  refine q_zast hx hb hK hP hD hS 3 1 rfl rfl (k := n) (by rcases hb01 with rfl | rfl <;> decide) (by omega) (by omega) dX2_add_38 (fun H locs hP hD hS => ?_)
  have hP : va_P D qCl [(h0, .inr (2, [.ref h1, .ref h2, .ref h3, .int (nI n)])), (h1, .inl (cI, 100, .inl (upd fx n x))), (h2, .inl (cI, 100, .inl (upd fy n y))), (h3, .inl (cZ, 100, .inl (upd fb n b)))] H := hP
  have hD : va_D A [(h0, .inr (2, [.ref h1, .ref h2, .ref h3, .int (nI n)])), (h1, .inl (cI, 100, .inl (upd fx n x))), (h2, .inl (cI, 100, .inl (upd fy n y))), (h3, .inl (cZ, 100, .inl (upd fb n b)))] := hD
  refine lv_aload_n hx hb dX2_add_39 rfl (lv_at hl 0 rfl) ?_
  refine lv_dup hx hb dX2_add_40 rfl ?_
  refine va_get (D := D) (ci := 2) (v := .int (nI n)) (C := RX2) (T := TX2) (N := 4) hx hb hts iX2 hown hK hP 0 rfl rfl 3 (by decide) f_20 (fun _ h9 => h9) rfl dX2_add_41 ?_
  refine lv_iconst (v := nI 1) hx hb dX2_add_44 (by decide) ?_
  refine lv_iadd hx hb dX2_add_45 ?_
  refine q_eqi (nI_add _ _) ?_
  refine va_put (D := D) (ci := 2) (v := .int (nI (n + 1))) (ty := .int) (C := RX2) (T := TX2) (N := 4) hx hb hts iX2 tyX2 tyX2_ok nmX2 hown hK hP hD hS 0 rfl rfl 3 (by decide) f_20 (fun _ h9 => h9) rfl (by decide +kernel) rfl rfl (Nat.le_of_ble_eq_true rfl) dX2_add_46 (fun H locs hP hD hS => ?_)
  have hP : va_P D qCl [(h0, .inr (2, [.ref h1, .ref h2, .ref h3, .int (nI (n + 1))])), (h1, .inl (cI, 100, .inl (upd fx n x))), (h2, .inl (cI, 100, .inl (upd fy n y))), (h3, .inl (cZ, 100, .inl (upd fb n b)))] H := hP
  have hD : va_D A [(h0, .inr (2, [.ref h1, .ref h2, .ref h3, .int (nI (n + 1))])), (h1, .inl (cI, 100, .inl (upd fx n x))), (h2, .inl (cI, 100, .inl (upd fy n y))), (h3, .inl (cZ, 100, .inl (upd fb n b)))] := hD
  exact hQ _ _ _ _ () _ _ dX2_add_49 (Nat.le_refl _) (Nat.le_refl _) trivial (hP.sub [0, 1, 2, 3] rfl) hK (hD.sub [0, 1, 2, 3] (by decide) rfl) hS

abbrev rm_X2_begin : Room := { frames := 1, cells := 0, slots := 0, locals := 23 }
set_option maxHeartbeats 4000000 in
set_option maxRecDepth 100000 in
theorem c_X2_begin (l : Launch) (D : va_G) (cI cZ cB cJ : ClassId) (sz : Nat) (h0 : Nat) (h1 : Nat) (h2 : Nat) (h3 : Nat) (n : Nat) (fx : Nat → Int32) (fy : Nat → Int32) (fb : Nat → Int32) (x : Int32) (y : Int32) (hn : n < 100) : Met l yX2_begin wsX2_begin rm_X2_begin (va_Pc [.ref h0, .int x, .int y] (PC D (qT cI cZ cB cJ) [(h0, .inr (2, [.ref h1, .ref h2, .ref h3, .int (nI n)])), (h1, .inl (cI, 100, .inl fx)), (h2, .inl (cI, 100, .inl fy)), (h3, .inl (cZ, 100, .inl fb))] sz)) (va_Qv (fun (u : Unit) => True) (fun (u : Unit) => PO D (qT cI cZ cB cJ) (va_A [(h0, .inr (2, [.ref h1, .ref h2, .ref h3, .int (nI n)])), (h1, .inl (cI, 100, .inl fx)), (h2, .inl (cI, 100, .inl fy)), (h3, .inl (cZ, 100, .inl fb))] sz) [(h0, .inr (2, [.ref h1, .ref h2, .ref h3, .int (nI (n + 1))])), (h1, .inl (cI, 100, .inl (upd fx n x))), (h2, .inl (cI, 100, .inl (upd fy n y))), (h3, .inl (cZ, 100, .inl (upd fb n 1)))]) (va_A [(h0, .inr (2, [.ref h1, .ref h2, .ref h3, .int (nI n)])), (h1, .inl (cI, 100, .inl fx)), (h2, .inl (cI, 100, .inl fy)), (h3, .inl (cZ, 100, .inl fb))] sz)) 0 0 (va_A [(h0, .inr (2, [.ref h1, .ref h2, .ref h3, .int (nI n)])), (h1, .inl (cI, 100, .inl fx)), (h2, .inl (cI, 100, .inl fy)), (h3, .inl (cZ, 100, .inl fb))] sz) := by
  refine q_entV (cc := cX2_begin) (maxL := 3) (by decide +kernel) rfl (Nat.le_of_ble_eq_true rfl) ?_
  intro p e s m below meth c A Q ls hq hl hQ
  obtain ⟨hx, hb, hml, hts, hown, hin, hN, hK, hsz, hA, hP, hD, hS⟩ := hq
  have hown : s.vm.findClass RX2 = some m.cls := hown
  obtain ⟨H, hH⟩ : ∃ H, H = s.heap := ⟨_, rfl⟩
  rw [← hH] at hP ⊢
  have hS : va_S A s.heap H [] := by rw [hH]; exact va_S.rf
  clear hH
  have hl : lv_has ls 3 [(0, .ref h0), (1, .int x), (2, .int y)] := hl
  refine lv_aload_n hx hb dX2_begin_0 rfl (lv_at hl 0 rfl) ?_
  refine lv_iload_n hx hb dX2_begin_1 rfl (lv_at hl 1 rfl) ?_
  refine lv_iload_n hx hb dX2_begin_2 rfl (lv_at hl 2 rfl) ?_
  refine lv_iconst (v := nI 1) hx hb dX2_begin_3 (by decide) ?_
  refine q_eqi (y := 1) (by decide) ?_
  refine q_v0 (wr := []) (va_runV (As := [.int x, .int y, .int 1]) (rest := []) ⟨hx, hb, hml, hown, hts⟩ (c_X2_add l D cI cZ cB cJ H.size h0 h1 h2 h3 n fx fy fb x y 1 hn (Or.inr rfl)) (cwV 3 hts gX2_begin_X2_add rfl rfl rfl (by decide +kernel) ⟨Nat.le_of_ble_eq_true rfl, Nat.le_of_ble_eq_true rfl⟩) (q_preV (q_pre (wc := [(h0, .inr (2, [.ref h1, .ref h2, .ref h3, .int (nI n)])), (h1, .inl (cI, 100, .inl fx)), (h2, .inl (cI, 100, .inl fy)), (h3, .inl (cZ, 100, .inl fb))]) hP hD hK hN [0, 1, 2, 3] (by decide) rfl) (va_recv hK hP (ci := 2) (q0 := 0) rfl rfl)) rfl rfl hl.1 rfl (lv_room (Nat.le_of_ble_eq_true rfl)) dX2_begin_4 ⟨Nat.zero_le _, Nat.zero_le _⟩) hS hA hP hD [0, 1, 2, 3] [] rfl rfl (by decide) (by decide) (fun u H locs hp_4 hP hD hS => ?_)
  have hP : va_P D qCl [(h0, .inr (2, [.ref h1, .ref h2, .ref h3, .int (nI (n + 1))])), (h1, .inl (cI, 100, .inl (upd fx n x))), (h2, .inl (cI, 100, .inl (upd fy n y))), (h3, .inl (cZ, 100, .inl (upd fb n 1)))] H := hP
  have hD : va_D A [(h0, .inr (2, [.ref h1, .ref h2, .ref h3, .int (nI (n + 1))])), (h1, .inl (cI, 100, .inl (upd fx n x))), (h2, .inl (cI, 100, .inl (upd fy n y))), (h3, .inl (cZ, 100, .inl (upd fb n 1)))] := hD
  exact hQ _ _ _ _ () _ _ dX2_begin_7 (Nat.le_refl _) (Nat.le_refl _) trivial (hP.sub [0, 1, 2, 3] rfl) hK (hD.sub [0, 1, 2, 3] (by decide) rfl) hS

abbrev rm_X2_join : Room := { frames := 1, cells := 0, slots := 0, locals := 23 }
set_option maxHeartbeats 4000000 in
set_option maxRecDepth 100000 in
theorem c_X2_join (l : Launch) (D : va_G) (cI cZ cB cJ : ClassId) (sz : Nat) (h0 : Nat) (h1 : Nat) (h2 : Nat) (h3 : Nat) (n : Nat) (fx : Nat → Int32) (fy : Nat → Int32) (fb : Nat → Int32) (x : Int32) (y : Int32) (hn : n < 100) : Met l yX2_join wsX2_join rm_X2_join (va_Pc [.ref h0, .int x, .int y] (PC D (qT cI cZ cB cJ) [(h0, .inr (2, [.ref h1, .ref h2, .ref h3, .int (nI n)])), (h1, .inl (cI, 100, .inl fx)), (h2, .inl (cI, 100, .inl fy)), (h3, .inl (cZ, 100, .inl fb))] sz)) (va_Qv (fun (u : Unit) => True) (fun (u : Unit) => PO D (qT cI cZ cB cJ) (va_A [(h0, .inr (2, [.ref h1, .ref h2, .ref h3, .int (nI n)])), (h1, .inl (cI, 100, .inl fx)), (h2, .inl (cI, 100, .inl fy)), (h3, .inl (cZ, 100, .inl fb))] sz) [(h0, .inr (2, [.ref h1, .ref h2, .ref h3, .int (nI (n + 1))])), (h1, .inl (cI, 100, .inl (upd fx n x))), (h2, .inl (cI, 100, .inl (upd fy n y))), (h3, .inl (cZ, 100, .inl (upd fb n 0)))]) (va_A [(h0, .inr (2, [.ref h1, .ref h2, .ref h3, .int (nI n)])), (h1, .inl (cI, 100, .inl fx)), (h2, .inl (cI, 100, .inl fy)), (h3, .inl (cZ, 100, .inl fb))] sz)) 0 0 (va_A [(h0, .inr (2, [.ref h1, .ref h2, .ref h3, .int (nI n)])), (h1, .inl (cI, 100, .inl fx)), (h2, .inl (cI, 100, .inl fy)), (h3, .inl (cZ, 100, .inl fb))] sz) := by
  refine q_entV (cc := cX2_join) (maxL := 3) (by decide +kernel) rfl (Nat.le_of_ble_eq_true rfl) ?_
  intro p e s m below meth c A Q ls hq hl hQ
  obtain ⟨hx, hb, hml, hts, hown, hin, hN, hK, hsz, hA, hP, hD, hS⟩ := hq
  have hown : s.vm.findClass RX2 = some m.cls := hown
  obtain ⟨H, hH⟩ : ∃ H, H = s.heap := ⟨_, rfl⟩
  rw [← hH] at hP ⊢
  have hS : va_S A s.heap H [] := by rw [hH]; exact va_S.rf
  clear hH
  have hl : lv_has ls 3 [(0, .ref h0), (1, .int x), (2, .int y)] := hl
  refine lv_aload_n hx hb dX2_join_0 rfl (lv_at hl 0 rfl) ?_
  refine lv_iload_n hx hb dX2_join_1 rfl (lv_at hl 1 rfl) ?_
  refine lv_iload_n hx hb dX2_join_2 rfl (lv_at hl 2 rfl) ?_
  refine lv_iconst (v := nI 0) hx hb dX2_join_3 (by decide) ?_
  refine q_eqi (y := 0) (by decide) ?_
  refine q_v0 (wr := []) (va_runV (As := [.int x, .int y, .int 0]) (rest := []) ⟨hx, hb, hml, hown, hts⟩ (c_X2_add l D cI cZ cB cJ H.size h0 h1 h2 h3 n fx fy fb x y 0 hn (Or.inl rfl)) (cwV 3 hts gX2_join_X2_add rfl rfl rfl (by decide +kernel) ⟨Nat.le_of_ble_eq_true rfl, Nat.le_of_ble_eq_true rfl⟩) (q_preV (q_pre (wc := [(h0, .inr (2, [.ref h1, .ref h2, .ref h3, .int (nI n)])), (h1, .inl (cI, 100, .inl fx)), (h2, .inl (cI, 100, .inl fy)), (h3, .inl (cZ, 100, .inl fb))]) hP hD hK hN [0, 1, 2, 3] (by decide) rfl) (va_recv hK hP (ci := 2) (q0 := 0) rfl rfl)) rfl rfl hl.1 rfl (lv_room (Nat.le_of_ble_eq_true rfl)) dX2_join_4 ⟨Nat.zero_le _, Nat.zero_le _⟩) hS hA hP hD [0, 1, 2, 3] [] rfl rfl (by decide) (by decide) (fun u H locs hp_4 hP hD hS => ?_)
  have hP : va_P D qCl [(h0, .inr (2, [.ref h1, .ref h2, .ref h3, .int (nI (n + 1))])), (h1, .inl (cI, 100, .inl (upd fx n x))), (h2, .inl (cI, 100, .inl (upd fy n y))), (h3, .inl (cZ, 100, .inl (upd fb n 0)))] H := hP
  have hD : va_D A [(h0, .inr (2, [.ref h1, .ref h2, .ref h3, .int (nI (n + 1))])), (h1, .inl (cI, 100, .inl (upd fx n x))), (h2, .inl (cI, 100, .inl (upd fy n y))), (h3, .inl (cZ, 100, .inl (upd fb n 0)))] := hD
  exact hQ _ _ _ _ () _ _ dX2_join_7 (Nat.le_refl _) (Nat.le_refl _) trivial (hP.sub [0, 1, 2, 3] rfl) hK (hD.sub [0, 1, 2, 3] (by decide) rfl) hS

abbrev rm_X2_clear : Room := { frames := 0, cells := 0, slots := 0, locals := 0 }
set_option maxHeartbeats 4000000 in
set_option maxRecDepth 100000 in
theorem c_X2_clear (l : Launch) (D : va_G) (cI cZ cB cJ : ClassId) (sz : Nat) (h0 : Nat) (h1 : Nat) (h2 : Nat) (h3 : Nat) (n : Nat) (fx : Nat → Int32) (fy : Nat → Int32) (fb : Nat → Int32) : Met l yX2_clear wsX2_clear rm_X2_clear (va_Pc [.ref h0] (PC D (qT cI cZ cB cJ) [(h0, .inr (2, [.ref h1, .ref h2, .ref h3, .int (nI n)])), (h1, .inl (cI, 100, .inl fx)), (h2, .inl (cI, 100, .inl fy)), (h3, .inl (cZ, 100, .inl fb))] sz)) (va_Qv (fun (u : Unit) => True) (fun (u : Unit) => PO D (qT cI cZ cB cJ) (va_A [(h0, .inr (2, [.ref h1, .ref h2, .ref h3, .int (nI n)])), (h1, .inl (cI, 100, .inl fx)), (h2, .inl (cI, 100, .inl fy)), (h3, .inl (cZ, 100, .inl fb))] sz) [(h0, .inr (2, [.ref h1, .ref h2, .ref h3, .int (nI 0)])), (h1, .inl (cI, 100, .inl fx)), (h2, .inl (cI, 100, .inl fy)), (h3, .inl (cZ, 100, .inl fb))]) (va_A [(h0, .inr (2, [.ref h1, .ref h2, .ref h3, .int (nI n)])), (h1, .inl (cI, 100, .inl fx)), (h2, .inl (cI, 100, .inl fy)), (h3, .inl (cZ, 100, .inl fb))] sz)) 0 0 (va_A [(h0, .inr (2, [.ref h1, .ref h2, .ref h3, .int (nI n)])), (h1, .inl (cI, 100, .inl fx)), (h2, .inl (cI, 100, .inl fy)), (h3, .inl (cZ, 100, .inl fb))] sz) := by
  refine q_entV (cc := cX2_clear) (maxL := 1) (by decide +kernel) rfl (Nat.le_of_ble_eq_true rfl) ?_
  intro p e s m below meth c A Q ls hq hl hQ
  obtain ⟨hx, hb, hml, hts, hown, hin, hN, hK, hsz, hA, hP, hD, hS⟩ := hq
  have hown : s.vm.findClass RX2 = some m.cls := hown
  obtain ⟨H, hH⟩ : ∃ H, H = s.heap := ⟨_, rfl⟩
  rw [← hH] at hP ⊢
  have hS : va_S A s.heap H [] := by rw [hH]; exact va_S.rf
  clear hH
  have hl : lv_has ls 1 [(0, .ref h0)] := hl
  have iX2 : ∀ w ∈ wsX20, w ∈ wsX2_clear := by decide +kernel
  have f_20 := hts (.fieldLink RX2 20 "RasterCover$Path" "count" "I") (by decide +kernel)
  refine lv_aload_n hx hb dX2_clear_0 rfl (lv_at hl 0 rfl) ?_
  refine lv_iconst (v := nI 0) hx hb dX2_clear_1 (by decide) ?_
  refine va_put (D := D) (ci := 2) (v := .int (nI 0)) (ty := .int) (C := RX2) (T := TX2) (N := 4) hx hb hts iX2 tyX2 tyX2_ok nmX2 hown hK hP hD hS 0 rfl rfl 3 (by decide) f_20 (fun _ h9 => h9) rfl (by decide +kernel) rfl rfl (Nat.le_of_ble_eq_true rfl) dX2_clear_2 (fun H locs hP hD hS => ?_)
  have hP : va_P D qCl [(h0, .inr (2, [.ref h1, .ref h2, .ref h3, .int (nI 0)])), (h1, .inl (cI, 100, .inl fx)), (h2, .inl (cI, 100, .inl fy)), (h3, .inl (cZ, 100, .inl fb))] H := hP
  have hD : va_D A [(h0, .inr (2, [.ref h1, .ref h2, .ref h3, .int (nI 0)])), (h1, .inl (cI, 100, .inl fx)), (h2, .inl (cI, 100, .inl fy)), (h3, .inl (cZ, 100, .inl fb))] := hD
  exact hQ _ _ _ _ () _ _ dX2_clear_5 (Nat.le_refl _) (Nat.le_refl _) trivial (hP.sub [0, 1, 2, 3] rfl) hK (hD.sub [0, 1, 2, 3] (by decide) rfl) hS
