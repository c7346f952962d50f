abbrev rm_X4_needRoom : Room := { frames := 7, cells := 1, slots := 6, locals := 100 }
set_option maxHeartbeats 4000000 in
set_option maxRecDepth 100000 in
/-- needRoom -/
theorem c_X4_needRoom (l : Launch) (D : va_G) (cI cZ cB cJ : ClassId) (sz : Nat) (hst : l.stackTraces = false) (o0 : Nat) (o1 : Nat) (o2 : Nat) (o3 : Nat) (h0 : Nat) (r0 : Nat) (k0 : Nat) (wd : Nat) (ht : Nat) (pn : Nat) (bf : Nat) (bt : Nat) (fl : Int32) (h1 : Nat) (h2 : Nat) (h3 : Nat) (n : Nat) (fx : Nat → Int32) (fy : Nat → Int32) (fb : Nat → Int32) (k : Nat) (hn : n ≤ 100) (hk : k ≤ 100) : vx_Met l yX4_needRoom wsX4_needRoom rm_X4_needRoom (va_Pc [.ref o0, .int (nI k)] (PZ D (qT cI cZ cB cJ) [(o0, .inr (4, [.int (nI wd), .int (nI ht), .int (nI pn), .ref o1, .ref o2, .ref o3, .ref h0, .ref r0, .ref k0, .int (nI bf), .int (nI bt), .int fl])), (h0, .inr (2, [.ref h1, .ref h2, .ref h3, .int (nI n)])), (h1, .inl (cI, 100, .inl fx)), (h2, .inl (cI, 100, .inl fy)), (h3, .inl (cZ, 100, .inl fb))] sz)) (va_Qv (fun (u : Unit) => n + k ≤ 100) (fun (u : Unit) => PO D (qT cI cZ cB cJ) (va_A [(o0, .inr (4, [.int (nI wd), .int (nI ht), .int (nI pn), .ref o1, .ref o2, .ref o3, .ref h0, .ref r0, .ref k0, .int (nI bf), .int (nI bt), .int fl])), (h0, .inr (2, [.ref h1, .ref h2, .ref h3, .int (nI n)])), (h1, .inl (cI, 100, .inl fx)), (h2, .inl (cI, 100, .inl fy)), (h3, .inl (cZ, 100, .inl fb))] sz) [(o0, .inr (4, [.int (nI wd), .int (nI ht), .int (nI pn), .ref o1, .ref o2, .ref o3, .ref h0, .ref r0, .ref k0, .int (nI bf), .int (nI bt), .int fl])), (h0, .inr (2, [.ref h1, .ref h2, .ref h3, .int (nI n)])), (h1, .inl (cI, 100, .inl fx)), (h2, .inl (cI, 100, .inl fy)), (h3, .inl (cZ, 100, .inl fb))]) (va_A [(o0, .inr (4, [.int (nI wd), .int (nI ht), .int (nI pn), .ref o1, .ref o2, .ref o3, .ref h0, .ref r0, .ref k0, .int (nI bf), .int (nI bt), .int fl])), (h0, .inr (2, [.ref h1, .ref h2, .ref h3, .int (nI n)])), (h1, .inl (cI, 100, .inl fx)), (h2, .inl (cI, 100, .inl fy)), (h3, .inl (cZ, 100, .inl fb))] sz)) (XC1 D (qT cI cZ cB cJ) (va_A [(o0, .inr (4, [.int (nI wd), .int (nI ht), .int (nI pn), .ref o1, .ref o2, .ref o3, .ref h0, .ref r0, .ref k0, .int (nI bf), .int (nI bt), .int fl])), (h0, .inr (2, [.ref h1, .ref h2, .ref h3, .int (nI n)])), (h1, .inl (cI, 100, .inl fx)), (h2, .inl (cI, 100, .inl fy)), (h3, .inl (cZ, 100, .inl fb))] sz) [(o0, .inr (4, [.int (nI wd), .int (nI ht), .int (nI pn), .ref o1, .ref o2, .ref o3, .ref h0, .ref r0, .ref k0, .int (nI bf), .int (nI bt), .int fl])), (h0, .inr (2, [.ref h1, .ref h2, .ref h3, .int (nI n)])), (h1, .inl (cI, 100, .inl fx)), (h2, .inl (cI, 100, .inl fy)), (h3, .inl (cZ, 100, .inl fb))] (fun E => E = qUOE ∧ 100 < n + k)) 1 6 (va_A [(o0, .inr (4, [.int (nI wd), .int (nI ht), .int (nI pn), .ref o1, .ref o2, .ref o3, .ref h0, .ref r0, .ref k0, .int (nI bf), .int (nI bt), .int fl])), (h0, .inr (2, [.ref h1, .ref h2, .ref h3, .int (nI n)])), (h1, .inl (cI, 100, .inl fx)), (h2, .inl (cI, 100, .inl fy)), (h3, .inl (cZ, 100, .inl fb))] sz) := by
  refine q_entXV (cc := cX4_needRoom) (maxL := 2) hst (by decide +kernel) rfl (Nat.le_of_ble_eq_true rfl) ?_
  intro p e s m below meth c A Q ls hq hl hZ hQ hT hX
  obtain ⟨hx, hb, hml, hts, hown, hin, hN, hK, hsz, hA, hP, hD, hS⟩ := hq
  have hown : s.vm.findClass RX4 = some m.cls := hown
  obtain ⟨H, hH⟩ : ∃ H, H = s.heap := ⟨_, rfl⟩
  rw [← hH] at hP ⊢
  have hS : va_S A s.heap H [] := by rw [hH]; exact va_S.rf
  clear hH
  have hl : lv_has ls 2 [(0, .ref o0), (1, .int (nI k))] := hl
  have iX2 : ∀ w ∈ wsX20, w ∈ wsX4_needRoom := by decide +kernel
  have iX4 : ∀ w ∈ wsX40, w ∈ wsX4_needRoom := by decide +kernel
  have f_37 := hts (.fieldLink RX4 37 "RasterCover" "path" "LRasterCover$Path;") (by decide +kernel)
  have cl_148 := hts (.classLink RX4 148 "java/lang/UnsupportedOperationException") (by decide +kernel)
  have in_qUOE := hts (.initialized "java/lang/UnsupportedOperationException") (by decide +kernel)
  refine lv_aload_n hx hb dX4_needRoom_0 rfl (lv_at hl 0 rfl) ?_
  refine va_get (D := D) (ci := 4) (v := .ref h0) (C := RX4) (T := TX4) (N := 12) hx hb hts iX4 hown hK hP 0 rfl rfl 6 (by decide) f_37 (fun _ h9 => h9) rfl dX4_needRoom_1 ?_
  refine va_getN (D := D) (ci := 2) (v := .int (nI n)) (C := RX2) (T := TX2) (N := 4) hx hb hts iX2 hown hK hP 1 rfl rfl 3 (by decide) (nw_4 hN) (fun _ h9 => h9) rfl dX4_needRoom_4 ?_
  refine lv_iload_n hx hb dX4_needRoom_7 rfl (lv_at hl 1 rfl) ?_
  refine lv_iadd hx hb dX4_needRoom_8 ?_
  refine q_eqi (nI_add _ _) ?_
  refine lv_bipush (v := nI 100) hx hb dX4_needRoom_9 (by decide) ?_
  refine q_le (tgt := 24) hx hb (by omega) (by omega) dX4_needRoom_11 (by decide) (fun h_11 => ?_) (fun h_11 => ?_)
  · have hr9 : n + k ≤ 100 := (by omega)
    exact hQ _ _ _ _ () _ _ dX4_needRoom_24 (by first | decide | omega) (by first | decide | omega) hr9 (hP.sub [0, 1, 2, 3, 4] rfl) hK (hD.sub [0, 1, 2, 3, 4] (by decide) rfl) hS
  exact hT RX4 qUOE "the path is full" nmRE 148 150 152 14 0 0 H _ ls hown (by decide +kernel) (by decide +kernel) cl_148 in_qUOE hN.2.1.1 (at_hat hts (fun _ h => List.mem_cons_of_mem _ (List.mem_append_right _ h)) hN ng_152) ot_152 (hl.1.trans hml.symm) dX4_needRoom_14 dX4_needRoom_17 dX4_needRoom_18 dX4_needRoom_20 dX4_needRoom_23 (by decide) (by decide) (by decide) (by decide) (by decide) (by decide) ⟨rfl, by omega⟩ (hP.sub [0, 1, 2, 3, 4] rfl) (hD.sub [0, 1, 2, 3, 4] (by decide) rfl) hS

abbrev rm_X4_needRule : Room := { frames := 7, cells := 1, slots := 6, locals := 100 }
set_option maxHeartbeats 4000000 in
set_option maxRecDepth 100000 in
/-- needRule -/
theorem c_X4_needRule (l : Launch) (D : va_G) (cI cZ cB cJ : ClassId) (sz : Nat) (hst : l.stackTraces = false) (rl : Int32) : vx_Met l yX4_needRule wsX4_needRule rm_X4_needRule (va_Pc [.int rl] (PZ D (qT cI cZ cB cJ) [] sz)) (va_Qv (fun (u : Unit) => rl = 0 ∨ rl = 1) (fun (u : Unit) => PO D (qT cI cZ cB cJ) (va_A [] sz) []) (va_A [] sz)) (XC1 D (qT cI cZ cB cJ) (va_A [] sz) [] (fun E => E = qIAE ∧ ¬ (rl = 0 ∨ rl = 1))) 1 6 (va_A [] sz) := by
  refine q_entXV (cc := cX4_needRule) (maxL := 1) hst (by decide +kernel) rfl (Nat.le_of_ble_eq_true rfl) ?_
  intro p e s m below meth c A Q ls hq hl hZ hQ hT hX
  obtain ⟨hx, hb, hml, hts, hown, hin, hN, hK, hsz, hA, hP, hD, hS⟩ := hq
  have hown : s.vm.findClass RX4 = some m.cls := hown
  obtain ⟨H, hH⟩ : ∃ H, H = s.heap := ⟨_, rfl⟩
  rw [← hH] at hP ⊢
  have hS : va_S A s.heap H [] := by rw [hH]; exact va_S.rf
  clear hH
  have hl : lv_has ls 1 [(0, .int rl)] := hl
  have cl_153 := hts (.classLink RX4 153 "java/lang/IllegalArgumentException") (by decide +kernel)
  have in_qIAE := hts (.initialized "java/lang/IllegalArgumentException") (by decide +kernel)
  refine lv_iload_n hx hb dX4_needRule_0 rfl (lv_at hl 0 rfl) ?_
  refine lv_if_eq (tgt := 19) hx hb dX4_needRule_1 (by decide) (fun h_1 => ?_) (fun h_1 => ?_)
  · have hr9 : rl = 0 ∨ rl = 1 := (by first | exact Or.inl h_1 | exact Or.inr h_6)
    exact hQ _ _ _ _ () _ _ dX4_needRule_19 (by first | decide | omega) (by first | decide | omega) hr9 (hP.sub [] rfl) hK (hD.sub [] (by decide) rfl) hS
  refine lv_iload_n hx hb dX4_needRule_4 rfl (lv_at hl 0 rfl) ?_
  refine lv_iconst (v := nI 1) hx hb dX4_needRule_5 (by decide) ?_
  refine q_eqi (y := 1) (by decide) ?_
  refine lv_icmp_eq (tgt := 19) hx hb dX4_needRule_6 (by decide) (fun h_6 => ?_) (fun h_6 => ?_)
  · have hr9 : rl = 0 ∨ rl = 1 := (by first | exact Or.inl h_1 | exact Or.inr h_6)
    exact hQ _ _ _ _ () _ _ dX4_needRule_19 (by first | decide | omega) (by first | decide | omega) hr9 (hP.sub [] rfl) hK (hD.sub [] (by decide) rfl) hS
  exact hT RX4 qIAE "no such rule" nmRE 153 155 157 9 0 0 H _ ls hown (by decide +kernel) (by decide +kernel) cl_153 in_qIAE hN.2.1.2.2.1 (at_hat hts (fun _ h => List.mem_cons_of_mem _ (List.mem_append_right _ h)) hN ng_157) ot_157 (hl.1.trans hml.symm) dX4_needRule_9 dX4_needRule_12 dX4_needRule_13 dX4_needRule_15 dX4_needRule_18 (by decide) (by decide) (by decide) (by decide) (by decide) (by decide) ⟨rfl, (fun z => by rcases z with z | z; (· exact h_1 z); (· exact h_6 z))⟩ (hP.sub [] rfl) (hD.sub [] (by decide) rfl) hS

abbrev rm_X4_needPlane : Room := { frames := 8, cells := 1, slots := 6, locals := 120 }
set_option maxHeartbeats 4000000 in
set_option maxRecDepth 100000 in
/-- needPlane -/
theorem c_X4_needPlane (l : Launch) (D : va_G) (cI cZ cB cJ : ClassId) (sz : Nat) (hst : l.stackTraces = false) (o0 : Nat) (o1 : Nat) (o2 : Nat) (o3 : Nat) (h0 : Nat) (r0 : Nat) (k0 : Nat) (wd : Nat) (ht : Nat) (pn : Nat) (bf : Nat) (bt : Nat) (fl : Int32) (pl : Int32) (hpn : pn ≤ 4) : vx_Met l yX4_needPlane wsX4_needPlane rm_X4_needPlane (va_Pc [.ref o0, .int pl] (PZ D (qT cI cZ cB cJ) [(o0, .inr (4, [.int (nI wd), .int (nI ht), .int (nI pn), .ref o1, .ref o2, .ref o3, .ref h0, .ref r0, .ref k0, .int (nI bf), .int (nI bt), .int fl]))] sz)) (va_Qv (fun (u : Unit) => 0 ≤ pl.toInt ∧ pl.toInt < pn) (fun (u : Unit) => PO D (qT cI cZ cB cJ) (va_A [(o0, .inr (4, [.int (nI wd), .int (nI ht), .int (nI pn), .ref o1, .ref o2, .ref o3, .ref h0, .ref r0, .ref k0, .int (nI bf), .int (nI bt), .int fl]))] sz) [(o0, .inr (4, [.int (nI wd), .int (nI ht), .int (nI pn), .ref o1, .ref o2, .ref o3, .ref h0, .ref r0, .ref k0, .int (nI bf), .int (nI bt), .int fl]))]) (va_A [(o0, .inr (4, [.int (nI wd), .int (nI ht), .int (nI pn), .ref o1, .ref o2, .ref o3, .ref h0, .ref r0, .ref k0, .int (nI bf), .int (nI bt), .int fl]))] sz)) (XC1 D (qT cI cZ cB cJ) (va_A [(o0, .inr (4, [.int (nI wd), .int (nI ht), .int (nI pn), .ref o1, .ref o2, .ref o3, .ref h0, .ref r0, .ref k0, .int (nI bf), .int (nI bt), .int fl]))] sz) [(o0, .inr (4, [.int (nI wd), .int (nI ht), .int (nI pn), .ref o1, .ref o2, .ref o3, .ref h0, .ref r0, .ref k0, .int (nI bf), .int (nI bt), .int fl]))] (fun E => E = qAIO ∧ ¬ (0 ≤ pl.toInt ∧ pl.toInt < pn))) 1 6 (va_A [(o0, .inr (4, [.int (nI wd), .int (nI ht), .int (nI pn), .ref o1, .ref o2, .ref o3, .ref h0, .ref r0, .ref k0, .int (nI bf), .int (nI bt), .int fl]))] sz) := by
  refine q_entXV (cc := cX4_needPlane) (maxL := 2) hst (by decide +kernel) rfl (Nat.le_of_ble_eq_true rfl) ?_
  intro p e s m below meth c A Q ls hq hl hZ hQ hT hX
  obtain ⟨hx, hb, hml, hts, hown, hin, hN, hK, hsz, hA, hP, hD, hS⟩ := hq
  have hown : s.vm.findClass RX4 = some m.cls := hown
  obtain ⟨H, hH⟩ : ∃ H, H = s.heap := ⟨_, rfl⟩
  rw [← hH] at hP ⊢
  have hS : va_S A s.heap H [] := by rw [hH]; exact va_S.rf
  clear hH
  have hl : lv_has ls 2 [(0, .ref o0), (1, .int pl)] := hl
  have iX4 : ∀ w ∈ wsX40, w ∈ wsX4_needPlane := by decide +kernel
  have cl_143 := hts (.classLink RX4 143 "java/lang/ArrayIndexOutOfBoundsException") (by decide +kernel)
  have in_qAIO := hts (.initialized "java/lang/ArrayIndexOutOfBoundsException") (by decide +kernel)
  have f_20 := hts (.fieldLink RX4 20 "RasterCover" "planes" "I") (by decide +kernel)
  refine lv_iload_n hx hb dX4_needPlane_0 rfl (lv_at hl 1 rfl) ?_
  refine lv_if_lt (tgt := 12) hx hb dX4_needPlane_1 (by decide) (fun h_1 => ?_) (fun h_1 => ?_)
  · rw [i_lt, show (0 : Int32).toInt = 0 from by decide] at h_1
    exact hT RX4 qAIO "no such plane" nmIO 143 158 147 12 0 0 H _ ls hown (by decide +kernel) (by decide +kernel) cl_143 in_qAIO hN.2.1.2.2.2.1 hN.at147 ot_147 (hl.1.trans hml.symm) dX4_needPlane_12 dX4_needPlane_15 dX4_needPlane_16 dX4_needPlane_18 dX4_needPlane_21 (by decide) (by decide) (by decide) (by decide) (by decide) (by decide) ⟨rfl, by omega⟩ (hP.sub [0] rfl) (hD.sub [0] (by decide) rfl) hS
  rw [i_lt, show (0 : Int32).toInt = 0 from by decide] at h_1
  refine lv_iload_n hx hb dX4_needPlane_4 rfl (lv_at hl 1 rfl) ?_
  refine lv_aload_n hx hb dX4_needPlane_5 rfl (lv_at hl 0 rfl) ?_
  refine va_get (D := D) (ci := 4) (v := .int (nI pn)) (C := RX4) (T := TX4) (N := 12) hx hb hts iX4 hown hK hP 0 rfl rfl 2 (by decide) f_20 (fun _ h9 => h9) rfl dX4_needPlane_6 ?_
  refine lv_icmp_lt (tgt := 22) hx hb dX4_needPlane_9 (by decide) (fun h_9 => ?_) (fun h_9 => ?_)
  · rw [i_lt, nI_toInt (by omega)] at h_9
    have hr9 : 0 ≤ pl.toInt ∧ pl.toInt < pn := (by omega)
    exact hQ _ _ _ _ () _ _ dX4_needPlane_22 (by first | decide | omega) (by first | decide | omega) hr9 (hP.sub [0] rfl) hK (hD.sub [0] (by decide) rfl) hS
  rw [i_lt, nI_toInt (by omega)] at h_9
  exact hT RX4 qAIO "no such plane" nmIO 143 158 147 12 0 0 H _ ls hown (by decide +kernel) (by decide +kernel) cl_143 in_qAIO hN.2.1.2.2.2.1 hN.at147 ot_147 (hl.1.trans hml.symm) dX4_needPlane_12 dX4_needPlane_15 dX4_needPlane_16 dX4_needPlane_18 dX4_needPlane_21 (by decide) (by decide) (by decide) (by decide) (by decide) (by decide) ⟨rfl, by omega⟩ (hP.sub [0] rfl) (hD.sub [0] (by decide) rfl) hS

abbrev rm_X4_needPoint : Room := { frames := 8, cells := 1, slots := 6, locals := 120 }
set_option maxHeartbeats 4000000 in
set_option maxRecDepth 100000 in
/-- needPoint -/
theorem c_X4_needPoint (l : Launch) (D : va_G) (cI cZ cB cJ : ClassId) (sz : Nat) (hst : l.stackTraces = false) (o0 : Nat) (o1 : Nat) (o2 : Nat) (o3 : Nat) (h0 : Nat) (r0 : Nat) (k0 : Nat) (wd : Nat) (ht : Nat) (pn : Nat) (bf : Nat) (bt : Nat) (fl : Int32) (vx : Int32) (vy : Int32) (hwd : wd ≤ 48) (hht : ht ≤ 48) : vx_Met l yX4_needPoint wsX4_needPoint rm_X4_needPoint (va_Pc [.ref o0, .int vx, .int vy] (PZ D (qT cI cZ cB cJ) [(o0, .inr (4, [.int (nI wd), .int (nI ht), .int (nI pn), .ref o1, .ref o2, .ref o3, .ref h0, .ref r0, .ref k0, .int (nI bf), .int (nI bt), .int fl]))] sz)) (va_Qv (fun (u : Unit) => (0 ≤ vx.toInt ∧ vx.toInt < wd) ∧ 0 ≤ vy.toInt ∧ vy.toInt < ht) (fun (u : Unit) => PO D (qT cI cZ cB cJ) (va_A [(o0, .inr (4, [.int (nI wd), .int (nI ht), .int (nI pn), .ref o1, .ref o2, .ref o3, .ref h0, .ref r0, .ref k0, .int (nI bf), .int (nI bt), .int fl]))] sz) [(o0, .inr (4, [.int (nI wd), .int (nI ht), .int (nI pn), .ref o1, .ref o2, .ref o3, .ref h0, .ref r0, .ref k0, .int (nI bf), .int (nI bt), .int fl]))]) (va_A [(o0, .inr (4, [.int (nI wd), .int (nI ht), .int (nI pn), .ref o1, .ref o2, .ref o3, .ref h0, .ref r0, .ref k0, .int (nI bf), .int (nI bt), .int fl]))] sz)) (XC1 D (qT cI cZ cB cJ) (va_A [(o0, .inr (4, [.int (nI wd), .int (nI ht), .int (nI pn), .ref o1, .ref o2, .ref o3, .ref h0, .ref r0, .ref k0, .int (nI bf), .int (nI bt), .int fl]))] sz) [(o0, .inr (4, [.int (nI wd), .int (nI ht), .int (nI pn), .ref o1, .ref o2, .ref o3, .ref h0, .ref r0, .ref k0, .int (nI bf), .int (nI bt), .int fl]))] (fun E => E = qAIO ∧ ¬ ((0 ≤ vx.toInt ∧ vx.toInt < wd) ∧ 0 ≤ vy.toInt ∧ vy.toInt < ht))) 1 6 (va_A [(o0, .inr (4, [.int (nI wd), .int (nI ht), .int (nI pn), .ref o1, .ref o2, .ref o3, .ref h0, .ref r0, .ref k0, .int (nI bf), .int (nI bt), .int fl]))] sz) := by
  refine q_entXV (cc := cX4_needPoint) (maxL := 3) hst (by decide +kernel) rfl (Nat.le_of_ble_eq_true rfl) ?_
  intro p e s m below meth c A Q ls hq hl hZ hQ hT hX
  obtain ⟨hx, hb, hml, hts, hown, hin, hN, hK, hsz, hA, hP, hD, hS⟩ := hq
  have hown : s.vm.findClass RX4 = some m.cls := hown
  obtain ⟨H, hH⟩ : ∃ H, H = s.heap := ⟨_, rfl⟩
  rw [← hH] at hP ⊢
  have hS : va_S A s.heap H [] := by rw [hH]; exact va_S.rf
  clear hH
  have hl : lv_has ls 3 [(0, .ref o0), (1, .int vx), (2, .int vy)] := hl
  have iX4 : ∀ w ∈ wsX40, w ∈ wsX4_needPoint := by decide +kernel
  have cl_143 := hts (.classLink RX4 143 "java/lang/ArrayIndexOutOfBoundsException") (by decide +kernel)
  have in_qAIO := hts (.initialized "java/lang/ArrayIndexOutOfBoundsException") (by decide +kernel)
  have f_13 := hts (.fieldLink RX4 13 "RasterCover" "width" "I") (by decide +kernel)
  have f_17 := hts (.fieldLink RX4 17 "RasterCover" "height" "I") (by decide +kernel)
  refine lv_iload_n hx hb dX4_needPoint_0 rfl (lv_at hl 1 rfl) ?_
  refine lv_if_lt (tgt := 24) hx hb dX4_needPoint_1 (by decide) (fun h_1 => ?_) (fun h_1 => ?_)
  · rw [i_lt, show (0 : Int32).toInt = 0 from by decide] at h_1
    exact hT RX4 qAIO "no such point" nmIO 143 160 147 24 0 0 H _ ls hown (by decide +kernel) (by decide +kernel) cl_143 in_qAIO hN.2.1.2.2.2.2.1 hN.at147 ot_147 (hl.1.trans hml.symm) dX4_needPoint_24 dX4_needPoint_27 dX4_needPoint_28 dX4_needPoint_30 dX4_needPoint_33 (by decide) (by decide) (by decide) (by decide) (by decide) (by decide) ⟨rfl, by omega⟩ (hP.sub [0] rfl) (hD.sub [0] (by decide) rfl) hS
  rw [i_lt, show (0 : Int32).toInt = 0 from by decide] at h_1
  refine lv_iload_n hx hb dX4_needPoint_4 rfl (lv_at hl 1 rfl) ?_
  refine lv_aload_n hx hb dX4_needPoint_5 rfl (lv_at hl 0 rfl) ?_
  refine va_get (D := D) (ci := 4) (v := .int (nI wd)) (C := RX4) (T := TX4) (N := 12) hx hb hts iX4 hown hK hP 0 rfl rfl 0 (by decide) f_13 (fun _ h9 => h9) rfl dX4_needPoint_6 ?_
  refine lv_icmp_ge (tgt := 24) hx hb dX4_needPoint_9 (by decide) (fun h_9 => ?_) (fun h_9 => ?_)
  · rw [i_le, nI_toInt (by omega)] at h_9
    exact hT RX4 qAIO "no such point" nmIO 143 160 147 24 0 0 H _ ls hown (by decide +kernel) (by decide +kernel) cl_143 in_qAIO hN.2.1.2.2.2.2.1 hN.at147 ot_147 (hl.1.trans hml.symm) dX4_needPoint_24 dX4_needPoint_27 dX4_needPoint_28 dX4_needPoint_30 dX4_needPoint_33 (by decide) (by decide) (by decide) (by decide) (by decide) (by decide) ⟨rfl, by omega⟩ (hP.sub [0] rfl) (hD.sub [0] (by decide) rfl) hS
  rw [i_le, nI_toInt (by omega)] at h_9
  refine lv_iload_n hx hb dX4_needPoint_12 rfl (lv_at hl 2 rfl) ?_
  refine lv_if_lt (tgt := 24) hx hb dX4_needPoint_13 (by decide) (fun h_13 => ?_) (fun h_13 => ?_)
  · rw [i_lt, show (0 : Int32).toInt = 0 from by decide] at h_13
    exact hT RX4 qAIO "no such point" nmIO 143 160 147 24 0 0 H _ ls hown (by decide +kernel) (by decide +kernel) cl_143 in_qAIO hN.2.1.2.2.2.2.1 hN.at147 ot_147 (hl.1.trans hml.symm) dX4_needPoint_24 dX4_needPoint_27 dX4_needPoint_28 dX4_needPoint_30 dX4_needPoint_33 (by decide) (by decide) (by decide) (by decide) (by decide) (by decide) ⟨rfl, by omega⟩ (hP.sub [0] rfl) (hD.sub [0] (by decide) rfl) hS
  rw [i_lt, show (0 : Int32).toInt = 0 from by decide] at h_13
  refine lv_iload_n hx hb dX4_needPoint_16 rfl (lv_at hl 2 rfl) ?_
  refine lv_aload_n hx hb dX4_needPoint_17 rfl (lv_at hl 0 rfl) ?_
  refine va_get (D := D) (ci := 4) (v := .int (nI ht)) (C := RX4) (T := TX4) (N := 12) hx hb hts iX4 hown hK hP 0 rfl rfl 1 (by decide) f_17 (fun _ h9 => h9) rfl dX4_needPoint_18 ?_
  refine lv_icmp_lt (tgt := 34) hx hb dX4_needPoint_21 (by decide) (fun h_21 => ?_) (fun h_21 => ?_)
  · rw [i_lt, nI_toInt (by omega)] at h_21
    have hr9 : (0 ≤ vx.toInt ∧ vx.toInt < wd) ∧ 0 ≤ vy.toInt ∧ vy.toInt < ht := (by omega)
    exact hQ _ _ _ _ () _ _ dX4_needPoint_34 (by first | decide | omega) (by first | decide | omega) hr9 (hP.sub [0] rfl) hK (hD.sub [0] (by decide) rfl) hS
  rw [i_lt, nI_toInt (by omega)] at h_21
  exact hT RX4 qAIO "no such point" nmIO 143 160 147 24 0 0 H _ ls hown (by decide +kernel) (by decide +kernel) cl_143 in_qAIO hN.2.1.2.2.2.2.1 hN.at147 ot_147 (hl.1.trans hml.symm) dX4_needPoint_24 dX4_needPoint_27 dX4_needPoint_28 dX4_needPoint_30 dX4_needPoint_33 (by decide) (by decide) (by decide) (by decide) (by decide) (by decide) ⟨rfl, by omega⟩ (hP.sub [0] rfl) (hD.sub [0] (by decide) rfl) hS
