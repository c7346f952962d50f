abbrev rm_X4_cut : Room := { frames := 1, cells := 0, slots := 0, locals := 24 }
set_option maxHeartbeats 4000000 in
set_option maxRecDepth 100000 in
theorem c_X4_cut (l : Launch) (D : va_G) (cI cZ cB cJ : ClassId) (sz : Nat) (v : Int32) (k : Nat) (hk : k < 2147483648) : Met l yX4_cut wsX4_cut rm_X4_cut (va_Pc [.int v, .int (nI k)] (PC D (qT cI cZ cB cJ) [] sz)) (va_Qi (fun (r : Int32) (u : Unit) => r = nI (cutN v k)) (fun (u : Unit) => PO D (qT cI cZ cB cJ) (va_A [] sz) []) (va_A [] sz)) 0 0 (va_A [] sz) := by
  refine q_entI (cc := cX4_cut) (maxL := 2) (by decide +kernel) rfl (Nat.le_of_ble_eq_true rfl) ?_
  intro p e s m below meth c A Q ls hq hl hQ
  obtain ⟨hx, hb, hml, hts, hown, hin, hN, hK, hsz, hA, hP, hD, hS⟩ := hq
  have hown : s.vm.findClass RX4 = some m.cls := hown
  obtain ⟨H, hH⟩ : ∃ H, H = s.heap := ⟨_, rfl⟩
  rw [← hH] at hP ⊢
  have hS : va_S A s.heap H [] := by rw [hH]; exact va_S.rf
  clear hH
  have hl : lv_has ls 2 [(0, .int v), (1, .int (nI k))] := hl
  have ml_162 := hts (.methodLink RX4 162 Lib.Math.min.name) (by decide +kernel)
  have sm_min := hts (.static Lib.Math.min.name) (by decide +kernel)
  have in_Math := hts (.initialized "java/lang/Math") (by decide +kernel)
  have cm_min := hts (.code Lib.Math.min.name Lib.Math.min.code 2 (some .int)) (by decide +kernel)
  have ml_127 := hts (.methodLink RX4 127 Lib.Math.max.name) (by decide +kernel)
  have sm_max := hts (.static Lib.Math.max.name) (by decide +kernel)
  have cm_max := hts (.code Lib.Math.max.name Lib.Math.max.code 2 (some .int)) (by decide +kernel)
  refine lv_iconst (v := nI 0) hx hb dX4_cut_0 (by decide) ?_
  refine lv_iload_n hx hb dX4_cut_1 rfl (lv_at hl 1 rfl) ?_
  refine lv_iload_n hx hb dX4_cut_2 rfl (lv_at hl 0 rfl) ?_
  refine va_mmin hx hb (hml.trans hl.1.symm) hown ml_162 sm_min in_Math cm_min (Nat.le_of_ble_eq_true rfl) (Nat.le_of_ble_eq_true rfl) (Nat.zero_le _) (Nat.zero_le _) dX4_cut_3 ?_
  refine va_mmax hx hb (hml.trans hl.1.symm) hown ml_127 sm_max in_Math cm_max (Nat.le_of_ble_eq_true rfl) (Nat.le_of_ble_eq_true rfl) (Nat.zero_le _) (Nat.zero_le _) dX4_cut_6 ?_
  refine q_eqi (y := nI (cutN v k)) (cut_eq hk) ?_
  have hr9 : (nI (cutN v k)) = nI (cutN v k) := rfl
  exact hQ _ _ _ _ (nI (cutN v k)) () _ _ dX4_cut_9 (Nat.le_refl _) (Nat.le_refl _) hr9 (hP.sub [] rfl) hK (hD.sub [] (by decide) rfl) hS

abbrev rm_X4_cutPlace : Room := { frames := 1, cells := 0, slots := 0, locals := 24 }
set_option maxHeartbeats 4000000 in
set_option maxRecDepth 100000 in
theorem c_X4_cutPlace (l : Launch) (D : va_G) (cI cZ cB cJ : ClassId) (sz : Nat) (v : Int64) : Met l yX4_cutPlace wsX4_cutPlace rm_X4_cutPlace (va_Pc [.long v] (PC D (qT cI cZ cB cJ) [] sz)) (va_Qi (fun (r : Int32) (u : Unit) => r = Int32.ofInt (ctP v)) (fun (u : Unit) => PO D (qT cI cZ cB cJ) (va_A [] sz) []) (va_A [] sz)) 0 0 (va_A [] sz) := by
  refine q_entI (cc := cX4_cutPlace) (maxL := 2) (by decide +kernel) rfl (Nat.le_of_ble_eq_true rfl) ?_
  intro p e s m below meth c A Q ls hq hl hQ
  obtain ⟨hx, hb, hml, hts, hown, hin, hN, hK, hsz, hA, hP, hD, hS⟩ := hq
  have hown : s.vm.findClass RX4 = some m.cls := hown
  obtain ⟨H, hH⟩ : ∃ H, H = s.heap := ⟨_, rfl⟩
  rw [← hH] at hP ⊢
  have hS : va_S A s.heap H [] := by rw [hH]; exact va_S.rf
  clear hH
  have hl : lv_has ls 2 [(0, .long v)] := hl
  have k_165 := hts (.constantLong RX4 165 (-1048576)) (by decide +kernel)
  have k_167 := hts (.constantLong RX4 167 (1048576)) (by decide +kernel)
  have ml_169 := hts (.methodLink RX4 169 Lib.MathLoose.min_long.x) (by decide +kernel)
  have sl_min := hts (.static Lib.MathLoose.min_long.x) (by decide +kernel)
  have in_Math := hts (.initialized "java/lang/Math") (by decide +kernel)
  have cl_min := hts (.code Lib.MathLoose.min_long.x Lib.MathLoose.min_long.code 4 (some .long)) (by decide +kernel)
  have ml_172 := hts (.methodLink RX4 172 Lib.MathLoose.max_long.x) (by decide +kernel)
  have sl_max := hts (.static Lib.MathLoose.max_long.x) (by decide +kernel)
  have cl_max := hts (.code Lib.MathLoose.max_long.x Lib.MathLoose.max_long.code 4 (some .long)) (by decide +kernel)
  refine lv_ldc2 hx hb hown k_165 dX4_cutPlace_0 ?_
  refine lv_ldc2 hx hb hown k_167 dX4_cutPlace_3 ?_
  refine lv_lload_n hx hb dX4_cutPlace_6 rfl (lv_at hl 0 rfl) ?_
  refine va_mmin_long hx hb (hml.trans hl.1.symm) hown ml_169 sl_min in_Math cl_min (Nat.le_of_ble_eq_true rfl) (Nat.le_of_ble_eq_true rfl) (Nat.zero_le _) (Nat.zero_le _) dX4_cutPlace_7 ?_
  refine va_mmax_long hx hb (hml.trans hl.1.symm) hown ml_172 sl_max in_Math cl_max (Nat.le_of_ble_eq_true rfl) (Nat.le_of_ble_eq_true rfl) (Nat.zero_le _) (Nat.zero_le _) dX4_cutPlace_10 ?_
  refine lv_l2i hx hb dX4_cutPlace_13 rfl ?_
  refine q_eqi (y := Int32.ofInt (ctP v)) (ctP_eq v) ?_
  have hr9 : (Int32.ofInt (ctP v)) = Int32.ofInt (ctP v) := rfl
  exact hQ _ _ _ _ (Int32.ofInt (ctP v)) () _ _ dX4_cutPlace_14 (Nat.le_refl _) (Nat.le_refl _) hr9 (hP.sub [] rfl) hK (hD.sub [] (by decide) rfl) hS

abbrev rm_X4_mul : Room := { frames := 0, cells := 0, slots := 0, locals := 0 }
set_option maxHeartbeats 4000000 in
set_option maxRecDepth 100000 in
theorem c_X4_mul (l : Launch) (D : va_G) (cI cZ cB cJ : ClassId) (sz : Nat) (a : Int32) (b : Int32) : Met l yX4_mul wsX4_mul rm_X4_mul (va_Pc [.int a, .int b] (PC D (qT cI cZ cB cJ) [] sz)) (va_Qi (fun (r : Int32) (u : Unit) => r = mulv a b) (fun (u : Unit) => PO D (qT cI cZ cB cJ) (va_A [] sz) []) (va_A [] sz)) 0 0 (va_A [] sz) := by
  refine q_entI (cc := cX4_mul) (maxL := 2) (by decide +kernel) rfl (Nat.le_of_ble_eq_true rfl) ?_
  intro p e s m below meth c A Q ls hq hl hQ
  obtain ⟨hx, hb, hml, hts, hown, hin, hN, hK, hsz, hA, hP, hD, hS⟩ := hq
  have hown : s.vm.findClass RX4 = some m.cls := hown
  obtain ⟨H, hH⟩ : ∃ H, H = s.heap := ⟨_, rfl⟩
  rw [← hH] at hP ⊢
  have hS : va_S A s.heap H [] := by rw [hH]; exact va_S.rf
  clear hH
  have hl : lv_has ls 2 [(0, .int a), (1, .int b)] := hl
  refine lv_iload_n hx hb dX4_mul_0 rfl (lv_at hl 0 rfl) ?_
  refine lv_iload_n hx hb dX4_mul_1 rfl (lv_at hl 1 rfl) ?_
  refine lv_imul hx hb dX4_mul_2 ?_
  refine lv_bipush (v := nI 127) hx hb dX4_mul_3 (by decide) ?_
  refine lv_iadd hx hb dX4_mul_5 ?_
  refine lv_sipush (v := nI 255) hx hb dX4_mul_6 (by decide) ?_
  refine lv_idiv hx hb dX4_mul_9 (by decide) ?_
  have hr9 : (((a * b) + (nI 127)) / (nI 255)) = mulv a b := rfl
  exact hQ _ _ _ _ (((a * b) + (nI 127)) / (nI 255)) () _ _ dX4_mul_10 (Nat.le_refl _) (Nat.le_refl _) hr9 (hP.sub [] rfl) hK (hD.sub [] (by decide) rfl) hS

abbrev rm_X4_blend : Room := { frames := 0, cells := 0, slots := 0, locals := 0 }
set_option maxHeartbeats 4000000 in
set_option maxRecDepth 100000 in
theorem c_X4_blend (l : Launch) (D : va_G) (cI cZ cB cJ : ClassId) (sz : Nat) (o : Int32) (v : Int32) (a : Int32) : Met l yX4_blend wsX4_blend rm_X4_blend (va_Pc [.int o, .int v, .int a] (PC D (qT cI cZ cB cJ) [] sz)) (va_Qi (fun (r : Int32) (u : Unit) => r = bldv o v a) (fun (u : Unit) => PO D (qT cI cZ cB cJ) (va_A [] sz) []) (va_A [] sz)) 0 0 (va_A [] sz) := by
  refine q_entI (cc := cX4_blend) (maxL := 3) (by decide +kernel) rfl (Nat.le_of_ble_eq_true rfl) ?_
  intro p e s m below meth c A Q ls hq hl hQ
  obtain ⟨hx, hb, hml, hts, hown, hin, hN, hK, hsz, hA, hP, hD, hS⟩ := hq
  have hown : s.vm.findClass RX4 = some m.cls := hown
  obtain ⟨H, hH⟩ : ∃ H, H = s.heap := ⟨_, rfl⟩
  rw [← hH] at hP ⊢
  have hS : va_S A s.heap H [] := by rw [hH]; exact va_S.rf
  clear hH
  have hl : lv_has ls 3 [(0, .int o), (1, .int v), (2, .int a)] := hl
  refine lv_iload_n hx hb dX4_blend_0 rfl (lv_at hl 0 rfl) ?_
  refine lv_sipush (v := nI 255) hx hb dX4_blend_1 (by decide) ?_
  refine lv_iload_n hx hb dX4_blend_4 rfl (lv_at hl 2 rfl) ?_
  refine lv_isub hx hb dX4_blend_5 ?_
  refine lv_imul hx hb dX4_blend_6 ?_
  refine lv_iload_n hx hb dX4_blend_7 rfl (lv_at hl 1 rfl) ?_
  refine lv_iload_n hx hb dX4_blend_8 rfl (lv_at hl 2 rfl) ?_
  refine lv_imul hx hb dX4_blend_9 ?_
  refine lv_iadd hx hb dX4_blend_10 ?_
  refine lv_bipush (v := nI 127) hx hb dX4_blend_11 (by decide) ?_
  refine lv_iadd hx hb dX4_blend_13 ?_
  refine lv_sipush (v := nI 255) hx hb dX4_blend_14 (by decide) ?_
  refine lv_idiv hx hb dX4_blend_17 (by decide) ?_
  have hr9 : ((((o * ((nI 255) - a)) + (v * a)) + (nI 127)) / (nI 255)) = bldv o v a := rfl
  exact hQ _ _ _ _ ((((o * ((nI 255) - a)) + (v * a)) + (nI 127)) / (nI 255)) () _ _ dX4_blend_18 (Nat.le_refl _) (Nat.le_refl _) hr9 (hP.sub [] rfl) hK (hD.sub [] (by decide) rfl) hS

abbrev rm_X4_addHair : Room := { frames := 2, cells := 0, slots := 0, locals := 45 }
set_option maxHeartbeats 4000000 in
set_option maxRecDepth 100000 in
/-- RasterCover.addHair -/
theorem c_X4_addHair (l : Launch) (D : va_G) (cI cZ cB cJ : ClassId) (sz : Nat) (o0 : Nat) (o1 : Nat) (o2 : Nat) (o3 : Nat) (h0 : Nat) (r0 : Nat) (k0 : Nat) (wd : Nat) (ht : Nat) (pn : Nat) (bf : Nat) (bt : Nat) (fl : Int32) (h1 : Nat) (h2 : Nat) (h3 : Nat) (cn : Nat) (fx : Nat → Int32) (fy : Nat → Int32) (fb : Nat → Int32) (X : Nat → Int) (Y : Nat → Int) (bg : Nat → Int32) (ax : Int) (ay : Int) (bx : Int) (bY : Int) (hR : PathR fx fy fb X Y bg cn) (hc4 : cn + 4 ≤ 100) (hax : -1048576 ≤ ax ∧ ax ≤ 1048576) (hay : -1048576 ≤ ay ∧ ay ≤ 1048576) (hbx : -1048576 ≤ bx ∧ bx ≤ 1048576) (hby : -1048576 ≤ bY ∧ bY ≤ 1048576) : Met l yX4_addHair wsX4_addHair rm_X4_addHair (va_Pc [.ref o0, .int (Int32.ofInt ax), .int (Int32.ofInt ay), .int (Int32.ofInt bx), .int (Int32.ofInt bY)] (PC D (qT cI cZ cB cJ) [(o0, .inr (4, [.int (nI wd), .int (nI ht), .int (nI pn), .ref o1, .ref o2, .ref o3, .ref h0, .ref r0, .ref k0, .int (nI bf), .int (nI bt), .int fl])), (h0, .inr (2, [.ref h1, .ref h2, .ref h3, .int (nI cn)])), (h1, .inl (cI, 100, .inl fx)), (h2, .inl (cI, 100, .inl fy)), (h3, .inl (cZ, 100, .inl fb))] sz)) (va_Qv (fun (u : (Nat → Int32) × (Nat → Int32) × (Nat → Int32)) => PathR u.1 u.2.1 u.2.2 (hairX X cn ax ay bx bY) (hairY Y cn ax ay bx bY) (hrB bg cn) (cn + 1 + 1 + 1 + 1)) (fun (u : (Nat → Int32) × (Nat → Int32) × (Nat → Int32)) => PO D (qT cI cZ cB cJ) (va_A [(o0, .inr (4, [.int (nI wd), .int (nI ht), .int (nI pn), .ref o1, .ref o2, .ref o3, .ref h0, .ref r0, .ref k0, .int (nI bf), .int (nI bt), .int fl])), (h0, .inr (2, [.ref h1, .ref h2, .ref h3, .int (nI cn)])), (h1, .inl (cI, 100, .inl fx)), (h2, .inl (cI, 100, .inl fy)), (h3, .inl (cZ, 100, .inl fb))] sz) [(o0, .inr (4, [.int (nI wd), .int (nI ht), .int (nI pn), .ref o1, .ref o2, .ref o3, .ref h0, .ref r0, .ref k0, .int (nI bf), .int (nI bt), .int fl])), (h0, .inr (2, [.ref h1, .ref h2, .ref h3, .int (nI (cn + 1 + 1 + 1 + 1))])), (h1, .inl (cI, 100, .inl u.1)), (h2, .inl (cI, 100, .inl u.2.1)), (h3, .inl (cZ, 100, .inl u.2.2))]) (va_A [(o0, .inr (4, [.int (nI wd), .int (nI ht), .int (nI pn), .ref o1, .ref o2, .ref o3, .ref h0, .ref r0, .ref k0, .int (nI bf), .int (nI bt), .int fl])), (h0, .inr (2, [.ref h1, .ref h2, .ref h3, .int (nI cn)])), (h1, .inl (cI, 100, .inl fx)), (h2, .inl (cI, 100, .inl fy)), (h3, .inl (cZ, 100, .inl fb))] sz)) 0 0 (va_A [(o0, .inr (4, [.int (nI wd), .int (nI ht), .int (nI pn), .ref o1, .ref o2, .ref o3, .ref h0, .ref r0, .ref k0, .int (nI bf), .int (nI bt), .int fl])), (h0, .inr (2, [.ref h1, .ref h2, .ref h3, .int (nI cn)])), (h1, .inl (cI, 100, .inl fx)), (h2, .inl (cI, 100, .inl fy)), (h3, .inl (cZ, 100, .inl fb))] sz) := by
  refine q_entV (cc := cX4_addHair) (maxL := 8) (by decide +kernel) rfl (Nat.le_of_ble_eq_true rfl) ?_
  intro p e s m below meth c A Q ls hq hl hQ
  obtain ⟨hx, hb, hml, hts, hown, hin, hN, hK, hsz, hA, hP, hD, hS⟩ := hq
  have hown : s.vm.findClass RX4 = some m.cls := hown
  obtain ⟨H, hH⟩ : ∃ H, H = s.heap := ⟨_, rfl⟩
  rw [← hH] at hP ⊢
  have hS : va_S A s.heap H [] := by rw [hH]; exact va_S.rf
  clear hH
  have hl : lv_has ls 8 [(0, .ref o0), (1, .int (Int32.ofInt ax)), (2, .int (Int32.ofInt ay)), (3, .int (Int32.ofInt bx)), (4, .int (Int32.ofInt bY))] := hl
  have iX4 : ∀ w ∈ wsX40, w ∈ wsX4_addHair := by decide +kernel
  have ml_174 := hts (.methodLink RX4 174 Lib.Math.abs.name) (by decide +kernel)
  have sm_abs := hts (.static Lib.Math.abs.name) (by decide +kernel)
  have in_Math := hts (.initialized "java/lang/Math") (by decide +kernel)
  have cm_abs := hts (.code Lib.Math.abs.name Lib.Math.abs.code 1 (some .int)) (by decide +kernel)
  have f_37 := hts (.fieldLink RX4 37 "RasterCover" "path" "LRasterCover$Path;") (by decide +kernel)
  have in_X2 := hts (.initialized RX2) (by decide +kernel)
  have im_79 := hts (.instanceMethod yX2_begin) (by decide +kernel)
  have se_79 := hts (.selects RX2 yX2_begin yX2_begin) (by decide +kernel)
  have im_93 := hts (.instanceMethod yX2_join) (by decide +kernel)
  have se_93 := hts (.selects RX2 yX2_join yX2_join) (by decide +kernel)
  obtain ⟨hax1, hax2⟩ := hax
  obtain ⟨hay1, hay2⟩ := hay
  obtain ⟨hbx1, hbx2⟩ := hbx
  obtain ⟨hby1, hby2⟩ := hby
  have J_80 : (¬ (ax = bx ∧ ay = bY)) → ∀ (H : Heap) (locs : List Loc) (ls : Array Slot), va_P D qCl [(o0, .inr (4, [.int (nI wd), .int (nI ht), .int (nI pn), .ref o1, .ref o2, .ref o3, .ref h0, .ref r0, .ref k0, .int (nI bf), .int (nI bt), .int fl])), (h0, .inr (2, [.ref h1, .ref h2, .ref h3, .int (nI cn)])), (h1, .inl (cI, 100, .inl fx)), (h2, .inl (cI, 100, .inl fy)), (h3, .inl (cZ, 100, .inl fb))] H → va_D A [(o0, .inr (4, [.int (nI wd), .int (nI ht), .int (nI pn), .ref o1, .ref o2, .ref o3, .ref h0, .ref r0, .ref k0, .int (nI bf), .int (nI bt), .int fl])), (h0, .inr (2, [.ref h1, .ref h2, .ref h3, .int (nI cn)])), (h1, .inl (cI, 100, .inl fx)), (h2, .inl (cI, 100, .inl fy)), (h3, .inl (cZ, 100, .inl fb))] → va_S A s.heap H locs → lv_has ls 8 [(0, .ref o0), (1, .int (Int32.ofInt ax)), (2, .int (Int32.ofInt ay)), (3, .int (Int32.ofInt bx)), (4, .int (Int32.ofInt bY))] → W p l e rm_X4_addHair s m ([.ref o0, .int (Int32.ofInt ax), .int (Int32.ofInt ay), .int (Int32.ofInt bx), .int (Int32.ofInt bY)] : List Value).toArray below meth c H locs 0 0 Q (F0 m 80 ls []) := by
    intro  hne H locs ls hP hD hS hl
    refine lv_iload_n hx hb dX4_addHair_80 rfl (lv_at hl 3 rfl) ?_
    refine lv_iload_n hx hb dX4_addHair_81 rfl (lv_at hl 1 rfl) ?_
    refine lv_isub hx hb dX4_addHair_82 ?_
    refine q_eqi (y := Int32.ofInt (bx - ax)) (z_sub _ _) ?_
    refine va_mabs hx hb (hml.trans hl.1.symm) hown ml_174 sm_abs in_Math cm_abs (Nat.le_of_ble_eq_true rfl) (Nat.le_of_ble_eq_true rfl) (Nat.zero_le _) (Nat.zero_le _) dX4_addHair_83 ?_
    refine q_eqi (y := nI ((bx - ax).natAbs)) (abs_n (by omega) (by omega)) ?_
    refine lv_iload hx hb dX4_addHair_86 (lv_at hl 4 rfl) ?_
    refine lv_iload_n hx hb dX4_addHair_88 rfl (lv_at hl 2 rfl) ?_
    refine lv_isub hx hb dX4_addHair_89 ?_
    refine q_eqi (y := Int32.ofInt (bY - ay)) (z_sub _ _) ?_
    refine va_mabs hx hb (hml.trans hl.1.symm) hown ml_174 sm_abs in_Math cm_abs (Nat.le_of_ble_eq_true rfl) (Nat.le_of_ble_eq_true rfl) (Nat.zero_le _) (Nat.zero_le _) dX4_addHair_90 ?_
    refine q_eqi (y := nI ((bY - ay).natAbs)) (abs_n (by omega) (by omega)) ?_
    refine q_lt (tgt := 100) hx hb (by omega) (by omega) dX4_addHair_93 (by decide) (fun h_93 => ?_) (fun h_93 => ?_)
    · refine lv_iconst (v := nI 0) hx hb dX4_addHair_100 (by decide) ?_
      refine lv_istore (lv' := [(5, .int (nI 0)), (0, .ref o0), (1, .int (Int32.ofInt ax)), (2, .int (Int32.ofInt ay)), (3, .int (Int32.ofInt bx)), (4, .int (Int32.ofInt bY))]) hx hb dX4_addHair_101 hl (by decide) rfl (fun ls hl => ?_)
      refine lv_iload hx hb dX4_addHair_103 (lv_at hl 0 rfl) ?_
      refine q_if_eq (tgt := 112) hx hb (by omega) dX4_addHair_105 (by decide) (fun h_105 => ?_) (fun h_105 => by omega)
      refine lv_sipush (v := nI 128) hx hb dX4_addHair_112 (by decide) ?_
      refine lv_istore (lv' := [(6, .int (nI 128)), (5, .int (nI 0)), (0, .ref o0), (1, .int (Int32.ofInt ax)), (2, .int (Int32.ofInt ay)), (3, .int (Int32.ofInt bx)), (4, .int (Int32.ofInt bY))]) hx hb dX4_addHair_115 hl (by decide) rfl (fun ls hl => ?_)
      refine lv_iload hx hb dX4_addHair_117 (lv_at hl 1 rfl) ?_
      refine q_if_eq (tgt := 128) hx hb (by omega) dX4_addHair_119 (by decide) (fun h_119 => ?_) (fun h_119 => by omega)
      refine lv_iconst (v := nI 0) hx hb dX4_addHair_128 (by decide) ?_
      refine lv_istore (lv' := [(7, .int (nI 0)), (6, .int (nI 128)), (5, .int (nI 0)), (0, .ref o0), (1, .int (Int32.ofInt ax)), (2, .int (Int32.ofInt ay)), (3, .int (Int32.ofInt bx)), (4, .int (Int32.ofInt bY))]) hx hb dX4_addHair_129 hl (by decide) rfl (fun ls hl => ?_)
      refine lv_aload_n hx hb dX4_addHair_131 rfl (lv_at hl 3 rfl) ?_
      refine va_get (D := D) (ci := 4) (v := .ref h0) (C := RX4) (T := TX4) (N := 12) hx hb hts iX4 hown hK hP 0 rfl rfl 6 (by decide) f_37 (fun _ h9 => h9) rfl dX4_addHair_132 ?_
      refine lv_iload_n hx hb dX4_addHair_135 rfl (lv_at hl 4 rfl) ?_
      refine lv_iload hx hb dX4_addHair_136 (lv_at hl 1 rfl) ?_
      refine lv_isub hx hb dX4_addHair_138 ?_
      refine q_eqi (y := Int32.ofInt (ax - 128)) (by rw [nI_z]; exact z_sub _ _) ?_
      refine lv_iload_n hx hb dX4_addHair_139 rfl (lv_at hl 5 rfl) ?_
      refine lv_iload hx hb dX4_addHair_140 (lv_at hl 0 rfl) ?_
      refine lv_isub hx hb dX4_addHair_142 ?_
      refine q_eqi (y := Int32.ofInt (ay - 0)) (by rw [nI_z]; exact z_sub _ _) ?_
      refine q_v0 (wr := [(o0, .inr (4, [.int (nI wd), .int (nI ht), .int (nI pn), .ref o1, .ref o2, .ref o3, .ref h0, .ref r0, .ref k0, .int (nI bf), .int (nI bt), .int fl]))]) (va_runVN (As := [.int (Int32.ofInt (ax - 128)), .int (Int32.ofInt (ay - 0))]) (rest := []) ⟨hx, hb, hml, hown, hts⟩ (c_X2_begin l D cI cZ cB cJ H.size h0 h1 h2 h3 cn fx fy fb (Int32.ofInt (ax - 128)) (Int32.ofInt (ay - 0)) (by omega)) ⟨va_cnB 2 hts gX4_addHair_X2_begin_n79 rfl rfl rfl (NW.w hN 15 rfl) in_X2 (by decide +kernel) ⟨Nat.le_of_ble_eq_true rfl, Nat.le_of_ble_eq_true rfl⟩, im_79, se_79⟩ (q_preV (q_pre (wc := [(h0, .inr (2, [.ref h1, .ref h2, .ref h3, .int (nI cn)])), (h1, .inl (cI, 100, .inl fx)), (h2, .inl (cI, 100, .inl fy)), (h3, .inl (cZ, 100, .inl fb))]) hP hD hK hN [1, 2, 3, 4] (by decide) rfl) (va_recv hK hP (ci := 2) (q0 := 1) rfl rfl)) rfl rfl hl.1 rfl (lv_room (Nat.le_of_ble_eq_true rfl)) dX4_addHair_143 ⟨Nat.zero_le _, Nat.zero_le _⟩) hS hA hP hD [1, 2, 3, 4] [0] rfl rfl (by decide) (by decide) (fun u H locs hp_143 hP hD hS => ?_)
      have hP : va_P D qCl [(o0, .inr (4, [.int (nI wd), .int (nI ht), .int (nI pn), .ref o1, .ref o2, .ref o3, .ref h0, .ref r0, .ref k0, .int (nI bf), .int (nI bt), .int fl])), (h0, .inr (2, [.ref h1, .ref h2, .ref h3, .int (nI (cn + 1))])), (h1, .inl (cI, 100, .inl (upd fx cn (Int32.ofInt (ax - 128))))), (h2, .inl (cI, 100, .inl (upd fy cn (Int32.ofInt (ay - 0))))), (h3, .inl (cZ, 100, .inl (upd fb cn 1)))] H := hP
      have hD : va_D A [(o0, .inr (4, [.int (nI wd), .int (nI ht), .int (nI pn), .ref o1, .ref o2, .ref o3, .ref h0, .ref r0, .ref k0, .int (nI bf), .int (nI bt), .int fl])), (h0, .inr (2, [.ref h1, .ref h2, .ref h3, .int (nI (cn + 1))])), (h1, .inl (cI, 100, .inl (upd fx cn (Int32.ofInt (ax - 128))))), (h2, .inl (cI, 100, .inl (upd fy cn (Int32.ofInt (ay - 0))))), (h3, .inl (cZ, 100, .inl (upd fb cn 1)))] := hD
      refine lv_aload_n hx hb dX4_addHair_146 rfl (lv_at hl 3 rfl) ?_
      refine va_get (D := D) (ci := 4) (v := .ref h0) (C := RX4) (T := TX4) (N := 12) hx hb hts iX4 hown hK hP 0 rfl rfl 6 (by decide) f_37 (fun _ h9 => h9) rfl dX4_addHair_147 ?_
      refine lv_iload_n hx hb dX4_addHair_150 rfl (lv_at hl 6 rfl) ?_
      refine lv_iload hx hb dX4_addHair_151 (lv_at hl 1 rfl) ?_
      refine lv_isub hx hb dX4_addHair_153 ?_
      refine q_eqi (y := Int32.ofInt (bx - 128)) (by rw [nI_z]; exact z_sub _ _) ?_
      refine lv_iload hx hb dX4_addHair_154 (lv_at hl 7 rfl) ?_
      refine lv_iload hx hb dX4_addHair_156 (lv_at hl 0 rfl) ?_
      refine lv_isub hx hb dX4_addHair_158 ?_
      refine q_eqi (y := Int32.ofInt (bY - 0)) (by rw [nI_z]; exact z_sub _ _) ?_
      refine q_v0 (wr := [(o0, .inr (4, [.int (nI wd), .int (nI ht), .int (nI pn), .ref o1, .ref o2, .ref o3, .ref h0, .ref r0, .ref k0, .int (nI bf), .int (nI bt), .int fl]))]) (va_runVN (As := [.int (Int32.ofInt (bx - 128)), .int (Int32.ofInt (bY - 0))]) (rest := []) ⟨hx, hb, hml, hown, hts⟩ (c_X2_join l D cI cZ cB cJ H.size h0 h1 h2 h3 (cn + 1) (upd fx cn (Int32.ofInt (ax - 128))) (upd fy cn (Int32.ofInt (ay - 0))) (upd fb cn 1) (Int32.ofInt (bx - 128)) (Int32.ofInt (bY - 0)) (by omega)) ⟨va_cnB 2 hts gX4_addHair_X2_join_n93 rfl rfl rfl (NW.w hN 16 rfl) in_X2 (by decide +kernel) ⟨Nat.le_of_ble_eq_true rfl, Nat.le_of_ble_eq_true rfl⟩, im_93, se_93⟩ (q_preV (q_pre (wc := [(h0, .inr (2, [.ref h1, .ref h2, .ref h3, .int (nI (cn + 1))])), (h1, .inl (cI, 100, .inl (upd fx cn (Int32.ofInt (ax - 128))))), (h2, .inl (cI, 100, .inl (upd fy cn (Int32.ofInt (ay - 0))))), (h3, .inl (cZ, 100, .inl (upd fb cn 1)))]) hP hD hK hN [1, 2, 3, 4] (by decide) rfl) (va_recv hK hP (ci := 2) (q0 := 1) rfl rfl)) rfl rfl hl.1 rfl (lv_room (Nat.le_of_ble_eq_true rfl)) dX4_addHair_159 ⟨Nat.zero_le _, Nat.zero_le _⟩) hS hA hP hD [1, 2, 3, 4] [0] rfl rfl (by decide) (by decide) (fun u H locs hp_159 hP hD hS => ?_)
      have hP : va_P D qCl [(o0, .inr (4, [.int (nI wd), .int (nI ht), .int (nI pn), .ref o1, .ref o2, .ref o3, .ref h0, .ref r0, .ref k0, .int (nI bf), .int (nI bt), .int fl])), (h0, .inr (2, [.ref h1, .ref h2, .ref h3, .int (nI ((cn + 1) + 1))])), (h1, .inl (cI, 100, .inl (upd (upd fx cn (Int32.ofInt (ax - 128))) (cn + 1) (Int32.ofInt (bx - 128))))), (h2, .inl (cI, 100, .inl (upd (upd fy cn (Int32.ofInt (ay - 0))) (cn + 1) (Int32.ofInt (bY - 0))))), (h3, .inl (cZ, 100, .inl (upd (upd fb cn 1) (cn + 1) 0)))] H := hP
      have hD : va_D A [(o0, .inr (4, [.int (nI wd), .int (nI ht), .int (nI pn), .ref o1, .ref o2, .ref o3, .ref h0, .ref r0, .ref k0, .int (nI bf), .int (nI bt), .int fl])), (h0, .inr (2, [.ref h1, .ref h2, .ref h3, .int (nI ((cn + 1) + 1))])), (h1, .inl (cI, 100, .inl (upd (upd fx cn (Int32.ofInt (ax - 128))) (cn + 1) (Int32.ofInt (bx - 128))))), (h2, .inl (cI, 100, .inl (upd (upd fy cn (Int32.ofInt (ay - 0))) (cn + 1) (Int32.ofInt (bY - 0))))), (h3, .inl (cZ, 100, .inl (upd (upd fb cn 1) (cn + 1) 0)))] := hD
      refine lv_aload_n hx hb dX4_addHair_162 rfl (lv_at hl 3 rfl) ?_
      refine va_get (D := D) (ci := 4) (v := .ref h0) (C := RX4) (T := TX4) (N := 12) hx hb hts iX4 hown hK hP 0 rfl rfl 6 (by decide) f_37 (fun _ h9 => h9) rfl dX4_addHair_163 ?_
      refine lv_iload_n hx hb dX4_addHair_166 rfl (lv_at hl 6 rfl) ?_
      refine lv_iload hx hb dX4_addHair_167 (lv_at hl 1 rfl) ?_
      refine lv_iadd hx hb dX4_addHair_169 ?_
      refine q_eqi (y := Int32.ofInt (bx + 128)) (by rw [nI_z]; exact z_add _ _) ?_
      refine lv_iload hx hb dX4_addHair_170 (lv_at hl 7 rfl) ?_
      refine lv_iload hx hb dX4_addHair_172 (lv_at hl 0 rfl) ?_
      refine lv_iadd hx hb dX4_addHair_174 ?_
      refine q_eqi (y := Int32.ofInt (bY + 0)) (by rw [nI_z]; exact z_add _ _) ?_
      refine q_v0 (wr := [(o0, .inr (4, [.int (nI wd), .int (nI ht), .int (nI pn), .ref o1, .ref o2, .ref o3, .ref h0, .ref r0, .ref k0, .int (nI bf), .int (nI bt), .int fl]))]) (va_runVN (As := [.int (Int32.ofInt (bx + 128)), .int (Int32.ofInt (bY + 0))]) (rest := []) ⟨hx, hb, hml, hown, hts⟩ (c_X2_join l D cI cZ cB cJ H.size h0 h1 h2 h3 ((cn + 1) + 1) (upd (upd fx cn (Int32.ofInt (ax - 128))) (cn + 1) (Int32.ofInt (bx - 128))) (upd (upd fy cn (Int32.ofInt (ay - 0))) (cn + 1) (Int32.ofInt (bY - 0))) (upd (upd fb cn 1) (cn + 1) 0) (Int32.ofInt (bx + 128)) (Int32.ofInt (bY + 0)) (by omega)) ⟨va_cnB 2 hts gX4_addHair_X2_join_n93 rfl rfl rfl (NW.w hN 16 rfl) in_X2 (by decide +kernel) ⟨Nat.le_of_ble_eq_true rfl, Nat.le_of_ble_eq_true rfl⟩, im_93, se_93⟩ (q_preV (q_pre (wc := [(h0, .inr (2, [.ref h1, .ref h2, .ref h3, .int (nI ((cn + 1) + 1))])), (h1, .inl (cI, 100, .inl (upd (upd fx cn (Int32.ofInt (ax - 128))) (cn + 1) (Int32.ofInt (bx - 128))))), (h2, .inl (cI, 100, .inl (upd (upd fy cn (Int32.ofInt (ay - 0))) (cn + 1) (Int32.ofInt (bY - 0))))), (h3, .inl (cZ, 100, .inl (upd (upd fb cn 1) (cn + 1) 0)))]) hP hD hK hN [1, 2, 3, 4] (by decide) rfl) (va_recv hK hP (ci := 2) (q0 := 1) rfl rfl)) rfl rfl hl.1 rfl (lv_room (Nat.le_of_ble_eq_true rfl)) dX4_addHair_175 ⟨Nat.zero_le _, Nat.zero_le _⟩) hS hA hP hD [1, 2, 3, 4] [0] rfl rfl (by decide) (by decide) (fun u H locs hp_175 hP hD hS => ?_)
      have hP : va_P D qCl [(o0, .inr (4, [.int (nI wd), .int (nI ht), .int (nI pn), .ref o1, .ref o2, .ref o3, .ref h0, .ref r0, .ref k0, .int (nI bf), .int (nI bt), .int fl])), (h0, .inr (2, [.ref h1, .ref h2, .ref h3, .int (nI (((cn + 1) + 1) + 1))])), (h1, .inl (cI, 100, .inl (upd (upd (upd fx cn (Int32.ofInt (ax - 128))) (cn + 1) (Int32.ofInt (bx - 128))) ((cn + 1) + 1) (Int32.ofInt (bx + 128))))), (h2, .inl (cI, 100, .inl (upd (upd (upd fy cn (Int32.ofInt (ay - 0))) (cn + 1) (Int32.ofInt (bY - 0))) ((cn + 1) + 1) (Int32.ofInt (bY + 0))))), (h3, .inl (cZ, 100, .inl (upd (upd (upd fb cn 1) (cn + 1) 0) ((cn + 1) + 1) 0)))] H := hP
      have hD : va_D A [(o0, .inr (4, [.int (nI wd), .int (nI ht), .int (nI pn), .ref o1, .ref o2, .ref o3, .ref h0, .ref r0, .ref k0, .int (nI bf), .int (nI bt), .int fl])), (h0, .inr (2, [.ref h1, .ref h2, .ref h3, .int (nI (((cn + 1) + 1) + 1))])), (h1, .inl (cI, 100, .inl (upd (upd (upd fx cn (Int32.ofInt (ax - 128))) (cn + 1) (Int32.ofInt (bx - 128))) ((cn + 1) + 1) (Int32.ofInt (bx + 128))))), (h2, .inl (cI, 100, .inl (upd (upd (upd fy cn (Int32.ofInt (ay - 0))) (cn + 1) (Int32.ofInt (bY - 0))) ((cn + 1) + 1) (Int32.ofInt (bY + 0))))), (h3, .inl (cZ, 100, .inl (upd (upd (upd fb cn 1) (cn + 1) 0) ((cn + 1) + 1) 0)))] := hD
      refine lv_aload_n hx hb dX4_addHair_178 rfl (lv_at hl 3 rfl) ?_
      refine va_get (D := D) (ci := 4) (v := .ref h0) (C := RX4) (T := TX4) (N := 12) hx hb hts iX4 hown hK hP 0 rfl rfl 6 (by decide) f_37 (fun _ h9 => h9) rfl dX4_addHair_179 ?_
      refine lv_iload_n hx hb dX4_addHair_182 rfl (lv_at hl 4 rfl) ?_
      refine lv_iload hx hb dX4_addHair_183 (lv_at hl 1 rfl) ?_
      refine lv_iadd hx hb dX4_addHair_185 ?_
      refine q_eqi (y := Int32.ofInt (ax + 128)) (by rw [nI_z]; exact z_add _ _) ?_
      refine lv_iload_n hx hb dX4_addHair_186 rfl (lv_at hl 5 rfl) ?_
      refine lv_iload hx hb dX4_addHair_187 (lv_at hl 0 rfl) ?_
      refine lv_iadd hx hb dX4_addHair_189 ?_
      refine q_eqi (y := Int32.ofInt (ay + 0)) (by rw [nI_z]; exact z_add _ _) ?_
      refine q_v0 (wr := [(o0, .inr (4, [.int (nI wd), .int (nI ht), .int (nI pn), .ref o1, .ref o2, .ref o3, .ref h0, .ref r0, .ref k0, .int (nI bf), .int (nI bt), .int fl]))]) (va_runVN (As := [.int (Int32.ofInt (ax + 128)), .int (Int32.ofInt (ay + 0))]) (rest := []) ⟨hx, hb, hml, hown, hts⟩ (c_X2_join l D cI cZ cB cJ H.size h0 h1 h2 h3 (((cn + 1) + 1) + 1) (upd (upd (upd fx cn (Int32.ofInt (ax - 128))) (cn + 1) (Int32.ofInt (bx - 128))) ((cn + 1) + 1) (Int32.ofInt (bx + 128))) (upd (upd (upd fy cn (Int32.ofInt (ay - 0))) (cn + 1) (Int32.ofInt (bY - 0))) ((cn + 1) + 1) (Int32.ofInt (bY + 0))) (upd (upd (upd fb cn 1) (cn + 1) 0) ((cn + 1) + 1) 0) (Int32.ofInt (ax + 128)) (Int32.ofInt (ay + 0)) (by omega)) ⟨va_cnB 2 hts gX4_addHair_X2_join_n93 rfl rfl rfl (NW.w hN 16 rfl) in_X2 (by decide +kernel) ⟨Nat.le_of_ble_eq_true rfl, Nat.le_of_ble_eq_true rfl⟩, im_93, se_93⟩ (q_preV (q_pre (wc := [(h0, .inr (2, [.ref h1, .ref h2, .ref h3, .int (nI (((cn + 1) + 1) + 1))])), (h1, .inl (cI, 100, .inl (upd (upd (upd fx cn (Int32.ofInt (ax - 128))) (cn + 1) (Int32.ofInt (bx - 128))) ((cn + 1) + 1) (Int32.ofInt (bx + 128))))), (h2, .inl (cI, 100, .inl (upd (upd (upd fy cn (Int32.ofInt (ay - 0))) (cn + 1) (Int32.ofInt (bY - 0))) ((cn + 1) + 1) (Int32.ofInt (bY + 0))))), (h3, .inl (cZ, 100, .inl (upd (upd (upd fb cn 1) (cn + 1) 0) ((cn + 1) + 1) 0)))]) hP hD hK hN [1, 2, 3, 4] (by decide) rfl) (va_recv hK hP (ci := 2) (q0 := 1) rfl rfl)) rfl rfl hl.1 rfl (lv_room (Nat.le_of_ble_eq_true rfl)) dX4_addHair_190 ⟨Nat.zero_le _, Nat.zero_le _⟩) hS hA hP hD [1, 2, 3, 4] [0] rfl rfl (by decide) (by decide) (fun u H locs hp_190 hP hD hS => ?_)
      have hP : va_P D qCl [(o0, .inr (4, [.int (nI wd), .int (nI ht), .int (nI pn), .ref o1, .ref o2, .ref o3, .ref h0, .ref r0, .ref k0, .int (nI bf), .int (nI bt), .int fl])), (h0, .inr (2, [.ref h1, .ref h2, .ref h3, .int (nI ((((cn + 1) + 1) + 1) + 1))])), (h1, .inl (cI, 100, .inl (upd (upd (upd (upd fx cn (Int32.ofInt (ax - 128))) (cn + 1) (Int32.ofInt (bx - 128))) ((cn + 1) + 1) (Int32.ofInt (bx + 128))) (((cn + 1) + 1) + 1) (Int32.ofInt (ax + 128))))), (h2, .inl (cI, 100, .inl (upd (upd (upd (upd fy cn (Int32.ofInt (ay - 0))) (cn + 1) (Int32.ofInt (bY - 0))) ((cn + 1) + 1) (Int32.ofInt (bY + 0))) (((cn + 1) + 1) + 1) (Int32.ofInt (ay + 0))))), (h3, .inl (cZ, 100, .inl (upd (upd (upd (upd fb cn 1) (cn + 1) 0) ((cn + 1) + 1) 0) (((cn + 1) + 1) + 1) 0)))] H := hP
      have hD : va_D A [(o0, .inr (4, [.int (nI wd), .int (nI ht), .int (nI pn), .ref o1, .ref o2, .ref o3, .ref h0, .ref r0, .ref k0, .int (nI bf), .int (nI bt), .int fl])), (h0, .inr (2, [.ref h1, .ref h2, .ref h3, .int (nI ((((cn + 1) + 1) + 1) + 1))])), (h1, .inl (cI, 100, .inl (upd (upd (upd (upd fx cn (Int32.ofInt (ax - 128))) (cn + 1) (Int32.ofInt (bx - 128))) ((cn + 1) + 1) (Int32.ofInt (bx + 128))) (((cn + 1) + 1) + 1) (Int32.ofInt (ax + 128))))), (h2, .inl (cI, 100, .inl (upd (upd (upd (upd fy cn (Int32.ofInt (ay - 0))) (cn + 1) (Int32.ofInt (bY - 0))) ((cn + 1) + 1) (Int32.ofInt (bY + 0))) (((cn + 1) + 1) + 1) (Int32.ofInt (ay + 0))))), (h3, .inl (cZ, 100, .inl (upd (upd (upd (upd fb cn 1) (cn + 1) 0) ((cn + 1) + 1) 0) (((cn + 1) + 1) + 1) 0)))] := hD
      have hr9 : PathR (upd (upd (upd (upd fx cn (Int32.ofInt (ax - 128))) (cn + 1) (Int32.ofInt (bx - 128))) ((cn + 1) + 1) (Int32.ofInt (bx + 128))) (((cn + 1) + 1) + 1) (Int32.ofInt (ax + 128))) (upd (upd (upd (upd fy cn (Int32.ofInt (ay - 0))) (cn + 1) (Int32.ofInt (bY - 0))) ((cn + 1) + 1) (Int32.ofInt (bY + 0))) (((cn + 1) + 1) + 1) (Int32.ofInt (ay + 0))) (upd (upd (upd (upd fb cn 1) (cn + 1) 0) ((cn + 1) + 1) 0) (((cn + 1) + 1) + 1) 0) (hairX X cn ax ay bx bY) (hairY Y cn ax ay bx bY) (hrB bg cn) (cn + 1 + 1 + 1 + 1) := (by rw [(hair_steep hne (by omega) X Y cn).1, (hair_steep hne (by omega) X Y cn).2]; exact PathR_add4 hR hc4 (by constructor <;> omega) (by constructor <;> omega) (by constructor <;> omega) (by constructor <;> omega) (by constructor <;> omega) (by constructor <;> omega) (by constructor <;> omega) (by constructor <;> omega))
      exact hQ _ _ _ _ (upd (upd (upd (upd fx cn (Int32.ofInt (ax - 128))) (cn + 1) (Int32.ofInt (bx - 128))) ((cn + 1) + 1) (Int32.ofInt (bx + 128))) (((cn + 1) + 1) + 1) (Int32.ofInt (ax + 128)), upd (upd (upd (upd fy cn (Int32.ofInt (ay - 0))) (cn + 1) (Int32.ofInt (bY - 0))) ((cn + 1) + 1) (Int32.ofInt (bY + 0))) (((cn + 1) + 1) + 1) (Int32.ofInt (ay + 0)), upd (upd (upd (upd fb cn 1) (cn + 1) 0) ((cn + 1) + 1) 0) (((cn + 1) + 1) + 1) 0) _ _ dX4_addHair_193 (Nat.le_refl _) (Nat.le_refl _) hr9 (hP.sub [0, 1, 2, 3, 4] rfl) hK (hD.sub [0, 1, 2, 3, 4] (by decide) rfl) hS
    refine lv_iconst (v := nI 1) hx hb dX4_addHair_96 (by decide) ?_
    refine lv_goto (tgt := 101) hx hb dX4_addHair_97 (by decide) ?_
    refine lv_istore (lv' := [(5, .int (nI 1)), (0, .ref o0), (1, .int (Int32.ofInt ax)), (2, .int (Int32.ofInt ay)), (3, .int (Int32.ofInt bx)), (4, .int (Int32.ofInt bY))]) hx hb dX4_addHair_101 hl (by decide) rfl (fun ls hl => ?_)
    refine lv_iload hx hb dX4_addHair_103 (lv_at hl 0 rfl) ?_
    refine q_if_eq (tgt := 112) hx hb (by omega) dX4_addHair_105 (by decide) (fun h_105 => by omega) (fun h_105 => ?_)
    refine lv_iconst (v := nI 0) hx hb dX4_addHair_108 (by decide) ?_
    refine lv_goto (tgt := 115) hx hb dX4_addHair_109 (by decide) ?_
    refine lv_istore (lv' := [(6, .int (nI 0)), (5, .int (nI 1)), (0, .ref o0), (1, .int (Int32.ofInt ax)), (2, .int (Int32.ofInt ay)), (3, .int (Int32.ofInt bx)), (4, .int (Int32.ofInt bY))]) hx hb dX4_addHair_115 hl (by decide) rfl (fun ls hl => ?_)
    refine lv_iload hx hb dX4_addHair_117 (lv_at hl 1 rfl) ?_
    refine q_if_eq (tgt := 128) hx hb (by omega) dX4_addHair_119 (by decide) (fun h_119 => by omega) (fun h_119 => ?_)
    refine lv_sipush (v := nI 128) hx hb dX4_addHair_122 (by decide) ?_
    refine lv_goto (tgt := 129) hx hb dX4_addHair_125 (by decide) ?_
    refine lv_istore (lv' := [(7, .int (nI 128)), (6, .int (nI 0)), (5, .int (nI 1)), (0, .ref o0), (1, .int (Int32.ofInt ax)), (2, .int (Int32.ofInt ay)), (3, .int (Int32.ofInt bx)), (4, .int (Int32.ofInt bY))]) hx hb dX4_addHair_129 hl (by decide) rfl (fun ls hl => ?_)
    refine lv_aload_n hx hb dX4_addHair_131 rfl (lv_at hl 3 rfl) ?_
    refine va_get (D := D) (ci := 4) (v := .ref h0) (C := RX4) (T := TX4) (N := 12) hx hb hts iX4 hown hK hP 0 rfl rfl 6 (by decide) f_37 (fun _ h9 => h9) rfl dX4_addHair_132 ?_
    refine lv_iload_n hx hb dX4_addHair_135 rfl (lv_at hl 4 rfl) ?_
    refine lv_iload hx hb dX4_addHair_136 (lv_at hl 1 rfl) ?_
    refine lv_isub hx hb dX4_addHair_138 ?_
    refine q_eqi (y := Int32.ofInt (ax - 0)) (by rw [nI_z]; exact z_sub _ _) ?_
    refine lv_iload_n hx hb dX4_addHair_139 rfl (lv_at hl 5 rfl) ?_
    refine lv_iload hx hb dX4_addHair_140 (lv_at hl 0 rfl) ?_
    refine lv_isub hx hb dX4_addHair_142 ?_
    refine q_eqi (y := Int32.ofInt (ay - 128)) (by rw [nI_z]; exact z_sub _ _) ?_
    refine q_v0 (wr := [(o0, .inr (4, [.int (nI wd), .int (nI ht), .int (nI pn), .ref o1, .ref o2, .ref o3, .ref h0, .ref r0, .ref k0, .int (nI bf), .int (nI bt), .int fl]))]) (va_runVN (As := [.int (Int32.ofInt (ax - 0)), .int (Int32.ofInt (ay - 128))]) (rest := []) ⟨hx, hb, hml, hown, hts⟩ (c_X2_begin l D cI cZ cB cJ H.size h0 h1 h2 h3 cn fx fy fb (Int32.ofInt (ax - 0)) (Int32.ofInt (ay - 128)) (by omega)) ⟨va_cnB 2 hts gX4_addHair_X2_begin_n79 rfl rfl rfl (NW.w hN 15 rfl) in_X2 (by decide +kernel) ⟨Nat.le_of_ble_eq_true rfl, Nat.le_of_ble_eq_true rfl⟩, im_79, se_79⟩ (q_preV (q_pre (wc := [(h0, .inr (2, [.ref h1, .ref h2, .ref h3, .int (nI cn)])), (h1, .inl (cI, 100, .inl fx)), (h2, .inl (cI, 100, .inl fy)), (h3, .inl (cZ, 100, .inl fb))]) hP hD hK hN [1, 2, 3, 4] (by decide) rfl) (va_recv hK hP (ci := 2) (q0 := 1) rfl rfl)) rfl rfl hl.1 rfl (lv_room (Nat.le_of_ble_eq_true rfl)) dX4_addHair_143 ⟨Nat.zero_le _, Nat.zero_le _⟩) hS hA hP hD [1, 2, 3, 4] [0] rfl rfl (by decide) (by decide) (fun u H locs hp_143 hP hD hS => ?_)
    have hP : va_P D qCl [(o0, .inr (4, [.int (nI wd), .int (nI ht), .int (nI pn), .ref o1, .ref o2, .ref o3, .ref h0, .ref r0, .ref k0, .int (nI bf), .int (nI bt), .int fl])), (h0, .inr (2, [.ref h1, .ref h2, .ref h3, .int (nI (cn + 1))])), (h1, .inl (cI, 100, .inl (upd fx cn (Int32.ofInt (ax - 0))))), (h2, .inl (cI, 100, .inl (upd fy cn (Int32.ofInt (ay - 128))))), (h3, .inl (cZ, 100, .inl (upd fb cn 1)))] H := hP
    have hD : va_D A [(o0, .inr (4, [.int (nI wd), .int (nI ht), .int (nI pn), .ref o1, .ref o2, .ref o3, .ref h0, .ref r0, .ref k0, .int (nI bf), .int (nI bt), .int fl])), (h0, .inr (2, [.ref h1, .ref h2, .ref h3, .int (nI (cn + 1))])), (h1, .inl (cI, 100, .inl (upd fx cn (Int32.ofInt (ax - 0))))), (h2, .inl (cI, 100, .inl (upd fy cn (Int32.ofInt (ay - 128))))), (h3, .inl (cZ, 100, .inl (upd fb cn 1)))] := hD
    refine lv_aload_n hx hb dX4_addHair_146 rfl (lv_at hl 3 rfl) ?_
    refine va_get (D := D) (ci := 4) (v := .ref h0) (C := RX4) (T := TX4) (N := 12) hx hb hts iX4 hown hK hP 0 rfl rfl 6 (by decide) f_37 (fun _ h9 => h9) rfl dX4_addHair_147 ?_
    refine lv_iload_n hx hb dX4_addHair_150 rfl (lv_at hl 6 rfl) ?_
    refine lv_iload hx hb dX4_addHair_151 (lv_at hl 1 rfl) ?_
    refine lv_isub hx hb dX4_addHair_153 ?_
    refine q_eqi (y := Int32.ofInt (bx - 0)) (by rw [nI_z]; exact z_sub _ _) ?_
    refine lv_iload hx hb dX4_addHair_154 (lv_at hl 7 rfl) ?_
    refine lv_iload hx hb dX4_addHair_156 (lv_at hl 0 rfl) ?_
    refine lv_isub hx hb dX4_addHair_158 ?_
    refine q_eqi (y := Int32.ofInt (bY - 128)) (by rw [nI_z]; exact z_sub _ _) ?_
    refine q_v0 (wr := [(o0, .inr (4, [.int (nI wd), .int (nI ht), .int (nI pn), .ref o1, .ref o2, .ref o3, .ref h0, .ref r0, .ref k0, .int (nI bf), .int (nI bt), .int fl]))]) (va_runVN (As := [.int (Int32.ofInt (bx - 0)), .int (Int32.ofInt (bY - 128))]) (rest := []) ⟨hx, hb, hml, hown, hts⟩ (c_X2_join l D cI cZ cB cJ H.size h0 h1 h2 h3 (cn + 1) (upd fx cn (Int32.ofInt (ax - 0))) (upd fy cn (Int32.ofInt (ay - 128))) (upd fb cn 1) (Int32.ofInt (bx - 0)) (Int32.ofInt (bY - 128)) (by omega)) ⟨va_cnB 2 hts gX4_addHair_X2_join_n93 rfl rfl rfl (NW.w hN 16 rfl) in_X2 (by decide +kernel) ⟨Nat.le_of_ble_eq_true rfl, Nat.le_of_ble_eq_true rfl⟩, im_93, se_93⟩ (q_preV (q_pre (wc := [(h0, .inr (2, [.ref h1, .ref h2, .ref h3, .int (nI (cn + 1))])), (h1, .inl (cI, 100, .inl (upd fx cn (Int32.ofInt (ax - 0))))), (h2, .inl (cI, 100, .inl (upd fy cn (Int32.ofInt (ay - 128))))), (h3, .inl (cZ, 100, .inl (upd fb cn 1)))]) hP hD hK hN [1, 2, 3, 4] (by decide) rfl) (va_recv hK hP (ci := 2) (q0 := 1) rfl rfl)) rfl rfl hl.1 rfl (lv_room (Nat.le_of_ble_eq_true rfl)) dX4_addHair_159 ⟨Nat.zero_le _, Nat.zero_le _⟩) hS hA hP hD [1, 2, 3, 4] [0] rfl rfl (by decide) (by decide) (fun u H locs hp_159 hP hD hS => ?_)
    have hP : va_P D qCl [(o0, .inr (4, [.int (nI wd), .int (nI ht), .int (nI pn), .ref o1, .ref o2, .ref o3, .ref h0, .ref r0, .ref k0, .int (nI bf), .int (nI bt), .int fl])), (h0, .inr (2, [.ref h1, .ref h2, .ref h3, .int (nI ((cn + 1) + 1))])), (h1, .inl (cI, 100, .inl (upd (upd fx cn (Int32.ofInt (ax - 0))) (cn + 1) (Int32.ofInt (bx - 0))))), (h2, .inl (cI, 100, .inl (upd (upd fy cn (Int32.ofInt (ay - 128))) (cn + 1) (Int32.ofInt (bY - 128))))), (h3, .inl (cZ, 100, .inl (upd (upd fb cn 1) (cn + 1) 0)))] H := hP
    have hD : va_D A [(o0, .inr (4, [.int (nI wd), .int (nI ht), .int (nI pn), .ref o1, .ref o2, .ref o3, .ref h0, .ref r0, .ref k0, .int (nI bf), .int (nI bt), .int fl])), (h0, .inr (2, [.ref h1, .ref h2, .ref h3, .int (nI ((cn + 1) + 1))])), (h1, .inl (cI, 100, .inl (upd (upd fx cn (Int32.ofInt (ax - 0))) (cn + 1) (Int32.ofInt (bx - 0))))), (h2, .inl (cI, 100, .inl (upd (upd fy cn (Int32.ofInt (ay - 128))) (cn + 1) (Int32.ofInt (bY - 128))))), (h3, .inl (cZ, 100, .inl (upd (upd fb cn 1) (cn + 1) 0)))] := hD
    refine lv_aload_n hx hb dX4_addHair_162 rfl (lv_at hl 3 rfl) ?_
    refine va_get (D := D) (ci := 4) (v := .ref h0) (C := RX4) (T := TX4) (N := 12) hx hb hts iX4 hown hK hP 0 rfl rfl 6 (by decide) f_37 (fun _ h9 => h9) rfl dX4_addHair_163 ?_
    refine lv_iload_n hx hb dX4_addHair_166 rfl (lv_at hl 6 rfl) ?_
    refine lv_iload hx hb dX4_addHair_167 (lv_at hl 1 rfl) ?_
    refine lv_iadd hx hb dX4_addHair_169 ?_
    refine q_eqi (y := Int32.ofInt (bx + 0)) (by rw [nI_z]; exact z_add _ _) ?_
    refine lv_iload hx hb dX4_addHair_170 (lv_at hl 7 rfl) ?_
    refine lv_iload hx hb dX4_addHair_172 (lv_at hl 0 rfl) ?_
    refine lv_iadd hx hb dX4_addHair_174 ?_
    refine q_eqi (y := Int32.ofInt (bY + 128)) (by rw [nI_z]; exact z_add _ _) ?_
    refine q_v0 (wr := [(o0, .inr (4, [.int (nI wd), .int (nI ht), .int (nI pn), .ref o1, .ref o2, .ref o3, .ref h0, .ref r0, .ref k0, .int (nI bf), .int (nI bt), .int fl]))]) (va_runVN (As := [.int (Int32.ofInt (bx + 0)), .int (Int32.ofInt (bY + 128))]) (rest := []) ⟨hx, hb, hml, hown, hts⟩ (c_X2_join l D cI cZ cB cJ H.size h0 h1 h2 h3 ((cn + 1) + 1) (upd (upd fx cn (Int32.ofInt (ax - 0))) (cn + 1) (Int32.ofInt (bx - 0))) (upd (upd fy cn (Int32.ofInt (ay - 128))) (cn + 1) (Int32.ofInt (bY - 128))) (upd (upd fb cn 1) (cn + 1) 0) (Int32.ofInt (bx + 0)) (Int32.ofInt (bY + 128)) (by omega)) ⟨va_cnB 2 hts gX4_addHair_X2_join_n93 rfl rfl rfl (NW.w hN 16 rfl) in_X2 (by decide +kernel) ⟨Nat.le_of_ble_eq_true rfl, Nat.le_of_ble_eq_true rfl⟩, im_93, se_93⟩ (q_preV (q_pre (wc := [(h0, .inr (2, [.ref h1, .ref h2, .ref h3, .int (nI ((cn + 1) + 1))])), (h1, .inl (cI, 100, .inl (upd (upd fx cn (Int32.ofInt (ax - 0))) (cn + 1) (Int32.ofInt (bx - 0))))), (h2, .inl (cI, 100, .inl (upd (upd fy cn (Int32.ofInt (ay - 128))) (cn + 1) (Int32.ofInt (bY - 128))))), (h3, .inl (cZ, 100, .inl (upd (upd fb cn 1) (cn + 1) 0)))]) hP hD hK hN [1, 2, 3, 4] (by decide) rfl) (va_recv hK hP (ci := 2) (q0 := 1) rfl rfl)) rfl rfl hl.1 rfl (lv_room (Nat.le_of_ble_eq_true rfl)) dX4_addHair_175 ⟨Nat.zero_le _, Nat.zero_le _⟩) hS hA hP hD [1, 2, 3, 4] [0] rfl rfl (by decide) (by decide) (fun u H locs hp_175 hP hD hS => ?_)
    have hP : va_P D qCl [(o0, .inr (4, [.int (nI wd), .int (nI ht), .int (nI pn), .ref o1, .ref o2, .ref o3, .ref h0, .ref r0, .ref k0, .int (nI bf), .int (nI bt), .int fl])), (h0, .inr (2, [.ref h1, .ref h2, .ref h3, .int (nI (((cn + 1) + 1) + 1))])), (h1, .inl (cI, 100, .inl (upd (upd (upd fx cn (Int32.ofInt (ax - 0))) (cn + 1) (Int32.ofInt (bx - 0))) ((cn + 1) + 1) (Int32.ofInt (bx + 0))))), (h2, .inl (cI, 100, .inl (upd (upd (upd fy cn (Int32.ofInt (ay - 128))) (cn + 1) (Int32.ofInt (bY - 128))) ((cn + 1) + 1) (Int32.ofInt (bY + 128))))), (h3, .inl (cZ, 100, .inl (upd (upd (upd fb cn 1) (cn + 1) 0) ((cn + 1) + 1) 0)))] H := hP
    have hD : va_D A [(o0, .inr (4, [.int (nI wd), .int (nI ht), .int (nI pn), .ref o1, .ref o2, .ref o3, .ref h0, .ref r0, .ref k0, .int (nI bf), .int (nI bt), .int fl])), (h0, .inr (2, [.ref h1, .ref h2, .ref h3, .int (nI (((cn + 1) + 1) + 1))])), (h1, .inl (cI, 100, .inl (upd (upd (upd fx cn (Int32.ofInt (ax - 0))) (cn + 1) (Int32.ofInt (bx - 0))) ((cn + 1) + 1) (Int32.ofInt (bx + 0))))), (h2, .inl (cI, 100, .inl (upd (upd (upd fy cn (Int32.ofInt (ay - 128))) (cn + 1) (Int32.ofInt (bY - 128))) ((cn + 1) + 1) (Int32.ofInt (bY + 128))))), (h3, .inl (cZ, 100, .inl (upd (upd (upd fb cn 1) (cn + 1) 0) ((cn + 1) + 1) 0)))] := hD
    refine lv_aload_n hx hb dX4_addHair_178 rfl (lv_at hl 3 rfl) ?_
    refine va_get (D := D) (ci := 4) (v := .ref h0) (C := RX4) (T := TX4) (N := 12) hx hb hts iX4 hown hK hP 0 rfl rfl 6 (by decide) f_37 (fun _ h9 => h9) rfl dX4_addHair_179 ?_
    refine lv_iload_n hx hb dX4_addHair_182 rfl (lv_at hl 4 rfl) ?_
    refine lv_iload hx hb dX4_addHair_183 (lv_at hl 1 rfl) ?_
    refine lv_iadd hx hb dX4_addHair_185 ?_
    refine q_eqi (y := Int32.ofInt (ax + 0)) (by rw [nI_z]; exact z_add _ _) ?_
    refine lv_iload_n hx hb dX4_addHair_186 rfl (lv_at hl 5 rfl) ?_
    refine lv_iload hx hb dX4_addHair_187 (lv_at hl 0 rfl) ?_
    refine lv_iadd hx hb dX4_addHair_189 ?_
    refine q_eqi (y := Int32.ofInt (ay + 128)) (by rw [nI_z]; exact z_add _ _) ?_
    refine q_v0 (wr := [(o0, .inr (4, [.int (nI wd), .int (nI ht), .int (nI pn), .ref o1, .ref o2, .ref o3, .ref h0, .ref r0, .ref k0, .int (nI bf), .int (nI bt), .int fl]))]) (va_runVN (As := [.int (Int32.ofInt (ax + 0)), .int (Int32.ofInt (ay + 128))]) (rest := []) ⟨hx, hb, hml, hown, hts⟩ (c_X2_join l D cI cZ cB cJ H.size h0 h1 h2 h3 (((cn + 1) + 1) + 1) (upd (upd (upd fx cn (Int32.ofInt (ax - 0))) (cn + 1) (Int32.ofInt (bx - 0))) ((cn + 1) + 1) (Int32.ofInt (bx + 0))) (upd (upd (upd fy cn (Int32.ofInt (ay - 128))) (cn + 1) (Int32.ofInt (bY - 128))) ((cn + 1) + 1) (Int32.ofInt (bY + 128))) (upd (upd (upd fb cn 1) (cn + 1) 0) ((cn + 1) + 1) 0) (Int32.ofInt (ax + 0)) (Int32.ofInt (ay + 128)) (by omega)) ⟨va_cnB 2 hts gX4_addHair_X2_join_n93 rfl rfl rfl (NW.w hN 16 rfl) in_X2 (by decide +kernel) ⟨Nat.le_of_ble_eq_true rfl, Nat.le_of_ble_eq_true rfl⟩, im_93, se_93⟩ (q_preV (q_pre (wc := [(h0, .inr (2, [.ref h1, .ref h2, .ref h3, .int (nI (((cn + 1) + 1) + 1))])), (h1, .inl (cI, 100, .inl (upd (upd (upd fx cn (Int32.ofInt (ax - 0))) (cn + 1) (Int32.ofInt (bx - 0))) ((cn + 1) + 1) (Int32.ofInt (bx + 0))))), (h2, .inl (cI, 100, .inl (upd (upd (upd fy cn (Int32.ofInt (ay - 128))) (cn + 1) (Int32.ofInt (bY - 128))) ((cn + 1) + 1) (Int32.ofInt (bY + 128))))), (h3, .inl (cZ, 100, .inl (upd (upd (upd fb cn 1) (cn + 1) 0) ((cn + 1) + 1) 0)))]) hP hD hK hN [1, 2, 3, 4] (by decide) rfl) (va_recv hK hP (ci := 2) (q0 := 1) rfl rfl)) rfl rfl hl.1 rfl (lv_room (Nat.le_of_ble_eq_true rfl)) dX4_addHair_190 ⟨Nat.zero_le _, Nat.zero_le _⟩) hS hA hP hD [1, 2, 3, 4] [0] rfl rfl (by decide) (by decide) (fun u H locs hp_190 hP hD hS => ?_)
    have hP : va_P D qCl [(o0, .inr (4, [.int (nI wd), .int (nI ht), .int (nI pn), .ref o1, .ref o2, .ref o3, .ref h0, .ref r0, .ref k0, .int (nI bf), .int (nI bt), .int fl])), (h0, .inr (2, [.ref h1, .ref h2, .ref h3, .int (nI ((((cn + 1) + 1) + 1) + 1))])), (h1, .inl (cI, 100, .inl (upd (upd (upd (upd fx cn (Int32.ofInt (ax - 0))) (cn + 1) (Int32.ofInt (bx - 0))) ((cn + 1) + 1) (Int32.ofInt (bx + 0))) (((cn + 1) + 1) + 1) (Int32.ofInt (ax + 0))))), (h2, .inl (cI, 100, .inl (upd (upd (upd (upd fy cn (Int32.ofInt (ay - 128))) (cn + 1) (Int32.ofInt (bY - 128))) ((cn + 1) + 1) (Int32.ofInt (bY + 128))) (((cn + 1) + 1) + 1) (Int32.ofInt (ay + 128))))), (h3, .inl (cZ, 100, .inl (upd (upd (upd (upd fb cn 1) (cn + 1) 0) ((cn + 1) + 1) 0) (((cn + 1) + 1) + 1) 0)))] H := hP
    have hD : va_D A [(o0, .inr (4, [.int (nI wd), .int (nI ht), .int (nI pn), .ref o1, .ref o2, .ref o3, .ref h0, .ref r0, .ref k0, .int (nI bf), .int (nI bt), .int fl])), (h0, .inr (2, [.ref h1, .ref h2, .ref h3, .int (nI ((((cn + 1) + 1) + 1) + 1))])), (h1, .inl (cI, 100, .inl (upd (upd (upd (upd fx cn (Int32.ofInt (ax - 0))) (cn + 1) (Int32.ofInt (bx - 0))) ((cn + 1) + 1) (Int32.ofInt (bx + 0))) (((cn + 1) + 1) + 1) (Int32.ofInt (ax + 0))))), (h2, .inl (cI, 100, .inl (upd (upd (upd (upd fy cn (Int32.ofInt (ay - 128))) (cn + 1) (Int32.ofInt (bY - 128))) ((cn + 1) + 1) (Int32.ofInt (bY + 128))) (((cn + 1) + 1) + 1) (Int32.ofInt (ay + 128))))), (h3, .inl (cZ, 100, .inl (upd (upd (upd (upd fb cn 1) (cn + 1) 0) ((cn + 1) + 1) 0) (((cn + 1) + 1) + 1) 0)))] := hD
    have hr9 : PathR (upd (upd (upd (upd fx cn (Int32.ofInt (ax - 0))) (cn + 1) (Int32.ofInt (bx - 0))) ((cn + 1) + 1) (Int32.ofInt (bx + 0))) (((cn + 1) + 1) + 1) (Int32.ofInt (ax + 0))) (upd (upd (upd (upd fy cn (Int32.ofInt (ay - 128))) (cn + 1) (Int32.ofInt (bY - 128))) ((cn + 1) + 1) (Int32.ofInt (bY + 128))) (((cn + 1) + 1) + 1) (Int32.ofInt (ay + 128))) (upd (upd (upd (upd fb cn 1) (cn + 1) 0) ((cn + 1) + 1) 0) (((cn + 1) + 1) + 1) 0) (hairX X cn ax ay bx bY) (hairY Y cn ax ay bx bY) (hrB bg cn) (cn + 1 + 1 + 1 + 1) := (by rw [(hair_flat hne h_93 X Y cn).1, (hair_flat hne h_93 X Y cn).2]; exact PathR_add4 hR hc4 (by constructor <;> omega) (by constructor <;> omega) (by constructor <;> omega) (by constructor <;> omega) (by constructor <;> omega) (by constructor <;> omega) (by constructor <;> omega) (by constructor <;> omega))
    exact hQ _ _ _ _ (upd (upd (upd (upd fx cn (Int32.ofInt (ax - 0))) (cn + 1) (Int32.ofInt (bx - 0))) ((cn + 1) + 1) (Int32.ofInt (bx + 0))) (((cn + 1) + 1) + 1) (Int32.ofInt (ax + 0)), upd (upd (upd (upd fy cn (Int32.ofInt (ay - 128))) (cn + 1) (Int32.ofInt (bY - 128))) ((cn + 1) + 1) (Int32.ofInt (bY + 128))) (((cn + 1) + 1) + 1) (Int32.ofInt (ay + 128)), upd (upd (upd (upd fb cn 1) (cn + 1) 0) ((cn + 1) + 1) 0) (((cn + 1) + 1) + 1) 0) _ _ dX4_addHair_193 (Nat.le_refl _) (Nat.le_refl _) hr9 (hP.sub [0, 1, 2, 3, 4] rfl) hK (hD.sub [0, 1, 2, 3, 4] (by decide) rfl) hS
  refine lv_iload_n hx hb dX4_addHair_0 rfl (lv_at hl 1 rfl) ?_
  refine lv_iload_n hx hb dX4_addHair_1 rfl (lv_at hl 3 rfl) ?_
  refine lv_icmp_ne (tgt := 80) hx hb dX4_addHair_2 (by decide) (fun h_2 => ?_) (fun h_2 => ?_)
  · rw [i_eq, z_t (by omega) (by omega), z_t (by omega) (by omega)] at h_2
    exact J_80 (fun q => h_2 q.1) _ _ _ (hP.sub [0, 1, 2, 3, 4] rfl) (hD.sub [0, 1, 2, 3, 4] (by decide) rfl) hS (lv_sub hl [0, 1, 2, 3, 4] rfl)
  rw [i_eq, z_t (by omega) (by omega), z_t (by omega) (by omega)] at h_2
  refine lv_iload_n hx hb dX4_addHair_5 rfl (lv_at hl 2 rfl) ?_
  refine lv_iload hx hb dX4_addHair_6 (lv_at hl 4 rfl) ?_
  refine lv_icmp_ne (tgt := 80) hx hb dX4_addHair_8 (by decide) (fun h_8 => ?_) (fun h_8 => ?_)
  · rw [i_eq, z_t (by omega) (by omega), z_t (by omega) (by omega)] at h_8
    exact J_80 (fun q => h_8 q.2) _ _ _ (hP.sub [0, 1, 2, 3, 4] rfl) (hD.sub [0, 1, 2, 3, 4] (by decide) rfl) hS (lv_sub hl [0, 1, 2, 3, 4] rfl)
  rw [i_eq, z_t (by omega) (by omega), z_t (by omega) (by omega)] at h_8
  refine lv_aload_n hx hb dX4_addHair_11 rfl (lv_at hl 0 rfl) ?_
  refine va_get (D := D) (ci := 4) (v := .ref h0) (C := RX4) (T := TX4) (N := 12) hx hb hts iX4 hown hK hP 0 rfl rfl 6 (by decide) f_37 (fun _ h9 => h9) rfl dX4_addHair_12 ?_
  refine lv_iload_n hx hb dX4_addHair_15 rfl (lv_at hl 1 rfl) ?_
  refine lv_sipush (v := nI 128) hx hb dX4_addHair_16 (by decide) ?_
  refine lv_isub hx hb dX4_addHair_19 ?_
  refine q_eqi (y := Int32.ofInt (ax - 128)) (by rw [nI_z]; exact z_sub _ _) ?_
  refine lv_iload_n hx hb dX4_addHair_20 rfl (lv_at hl 2 rfl) ?_
  refine lv_sipush (v := nI 128) hx hb dX4_addHair_21 (by decide) ?_
  refine lv_isub hx hb dX4_addHair_24 ?_
  refine q_eqi (y := Int32.ofInt (ay - 128)) (by rw [nI_z]; exact z_sub _ _) ?_
  refine q_v0 (wr := [(o0, .inr (4, [.int (nI wd), .int (nI ht), .int (nI pn), .ref o1, .ref o2, .ref o3, .ref h0, .ref r0, .ref k0, .int (nI bf), .int (nI bt), .int fl]))]) (va_runVN (As := [.int (Int32.ofInt (ax - 128)), .int (Int32.ofInt (ay - 128))]) (rest := []) ⟨hx, hb, hml, hown, hts⟩ (c_X2_begin l D cI cZ cB cJ H.size h0 h1 h2 h3 cn fx fy fb (Int32.ofInt (ax - 128)) (Int32.ofInt (ay - 128)) (by omega)) ⟨va_cnB 2 hts gX4_addHair_X2_begin_n79 rfl rfl rfl (NW.w hN 15 rfl) in_X2 (by decide +kernel) ⟨Nat.le_of_ble_eq_true rfl, Nat.le_of_ble_eq_true rfl⟩, im_79, se_79⟩ (q_preV (q_pre (wc := [(h0, .inr (2, [.ref h1, .ref h2, .ref h3, .int (nI cn)])), (h1, .inl (cI, 100, .inl fx)), (h2, .inl (cI, 100, .inl fy)), (h3, .inl (cZ, 100, .inl fb))]) hP hD hK hN [1, 2, 3, 4] (by decide) rfl) (va_recv hK hP (ci := 2) (q0 := 1) rfl rfl)) rfl rfl hl.1 rfl (lv_room (Nat.le_of_ble_eq_true rfl)) dX4_addHair_25 ⟨Nat.zero_le _, Nat.zero_le _⟩) hS hA hP hD [1, 2, 3, 4] [0] rfl rfl (by decide) (by decide) (fun u H locs hp_25 hP hD hS => ?_)
  have hP : va_P D qCl [(o0, .inr (4, [.int (nI wd), .int (nI ht), .int (nI pn), .ref o1, .ref o2, .ref o3, .ref h0, .ref r0, .ref k0, .int (nI bf), .int (nI bt), .int fl])), (h0, .inr (2, [.ref h1, .ref h2, .ref h3, .int (nI (cn + 1))])), (h1, .inl (cI, 100, .inl (upd fx cn (Int32.ofInt (ax - 128))))), (h2, .inl (cI, 100, .inl (upd fy cn (Int32.ofInt (ay - 128))))), (h3, .inl (cZ, 100, .inl (upd fb cn 1)))] H := hP
  have hD : va_D A [(o0, .inr (4, [.int (nI wd), .int (nI ht), .int (nI pn), .ref o1, .ref o2, .ref o3, .ref h0, .ref r0, .ref k0, .int (nI bf), .int (nI bt), .int fl])), (h0, .inr (2, [.ref h1, .ref h2, .ref h3, .int (nI (cn + 1))])), (h1, .inl (cI, 100, .inl (upd fx cn (Int32.ofInt (ax - 128))))), (h2, .inl (cI, 100, .inl (upd fy cn (Int32.ofInt (ay - 128))))), (h3, .inl (cZ, 100, .inl (upd fb cn 1)))] := hD
  refine lv_aload_n hx hb dX4_addHair_28 rfl (lv_at hl 0 rfl) ?_
  refine va_get (D := D) (ci := 4) (v := .ref h0) (C := RX4) (T := TX4) (N := 12) hx hb hts iX4 hown hK hP 0 rfl rfl 6 (by decide) f_37 (fun _ h9 => h9) rfl dX4_addHair_29 ?_
  refine lv_iload_n hx hb dX4_addHair_32 rfl (lv_at hl 1 rfl) ?_
  refine lv_sipush (v := nI 128) hx hb dX4_addHair_33 (by decide) ?_
  refine lv_iadd hx hb dX4_addHair_36 ?_
  refine q_eqi (y := Int32.ofInt (ax + 128)) (by rw [nI_z]; exact z_add _ _) ?_
  refine lv_iload_n hx hb dX4_addHair_37 rfl (lv_at hl 2 rfl) ?_
  refine lv_sipush (v := nI 128) hx hb dX4_addHair_38 (by decide) ?_
  refine lv_isub hx hb dX4_addHair_41 ?_
  refine q_eqi (y := Int32.ofInt (ay - 128)) (by rw [nI_z]; exact z_sub _ _) ?_
  refine q_v0 (wr := [(o0, .inr (4, [.int (nI wd), .int (nI ht), .int (nI pn), .ref o1, .ref o2, .ref o3, .ref h0, .ref r0, .ref k0, .int (nI bf), .int (nI bt), .int fl]))]) (va_runVN (As := [.int (Int32.ofInt (ax + 128)), .int (Int32.ofInt (ay - 128))]) (rest := []) ⟨hx, hb, hml, hown, hts⟩ (c_X2_join l D cI cZ cB cJ H.size h0 h1 h2 h3 (cn + 1) (upd fx cn (Int32.ofInt (ax - 128))) (upd fy cn (Int32.ofInt (ay - 128))) (upd fb cn 1) (Int32.ofInt (ax + 128)) (Int32.ofInt (ay - 128)) (by omega)) ⟨va_cnB 2 hts gX4_addHair_X2_join_n93 rfl rfl rfl (NW.w hN 16 rfl) in_X2 (by decide +kernel) ⟨Nat.le_of_ble_eq_true rfl, Nat.le_of_ble_eq_true rfl⟩, im_93, se_93⟩ (q_preV (q_pre (wc := [(h0, .inr (2, [.ref h1, .ref h2, .ref h3, .int (nI (cn + 1))])), (h1, .inl (cI, 100, .inl (upd fx cn (Int32.ofInt (ax - 128))))), (h2, .inl (cI, 100, .inl (upd fy cn (Int32.ofInt (ay - 128))))), (h3, .inl (cZ, 100, .inl (upd fb cn 1)))]) hP hD hK hN [1, 2, 3, 4] (by decide) rfl) (va_recv hK hP (ci := 2) (q0 := 1) rfl rfl)) rfl rfl hl.1 rfl (lv_room (Nat.le_of_ble_eq_true rfl)) dX4_addHair_42 ⟨Nat.zero_le _, Nat.zero_le _⟩) hS hA hP hD [1, 2, 3, 4] [0] rfl rfl (by decide) (by decide) (fun u H locs hp_42 hP hD hS => ?_)
  have hP : va_P D qCl [(o0, .inr (4, [.int (nI wd), .int (nI ht), .int (nI pn), .ref o1, .ref o2, .ref o3, .ref h0, .ref r0, .ref k0, .int (nI bf), .int (nI bt), .int fl])), (h0, .inr (2, [.ref h1, .ref h2, .ref h3, .int (nI ((cn + 1) + 1))])), (h1, .inl (cI, 100, .inl (upd (upd fx cn (Int32.ofInt (ax - 128))) (cn + 1) (Int32.ofInt (ax + 128))))), (h2, .inl (cI, 100, .inl (upd (upd fy cn (Int32.ofInt (ay - 128))) (cn + 1) (Int32.ofInt (ay - 128))))), (h3, .inl (cZ, 100, .inl (upd (upd fb cn 1) (cn + 1) 0)))] H := hP
  have hD : va_D A [(o0, .inr (4, [.int (nI wd), .int (nI ht), .int (nI pn), .ref o1, .ref o2, .ref o3, .ref h0, .ref r0, .ref k0, .int (nI bf), .int (nI bt), .int fl])), (h0, .inr (2, [.ref h1, .ref h2, .ref h3, .int (nI ((cn + 1) + 1))])), (h1, .inl (cI, 100, .inl (upd (upd fx cn (Int32.ofInt (ax - 128))) (cn + 1) (Int32.ofInt (ax + 128))))), (h2, .inl (cI, 100, .inl (upd (upd fy cn (Int32.ofInt (ay - 128))) (cn + 1) (Int32.ofInt (ay - 128))))), (h3, .inl (cZ, 100, .inl (upd (upd fb cn 1) (cn + 1) 0)))] := hD
  refine lv_aload_n hx hb dX4_addHair_45 rfl (lv_at hl 0 rfl) ?_
  refine va_get (D := D) (ci := 4) (v := .ref h0) (C := RX4) (T := TX4) (N := 12) hx hb hts iX4 hown hK hP 0 rfl rfl 6 (by decide) f_37 (fun _ h9 => h9) rfl dX4_addHair_46 ?_
  refine lv_iload_n hx hb dX4_addHair_49 rfl (lv_at hl 1 rfl) ?_
  refine lv_sipush (v := nI 128) hx hb dX4_addHair_50 (by decide) ?_
  refine lv_iadd hx hb dX4_addHair_53 ?_
  refine q_eqi (y := Int32.ofInt (ax + 128)) (by rw [nI_z]; exact z_add _ _) ?_
  refine lv_iload_n hx hb dX4_addHair_54 rfl (lv_at hl 2 rfl) ?_
  refine lv_sipush (v := nI 128) hx hb dX4_addHair_55 (by decide) ?_
  refine lv_iadd hx hb dX4_addHair_58 ?_
  refine q_eqi (y := Int32.ofInt (ay + 128)) (by rw [nI_z]; exact z_add _ _) ?_
  refine q_v0 (wr := [(o0, .inr (4, [.int (nI wd), .int (nI ht), .int (nI pn), .ref o1, .ref o2, .ref o3, .ref h0, .ref r0, .ref k0, .int (nI bf), .int (nI bt), .int fl]))]) (va_runVN (As := [.int (Int32.ofInt (ax + 128)), .int (Int32.ofInt (ay + 128))]) (rest := []) ⟨hx, hb, hml, hown, hts⟩ (c_X2_join l D cI cZ cB cJ H.size h0 h1 h2 h3 ((cn + 1) + 1) (upd (upd fx cn (Int32.ofInt (ax - 128))) (cn + 1) (Int32.ofInt (ax + 128))) (upd (upd fy cn (Int32.ofInt (ay - 128))) (cn + 1) (Int32.ofInt (ay - 128))) (upd (upd fb cn 1) (cn + 1) 0) (Int32.ofInt (ax + 128)) (Int32.ofInt (ay + 128)) (by omega)) ⟨va_cnB 2 hts gX4_addHair_X2_join_n93 rfl rfl rfl (NW.w hN 16 rfl) in_X2 (by decide +kernel) ⟨Nat.le_of_ble_eq_true rfl, Nat.le_of_ble_eq_true rfl⟩, im_93, se_93⟩ (q_preV (q_pre (wc := [(h0, .inr (2, [.ref h1, .ref h2, .ref h3, .int (nI ((cn + 1) + 1))])), (h1, .inl (cI, 100, .inl (upd (upd fx cn (Int32.ofInt (ax - 128))) (cn + 1) (Int32.ofInt (ax + 128))))), (h2, .inl (cI, 100, .inl (upd (upd fy cn (Int32.ofInt (ay - 128))) (cn + 1) (Int32.ofInt (ay - 128))))), (h3, .inl (cZ, 100, .inl (upd (upd fb cn 1) (cn + 1) 0)))]) hP hD hK hN [1, 2, 3, 4] (by decide) rfl) (va_recv hK hP (ci := 2) (q0 := 1) rfl rfl)) rfl rfl hl.1 rfl (lv_room (Nat.le_of_ble_eq_true rfl)) dX4_addHair_59 ⟨Nat.zero_le _, Nat.zero_le _⟩) hS hA hP hD [1, 2, 3, 4] [0] rfl rfl (by decide) (by decide) (fun u H locs hp_59 hP hD hS => ?_)
  have hP : va_P D qCl [(o0, .inr (4, [.int (nI wd), .int (nI ht), .int (nI pn), .ref o1, .ref o2, .ref o3, .ref h0, .ref r0, .ref k0, .int (nI bf), .int (nI bt), .int fl])), (h0, .inr (2, [.ref h1, .ref h2, .ref h3, .int (nI (((cn + 1) + 1) + 1))])), (h1, .inl (cI, 100, .inl (upd (upd (upd fx cn (Int32.ofInt (ax - 128))) (cn + 1) (Int32.ofInt (ax + 128))) ((cn + 1) + 1) (Int32.ofInt (ax + 128))))), (h2, .inl (cI, 100, .inl (upd (upd (upd fy cn (Int32.ofInt (ay - 128))) (cn + 1) (Int32.ofInt (ay - 128))) ((cn + 1) + 1) (Int32.ofInt (ay + 128))))), (h3, .inl (cZ, 100, .inl (upd (upd (upd fb cn 1) (cn + 1) 0) ((cn + 1) + 1) 0)))] H := hP
  have hD : va_D A [(o0, .inr (4, [.int (nI wd), .int (nI ht), .int (nI pn), .ref o1, .ref o2, .ref o3, .ref h0, .ref r0, .ref k0, .int (nI bf), .int (nI bt), .int fl])), (h0, .inr (2, [.ref h1, .ref h2, .ref h3, .int (nI (((cn + 1) + 1) + 1))])), (h1, .inl (cI, 100, .inl (upd (upd (upd fx cn (Int32.ofInt (ax - 128))) (cn + 1) (Int32.ofInt (ax + 128))) ((cn + 1) + 1) (Int32.ofInt (ax + 128))))), (h2, .inl (cI, 100, .inl (upd (upd (upd fy cn (Int32.ofInt (ay - 128))) (cn + 1) (Int32.ofInt (ay - 128))) ((cn + 1) + 1) (Int32.ofInt (ay + 128))))), (h3, .inl (cZ, 100, .inl (upd (upd (upd fb cn 1) (cn + 1) 0) ((cn + 1) + 1) 0)))] := hD
  refine lv_aload_n hx hb dX4_addHair_62 rfl (lv_at hl 0 rfl) ?_
  refine va_get (D := D) (ci := 4) (v := .ref h0) (C := RX4) (T := TX4) (N := 12) hx hb hts iX4 hown hK hP 0 rfl rfl 6 (by decide) f_37 (fun _ h9 => h9) rfl dX4_addHair_63 ?_
  refine lv_iload_n hx hb dX4_addHair_66 rfl (lv_at hl 1 rfl) ?_
  refine lv_sipush (v := nI 128) hx hb dX4_addHair_67 (by decide) ?_
  refine lv_isub hx hb dX4_addHair_70 ?_
  refine q_eqi (y := Int32.ofInt (ax - 128)) (by rw [nI_z]; exact z_sub _ _) ?_
  refine lv_iload_n hx hb dX4_addHair_71 rfl (lv_at hl 2 rfl) ?_
  refine lv_sipush (v := nI 128) hx hb dX4_addHair_72 (by decide) ?_
  refine lv_iadd hx hb dX4_addHair_75 ?_
  refine q_eqi (y := Int32.ofInt (ay + 128)) (by rw [nI_z]; exact z_add _ _) ?_
  refine q_v0 (wr := [(o0, .inr (4, [.int (nI wd), .int (nI ht), .int (nI pn), .ref o1, .ref o2, .ref o3, .ref h0, .ref r0, .ref k0, .int (nI bf), .int (nI bt), .int fl]))]) (va_runVN (As := [.int (Int32.ofInt (ax - 128)), .int (Int32.ofInt (ay + 128))]) (rest := []) ⟨hx, hb, hml, hown, hts⟩ (c_X2_join l D cI cZ cB cJ H.size h0 h1 h2 h3 (((cn + 1) + 1) + 1) (upd (upd (upd fx cn (Int32.ofInt (ax - 128))) (cn + 1) (Int32.ofInt (ax + 128))) ((cn + 1) + 1) (Int32.ofInt (ax + 128))) (upd (upd (upd fy cn (Int32.ofInt (ay - 128))) (cn + 1) (Int32.ofInt (ay - 128))) ((cn + 1) + 1) (Int32.ofInt (ay + 128))) (upd (upd (upd fb cn 1) (cn + 1) 0) ((cn + 1) + 1) 0) (Int32.ofInt (ax - 128)) (Int32.ofInt (ay + 128)) (by omega)) ⟨va_cnB 2 hts gX4_addHair_X2_join_n93 rfl rfl rfl (NW.w hN 16 rfl) in_X2 (by decide +kernel) ⟨Nat.le_of_ble_eq_true rfl, Nat.le_of_ble_eq_true rfl⟩, im_93, se_93⟩ (q_preV (q_pre (wc := [(h0, .inr (2, [.ref h1, .ref h2, .ref h3, .int (nI (((cn + 1) + 1) + 1))])), (h1, .inl (cI, 100, .inl (upd (upd (upd fx cn (Int32.ofInt (ax - 128))) (cn + 1) (Int32.ofInt (ax + 128))) ((cn + 1) + 1) (Int32.ofInt (ax + 128))))), (h2, .inl (cI, 100, .inl (upd (upd (upd fy cn (Int32.ofInt (ay - 128))) (cn + 1) (Int32.ofInt (ay - 128))) ((cn + 1) + 1) (Int32.ofInt (ay + 128))))), (h3, .inl (cZ, 100, .inl (upd (upd (upd fb cn 1) (cn + 1) 0) ((cn + 1) + 1) 0)))]) hP hD hK hN [1, 2, 3, 4] (by decide) rfl) (va_recv hK hP (ci := 2) (q0 := 1) rfl rfl)) rfl rfl hl.1 rfl (lv_room (Nat.le_of_ble_eq_true rfl)) dX4_addHair_76 ⟨Nat.zero_le _, Nat.zero_le _⟩) hS hA hP hD [1, 2, 3, 4] [0] rfl rfl (by decide) (by decide) (fun u H locs hp_76 hP hD hS => ?_)
  have hP : va_P D qCl [(o0, .inr (4, [.int (nI wd), .int (nI ht), .int (nI pn), .ref o1, .ref o2, .ref o3, .ref h0, .ref r0, .ref k0, .int (nI bf), .int (nI bt), .int fl])), (h0, .inr (2, [.ref h1, .ref h2, .ref h3, .int (nI ((((cn + 1) + 1) + 1) + 1))])), (h1, .inl (cI, 100, .inl (upd (upd (upd (upd fx cn (Int32.ofInt (ax - 128))) (cn + 1) (Int32.ofInt (ax + 128))) ((cn + 1) + 1) (Int32.ofInt (ax + 128))) (((cn + 1) + 1) + 1) (Int32.ofInt (ax - 128))))), (h2, .inl (cI, 100, .inl (upd (upd (upd (upd fy cn (Int32.ofInt (ay - 128))) (cn + 1) (Int32.ofInt (ay - 128))) ((cn + 1) + 1) (Int32.ofInt (ay + 128))) (((cn + 1) + 1) + 1) (Int32.ofInt (ay + 128))))), (h3, .inl (cZ, 100, .inl (upd (upd (upd (upd fb cn 1) (cn + 1) 0) ((cn + 1) + 1) 0) (((cn + 1) + 1) + 1) 0)))] H := hP
  have hD : va_D A [(o0, .inr (4, [.int (nI wd), .int (nI ht), .int (nI pn), .ref o1, .ref o2, .ref o3, .ref h0, .ref r0, .ref k0, .int (nI bf), .int (nI bt), .int fl])), (h0, .inr (2, [.ref h1, .ref h2, .ref h3, .int (nI ((((cn + 1) + 1) + 1) + 1))])), (h1, .inl (cI, 100, .inl (upd (upd (upd (upd fx cn (Int32.ofInt (ax - 128))) (cn + 1) (Int32.ofInt (ax + 128))) ((cn + 1) + 1) (Int32.ofInt (ax + 128))) (((cn + 1) + 1) + 1) (Int32.ofInt (ax - 128))))), (h2, .inl (cI, 100, .inl (upd (upd (upd (upd fy cn (Int32.ofInt (ay - 128))) (cn + 1) (Int32.ofInt (ay - 128))) ((cn + 1) + 1) (Int32.ofInt (ay + 128))) (((cn + 1) + 1) + 1) (Int32.ofInt (ay + 128))))), (h3, .inl (cZ, 100, .inl (upd (upd (upd (upd fb cn 1) (cn + 1) 0) ((cn + 1) + 1) 0) (((cn + 1) + 1) + 1) 0)))] := hD
  have hr9 : PathR (upd (upd (upd (upd fx cn (Int32.ofInt (ax - 128))) (cn + 1) (Int32.ofInt (ax + 128))) ((cn + 1) + 1) (Int32.ofInt (ax + 128))) (((cn + 1) + 1) + 1) (Int32.ofInt (ax - 128))) (upd (upd (upd (upd fy cn (Int32.ofInt (ay - 128))) (cn + 1) (Int32.ofInt (ay - 128))) ((cn + 1) + 1) (Int32.ofInt (ay + 128))) (((cn + 1) + 1) + 1) (Int32.ofInt (ay + 128))) (upd (upd (upd (upd fb cn 1) (cn + 1) 0) ((cn + 1) + 1) 0) (((cn + 1) + 1) + 1) 0) (hairX X cn ax ay bx bY) (hairY Y cn ax ay bx bY) (hrB bg cn) (cn + 1 + 1 + 1 + 1) := (by rw [(hair_one ⟨h_2, h_8⟩ X Y cn).1, (hair_one ⟨h_2, h_8⟩ X Y cn).2]; exact PathR_add4 hR hc4 (by constructor <;> omega) (by constructor <;> omega) (by constructor <;> omega) (by constructor <;> omega) (by constructor <;> omega) (by constructor <;> omega) (by constructor <;> omega) (by constructor <;> omega))
  exact hQ _ _ _ _ (upd (upd (upd (upd fx cn (Int32.ofInt (ax - 128))) (cn + 1) (Int32.ofInt (ax + 128))) ((cn + 1) + 1) (Int32.ofInt (ax + 128))) (((cn + 1) + 1) + 1) (Int32.ofInt (ax - 128)), upd (upd (upd (upd fy cn (Int32.ofInt (ay - 128))) (cn + 1) (Int32.ofInt (ay - 128))) ((cn + 1) + 1) (Int32.ofInt (ay + 128))) (((cn + 1) + 1) + 1) (Int32.ofInt (ay + 128)), upd (upd (upd (upd fb cn 1) (cn + 1) 0) ((cn + 1) + 1) 0) (((cn + 1) + 1) + 1) 0) _ _ dX4_addHair_79 (Nat.le_refl _) (Nat.le_refl _) hr9 (hP.sub [0, 1, 2, 3, 4] rfl) hK (hD.sub [0, 1, 2, 3, 4] (by decide) rfl) hS

abbrev rm_X4_paintPoint : Room := { frames := 1, cells := 0, slots := 0, locals := 22 }
set_option maxHeartbeats 4000000 in
set_option maxRecDepth 100000 in
/-- RasterCover.paintPoint -/
theorem c_X4_paintPoint (l : Launch) (D : va_G) (cI cZ cB cJ : ClassId) (sz : Nat) (o0 : Nat) (o1 : Nat) (o2 : Nat) (o3 : Nat) (h0 : Nat) (r0 : Nat) (k0 : Nat) (wd : Nat) (ht : Nat) (pn : Nat) (bf : Nat) (bt : Nat) (fl : Int32) (pt : Nat) (pl : Nat) (v : Int32) (a : Int32) (fB : Nat → Int32) (fO : Nat → Int32) (hpn : pn ≤ 4) (hht : ht ≤ 48) (hwd : wd ≤ 48) (hpl : pl < 100) (hpt : pt < ht * wd) : Met l yX4_paintPoint wsX4_paintPoint rm_X4_paintPoint (va_Pc [.ref o0, .int (nI pt), .int (nI pl), .int v, .int a] (PC D (qT cI cZ cB cJ) [(o0, .inr (4, [.int (nI wd), .int (nI ht), .int (nI pn), .ref o1, .ref o2, .ref o3, .ref h0, .ref r0, .ref k0, .int (nI bf), .int (nI bt), .int fl])), (o1, .inl (cI, pn * ht * wd, .inl fB)), (o3, .inl (cZ, pn, .inl fO))] sz)) (va_Qv (fun (u : Unit) => True) (fun (u : Unit) => PO D (qT cI cZ cB cJ) (va_A [(o0, .inr (4, [.int (nI wd), .int (nI ht), .int (nI pn), .ref o1, .ref o2, .ref o3, .ref h0, .ref r0, .ref k0, .int (nI bf), .int (nI bt), .int fl])), (o1, .inl (cI, pn * ht * wd, .inl fB)), (o3, .inl (cZ, pn, .inl fO))] sz) [(o0, .inr (4, [.int (nI wd), .int (nI ht), .int (nI pn), .ref o1, .ref o2, .ref o3, .ref h0, .ref r0, .ref k0, .int (nI bf), .int (nI bt), .int fl])), (o1, .inl (cI, pn * ht * wd, .inl (ppt (fun zk => zk * ht * wd + pt) fO pl v a fB pn))), (o3, .inl (cZ, pn, .inl fO))]) (va_A [(o0, .inr (4, [.int (nI wd), .int (nI ht), .int (nI pn), .ref o1, .ref o2, .ref o3, .ref h0, .ref r0, .ref k0, .int (nI bf), .int (nI bt), .int fl])), (o1, .inl (cI, pn * ht * wd, .inl fB)), (o3, .inl (cZ, pn, .inl fO))] sz)) 0 0 (va_A [(o0, .inr (4, [.int (nI wd), .int (nI ht), .int (nI pn), .ref o1, .ref o2, .ref o3, .ref h0, .ref r0, .ref k0, .int (nI bf), .int (nI bt), .int fl])), (o1, .inl (cI, pn * ht * wd, .inl fB)), (o3, .inl (cZ, pn, .inl fO))] sz) := by
  refine q_entV (cc := cX4_paintPoint) (maxL := 7) (by decide +kernel) rfl (Nat.le_of_ble_eq_true rfl) ?_
  intro p e s m below meth c A Q ls hq hl hQ
  obtain ⟨hx, hb, hml, hts, hown, hin, hN, hK, hsz, hA, hP, hD, hS⟩ := hq
  have hown : s.vm.findClass RX4 = some m.cls := hown
  obtain ⟨H, hH⟩ : ∃ H, H = s.heap := ⟨_, rfl⟩
  rw [← hH] at hP ⊢
  have hS : va_S A s.heap H [] := by rw [hH]; exact va_S.rf
  clear hH
  have hl : lv_has ls 7 [(0, .ref o0), (1, .int (nI pt)), (2, .int (nI pl)), (3, .int v), (4, .int a)] := hl
  have iX4 : ∀ w ∈ wsX40, w ∈ wsX4_paintPoint := by decide +kernel
  have f_20 := hts (.fieldLink RX4 20 "RasterCover" "planes" "I") (by decide +kernel)
  have f_17 := hts (.fieldLink RX4 17 "RasterCover" "height" "I") (by decide +kernel)
  have f_13 := hts (.fieldLink RX4 13 "RasterCover" "width" "I") (by decide +kernel)
  have f_30 := hts (.fieldLink RX4 30 "RasterCover" "overs" "[Z") (by decide +kernel)
  have f_23 := hts (.fieldLink RX4 23 "RasterCover" "bytes" "[I") (by decide +kernel)
  have hb1 := Nat.mul_le_mul hht hwd
  have hb2 : pn * ht * wd ≤ 4 * 48 * 48 := Nat.mul_le_mul (Nat.mul_le_mul hpn hht) hwd
  refine lv_iconst (v := nI 0) hx hb dX4_paintPoint_0 (by decide) ?_
  refine lv_istore (lv' := [(5, .int (nI 0)), (0, .ref o0), (1, .int (nI pt)), (2, .int (nI pl)), (3, .int v), (4, .int a)]) hx hb dX4_paintPoint_1 hl (by decide) rfl (fun ls hl => ?_)
  have L_3 : ∀ (fuel : Nat) (k : Nat) (g : Nat → Int32), pn - k < fuel → (k ≤ pn) → (g = ppt (fun zk => zk * ht * wd + pt) fO pl v a fB k) → ∀ (H : Heap) (locs : List Loc) (ls : Array Slot), va_P D qCl [(o0, .inr (4, [.int (nI wd), .int (nI ht), .int (nI pn), .ref o1, .ref o2, .ref o3, .ref h0, .ref r0, .ref k0, .int (nI bf), .int (nI bt), .int fl])), (o1, .inl (cI, pn * ht * wd, .inl g)), (o3, .inl (cZ, pn, .inl fO))] H → va_D A [(o0, .inr (4, [.int (nI wd), .int (nI ht), .int (nI pn), .ref o1, .ref o2, .ref o3, .ref h0, .ref r0, .ref k0, .int (nI bf), .int (nI bt), .int fl])), (o1, .inl (cI, pn * ht * wd, .inl g)), (o3, .inl (cZ, pn, .inl fO))] → va_S A s.heap H locs → lv_has ls 7 [(5, .int (nI k)), (0, .ref o0), (1, .int (nI pt)), (2, .int (nI pl)), (3, .int v), (4, .int a)] → W p l e rm_X4_paintPoint s m ([.ref o0, .int (nI pt), .int (nI pl), .int v, .int a] : List Value).toArray below meth c H locs 0 0 Q (F0 m 3 ls []) := by
    intro fuel
    induction fuel with
    | zero =>
      intro k g hm
      exact absurd hm (Nat.not_lt_zero _)
    | succ fuel ih_3 =>
      intro k g hm_3 hk hg H locs ls hP hD hS hl
      refine lv_iload hx hb dX4_paintPoint_3 (lv_at hl 0 rfl) ?_
      refine lv_aload_n hx hb dX4_paintPoint_5 rfl (lv_at hl 1 rfl) ?_
      refine va_get (D := D) (ci := 4) (v := .int (nI pn)) (C := RX4) (T := TX4) (N := 12) hx hb hts iX4 hown hK hP 0 rfl rfl 2 (by decide) f_20 (fun _ h9 => h9) rfl dX4_paintPoint_6 ?_
      refine q_ge (tgt := 93) hx hb (by omega) (by omega) dX4_paintPoint_9 (by decide) (fun h_9 => ?_) (fun h_9 => ?_)
      · have e9 : k = pn := by omega
        rw [e9] at hg
        subst hg
        exact hQ _ _ _ _ () _ _ dX4_paintPoint_93 (Nat.le_refl _) (Nat.le_refl _) trivial (hP.sub [0, 1, 2] rfl) hK (hD.sub [0, 1, 2] (by decide) rfl) hS
      have hb3 : (k + 1) * (ht * wd) ≤ pn * (ht * wd) := Nat.mul_le_mul_right _ (show k + 1 ≤ pn by omega)
      rw [Nat.add_mul, Nat.one_mul, ← Nat.mul_assoc, ← Nat.mul_assoc] at hb3
      refine lv_iload hx hb dX4_paintPoint_12 (lv_at hl 0 rfl) ?_
      refine lv_aload_n hx hb dX4_paintPoint_14 rfl (lv_at hl 1 rfl) ?_
      refine va_get (D := D) (ci := 4) (v := .int (nI ht)) (C := RX4) (T := TX4) (N := 12) hx hb hts iX4 hown hK hP 0 rfl rfl 1 (by decide) f_17 (fun _ h9 => h9) rfl dX4_paintPoint_15 ?_
      refine lv_imul hx hb dX4_paintPoint_18 ?_
      refine q_eqi (pk_mul _ _) ?_
      refine lv_aload_n hx hb dX4_paintPoint_19 rfl (lv_at hl 1 rfl) ?_
      refine va_get (D := D) (ci := 4) (v := .int (nI wd)) (C := RX4) (T := TX4) (N := 12) hx hb hts iX4 hown hK hP 0 rfl rfl 0 (by decide) f_13 (fun _ h9 => h9) rfl dX4_paintPoint_20 ?_
      refine lv_imul hx hb dX4_paintPoint_23 ?_
      refine q_eqi (pk_mul _ _) ?_
      refine lv_iload_n hx hb dX4_paintPoint_24 rfl (lv_at hl 2 rfl) ?_
      refine lv_iadd hx hb dX4_paintPoint_25 ?_
      refine q_eqi (nI_add _ _) ?_
      refine lv_istore (lv' := [(6, .int (nI (((k * ht) * wd) + pt))), (5, .int (nI k)), (0, .ref o0), (1, .int (nI pt)), (2, .int (nI pl)), (3, .int v), (4, .int a)]) hx hb dX4_paintPoint_26 hl (by decide) rfl (fun ls hl => ?_)
      refine lv_iload hx hb dX4_paintPoint_28 (lv_at hl 1 rfl) ?_
      refine lv_iload_n hx hb dX4_paintPoint_30 rfl (lv_at hl 4 rfl) ?_
      refine q_ne (tgt := 57) hx hb (by omega) (by omega) dX4_paintPoint_31 (by decide) (fun h_31 => ?_) (fun h_31 => ?_)
      · refine lv_aload_n hx hb dX4_paintPoint_57 rfl (lv_at hl 2 rfl) ?_
        refine va_get (D := D) (ci := 4) (v := .ref o3) (C := RX4) (T := TX4) (N := 12) hx hb hts iX4 hown hK hP 0 rfl rfl 5 (by decide) f_30 (fun _ h9 => h9) rfl dX4_paintPoint_58 ?_
        refine lv_iload hx hb dX4_paintPoint_61 (lv_at hl 1 rfl) ?_
        refine q_zald hx hb hK hP 2 1 rfl rfl (k := k) (by omega) (by omega) dX4_paintPoint_63 ?_
        refine lv_if_ne (tgt := 87) hx hb dX4_paintPoint_64 (by decide) (fun h_64 => ?_) (fun h_64 => ?_)
        · refine lv_iinc (v := nI (k + 1)) (lv' := [(5, .int (nI (k + 1))), (6, .int (nI (((k * ht) * wd) + pt))), (0, .ref o0), (1, .int (nI pt)), (2, .int (nI pl)), (3, .int v), (4, .int a)]) hx hb dX4_paintPoint_87 hl (k := 1) rfl (q_inc _) (by decide) rfl (fun ls hl => ?_)
          refine lv_goto (tgt := 3) hx hb dX4_paintPoint_90 (by decide) ?_
          exact ih_3 (k + 1) g (by omega) (by omega) (by rw [hg]; show _ = (if k = pl then _ else if fO k = 0 then _ else _); rw [if_neg h_31, if_neg h_64]) _ _ _ (hP.sub [0, 1, 2] rfl) (hD.sub [0, 1, 2] (by decide) rfl) hS (lv_sub hl [0, 2, 3, 4, 5, 6] rfl)
        refine lv_aload_n hx hb dX4_paintPoint_67 rfl (lv_at hl 2 rfl) ?_
        refine va_get (D := D) (ci := 4) (v := .ref o1) (C := RX4) (T := TX4) (N := 12) hx hb hts iX4 hown hK hP 0 rfl rfl 3 (by decide) f_23 (fun _ h9 => h9) rfl dX4_paintPoint_68 ?_
        refine lv_iload hx hb dX4_paintPoint_71 (lv_at hl 0 rfl) ?_
        refine lv_aload_n hx hb dX4_paintPoint_73 rfl (lv_at hl 2 rfl) ?_
        refine va_get (D := D) (ci := 4) (v := .ref o1) (C := RX4) (T := TX4) (N := 12) hx hb hts iX4 hown hK hP 0 rfl rfl 3 (by decide) f_23 (fun _ h9 => h9) rfl dX4_paintPoint_74 ?_
        refine lv_iload hx hb dX4_paintPoint_77 (lv_at hl 0 rfl) ?_
        refine q_iald hx hb hK hP 1 0 rfl rfl (k := (((k * ht) * wd) + pt)) (by omega) (by omega) dX4_paintPoint_79 ?_
        refine lv_iconst (v := nI 0) hx hb dX4_paintPoint_80 (by decide) ?_
        refine lv_iload hx hb dX4_paintPoint_81 (lv_at hl 6 rfl) ?_
        refine q_i0 (wr := [(o0, .inr (4, [.int (nI wd), .int (nI ht), .int (nI pn), .ref o1, .ref o2, .ref o3, .ref h0, .ref r0, .ref k0, .int (nI bf), .int (nI bt), .int fl])), (o1, .inl (cI, pn * ht * wd, .inl g)), (o3, .inl (cZ, pn, .inl fO))]) (va_runS (As := [.int (g (((k * ht) * wd) + pt)), .int (nI 0), .int a]) (rest := [.int (nI (((k * ht) * wd) + pt)), .ref o1]) ⟨hx, hb, hml, hown, hts⟩ (c_X4_blend l D cI cZ cB cJ H.size (g (((k * ht) * wd) + pt)) (nI 0) a) (va_cwS 3 hts gX4_paintPoint_X4_blend rfl rfl rfl (by decide +kernel) ⟨Nat.le_of_ble_eq_true rfl, Nat.le_of_ble_eq_true rfl⟩) (q_pre (wc := []) hP hD hK hN [] (by decide) rfl) rfl rfl hl.1 rfl (lv_room (Nat.le_of_ble_eq_true rfl)) dX4_paintPoint_83 ⟨Nat.zero_le _, Nat.zero_le _⟩) hS hA hP hD [] [0, 1, 2] rfl rfl (by decide) (by decide) (fun r_83 u H locs hp_83 hP hD hS => ?_)
        have hP : va_P D qCl [(o0, .inr (4, [.int (nI wd), .int (nI ht), .int (nI pn), .ref o1, .ref o2, .ref o3, .ref h0, .ref r0, .ref k0, .int (nI bf), .int (nI bt), .int fl])), (o1, .inl (cI, pn * ht * wd, .inl g)), (o3, .inl (cZ, pn, .inl fO))] H := hP
        have hD : va_D A [(o0, .inr (4, [.int (nI wd), .int (nI ht), .int (nI pn), .ref o1, .ref o2, .ref o3, .ref h0, .ref r0, .ref k0, .int (nI bf), .int (nI bt), .int fl])), (o1, .inl (cI, pn * ht * wd, .inl g)), (o3, .inl (cZ, pn, .inl fO))] := hD
        have hp_83 : r_83 = bldv (g (((k * ht) * wd) + pt)) (nI 0) a := hp_83
        subst hp_83
        refine q_iast hx hb hK hP hD hS 1 0 rfl rfl (k := (((k * ht) * wd) + pt)) (by omega) (by omega) dX4_paintPoint_86 (fun H locs hP hD hS => ?_)
        have hP : va_P D qCl [(o0, .inr (4, [.int (nI wd), .int (nI ht), .int (nI pn), .ref o1, .ref o2, .ref o3, .ref h0, .ref r0, .ref k0, .int (nI bf), .int (nI bt), .int fl])), (o1, .inl (cI, pn * ht * wd, .inl (upd g (((k * ht) * wd) + pt) (bldv (g (((k * ht) * wd) + pt)) (nI 0) a)))), (o3, .inl (cZ, pn, .inl fO))] H := hP
        have hD : va_D A [(o0, .inr (4, [.int (nI wd), .int (nI ht), .int (nI pn), .ref o1, .ref o2, .ref o3, .ref h0, .ref r0, .ref k0, .int (nI bf), .int (nI bt), .int fl])), (o1, .inl (cI, pn * ht * wd, .inl (upd g (((k * ht) * wd) + pt) (bldv (g (((k * ht) * wd) + pt)) (nI 0) a)))), (o3, .inl (cZ, pn, .inl fO))] := hD
        refine lv_iinc (v := nI (k + 1)) (lv' := [(5, .int (nI (k + 1))), (6, .int (nI (((k * ht) * wd) + pt))), (0, .ref o0), (1, .int (nI pt)), (2, .int (nI pl)), (3, .int v), (4, .int a)]) hx hb dX4_paintPoint_87 hl (k := 1) rfl (q_inc _) (by decide) rfl (fun ls hl => ?_)
        refine lv_goto (tgt := 3) hx hb dX4_paintPoint_90 (by decide) ?_
        exact ih_3 (k + 1) (upd g (((k * ht) * wd) + pt) (bldv (g (((k * ht) * wd) + pt)) (nI 0) a)) (by omega) (by omega) (by rw [hg]; show _ = (if k = pl then _ else if fO k = 0 then _ else _); rw [if_neg h_31, if_pos h_64]) _ _ _ (hP.sub [0, 1, 2] rfl) (hD.sub [0, 1, 2] (by decide) rfl) hS (lv_sub hl [0, 2, 3, 4, 5, 6] rfl)
      refine lv_aload_n hx hb dX4_paintPoint_34 rfl (lv_at hl 2 rfl) ?_
      refine va_get (D := D) (ci := 4) (v := .ref o1) (C := RX4) (T := TX4) (N := 12) hx hb hts iX4 hown hK hP 0 rfl rfl 3 (by decide) f_23 (fun _ h9 => h9) rfl dX4_paintPoint_35 ?_
      refine lv_iload hx hb dX4_paintPoint_38 (lv_at hl 0 rfl) ?_
      refine lv_aload_n hx hb dX4_paintPoint_40 rfl (lv_at hl 2 rfl) ?_
      refine va_get (D := D) (ci := 4) (v := .ref o1) (C := RX4) (T := TX4) (N := 12) hx hb hts iX4 hown hK hP 0 rfl rfl 3 (by decide) f_23 (fun _ h9 => h9) rfl dX4_paintPoint_41 ?_
      refine lv_iload hx hb dX4_paintPoint_44 (lv_at hl 0 rfl) ?_
      refine q_iald hx hb hK hP 1 0 rfl rfl (k := (((k * ht) * wd) + pt)) (by omega) (by omega) dX4_paintPoint_46 ?_
      refine lv_iload_n hx hb dX4_paintPoint_47 rfl (lv_at hl 5 rfl) ?_
      refine lv_iload hx hb dX4_paintPoint_48 (lv_at hl 6 rfl) ?_
      refine q_i0 (wr := [(o0, .inr (4, [.int (nI wd), .int (nI ht), .int (nI pn), .ref o1, .ref o2, .ref o3, .ref h0, .ref r0, .ref k0, .int (nI bf), .int (nI bt), .int fl])), (o1, .inl (cI, pn * ht * wd, .inl g)), (o3, .inl (cZ, pn, .inl fO))]) (va_runS (As := [.int (g (((k * ht) * wd) + pt)), .int v, .int a]) (rest := [.int (nI (((k * ht) * wd) + pt)), .ref o1]) ⟨hx, hb, hml, hown, hts⟩ (c_X4_blend l D cI cZ cB cJ H.size (g (((k * ht) * wd) + pt)) v a) (va_cwS 3 hts gX4_paintPoint_X4_blend rfl rfl rfl (by decide +kernel) ⟨Nat.le_of_ble_eq_true rfl, Nat.le_of_ble_eq_true rfl⟩) (q_pre (wc := []) hP hD hK hN [] (by decide) rfl) rfl rfl hl.1 rfl (lv_room (Nat.le_of_ble_eq_true rfl)) dX4_paintPoint_50 ⟨Nat.zero_le _, Nat.zero_le _⟩) hS hA hP hD [] [0, 1, 2] rfl rfl (by decide) (by decide) (fun r_50 u H locs hp_50 hP hD hS => ?_)
      have hP : va_P D qCl [(o0, .inr (4, [.int (nI wd), .int (nI ht), .int (nI pn), .ref o1, .ref o2, .ref o3, .ref h0, .ref r0, .ref k0, .int (nI bf), .int (nI bt), .int fl])), (o1, .inl (cI, pn * ht * wd, .inl g)), (o3, .inl (cZ, pn, .inl fO))] H := hP
      have hD : va_D A [(o0, .inr (4, [.int (nI wd), .int (nI ht), .int (nI pn), .ref o1, .ref o2, .ref o3, .ref h0, .ref r0, .ref k0, .int (nI bf), .int (nI bt), .int fl])), (o1, .inl (cI, pn * ht * wd, .inl g)), (o3, .inl (cZ, pn, .inl fO))] := hD
      have hp_50 : r_50 = bldv (g (((k * ht) * wd) + pt)) v a := hp_50
      subst hp_50
      refine q_iast hx hb hK hP hD hS 1 0 rfl rfl (k := (((k * ht) * wd) + pt)) (by omega) (by omega) dX4_paintPoint_53 (fun H locs hP hD hS => ?_)
      have hP : va_P D qCl [(o0, .inr (4, [.int (nI wd), .int (nI ht), .int (nI pn), .ref o1, .ref o2, .ref o3, .ref h0, .ref r0, .ref k0, .int (nI bf), .int (nI bt), .int fl])), (o1, .inl (cI, pn * ht * wd, .inl (upd g (((k * ht) * wd) + pt) (bldv (g (((k * ht) * wd) + pt)) v a)))), (o3, .inl (cZ, pn, .inl fO))] H := hP
      have hD : va_D A [(o0, .inr (4, [.int (nI wd), .int (nI ht), .int (nI pn), .ref o1, .ref o2, .ref o3, .ref h0, .ref r0, .ref k0, .int (nI bf), .int (nI bt), .int fl])), (o1, .inl (cI, pn * ht * wd, .inl (upd g (((k * ht) * wd) + pt) (bldv (g (((k * ht) * wd) + pt)) v a)))), (o3, .inl (cZ, pn, .inl fO))] := hD
      refine lv_goto (tgt := 87) hx hb dX4_paintPoint_54 (by decide) ?_
      refine lv_iinc (v := nI (k + 1)) (lv' := [(5, .int (nI (k + 1))), (6, .int (nI (((k * ht) * wd) + pt))), (0, .ref o0), (1, .int (nI pt)), (2, .int (nI pl)), (3, .int v), (4, .int a)]) hx hb dX4_paintPoint_87 hl (k := 1) rfl (q_inc _) (by decide) rfl (fun ls hl => ?_)
      refine lv_goto (tgt := 3) hx hb dX4_paintPoint_90 (by decide) ?_
      exact ih_3 (k + 1) (upd g (((k * ht) * wd) + pt) (bldv (g (((k * ht) * wd) + pt)) v a)) (by omega) (by omega) (by rw [hg]; show _ = (if k = pl then _ else if fO k = 0 then _ else _); rw [if_pos h_31]) _ _ _ (hP.sub [0, 1, 2] rfl) (hD.sub [0, 1, 2] (by decide) rfl) hS (lv_sub hl [0, 2, 3, 4, 5, 6] rfl)
  exact L_3 _ 0 fB (Nat.lt_succ_self _) (Nat.zero_le _) rfl _ _ _ (hP.sub [0, 1, 2] rfl) (hD.sub [0, 1, 2] (by decide) rfl) hS (lv_sub hl [0, 1, 2, 3, 4, 5] rfl)

abbrev rm_X4_paintRow : Room := { frames := 2, cells := 0, slots := 0, locals := 48 }
set_option maxHeartbeats 4000000 in
set_option maxRecDepth 100000 in
/-- RasterCover.paintRow -/
theorem c_X4_paintRow (l : Launch) (D : va_G) (cI cZ cB cJ : ClassId) (sz : Nat) (o0 : Nat) (o1 : Nat) (o2 : Nat) (o3 : Nat) (h0 : Nat) (r0 : Nat) (k0 : Nat) (wd : Nat) (ht : Nat) (pn : Nat) (bf : Nat) (bt : Nat) (fl : Int32) (r1 : Nat) (z0 : Nat) (un : Nat → Int32) (y : Nat) (pl : Nat) (v : Int32) (fB : Nat → Int32) (fC : Nat → Int32) (fO : Nat → Int32) (hpn : pn ≤ 4) (hht : ht ≤ 48) (hwd : wd ≤ 48) (hpl : pl < 100) (hy : y < ht) : Met l yX4_paintRow wsX4_paintRow rm_X4_paintRow (va_Pc [.ref o0, .int (nI y), .int (nI pl), .int v] (PC D (qT cI cZ cB cJ) [(o0, .inr (4, [.int (nI wd), .int (nI ht), .int (nI pn), .ref o1, .ref o2, .ref o3, .ref h0, .ref r0, .ref k0, .int (nI bf), .int (nI bt), .int fl])), (o1, .inl (cI, pn * ht * wd, .inl fB)), (o2, .inl (cI, ht * wd, .inl fC)), (o3, .inl (cZ, pn, .inl fO)), (r0, .inr (3, [.ref r1, .ref z0])), (r1, .inl (cI, wd, .inl un))] sz)) (va_Qi (fun (r : Int32) (u : Unit) => r = nI ((prow (fun zx => mulv (cvv (un zx)) (fC (y * wd + zx))) (fun zx zk => zk * ht * wd + (y * wd + zx)) fO pl pn v fB wd).2)) (fun (u : Unit) => PO D (qT cI cZ cB cJ) (va_A [(o0, .inr (4, [.int (nI wd), .int (nI ht), .int (nI pn), .ref o1, .ref o2, .ref o3, .ref h0, .ref r0, .ref k0, .int (nI bf), .int (nI bt), .int fl])), (o1, .inl (cI, pn * ht * wd, .inl fB)), (o2, .inl (cI, ht * wd, .inl fC)), (o3, .inl (cZ, pn, .inl fO)), (r0, .inr (3, [.ref r1, .ref z0])), (r1, .inl (cI, wd, .inl un))] sz) [(o0, .inr (4, [.int (nI wd), .int (nI ht), .int (nI pn), .ref o1, .ref o2, .ref o3, .ref h0, .ref r0, .ref k0, .int (nI bf), .int (nI bt), .int fl])), (o1, .inl (cI, pn * ht * wd, .inl ((prow (fun zx => mulv (cvv (un zx)) (fC (y * wd + zx))) (fun zx zk => zk * ht * wd + (y * wd + zx)) fO pl pn v fB wd).1))), (o2, .inl (cI, ht * wd, .inl fC)), (o3, .inl (cZ, pn, .inl fO)), (r0, .inr (3, [.ref r1, .ref z0])), (r1, .inl (cI, wd, .inl un))]) (va_A [(o0, .inr (4, [.int (nI wd), .int (nI ht), .int (nI pn), .ref o1, .ref o2, .ref o3, .ref h0, .ref r0, .ref k0, .int (nI bf), .int (nI bt), .int fl])), (o1, .inl (cI, pn * ht * wd, .inl fB)), (o2, .inl (cI, ht * wd, .inl fC)), (o3, .inl (cZ, pn, .inl fO)), (r0, .inr (3, [.ref r1, .ref z0])), (r1, .inl (cI, wd, .inl un))] sz)) 0 0 (va_A [(o0, .inr (4, [.int (nI wd), .int (nI ht), .int (nI pn), .ref o1, .ref o2, .ref o3, .ref h0, .ref r0, .ref k0, .int (nI bf), .int (nI bt), .int fl])), (o1, .inl (cI, pn * ht * wd, .inl fB)), (o2, .inl (cI, ht * wd, .inl fC)), (o3, .inl (cZ, pn, .inl fO)), (r0, .inr (3, [.ref r1, .ref z0])), (r1, .inl (cI, wd, .inl un))] sz) := by
  refine q_entI (cc := cX4_paintRow) (maxL := 8) (by decide +kernel) rfl (Nat.le_of_ble_eq_true rfl) ?_
  intro p e s m below meth c A Q ls hq hl hQ
  obtain ⟨hx, hb, hml, hts, hown, hin, hN, hK, hsz, hA, hP, hD, hS⟩ := hq
  have hown : s.vm.findClass RX4 = some m.cls := hown
  obtain ⟨H, hH⟩ : ∃ H, H = s.heap := ⟨_, rfl⟩
  rw [← hH] at hP ⊢
  have hS : va_S A s.heap H [] := by rw [hH]; exact va_S.rf
  clear hH
  have hl : lv_has ls 8 [(0, .ref o0), (1, .int (nI y)), (2, .int (nI pl)), (3, .int v)] := hl
  have iX4 : ∀ w ∈ wsX40, w ∈ wsX4_paintRow := by decide +kernel
  have f_13 := hts (.fieldLink RX4 13 "RasterCover" "width" "I") (by decide +kernel)
  have f_46 := hts (.fieldLink RX4 46 "RasterCover" "rowCover" "LRasterCover$RowCover;") (by decide +kernel)
  have in_X3 := hts (.initialized RX3) (by decide +kernel)
  have im_124 := hts (.instanceMethod yX3_at) (by decide +kernel)
  have se_124 := hts (.selects RX3 yX3_at yX3_at) (by decide +kernel)
  have f_27 := hts (.fieldLink RX4 27 "RasterCover" "clips" "[I") (by decide +kernel)
  have hb1 := Nat.mul_le_mul hht hwd
  have hb3 : (y + 1) * wd ≤ ht * wd := Nat.mul_le_mul_right _ (show y + 1 ≤ ht by omega)
  rw [Nat.add_mul, Nat.one_mul] at hb3
  refine lv_iconst (v := nI 0) hx hb dX4_paintRow_0 (by decide) ?_
  refine lv_istore (lv' := [(4, .int (nI 0)), (0, .ref o0), (1, .int (nI y)), (2, .int (nI pl)), (3, .int v)]) hx hb dX4_paintRow_1 hl (by decide) rfl (fun ls hl => ?_)
  refine lv_iconst (v := nI 0) hx hb dX4_paintRow_3 (by decide) ?_
  refine lv_istore (lv' := [(5, .int (nI 0)), (4, .int (nI 0)), (0, .ref o0), (1, .int (nI y)), (2, .int (nI pl)), (3, .int v)]) hx hb dX4_paintRow_4 hl (by decide) rfl (fun ls hl => ?_)
  have L_6 : ∀ (fuel : Nat) (k : Nat) (g : Nat → Int32) (q : Nat), wd - k < fuel → (k ≤ wd) → (q ≤ k) → (g = (prow (fun zx => mulv (cvv (un zx)) (fC (y * wd + zx))) (fun zx zk => zk * ht * wd + (y * wd + zx)) fO pl pn v fB k).1) → (q = (prow (fun zx => mulv (cvv (un zx)) (fC (y * wd + zx))) (fun zx zk => zk * ht * wd + (y * wd + zx)) fO pl pn v fB k).2) → ∀ (H : Heap) (locs : List Loc) (ls : Array Slot), va_P D qCl [(o0, .inr (4, [.int (nI wd), .int (nI ht), .int (nI pn), .ref o1, .ref o2, .ref o3, .ref h0, .ref r0, .ref k0, .int (nI bf), .int (nI bt), .int fl])), (o1, .inl (cI, pn * ht * wd, .inl g)), (o2, .inl (cI, ht * wd, .inl fC)), (o3, .inl (cZ, pn, .inl fO)), (r0, .inr (3, [.ref r1, .ref z0])), (r1, .inl (cI, wd, .inl un))] H → va_D A [(o0, .inr (4, [.int (nI wd), .int (nI ht), .int (nI pn), .ref o1, .ref o2, .ref o3, .ref h0, .ref r0, .ref k0, .int (nI bf), .int (nI bt), .int fl])), (o1, .inl (cI, pn * ht * wd, .inl g)), (o2, .inl (cI, ht * wd, .inl fC)), (o3, .inl (cZ, pn, .inl fO)), (r0, .inr (3, [.ref r1, .ref z0])), (r1, .inl (cI, wd, .inl un))] → va_S A s.heap H locs → lv_has ls 8 [(5, .int (nI k)), (4, .int (nI q)), (0, .ref o0), (1, .int (nI y)), (2, .int (nI pl)), (3, .int v)] → W p l e rm_X4_paintRow s m ([.ref o0, .int (nI y), .int (nI pl), .int v] : List Value).toArray below meth c H locs 0 0 Q (F0 m 6 ls []) := by
    intro fuel
    induction fuel with
    | zero =>
      intro k g q hm
      exact absurd hm (Nat.not_lt_zero _)
    | succ fuel ih_6 =>
      intro k g q hm_6 hk hq9 hg hq H locs ls hP hD hS hl
      refine lv_iload hx hb dX4_paintRow_6 (lv_at hl 0 rfl) ?_
      refine lv_aload_n hx hb dX4_paintRow_8 rfl (lv_at hl 2 rfl) ?_
      refine va_get (D := D) (ci := 4) (v := .int (nI wd)) (C := RX4) (T := TX4) (N := 12) hx hb hts iX4 hown hK hP 0 rfl rfl 0 (by decide) f_13 (fun _ h9 => h9) rfl dX4_paintRow_9 ?_
      refine q_ge (tgt := 71) hx hb (by omega) (by omega) dX4_paintRow_12 (by decide) (fun h_12 => ?_) (fun h_12 => ?_)
      · refine lv_iload hx hb dX4_paintRow_71 (lv_at hl 1 rfl) ?_
        have e9 : k = wd := by omega
        rw [e9] at hg hq
        subst hg
        have hr9 : (nI q) = nI ((prow (fun zx => mulv (cvv (un zx)) (fC (y * wd + zx))) (fun zx zk => zk * ht * wd + (y * wd + zx)) fO pl pn v fB wd).2) := (congrArg nI hq)
        exact hQ _ _ _ _ (nI q) () _ _ dX4_paintRow_73 (Nat.le_refl _) (Nat.le_refl _) hr9 (hP.sub [0, 1, 2, 3, 4, 5] rfl) hK (hD.sub [0, 1, 2, 3, 4, 5] (by decide) rfl) hS
      refine lv_iload_n hx hb dX4_paintRow_15 rfl (lv_at hl 3 rfl) ?_
      refine lv_aload_n hx hb dX4_paintRow_16 rfl (lv_at hl 2 rfl) ?_
      refine va_get (D := D) (ci := 4) (v := .int (nI wd)) (C := RX4) (T := TX4) (N := 12) hx hb hts iX4 hown hK hP 0 rfl rfl 0 (by decide) f_13 (fun _ h9 => h9) rfl dX4_paintRow_17 ?_
      refine lv_imul hx hb dX4_paintRow_20 ?_
      refine q_eqi (pk_mul _ _) ?_
      refine lv_iload hx hb dX4_paintRow_21 (lv_at hl 0 rfl) ?_
      refine lv_iadd hx hb dX4_paintRow_23 ?_
      refine q_eqi (nI_add _ _) ?_
      refine lv_istore (lv' := [(6, .int (nI ((y * wd) + k))), (5, .int (nI k)), (4, .int (nI q)), (0, .ref o0), (1, .int (nI y)), (2, .int (nI pl)), (3, .int v)]) hx hb dX4_paintRow_24 hl (by decide) rfl (fun ls hl => ?_)
      have J_65 : ∀ (g2 : Nat → Int32) (q2 : Nat), (q2 ≤ k + 1) → (g2 = (prow (fun zx => mulv (cvv (un zx)) (fC (y * wd + zx))) (fun zx zk => zk * ht * wd + (y * wd + zx)) fO pl pn v fB (k + 1)).1) → (q2 = (prow (fun zx => mulv (cvv (un zx)) (fC (y * wd + zx))) (fun zx zk => zk * ht * wd + (y * wd + zx)) fO pl pn v fB (k + 1)).2) → ∀ (H : Heap) (locs : List Loc) (ls : Array Slot), va_P D qCl [(o0, .inr (4, [.int (nI wd), .int (nI ht), .int (nI pn), .ref o1, .ref o2, .ref o3, .ref h0, .ref r0, .ref k0, .int (nI bf), .int (nI bt), .int fl])), (o1, .inl (cI, pn * ht * wd, .inl g2)), (o2, .inl (cI, ht * wd, .inl fC)), (o3, .inl (cZ, pn, .inl fO)), (r0, .inr (3, [.ref r1, .ref z0])), (r1, .inl (cI, wd, .inl un))] H → va_D A [(o0, .inr (4, [.int (nI wd), .int (nI ht), .int (nI pn), .ref o1, .ref o2, .ref o3, .ref h0, .ref r0, .ref k0, .int (nI bf), .int (nI bt), .int fl])), (o1, .inl (cI, pn * ht * wd, .inl g2)), (o2, .inl (cI, ht * wd, .inl fC)), (o3, .inl (cZ, pn, .inl fO)), (r0, .inr (3, [.ref r1, .ref z0])), (r1, .inl (cI, wd, .inl un))] → va_S A s.heap H locs → lv_has ls 8 [(6, .int (nI ((y * wd) + k))), (5, .int (nI k)), (4, .int (nI q2)), (0, .ref o0), (1, .int (nI y)), (2, .int (nI pl)), (3, .int v)] → W p l e rm_X4_paintRow s m ([.ref o0, .int (nI y), .int (nI pl), .int v] : List Value).toArray below meth c H locs 0 0 Q (F0 m 65 ls []) := by
        intro g2 q2 hq8 hg2 hq2 H locs ls hP hD hS hl
        refine lv_iinc (v := nI (k + 1)) (lv' := [(5, .int (nI (k + 1))), (6, .int (nI ((y * wd) + k))), (4, .int (nI q2)), (0, .ref o0), (1, .int (nI y)), (2, .int (nI pl)), (3, .int v)]) hx hb dX4_paintRow_65 hl (k := 1) rfl (q_inc _) (by decide) rfl (fun ls hl => ?_)
        refine lv_goto (tgt := 6) hx hb dX4_paintRow_68 (by decide) ?_
        exact ih_6 (k + 1) g2 q2 (by omega) (by omega) (by omega) hg2 hq2 _ _ _ (hP.sub [0, 1, 2, 3, 4, 5] rfl) (hD.sub [0, 1, 2, 3, 4, 5] (by decide) rfl) hS (lv_sub hl [0, 2, 3, 4, 5, 6] rfl)
      refine lv_aload_n hx hb dX4_paintRow_26 rfl (lv_at hl 3 rfl) ?_
      refine va_get (D := D) (ci := 4) (v := .ref r0) (C := RX4) (T := TX4) (N := 12) hx hb hts iX4 hown hK hP 0 rfl rfl 7 (by decide) f_46 (fun _ h9 => h9) rfl dX4_paintRow_27 ?_
      refine lv_iload hx hb dX4_paintRow_30 (lv_at hl 1 rfl) ?_
      refine q_i0 (wr := [(o0, .inr (4, [.int (nI wd), .int (nI ht), .int (nI pn), .ref o1, .ref o2, .ref o3, .ref h0, .ref r0, .ref k0, .int (nI bf), .int (nI bt), .int fl])), (o1, .inl (cI, pn * ht * wd, .inl g)), (o2, .inl (cI, ht * wd, .inl fC)), (o3, .inl (cZ, pn, .inl fO))]) (va_runVN (As := [.int (nI k)]) (rest := []) ⟨hx, hb, hml, hown, hts⟩ (c_X3_at l D cI cZ cB cJ H.size r0 r1 z0 wd un k (by omega) (by omega)) ⟨va_cnB 1 hts gX4_paintRow_X3_at_n124 rfl rfl rfl (NW.w hN 19 rfl) in_X3 (by decide +kernel) ⟨Nat.le_of_ble_eq_true rfl, Nat.le_of_ble_eq_true rfl⟩, im_124, se_124⟩ (q_preV (q_pre (wc := [(r0, .inr (3, [.ref r1, .ref z0])), (r1, .inl (cI, wd, .inl un))]) hP hD hK hN [4, 5] (by decide) rfl) (va_recv hK hP (ci := 3) (q0 := 4) rfl rfl)) rfl rfl hl.1 rfl (lv_room (Nat.le_of_ble_eq_true rfl)) dX4_paintRow_32 ⟨Nat.zero_le _, Nat.zero_le _⟩) hS hA hP hD [4, 5] [0, 1, 2, 3] rfl rfl (by decide) (by decide) (fun r_32 u H locs hp_32 hP hD hS => ?_)
      have hP : va_P D qCl [(o0, .inr (4, [.int (nI wd), .int (nI ht), .int (nI pn), .ref o1, .ref o2, .ref o3, .ref h0, .ref r0, .ref k0, .int (nI bf), .int (nI bt), .int fl])), (o1, .inl (cI, pn * ht * wd, .inl g)), (o2, .inl (cI, ht * wd, .inl fC)), (o3, .inl (cZ, pn, .inl fO)), (r0, .inr (3, [.ref r1, .ref z0])), (r1, .inl (cI, wd, .inl un))] H := hP
      have hD : va_D A [(o0, .inr (4, [.int (nI wd), .int (nI ht), .int (nI pn), .ref o1, .ref o2, .ref o3, .ref h0, .ref r0, .ref k0, .int (nI bf), .int (nI bt), .int fl])), (o1, .inl (cI, pn * ht * wd, .inl g)), (o2, .inl (cI, ht * wd, .inl fC)), (o3, .inl (cZ, pn, .inl fO)), (r0, .inr (3, [.ref r1, .ref z0])), (r1, .inl (cI, wd, .inl un))] := hD
      have hp_32 : r_32 = cvv (un k) := hp_32
      subst hp_32
      refine lv_aload_n hx hb dX4_paintRow_35 rfl (lv_at hl 3 rfl) ?_
      refine va_get (D := D) (ci := 4) (v := .ref o2) (C := RX4) (T := TX4) (N := 12) hx hb hts iX4 hown hK hP 0 rfl rfl 4 (by decide) f_27 (fun _ h9 => h9) rfl dX4_paintRow_36 ?_
      refine lv_iload hx hb dX4_paintRow_39 (lv_at hl 0 rfl) ?_
      refine q_iald hx hb hK hP 2 0 rfl rfl (k := ((y * wd) + k)) (by omega) (by omega) dX4_paintRow_41 ?_
      refine q_i0 (wr := [(o0, .inr (4, [.int (nI wd), .int (nI ht), .int (nI pn), .ref o1, .ref o2, .ref o3, .ref h0, .ref r0, .ref k0, .int (nI bf), .int (nI bt), .int fl])), (o1, .inl (cI, pn * ht * wd, .inl g)), (o2, .inl (cI, ht * wd, .inl fC)), (o3, .inl (cZ, pn, .inl fO)), (r0, .inr (3, [.ref r1, .ref z0])), (r1, .inl (cI, wd, .inl un))]) (va_runS (As := [.int (cvv (un k)), .int (fC ((y * wd) + k))]) (rest := []) ⟨hx, hb, hml, hown, hts⟩ (c_X4_mul l D cI cZ cB cJ H.size (cvv (un k)) (fC ((y * wd) + k))) (va_cwS 2 hts gX4_paintRow_X4_mul rfl rfl rfl (by decide +kernel) ⟨Nat.le_of_ble_eq_true rfl, Nat.le_of_ble_eq_true rfl⟩) (q_pre (wc := []) hP hD hK hN [] (by decide) rfl) rfl rfl hl.1 rfl (lv_room (Nat.le_of_ble_eq_true rfl)) dX4_paintRow_42 ⟨Nat.zero_le _, Nat.zero_le _⟩) hS hA hP hD [] [0, 1, 2, 3, 4, 5] rfl rfl (by decide) (by decide) (fun r_42 u H locs hp_42 hP hD hS => ?_)
      have hP : va_P D qCl [(o0, .inr (4, [.int (nI wd), .int (nI ht), .int (nI pn), .ref o1, .ref o2, .ref o3, .ref h0, .ref r0, .ref k0, .int (nI bf), .int (nI bt), .int fl])), (o1, .inl (cI, pn * ht * wd, .inl g)), (o2, .inl (cI, ht * wd, .inl fC)), (o3, .inl (cZ, pn, .inl fO)), (r0, .inr (3, [.ref r1, .ref z0])), (r1, .inl (cI, wd, .inl un))] H := hP
      have hD : va_D A [(o0, .inr (4, [.int (nI wd), .int (nI ht), .int (nI pn), .ref o1, .ref o2, .ref o3, .ref h0, .ref r0, .ref k0, .int (nI bf), .int (nI bt), .int fl])), (o1, .inl (cI, pn * ht * wd, .inl g)), (o2, .inl (cI, ht * wd, .inl fC)), (o3, .inl (cZ, pn, .inl fO)), (r0, .inr (3, [.ref r1, .ref z0])), (r1, .inl (cI, wd, .inl un))] := hD
      have hp_42 : r_42 = mulv (cvv (un k)) (fC ((y * wd) + k)) := hp_42
      subst hp_42
      refine lv_istore (lv' := [(7, .int (mulv (cvv (un k)) (fC ((y * wd) + k)))), (6, .int (nI ((y * wd) + k))), (5, .int (nI k)), (4, .int (nI q)), (0, .ref o0), (1, .int (nI y)), (2, .int (nI pl)), (3, .int v)]) hx hb dX4_paintRow_45 hl (by decide) rfl (fun ls hl => ?_)
      refine lv_iload hx hb dX4_paintRow_47 (lv_at hl 0 rfl) ?_
      refine lv_if_le (tgt := 65) hx hb dX4_paintRow_49 (by decide) (fun h_49 => ?_) (fun h_49 => ?_)
      · have h_49 : ¬ 0 < mulv (cvv (un k)) (fC (y * wd + k)) := fun z => by rw [i_le] at h_49; rw [i_lt] at z; omega
        exact J_65 g q (by omega) (by show _ = (if 0 < mulv (cvv (un k)) (fC (y * wd + k)) then _ else _ : (Nat → Int32) × Nat).1; rw [if_neg h_49]; exact hg) (by show _ = (if 0 < mulv (cvv (un k)) (fC (y * wd + k)) then _ else _ : (Nat → Int32) × Nat).2; rw [if_neg h_49]; exact hq) _ _ _ (hP.sub [0, 1, 2, 3, 4, 5] rfl) (hD.sub [0, 1, 2, 3, 4, 5] (by decide) rfl) hS (lv_sub hl [1, 2, 3, 4, 5, 6, 7] rfl)
      have h_49 : 0 < mulv (cvv (un k)) (fC (y * wd + k)) := by rw [i_le] at h_49; rw [i_lt]; omega
      refine lv_aload_n hx hb dX4_paintRow_52 rfl (lv_at hl 4 rfl) ?_
      refine lv_iload hx hb dX4_paintRow_53 (lv_at hl 1 rfl) ?_
      refine lv_iload_n hx hb dX4_paintRow_55 rfl (lv_at hl 6 rfl) ?_
      refine lv_iload_n hx hb dX4_paintRow_56 rfl (lv_at hl 7 rfl) ?_
      refine lv_iload hx hb dX4_paintRow_57 (lv_at hl 0 rfl) ?_
      refine q_v0 (wr := [(o2, .inl (cI, ht * wd, .inl fC)), (r0, .inr (3, [.ref r1, .ref z0])), (r1, .inl (cI, wd, .inl un))]) (va_runV (As := [.int (nI ((y * wd) + k)), .int (nI pl), .int v, .int (mulv (cvv (un k)) (fC ((y * wd) + k)))]) (rest := []) ⟨hx, hb, hml, hown, hts⟩ (c_X4_paintPoint l D cI cZ cB cJ H.size o0 o1 o2 o3 h0 r0 k0 wd ht pn bf bt fl ((y * wd) + k) pl v (mulv (cvv (un k)) (fC ((y * wd) + k))) g fO hpn hht hwd hpl (by omega)) (cwV 4 hts gX4_paintRow_X4_paintPoint rfl rfl rfl (by decide +kernel) ⟨Nat.le_of_ble_eq_true rfl, Nat.le_of_ble_eq_true rfl⟩) (q_preV (q_pre (wc := [(o0, .inr (4, [.int (nI wd), .int (nI ht), .int (nI pn), .ref o1, .ref o2, .ref o3, .ref h0, .ref r0, .ref k0, .int (nI bf), .int (nI bt), .int fl])), (o1, .inl (cI, pn * ht * wd, .inl g)), (o3, .inl (cZ, pn, .inl fO))]) hP hD hK hN [0, 1, 3] (by decide) rfl) (va_recv hK hP (ci := 4) (q0 := 0) rfl rfl)) rfl rfl hl.1 rfl (lv_room (Nat.le_of_ble_eq_true rfl)) dX4_paintRow_59 ⟨Nat.zero_le _, Nat.zero_le _⟩) hS hA hP hD [0, 1, 3] [2, 4, 5] rfl rfl (by decide) (by decide) (fun u H locs hp_59 hP hD hS => ?_)
      have hP : va_P D qCl [(o2, .inl (cI, ht * wd, .inl fC)), (r0, .inr (3, [.ref r1, .ref z0])), (r1, .inl (cI, wd, .inl un)), (o0, .inr (4, [.int (nI wd), .int (nI ht), .int (nI pn), .ref o1, .ref o2, .ref o3, .ref h0, .ref r0, .ref k0, .int (nI bf), .int (nI bt), .int fl])), (o1, .inl (cI, pn * ht * wd, .inl (ppt (fun zk => zk * ht * wd + ((y * wd) + k)) fO pl v (mulv (cvv (un k)) (fC ((y * wd) + k))) g pn))), (o3, .inl (cZ, pn, .inl fO))] H := hP
      have hD : va_D A [(o2, .inl (cI, ht * wd, .inl fC)), (r0, .inr (3, [.ref r1, .ref z0])), (r1, .inl (cI, wd, .inl un)), (o0, .inr (4, [.int (nI wd), .int (nI ht), .int (nI pn), .ref o1, .ref o2, .ref o3, .ref h0, .ref r0, .ref k0, .int (nI bf), .int (nI bt), .int fl])), (o1, .inl (cI, pn * ht * wd, .inl (ppt (fun zk => zk * ht * wd + ((y * wd) + k)) fO pl v (mulv (cvv (un k)) (fC ((y * wd) + k))) g pn))), (o3, .inl (cZ, pn, .inl fO))] := hD
      refine lv_iinc (v := nI (q + 1)) (lv' := [(4, .int (nI (q + 1))), (7, .int (mulv (cvv (un k)) (fC ((y * wd) + k)))), (6, .int (nI ((y * wd) + k))), (5, .int (nI k)), (0, .ref o0), (1, .int (nI y)), (2, .int (nI pl)), (3, .int v)]) hx hb dX4_paintRow_62 hl (k := 3) rfl (q_inc _) (by decide) rfl (fun ls hl => ?_)
      exact J_65 (ppt (fun zk => zk * ht * wd + ((y * wd) + k)) fO pl v (mulv (cvv (un k)) (fC ((y * wd) + k))) g pn) (q + 1) (by omega) (by show _ = (if 0 < mulv (cvv (un k)) (fC (y * wd + k)) then _ else _ : (Nat → Int32) × Nat).1; rw [if_pos h_49, hg]) (by show _ = (if 0 < mulv (cvv (un k)) (fC (y * wd + k)) then _ else _ : (Nat → Int32) × Nat).2; rw [if_pos h_49, hq]) _ _ _ (hP.sub [3, 4, 0, 5, 1, 2] rfl) (hD.sub [3, 4, 0, 5, 1, 2] (by decide) rfl) hS (lv_sub hl [2, 3, 0, 4, 5, 6, 7] rfl)
  exact L_6 _ 0 fB 0 (Nat.lt_succ_self _) (Nat.zero_le _) (Nat.le_refl _) rfl rfl _ _ _ (hP.sub [0, 1, 2, 3, 4, 5] rfl) (hD.sub [0, 1, 2, 3, 4, 5] (by decide) rfl) hS (lv_sub hl [0, 1, 2, 3, 4, 5] rfl)

abbrev rm_X4_clipRow : Room := { frames := 1, cells := 0, slots := 0, locals := 21 }
set_option maxHeartbeats 4000000 in
set_option maxRecDepth 100000 in
/-- RasterCover.clipRow -/
theorem c_X4_clipRow (l : Launch) (D : va_G) (cI cZ cB cJ : ClassId) (sz : Nat) (o0 : Nat) (o1 : Nat) (o2 : Nat) (o3 : Nat) (h0 : Nat) (r0 : Nat) (k0 : Nat) (wd : Nat) (ht : Nat) (pn : Nat) (bf : Nat) (bt : Nat) (fl : Int32) (r1 : Nat) (z0 : Nat) (un : Nat → Int32) (y : Nat) (fC : Nat → Int32) (hht : ht ≤ 48) (hwd : wd ≤ 48) (hy : y < ht) : Met l yX4_clipRow wsX4_clipRow rm_X4_clipRow (va_Pc [.ref o0, .int (nI y)] (PC D (qT cI cZ cB cJ) [(o0, .inr (4, [.int (nI wd), .int (nI ht), .int (nI pn), .ref o1, .ref o2, .ref o3, .ref h0, .ref r0, .ref k0, .int (nI bf), .int (nI bt), .int fl])), (o2, .inl (cI, ht * wd, .inl fC)), (r0, .inr (3, [.ref r1, .ref z0])), (r1, .inl (cI, wd, .inl un))] sz)) (va_Qi (fun (r : Int32) (u : Unit) => r = nI ((crow (fun zx => cvv (un zx)) (fun zx => y * wd + zx) fC wd).2)) (fun (u : Unit) => PO D (qT cI cZ cB cJ) (va_A [(o0, .inr (4, [.int (nI wd), .int (nI ht), .int (nI pn), .ref o1, .ref o2, .ref o3, .ref h0, .ref r0, .ref k0, .int (nI bf), .int (nI bt), .int fl])), (o2, .inl (cI, ht * wd, .inl fC)), (r0, .inr (3, [.ref r1, .ref z0])), (r1, .inl (cI, wd, .inl un))] sz) [(o0, .inr (4, [.int (nI wd), .int (nI ht), .int (nI pn), .ref o1, .ref o2, .ref o3, .ref h0, .ref r0, .ref k0, .int (nI bf), .int (nI bt), .int fl])), (o2, .inl (cI, ht * wd, .inl ((crow (fun zx => cvv (un zx)) (fun zx => y * wd + zx) fC wd).1))), (r0, .inr (3, [.ref r1, .ref z0])), (r1, .inl (cI, wd, .inl un))]) (va_A [(o0, .inr (4, [.int (nI wd), .int (nI ht), .int (nI pn), .ref o1, .ref o2, .ref o3, .ref h0, .ref r0, .ref k0, .int (nI bf), .int (nI bt), .int fl])), (o2, .inl (cI, ht * wd, .inl fC)), (r0, .inr (3, [.ref r1, .ref z0])), (r1, .inl (cI, wd, .inl un))] sz)) 0 0 (va_A [(o0, .inr (4, [.int (nI wd), .int (nI ht), .int (nI pn), .ref o1, .ref o2, .ref o3, .ref h0, .ref r0, .ref k0, .int (nI bf), .int (nI bt), .int fl])), (o2, .inl (cI, ht * wd, .inl fC)), (r0, .inr (3, [.ref r1, .ref z0])), (r1, .inl (cI, wd, .inl un))] sz) := by
  refine q_entI (cc := cX4_clipRow) (maxL := 5) (by decide +kernel) rfl (Nat.le_of_ble_eq_true rfl) ?_
  intro p e s m below meth c A Q ls hq hl hQ
  obtain ⟨hx, hb, hml, hts, hown, hin, hN, hK, hsz, hA, hP, hD, hS⟩ := hq
  have hown : s.vm.findClass RX4 = some m.cls := hown
  obtain ⟨H, hH⟩ : ∃ H, H = s.heap := ⟨_, rfl⟩
  rw [← hH] at hP ⊢
  have hS : va_S A s.heap H [] := by rw [hH]; exact va_S.rf
  clear hH
  have hl : lv_has ls 5 [(0, .ref o0), (1, .int (nI y))] := hl
  have iX4 : ∀ w ∈ wsX40, w ∈ wsX4_clipRow := by decide +kernel
  have f_13 := hts (.fieldLink RX4 13 "RasterCover" "width" "I") (by decide +kernel)
  have f_27 := hts (.fieldLink RX4 27 "RasterCover" "clips" "[I") (by decide +kernel)
  have f_46 := hts (.fieldLink RX4 46 "RasterCover" "rowCover" "LRasterCover$RowCover;") (by decide +kernel)
  have in_X3 := hts (.initialized RX3) (by decide +kernel)
  have im_124 := hts (.instanceMethod yX3_at) (by decide +kernel)
  have se_124 := hts (.selects RX3 yX3_at yX3_at) (by decide +kernel)
  have hb1 := Nat.mul_le_mul hht hwd
  have hb3 : (y + 1) * wd ≤ ht * wd := Nat.mul_le_mul_right _ (show y + 1 ≤ ht by omega)
  rw [Nat.add_mul, Nat.one_mul] at hb3
  refine lv_iconst (v := nI 0) hx hb dX4_clipRow_0 (by decide) ?_
  refine lv_istore_n (lv' := [(2, .int (nI 0)), (0, .ref o0), (1, .int (nI y))]) hx hb dX4_clipRow_1 rfl hl (by decide) rfl (fun ls hl => ?_)
  refine lv_iconst (v := nI 0) hx hb dX4_clipRow_2 (by decide) ?_
  refine lv_istore_n (lv' := [(3, .int (nI 0)), (2, .int (nI 0)), (0, .ref o0), (1, .int (nI y))]) hx hb dX4_clipRow_3 rfl hl (by decide) rfl (fun ls hl => ?_)
  have L_4 : ∀ (fuel : Nat) (k : Nat) (g : Nat → Int32) (q : Nat), wd - k < fuel → (k ≤ wd) → (q ≤ k) → (g = (crow (fun zx => cvv (un zx)) (fun zx => y * wd + zx) fC k).1) → (q = (crow (fun zx => cvv (un zx)) (fun zx => y * wd + zx) fC k).2) → ∀ (H : Heap) (locs : List Loc) (ls : Array Slot), va_P D qCl [(o0, .inr (4, [.int (nI wd), .int (nI ht), .int (nI pn), .ref o1, .ref o2, .ref o3, .ref h0, .ref r0, .ref k0, .int (nI bf), .int (nI bt), .int fl])), (o2, .inl (cI, ht * wd, .inl g)), (r0, .inr (3, [.ref r1, .ref z0])), (r1, .inl (cI, wd, .inl un))] H → va_D A [(o0, .inr (4, [.int (nI wd), .int (nI ht), .int (nI pn), .ref o1, .ref o2, .ref o3, .ref h0, .ref r0, .ref k0, .int (nI bf), .int (nI bt), .int fl])), (o2, .inl (cI, ht * wd, .inl g)), (r0, .inr (3, [.ref r1, .ref z0])), (r1, .inl (cI, wd, .inl un))] → va_S A s.heap H locs → lv_has ls 5 [(3, .int (nI k)), (2, .int (nI q)), (0, .ref o0), (1, .int (nI y))] → W p l e rm_X4_clipRow s m ([.ref o0, .int (nI y)] : List Value).toArray below meth c H locs 0 0 Q (F0 m 4 ls []) := by
    intro fuel
    induction fuel with
    | zero =>
      intro k g q hm
      exact absurd hm (Nat.not_lt_zero _)
    | succ fuel ih_4 =>
      intro k g q hm_4 hk hq9 hg hq H locs ls hP hD hS hl
      refine lv_iload_n hx hb dX4_clipRow_4 rfl (lv_at hl 0 rfl) ?_
      refine lv_aload_n hx hb dX4_clipRow_5 rfl (lv_at hl 2 rfl) ?_
      refine va_get (D := D) (ci := 4) (v := .int (nI wd)) (C := RX4) (T := TX4) (N := 12) hx hb hts iX4 hown hK hP 0 rfl rfl 0 (by decide) f_13 (fun _ h9 => h9) rfl dX4_clipRow_6 ?_
      refine q_ge (tgt := 66) hx hb (by omega) (by omega) dX4_clipRow_9 (by decide) (fun h_9 => ?_) (fun h_9 => ?_)
      · refine lv_iload_n hx hb dX4_clipRow_66 rfl (lv_at hl 1 rfl) ?_
        have e9 : k = wd := by omega
        rw [e9] at hg hq
        subst hg
        have hr9 : (nI q) = nI ((crow (fun zx => cvv (un zx)) (fun zx => y * wd + zx) fC wd).2) := (congrArg nI hq)
        exact hQ _ _ _ _ (nI q) () _ _ dX4_clipRow_67 (Nat.le_refl _) (Nat.le_refl _) hr9 (hP.sub [0, 1, 2, 3] rfl) hK (hD.sub [0, 1, 2, 3] (by decide) rfl) hS
      refine lv_iload_n hx hb dX4_clipRow_12 rfl (lv_at hl 3 rfl) ?_
      refine lv_aload_n hx hb dX4_clipRow_13 rfl (lv_at hl 2 rfl) ?_
      refine va_get (D := D) (ci := 4) (v := .int (nI wd)) (C := RX4) (T := TX4) (N := 12) hx hb hts iX4 hown hK hP 0 rfl rfl 0 (by decide) f_13 (fun _ h9 => h9) rfl dX4_clipRow_14 ?_
      refine lv_imul hx hb dX4_clipRow_17 ?_
      refine q_eqi (pk_mul _ _) ?_
      refine lv_iload_n hx hb dX4_clipRow_18 rfl (lv_at hl 0 rfl) ?_
      refine lv_iadd hx hb dX4_clipRow_19 ?_
      refine q_eqi (nI_add _ _) ?_
      refine lv_istore (lv' := [(4, .int (nI ((y * wd) + k))), (3, .int (nI k)), (2, .int (nI q)), (0, .ref o0), (1, .int (nI y))]) hx hb dX4_clipRow_20 hl (by decide) rfl (fun ls hl => ?_)
      have J_60 : ∀ (g2 : Nat → Int32) (q2 : Nat), (q2 ≤ k + 1) → (g2 = (crow (fun zx => cvv (un zx)) (fun zx => y * wd + zx) fC (k + 1)).1) → (q2 = (crow (fun zx => cvv (un zx)) (fun zx => y * wd + zx) fC (k + 1)).2) → ∀ (H : Heap) (locs : List Loc) (ls : Array Slot), va_P D qCl [(o0, .inr (4, [.int (nI wd), .int (nI ht), .int (nI pn), .ref o1, .ref o2, .ref o3, .ref h0, .ref r0, .ref k0, .int (nI bf), .int (nI bt), .int fl])), (o2, .inl (cI, ht * wd, .inl g2)), (r0, .inr (3, [.ref r1, .ref z0])), (r1, .inl (cI, wd, .inl un))] H → va_D A [(o0, .inr (4, [.int (nI wd), .int (nI ht), .int (nI pn), .ref o1, .ref o2, .ref o3, .ref h0, .ref r0, .ref k0, .int (nI bf), .int (nI bt), .int fl])), (o2, .inl (cI, ht * wd, .inl g2)), (r0, .inr (3, [.ref r1, .ref z0])), (r1, .inl (cI, wd, .inl un))] → va_S A s.heap H locs → lv_has ls 5 [(4, .int (nI ((y * wd) + k))), (3, .int (nI k)), (2, .int (nI q2)), (0, .ref o0), (1, .int (nI y))] → W p l e rm_X4_clipRow s m ([.ref o0, .int (nI y)] : List Value).toArray below meth c H locs 0 0 Q (F0 m 60 ls []) := by
        intro g2 q2 hq8 hg2 hq2 H locs ls hP hD hS hl
        refine lv_iinc (v := nI (k + 1)) (lv' := [(3, .int (nI (k + 1))), (4, .int (nI ((y * wd) + k))), (2, .int (nI q2)), (0, .ref o0), (1, .int (nI y))]) hx hb dX4_clipRow_60 hl (k := 1) rfl (q_inc _) (by decide) rfl (fun ls hl => ?_)
        refine lv_goto (tgt := 4) hx hb dX4_clipRow_63 (by decide) ?_
        exact ih_4 (k + 1) g2 q2 (by omega) (by omega) (by omega) hg2 hq2 _ _ _ (hP.sub [0, 1, 2, 3] rfl) (hD.sub [0, 1, 2, 3] (by decide) rfl) hS (lv_sub hl [0, 2, 3, 4] rfl)
      refine lv_aload_n hx hb dX4_clipRow_22 rfl (lv_at hl 3 rfl) ?_
      refine va_get (D := D) (ci := 4) (v := .ref o2) (C := RX4) (T := TX4) (N := 12) hx hb hts iX4 hown hK hP 0 rfl rfl 4 (by decide) f_27 (fun _ h9 => h9) rfl dX4_clipRow_23 ?_
      refine lv_iload hx hb dX4_clipRow_26 (lv_at hl 0 rfl) ?_
      refine lv_aload_n hx hb dX4_clipRow_28 rfl (lv_at hl 3 rfl) ?_
      refine va_get (D := D) (ci := 4) (v := .ref o2) (C := RX4) (T := TX4) (N := 12) hx hb hts iX4 hown hK hP 0 rfl rfl 4 (by decide) f_27 (fun _ h9 => h9) rfl dX4_clipRow_29 ?_
      refine lv_iload hx hb dX4_clipRow_32 (lv_at hl 0 rfl) ?_
      refine q_iald hx hb hK hP 1 0 rfl rfl (k := ((y * wd) + k)) (by omega) (by omega) dX4_clipRow_34 ?_
      refine lv_aload_n hx hb dX4_clipRow_35 rfl (lv_at hl 3 rfl) ?_
      refine va_get (D := D) (ci := 4) (v := .ref r0) (C := RX4) (T := TX4) (N := 12) hx hb hts iX4 hown hK hP 0 rfl rfl 7 (by decide) f_46 (fun _ h9 => h9) rfl dX4_clipRow_36 ?_
      refine lv_iload_n hx hb dX4_clipRow_39 rfl (lv_at hl 1 rfl) ?_
      refine q_i0 (wr := [(o0, .inr (4, [.int (nI wd), .int (nI ht), .int (nI pn), .ref o1, .ref o2, .ref o3, .ref h0, .ref r0, .ref k0, .int (nI bf), .int (nI bt), .int fl])), (o2, .inl (cI, ht * wd, .inl g))]) (va_runVN (As := [.int (nI k)]) (rest := [.int (g ((y * wd) + k)), .int (nI ((y * wd) + k)), .ref o2]) ⟨hx, hb, hml, hown, hts⟩ (c_X3_at l D cI cZ cB cJ H.size r0 r1 z0 wd un k (by omega) (by omega)) ⟨va_cnB 1 hts gX4_clipRow_X3_at_n124 rfl rfl rfl (NW.w hN 19 rfl) in_X3 (by decide +kernel) ⟨Nat.le_of_ble_eq_true rfl, Nat.le_of_ble_eq_true rfl⟩, im_124, se_124⟩ (q_preV (q_pre (wc := [(r0, .inr (3, [.ref r1, .ref z0])), (r1, .inl (cI, wd, .inl un))]) hP hD hK hN [2, 3] (by decide) rfl) (va_recv hK hP (ci := 3) (q0 := 2) rfl rfl)) rfl rfl hl.1 rfl (lv_room (Nat.le_of_ble_eq_true rfl)) dX4_clipRow_40 ⟨Nat.zero_le _, Nat.zero_le _⟩) hS hA hP hD [2, 3] [0, 1] rfl rfl (by decide) (by decide) (fun r_40 u H locs hp_40 hP hD hS => ?_)
      have hP : va_P D qCl [(o0, .inr (4, [.int (nI wd), .int (nI ht), .int (nI pn), .ref o1, .ref o2, .ref o3, .ref h0, .ref r0, .ref k0, .int (nI bf), .int (nI bt), .int fl])), (o2, .inl (cI, ht * wd, .inl g)), (r0, .inr (3, [.ref r1, .ref z0])), (r1, .inl (cI, wd, .inl un))] H := hP
      have hD : va_D A [(o0, .inr (4, [.int (nI wd), .int (nI ht), .int (nI pn), .ref o1, .ref o2, .ref o3, .ref h0, .ref r0, .ref k0, .int (nI bf), .int (nI bt), .int fl])), (o2, .inl (cI, ht * wd, .inl g)), (r0, .inr (3, [.ref r1, .ref z0])), (r1, .inl (cI, wd, .inl un))] := hD
      have hp_40 : r_40 = cvv (un k) := hp_40
      subst hp_40
      refine q_i0 (wr := [(o0, .inr (4, [.int (nI wd), .int (nI ht), .int (nI pn), .ref o1, .ref o2, .ref o3, .ref h0, .ref r0, .ref k0, .int (nI bf), .int (nI bt), .int fl])), (o2, .inl (cI, ht * wd, .inl g)), (r0, .inr (3, [.ref r1, .ref z0])), (r1, .inl (cI, wd, .inl un))]) (va_runS (As := [.int (g ((y * wd) + k)), .int (cvv (un k))]) (rest := [.int (nI ((y * wd) + k)), .ref o2]) ⟨hx, hb, hml, hown, hts⟩ (c_X4_mul l D cI cZ cB cJ H.size (g ((y * wd) + k)) (cvv (un k))) (va_cwS 2 hts gX4_clipRow_X4_mul rfl rfl rfl (by decide +kernel) ⟨Nat.le_of_ble_eq_true rfl, Nat.le_of_ble_eq_true rfl⟩) (q_pre (wc := []) hP hD hK hN [] (by decide) rfl) rfl rfl hl.1 rfl (lv_room (Nat.le_of_ble_eq_true rfl)) dX4_clipRow_43 ⟨Nat.zero_le _, Nat.zero_le _⟩) hS hA hP hD [] [0, 1, 2, 3] rfl rfl (by decide) (by decide) (fun r_43 u H locs hp_43 hP hD hS => ?_)
      have hP : va_P D qCl [(o0, .inr (4, [.int (nI wd), .int (nI ht), .int (nI pn), .ref o1, .ref o2, .ref o3, .ref h0, .ref r0, .ref k0, .int (nI bf), .int (nI bt), .int fl])), (o2, .inl (cI, ht * wd, .inl g)), (r0, .inr (3, [.ref r1, .ref z0])), (r1, .inl (cI, wd, .inl un))] H := hP
      have hD : va_D A [(o0, .inr (4, [.int (nI wd), .int (nI ht), .int (nI pn), .ref o1, .ref o2, .ref o3, .ref h0, .ref r0, .ref k0, .int (nI bf), .int (nI bt), .int fl])), (o2, .inl (cI, ht * wd, .inl g)), (r0, .inr (3, [.ref r1, .ref z0])), (r1, .inl (cI, wd, .inl un))] := hD
      have hp_43 : r_43 = mulv (g ((y * wd) + k)) (cvv (un k)) := hp_43
      subst hp_43
      refine q_iast hx hb hK hP hD hS 1 0 rfl rfl (k := ((y * wd) + k)) (by omega) (by omega) dX4_clipRow_46 (fun H locs hP hD hS => ?_)
      have hP : va_P D qCl [(o0, .inr (4, [.int (nI wd), .int (nI ht), .int (nI pn), .ref o1, .ref o2, .ref o3, .ref h0, .ref r0, .ref k0, .int (nI bf), .int (nI bt), .int fl])), (o2, .inl (cI, ht * wd, .inl (upd g ((y * wd) + k) (mulv (g ((y * wd) + k)) (cvv (un k)))))), (r0, .inr (3, [.ref r1, .ref z0])), (r1, .inl (cI, wd, .inl un))] H := hP
      have hD : va_D A [(o0, .inr (4, [.int (nI wd), .int (nI ht), .int (nI pn), .ref o1, .ref o2, .ref o3, .ref h0, .ref r0, .ref k0, .int (nI bf), .int (nI bt), .int fl])), (o2, .inl (cI, ht * wd, .inl (upd g ((y * wd) + k) (mulv (g ((y * wd) + k)) (cvv (un k)))))), (r0, .inr (3, [.ref r1, .ref z0])), (r1, .inl (cI, wd, .inl un))] := hD
      refine lv_aload_n hx hb dX4_clipRow_47 rfl (lv_at hl 3 rfl) ?_
      refine va_get (D := D) (ci := 4) (v := .ref o2) (C := RX4) (T := TX4) (N := 12) hx hb hts iX4 hown hK hP 0 rfl rfl 4 (by decide) f_27 (fun _ h9 => h9) rfl dX4_clipRow_48 ?_
      refine lv_iload hx hb dX4_clipRow_51 (lv_at hl 0 rfl) ?_
      refine q_iald hx hb hK hP 1 0 rfl rfl (k := ((y * wd) + k)) (by omega) (by omega) dX4_clipRow_53 ?_
      refine q_eqi (y := mulv (g (y * wd + k)) (cvv (un k))) (by unfold upd; rw [if_pos rfl]) ?_
      refine lv_if_le (tgt := 60) hx hb dX4_clipRow_54 (by decide) (fun h_54 => ?_) (fun h_54 => ?_)
      · have h_54 : ¬ 0 < mulv (g (y * wd + k)) (cvv (un k)) := fun z => by rw [i_le] at h_54; rw [i_lt] at z; omega
        exact J_60 (upd g ((y * wd) + k) (mulv (g ((y * wd) + k)) (cvv (un k)))) q (by omega) (by rw [hg]; rfl) (by show q = (if 0 < mulv ((crow (fun zx => cvv (un zx)) (fun zx => y * wd + zx) fC k).1 (y * wd + k)) (cvv (un k)) then _ else _ : Nat); rw [← hg, if_neg h_54]; exact hq) _ _ _ (hP.sub [0, 1, 2, 3] rfl) (hD.sub [0, 1, 2, 3] (by decide) rfl) hS (lv_sub hl [0, 1, 2, 3, 4] rfl)
      have h_54 : 0 < mulv (g (y * wd + k)) (cvv (un k)) := by rw [i_le] at h_54; rw [i_lt]; omega
      refine lv_iinc (v := nI (q + 1)) (lv' := [(2, .int (nI (q + 1))), (4, .int (nI ((y * wd) + k))), (3, .int (nI k)), (0, .ref o0), (1, .int (nI y))]) hx hb dX4_clipRow_57 hl (k := 2) rfl (q_inc _) (by decide) rfl (fun ls hl => ?_)
      exact J_60 (upd g ((y * wd) + k) (mulv (g ((y * wd) + k)) (cvv (un k)))) (q + 1) (by omega) (by rw [hg]; rfl) (by show q + 1 = (if 0 < mulv ((crow (fun zx => cvv (un zx)) (fun zx => y * wd + zx) fC k).1 (y * wd + k)) (cvv (un k)) then _ else _ : Nat); rw [← hg, if_pos h_54, hq]) _ _ _ (hP.sub [0, 1, 2, 3] rfl) (hD.sub [0, 1, 2, 3] (by decide) rfl) hS (lv_sub hl [1, 2, 0, 3, 4] rfl)
  exact L_4 _ 0 fC 0 (Nat.lt_succ_self _) (Nat.zero_le _) (Nat.le_refl _) rfl rfl _ _ _ (hP.sub [0, 1, 2, 3] rfl) (hD.sub [0, 1, 2, 3] (by decide) rfl) hS (lv_sub hl [0, 1, 2, 3] rfl)
