abbrev rm_X3_addSpan : Room := { frames := 1, cells := 0, slots := 0, locals := 20 }
set_option maxHeartbeats 4000000 in
set_option maxRecDepth 100000 in
/-- RowCover.addSpan -/
theorem c_X3_addSpan (l : Launch) (D : va_G) (cI cZ cB cJ : ClassId) (sz : Nat) (r0 : Nat) (r1 : Nat) (z0 : Nat) (wd : Nat) (un : Nat → Int32) (U : Nat → Int) (a : Int) (b : Int) (hw : wd ≤ 48) (hU : ∀ x, x < wd → un x = Int32.ofInt (U x)) (ha : bd a) (hb9 : bd b) (hab : a ≤ b) : Met l yX3_addSpan wsX3_addSpan rm_X3_addSpan (va_Pc [.ref r0, .int (Int32.ofInt a), .int (Int32.ofInt b)] (PC D (qT cI cZ cB cJ) [(r0, .inr (3, [.ref r1, .ref z0])), (r1, .inl (cI, wd, .inl un))] sz)) (va_Qv (fun (u : (Nat → Int32)) => ∀ x, x < wd → u x = Int32.ofInt (U x + ovl x a b)) (fun (u : (Nat → Int32)) => PO D (qT cI cZ cB cJ) (va_A [(r0, .inr (3, [.ref r1, .ref z0])), (r1, .inl (cI, wd, .inl un))] sz) [(r0, .inr (3, [.ref r1, .ref z0])), (r1, .inl (cI, wd, .inl u))]) (va_A [(r0, .inr (3, [.ref r1, .ref z0])), (r1, .inl (cI, wd, .inl un))] sz)) 0 0 (va_A [(r0, .inr (3, [.ref r1, .ref z0])), (r1, .inl (cI, wd, .inl un))] sz) := by
  refine q_entV (cc := cX3_addSpan) (maxL := 7) (by decide +kernel) rfl (Nat.le_of_ble_eq_true rfl) ?_
  intro p e s m below meth c A Q ls hq hl hQ
  obtain ⟨hx, hb, hml, hts, hown, hin, hN, hK, hsz, hA, hP, hD, hS⟩ := hq
  have hown : s.vm.findClass RX3 = some m.cls := hown
  obtain ⟨H, hH⟩ : ∃ H, H = s.heap := ⟨_, rfl⟩
  rw [← hH] at hP ⊢
  have hS : va_S A s.heap H [] := by rw [hH]; exact va_S.rf
  clear hH
  have hl : lv_has ls 7 [(0, .ref r0), (1, .int (Int32.ofInt a)), (2, .int (Int32.ofInt b))] := hl
  have iX3 : ∀ w ∈ wsX30, w ∈ wsX3_addSpan := by decide +kernel
  have ml_50 := hts (.methodLink RX3 50 Lib.Math.max.name) (by decide +kernel)
  have sm_max := hts (.static Lib.Math.max.name) (by decide +kernel)
  have in_Math := hts (.initialized "java/lang/Math") (by decide +kernel)
  have cm_max := hts (.code Lib.Math.max.name Lib.Math.max.code 2 (some .int)) (by decide +kernel)
  have f_18 := hts (.fieldLink RX3 18 "RasterCover$RowCover" "units" "[I") (by decide +kernel)
  have ml_56 := hts (.methodLink RX3 56 Lib.Math.min.name) (by decide +kernel)
  have sm_min := hts (.static Lib.Math.min.name) (by decide +kernel)
  have cm_min := hts (.code Lib.Math.min.name Lib.Math.min.code 2 (some .int)) (by decide +kernel)
  obtain ⟨lf, hlf⟩ : ∃ lf : Nat, lf = a.toNat := ⟨_, rfl⟩
  obtain ⟨rt, hrt⟩ : ∃ rt : Int, rt = if b < ((wd * 256 : Nat) : Int) then b else ((wd * 256 : Nat) : Int) := ⟨_, rfl⟩
  obtain ⟨ha1, ha2⟩ := id ha
  obtain ⟨hb1, hb2⟩ := id hb9
  have hr1 : rt ≤ 12288 := by rw [hrt]; split <;> omega
  have hr2 : rt = b ∨ (rt = ((wd * 256 : Nat) : Int) ∧ ((wd * 256 : Nat) : Int) ≤ b) := by rw [hrt]; split <;> omega
  refine lv_iconst (v := nI 0) hx hb dX3_addSpan_0 (by decide) ?_
  refine lv_iload_n hx hb dX3_addSpan_1 rfl (lv_at hl 1 rfl) ?_
  refine va_mmax hx hb (hml.trans hl.1.symm) hown ml_50 sm_max in_Math cm_max (Nat.le_of_ble_eq_true rfl) (Nat.le_of_ble_eq_true rfl) (Nat.zero_le _) (Nat.zero_le _) dX3_addSpan_2 ?_
  refine q_eqi (y := nI lf) (by rw [hlf]; exact max0_n ha) ?_
  refine lv_istore_n (lv' := [(3, .int (nI lf)), (0, .ref r0), (1, .int (Int32.ofInt a)), (2, .int (Int32.ofInt b))]) hx hb dX3_addSpan_5 rfl hl (by decide) rfl (fun ls hl => ?_)
  refine lv_aload_n hx hb dX3_addSpan_6 rfl (lv_at hl 1 rfl) ?_
  refine va_get (D := D) (ci := 3) (v := .ref r1) (C := RX3) (T := TX3) (N := 2) hx hb hts iX3 hown hK hP 0 rfl rfl 0 (by decide) f_18 (fun _ h9 => h9) rfl dX3_addSpan_7 ?_
  refine va_alen hx hb hK hP 1 0 rfl rfl (v := nI wd) rfl dX3_addSpan_10 ?_
  refine lv_sipush (v := nI 256) hx hb dX3_addSpan_11 (by decide) ?_
  refine lv_imul hx hb dX3_addSpan_14 ?_
  refine q_eqi (pk_mul _ _) ?_
  refine lv_iload_n hx hb dX3_addSpan_15 rfl (lv_at hl 3 rfl) ?_
  refine va_mmin hx hb (hml.trans hl.1.symm) hown ml_56 sm_min in_Math cm_min (Nat.le_of_ble_eq_true rfl) (Nat.le_of_ble_eq_true rfl) (Nat.zero_le _) (Nat.zero_le _) dX3_addSpan_16 ?_
  refine q_eqi (y := Int32.ofInt rt) (by rw [hrt]; exact minw_n hb9 (by omega)) ?_
  refine lv_istore (lv' := [(4, .int (Int32.ofInt rt)), (3, .int (nI lf)), (0, .ref r0), (1, .int (Int32.ofInt a)), (2, .int (Int32.ofInt b))]) hx hb dX3_addSpan_19 hl (by decide) rfl (fun ls hl => ?_)
  refine lv_iload_n hx hb dX3_addSpan_21 rfl (lv_at hl 1 rfl) ?_
  refine lv_sipush (v := nI 256) hx hb dX3_addSpan_22 (by decide) ?_
  refine lv_idiv hx hb dX3_addSpan_25 (by decide) ?_
  refine q_eqi (y := nI (lf / 256)) (pk_div (by omega) (by decide) (by decide)) ?_
  refine lv_istore (lv' := [(5, .int (nI (lf / 256))), (4, .int (Int32.ofInt rt)), (3, .int (nI lf)), (0, .ref r0), (1, .int (Int32.ofInt a)), (2, .int (Int32.ofInt b))]) hx hb dX3_addSpan_26 hl (by decide) rfl (fun ls hl => ?_)
  have L_28 : ∀ (fuel : Nat) (k : Nat) (g : Nat → Int32), wd - k < fuel → (lf / 256 ≤ k) → (k ≤ 5000) → (∀ x, x < wd → g x = Int32.ofInt (U x + if x < k then ovl x a b else 0)) → ∀ (H : Heap) (locs : List Loc) (ls : Array Slot), va_P D qCl [(r0, .inr (3, [.ref r1, .ref z0])), (r1, .inl (cI, wd, .inl g))] H → va_D A [(r0, .inr (3, [.ref r1, .ref z0])), (r1, .inl (cI, wd, .inl g))] → va_S A s.heap H locs → lv_has ls 7 [(5, .int (nI k)), (4, .int (Int32.ofInt rt)), (3, .int (nI lf)), (0, .ref r0), (1, .int (Int32.ofInt a)), (2, .int (Int32.ofInt b))] → W p l e rm_X3_addSpan s m ([.ref r0, .int (Int32.ofInt a), .int (Int32.ofInt b)] : List Value).toArray below meth c H locs 0 0 Q (F0 m 28 ls []) := by
    intro fuel
    induction fuel with
    | zero =>
      intro k g hm
      exact absurd hm (Nat.not_lt_zero _)
    | succ fuel ih_28 =>
      intro k g hm_28 hk1 hk2 hg H locs ls hP hD hS hl
      refine lv_iload hx hb dX3_addSpan_28 (lv_at hl 0 rfl) ?_
      refine lv_aload_n hx hb dX3_addSpan_30 rfl (lv_at hl 3 rfl) ?_
      refine va_get (D := D) (ci := 3) (v := .ref r1) (C := RX3) (T := TX3) (N := 2) hx hb hts iX3 hown hK hP 0 rfl rfl 0 (by decide) f_18 (fun _ h9 => h9) rfl dX3_addSpan_31 ?_
      refine va_alen hx hb hK hP 1 0 rfl rfl (v := nI wd) rfl dX3_addSpan_34 ?_
      refine q_ge (tgt := 91) hx hb (by omega) (by omega) dX3_addSpan_35 (by decide) (fun h_35 => ?_) (fun h_35 => ?_)
      · have hr9 : ∀ x, x < wd → g x = Int32.ofInt (U x + ovl x a b) := (fun x hx => by rw [hg x hx]; by_cases c9 : x < k; (· rw [if_pos c9]); (· rw [if_neg c9, ovl_right (by omega)]))
        exact hQ _ _ _ _ g _ _ dX3_addSpan_91 (Nat.le_refl _) (Nat.le_refl _) hr9 (hP.sub [0, 1] rfl) hK (hD.sub [0, 1] (by decide) rfl) hS
      refine lv_iload hx hb dX3_addSpan_38 (lv_at hl 0 rfl) ?_
      refine lv_sipush (v := nI 256) hx hb dX3_addSpan_40 (by decide) ?_
      refine lv_imul hx hb dX3_addSpan_43 ?_
      refine q_eqi (pk_mul _ _) ?_
      refine lv_iload hx hb dX3_addSpan_44 (lv_at hl 1 rfl) ?_
      refine lv_icmp_ge (tgt := 91) hx hb dX3_addSpan_46 (by decide) (fun h_46 => ?_) (fun h_46 => ?_)
      · rw [nI_z (k * 256), z_le (by omega) (by omega) (by omega) (by omega)] at h_46
        have hr9 : ∀ x, x < wd → g x = Int32.ofInt (U x + ovl x a b) := (fun x hx => by rw [hg x hx]; by_cases c9 : x < k; (· rw [if_pos c9]); (· rw [if_neg c9, ovl_right (by omega)]))
        exact hQ _ _ _ _ g _ _ dX3_addSpan_91 (Nat.le_refl _) (Nat.le_refl _) hr9 (hP.sub [0, 1] rfl) hK (hD.sub [0, 1] (by decide) rfl) hS
      rw [nI_z (k * 256), z_le (by omega) (by omega) (by omega) (by omega)] at h_46
      have h_46 : ((k * 256 : Nat) : Int) < rt := Int.lt_of_not_ge h_46
      refine lv_iload hx hb dX3_addSpan_49 (lv_at hl 0 rfl) ?_
      refine lv_sipush (v := nI 256) hx hb dX3_addSpan_51 (by decide) ?_
      refine lv_imul hx hb dX3_addSpan_54 ?_
      refine q_eqi (pk_mul _ _) ?_
      refine lv_istore (lv' := [(6, .int (nI (k * 256))), (5, .int (nI k)), (4, .int (Int32.ofInt rt)), (3, .int (nI lf)), (0, .ref r0), (1, .int (Int32.ofInt a)), (2, .int (Int32.ofInt b))]) hx hb dX3_addSpan_55 hl (by decide) rfl (fun ls hl => ?_)
      refine lv_aload_n hx hb dX3_addSpan_57 rfl (lv_at hl 4 rfl) ?_
      refine va_get (D := D) (ci := 3) (v := .ref r1) (C := RX3) (T := TX3) (N := 2) hx hb hts iX3 hown hK hP 0 rfl rfl 0 (by decide) f_18 (fun _ h9 => h9) rfl dX3_addSpan_58 ?_
      refine lv_iload hx hb dX3_addSpan_61 (lv_at hl 1 rfl) ?_
      refine lv_dup2_11 hx hb dX3_addSpan_63 rfl rfl ?_
      refine q_iald hx hb hK hP 1 0 rfl rfl (k := k) (by omega) (by omega) dX3_addSpan_64 ?_
      refine lv_iload hx hb dX3_addSpan_65 (lv_at hl 2 rfl) ?_
      refine lv_iload hx hb dX3_addSpan_67 (lv_at hl 0 rfl) ?_
      refine lv_sipush (v := nI 256) hx hb dX3_addSpan_69 (by decide) ?_
      refine lv_iadd hx hb dX3_addSpan_72 ?_
      refine q_eqi (nI_add _ _) ?_
      refine va_mmin hx hb (hml.trans hl.1.symm) hown ml_56 sm_min in_Math cm_min (Nat.le_of_ble_eq_true rfl) (Nat.le_of_ble_eq_true rfl) (Nat.zero_le _) (Nat.zero_le _) dX3_addSpan_73 ?_
      refine lv_iload_n hx hb dX3_addSpan_76 rfl (lv_at hl 3 rfl) ?_
      refine lv_iload hx hb dX3_addSpan_77 (lv_at hl 0 rfl) ?_
      refine va_mmax hx hb (hml.trans hl.1.symm) hown ml_50 sm_max in_Math cm_max (Nat.le_of_ble_eq_true rfl) (Nat.le_of_ble_eq_true rfl) (Nat.zero_le _) (Nat.zero_le _) dX3_addSpan_79 ?_
      refine lv_isub hx hb dX3_addSpan_82 ?_
      refine q_eqi (y := Int32.ofInt (ovl k a b)) (span_val ha hb9 hlf hrt hab h_35 hw hk1 h_46) ?_
      refine lv_iadd hx hb dX3_addSpan_83 ?_
      refine q_eqi (y := Int32.ofInt (U k + ovl k a b)) (by rw [hg k h_35, if_neg (Nat.lt_irrefl k), Int.add_zero, z_add]) ?_
      refine q_iast hx hb hK hP hD hS 1 0 rfl rfl (k := k) (by omega) (by omega) dX3_addSpan_84 (fun H locs hP hD hS => ?_)
      have hP : va_P D qCl [(r0, .inr (3, [.ref r1, .ref z0])), (r1, .inl (cI, wd, .inl (upd g k (Int32.ofInt (U k + ovl k a b)))))] H := hP
      have hD : va_D A [(r0, .inr (3, [.ref r1, .ref z0])), (r1, .inl (cI, wd, .inl (upd g k (Int32.ofInt (U k + ovl k a b)))))] := hD
      refine lv_iinc (v := nI (k + 1)) (lv' := [(5, .int (nI (k + 1))), (6, .int (nI (k * 256))), (4, .int (Int32.ofInt rt)), (3, .int (nI lf)), (0, .ref r0), (1, .int (Int32.ofInt a)), (2, .int (Int32.ofInt b))]) hx hb dX3_addSpan_85 hl (k := 1) rfl (q_inc _) (by decide) rfl (fun ls hl => ?_)
      refine lv_goto (tgt := 28) hx hb dX3_addSpan_88 (by decide) ?_
      exact ih_28 (k + 1) (upd g k (Int32.ofInt (U k + ovl k a b))) (by omega) (by omega) (by omega) (fun x hx => by unfold upd; by_cases c9 : x = k; (· rw [if_pos c9, c9, if_pos (Nat.lt_succ_self k)]); (· rw [if_neg c9, hg x hx]; by_cases c8 : x < k; (· rw [if_pos c8, if_pos (show x < k + 1 by omega)]); (· rw [if_neg c8, if_neg (show ¬ x < k + 1 by omega)]))) _ _ _ (hP.sub [0, 1] rfl) (hD.sub [0, 1] (by decide) rfl) hS (lv_sub hl [0, 2, 3, 4, 5, 6] rfl)
  exact L_28 _ (lf / 256) un (Nat.lt_succ_self _) (Nat.le_refl _) (by omega) (fun x hx => by rw [hU x hx]; split; (· rw [ovl_left (by omega), Int.add_zero]); (· rw [Int.add_zero])) _ _ _ (hP.sub [0, 1] rfl) (hD.sub [0, 1] (by decide) rfl) hS (lv_sub hl [0, 1, 2, 3, 4, 5] rfl)

abbrev rm_X3_addSubRow : Room := { frames := 2, cells := 0, slots := 0, locals := 46 }
set_option maxHeartbeats 4000000 in
set_option maxRecDepth 100000 in
/-- RowCover.addSubRow -/
theorem c_X3_addSubRow (l : Launch) (D : va_G) (cI cZ cB cJ : ClassId) (sz : Nat) (r0 : Nat) (r1 : Nat) (z0 : Nat) (wd : Nat) (un : Nat → Int32) (U : Nat → Int) (z1 : Nat) (z2 : Nat) (n : Nat) (zx : Nat → Int32) (zt : Nat → Int32) (rl : Int32) (mu : (Int → Int → Int) → Int) (hw : wd ≤ 48) (hU : ∀ x, x < wd → un x = Int32.ofInt (U x)) (hC : CR zx zt n mu) (hn : n ≤ 100) : Met l yX3_addSubRow wsX3_addSubRow rm_X3_addSubRow (va_Pc [.ref r0, .int rl] (PC D (qT cI cZ cB cJ) [(r0, .inr (3, [.ref r1, .ref z0])), (r1, .inl (cI, wd, .inl un)), (z0, .inr (0, [.ref z1, .ref z2, .int (nI n)])), (z1, .inl (cI, 100, .inl zx)), (z2, .inl (cI, 100, .inl zt))] sz)) (va_Qv (fun (u : (Nat → Int32)) => ∀ x, x < wd → u x = Int32.ofInt (U x + cu rl mu x)) (fun (u : (Nat → Int32)) => PO D (qT cI cZ cB cJ) (va_A [(r0, .inr (3, [.ref r1, .ref z0])), (r1, .inl (cI, wd, .inl un)), (z0, .inr (0, [.ref z1, .ref z2, .int (nI n)])), (z1, .inl (cI, 100, .inl zx)), (z2, .inl (cI, 100, .inl zt))] sz) [(r0, .inr (3, [.ref r1, .ref z0])), (r1, .inl (cI, wd, .inl u)), (z0, .inr (0, [.ref z1, .ref z2, .int (nI n)])), (z1, .inl (cI, 100, .inl zx)), (z2, .inl (cI, 100, .inl zt))]) (va_A [(r0, .inr (3, [.ref r1, .ref z0])), (r1, .inl (cI, wd, .inl un)), (z0, .inr (0, [.ref z1, .ref z2, .int (nI n)])), (z1, .inl (cI, 100, .inl zx)), (z2, .inl (cI, 100, .inl zt))] sz)) 0 0 (va_A [(r0, .inr (3, [.ref r1, .ref z0])), (r1, .inl (cI, wd, .inl un)), (z0, .inr (0, [.ref z1, .ref z2, .int (nI n)])), (z1, .inl (cI, 100, .inl zx)), (z2, .inl (cI, 100, .inl zt))] sz) := by
  refine q_entV (cc := cX3_addSubRow) (maxL := 5) (by decide +kernel) rfl (Nat.le_of_ble_eq_true rfl) ?_
  intro p e s m below meth c A Q ls hq hl hQ
  obtain ⟨hx, hb, hml, hts, hown, hin, hN, hK, hsz, hA, hP, hD, hS⟩ := hq
  have hown : s.vm.findClass RX3 = some m.cls := hown
  obtain ⟨H, hH⟩ : ∃ H, H = s.heap := ⟨_, rfl⟩
  rw [← hH] at hP ⊢
  have hS : va_S A s.heap H [] := by rw [hH]; exact va_S.rf
  clear hH
  have hl : lv_has ls 5 [(0, .ref r0), (1, .int rl)] := hl
  have iX0 : ∀ w ∈ wsX00, w ∈ wsX3_addSubRow := by decide +kernel
  have iX3 : ∀ w ∈ wsX30, w ∈ wsX3_addSubRow := by decide +kernel
  have f_12 := hts (.fieldLink RX3 12 "RasterCover$RowCover" "crossings" "LRasterCover$Crossings;") (by decide +kernel)
  obtain ⟨P, T, hz, hs, hm⟩ := id hC
  refine lv_iconst (v := nI 0) hx hb dX3_addSubRow_0 (by decide) ?_
  refine lv_istore_n (lv' := [(2, .int (nI 0)), (0, .ref r0), (1, .int rl)]) hx hb dX3_addSubRow_1 rfl hl (by decide) rfl (fun ls hl => ?_)
  refine lv_iconst (v := nI 0) hx hb dX3_addSubRow_2 (by decide) ?_
  refine lv_istore_n (lv' := [(3, .int (nI 0)), (2, .int (nI 0)), (0, .ref r0), (1, .int rl)]) hx hb dX3_addSubRow_3 rfl hl (by decide) rfl (fun ls hl => ?_)
  have L_4 : ∀ (fuel : Nat) (i : Nat) (tv : Int32) (g : Nat → Int32), n - i < fuel → (tv = Int32.ofInt (sumN i T)) → (i ≤ n - 1) → (∀ x, x < wd → g x = Int32.ofInt (U x + subA rl P T x i)) → ∀ (H : Heap) (locs : List Loc) (ls : Array Slot), va_P D qCl [(r0, .inr (3, [.ref r1, .ref z0])), (r1, .inl (cI, wd, .inl g)), (z0, .inr (0, [.ref z1, .ref z2, .int (nI n)])), (z1, .inl (cI, 100, .inl zx)), (z2, .inl (cI, 100, .inl zt))] H → va_D A [(r0, .inr (3, [.ref r1, .ref z0])), (r1, .inl (cI, wd, .inl g)), (z0, .inr (0, [.ref z1, .ref z2, .int (nI n)])), (z1, .inl (cI, 100, .inl zx)), (z2, .inl (cI, 100, .inl zt))] → va_S A s.heap H locs → lv_has ls 5 [(3, .int (nI i)), (2, .int tv), (0, .ref r0), (1, .int rl)] → W p l e rm_X3_addSubRow s m ([.ref r0, .int rl] : List Value).toArray below meth c H locs 0 0 Q (F0 m 4 ls []) := by
    intro fuel
    induction fuel with
    | zero =>
      intro i tv g hm
      exact absurd hm (Nat.not_lt_zero _)
    | succ fuel ih_4 =>
      intro i tv g hm_4 htv hi hg H locs ls hP hD hS hl
      refine lv_iload_n hx hb dX3_addSubRow_4 rfl (lv_at hl 0 rfl) ?_
      refine lv_iconst (v := nI 1) hx hb dX3_addSubRow_5 (by decide) ?_
      refine lv_iadd hx hb dX3_addSubRow_6 ?_
      refine q_eqi (nI_add _ _) ?_
      refine lv_aload_n hx hb dX3_addSubRow_7 rfl (lv_at hl 2 rfl) ?_
      refine va_get (D := D) (ci := 3) (v := .ref z0) (C := RX3) (T := TX3) (N := 2) hx hb hts iX3 hown hK hP 0 rfl rfl 1 (by decide) f_12 (fun _ h9 => h9) rfl dX3_addSubRow_8 ?_
      refine va_getN (D := D) (ci := 0) (v := .int (nI n)) (C := RX0) (T := TX0) (N := 3) hx hb hts iX0 hown hK hP 2 rfl rfl 2 (by decide) (nw_7 hN) (fun _ h9 => h9) rfl dX3_addSubRow_11 ?_
      refine q_ge (tgt := 88) hx hb (by omega) (by omega) dX3_addSubRow_14 (by decide) (fun h_14 => ?_) (fun h_14 => ?_)
      · have hr9 : ∀ x, x < wd → g x = Int32.ofInt (U x + cu rl mu x) := (fun x hx => by rw [hg x hx, show i = n - 1 by omega, subA_cu hs hm])
        exact hQ _ _ _ _ g _ _ dX3_addSubRow_88 (Nat.le_refl _) (Nat.le_refl _) hr9 (hP.sub [0, 1, 2, 3, 4] rfl) hK (hD.sub [0, 1, 2, 3, 4] (by decide) rfl) hS
      refine lv_iload_n hx hb dX3_addSubRow_17 rfl (lv_at hl 1 rfl) ?_
      refine lv_aload_n hx hb dX3_addSubRow_18 rfl (lv_at hl 2 rfl) ?_
      refine va_get (D := D) (ci := 3) (v := .ref z0) (C := RX3) (T := TX3) (N := 2) hx hb hts iX3 hown hK hP 0 rfl rfl 1 (by decide) f_12 (fun _ h9 => h9) rfl dX3_addSubRow_19 ?_
      refine va_getN (D := D) (ci := 0) (v := .ref z2) (C := RX0) (T := TX0) (N := 3) hx hb hts iX0 hown hK hP 2 rfl rfl 1 (by decide) (nw_6 hN) (fun _ h9 => h9) rfl dX3_addSubRow_22 ?_
      refine lv_iload_n hx hb dX3_addSubRow_25 rfl (lv_at hl 0 rfl) ?_
      refine q_iald hx hb hK hP 4 0 rfl rfl (k := i) (by omega) (by omega) dX3_addSubRow_26 ?_
      refine lv_iadd hx hb dX3_addSubRow_27 ?_
      refine q_eqi (y := Int32.ofInt (sumN (i + 1) T)) (by rw [htv, (hz i (by omega)).2.1, z_add]; rfl) ?_
      refine lv_istore_n (lv' := [(2, .int (Int32.ofInt (sumN (i + 1) T))), (3, .int (nI i)), (0, .ref r0), (1, .int rl)]) hx hb dX3_addSubRow_28 rfl hl (by decide) rfl (fun ls hl => ?_)
      have J_82 : ∀ (g2 : Nat → Int32), (∀ x, x < wd → g2 x = Int32.ofInt (U x + subA rl P T x (i + 1))) → ∀ (H : Heap) (locs : List Loc) (ls : Array Slot), va_P D qCl [(r0, .inr (3, [.ref r1, .ref z0])), (r1, .inl (cI, wd, .inl g2)), (z0, .inr (0, [.ref z1, .ref z2, .int (nI n)])), (z1, .inl (cI, 100, .inl zx)), (z2, .inl (cI, 100, .inl zt))] H → va_D A [(r0, .inr (3, [.ref r1, .ref z0])), (r1, .inl (cI, wd, .inl g2)), (z0, .inr (0, [.ref z1, .ref z2, .int (nI n)])), (z1, .inl (cI, 100, .inl zx)), (z2, .inl (cI, 100, .inl zt))] → va_S A s.heap H locs → lv_has ls 5 [(2, .int (Int32.ofInt (sumN (i + 1) T))), (3, .int (nI i)), (0, .ref r0), (1, .int rl)] → W p l e rm_X3_addSubRow s m ([.ref r0, .int rl] : List Value).toArray below meth c H locs 0 0 Q (F0 m 82 ls []) := by
        intro g2 hg2 H locs ls hP hD hS hl
        refine lv_iinc (v := nI (i + 1)) (lv' := [(3, .int (nI (i + 1))), (2, .int (Int32.ofInt (sumN (i + 1) T))), (0, .ref r0), (1, .int rl)]) hx hb dX3_addSubRow_82 hl (k := 1) rfl (q_inc _) (by decide) rfl (fun ls hl => ?_)
        refine lv_goto (tgt := 4) hx hb dX3_addSubRow_85 (by decide) ?_
        exact ih_4 (i + 1) (Int32.ofInt (sumN (i + 1) T)) g2 (by omega) rfl (by omega) hg2 _ _ _ (hP.sub [0, 1, 2, 3, 4] rfl) (hD.sub [0, 1, 2, 3, 4] (by decide) rfl) hS (lv_sub hl [0, 1, 2, 3] rfl)
      have J_58 : (spB rl T i = true) → ∀ (H : Heap) (locs : List Loc) (ls : Array Slot), va_P D qCl [(r0, .inr (3, [.ref r1, .ref z0])), (r1, .inl (cI, wd, .inl g)), (z0, .inr (0, [.ref z1, .ref z2, .int (nI n)])), (z1, .inl (cI, 100, .inl zx)), (z2, .inl (cI, 100, .inl zt))] H → va_D A [(r0, .inr (3, [.ref r1, .ref z0])), (r1, .inl (cI, wd, .inl g)), (z0, .inr (0, [.ref z1, .ref z2, .int (nI n)])), (z1, .inl (cI, 100, .inl zx)), (z2, .inl (cI, 100, .inl zt))] → va_S A s.heap H locs → lv_has ls 5 [(2, .int (Int32.ofInt (sumN (i + 1) T))), (3, .int (nI i)), (0, .ref r0), (1, .int rl)] → W p l e rm_X3_addSubRow s m ([.ref r0, .int rl] : List Value).toArray below meth c H locs 0 0 Q (F0 m 58 ls []) := by
        intro  hsp H locs ls hP hD hS hl
        refine lv_aload_n hx hb dX3_addSubRow_58 rfl (lv_at hl 2 rfl) ?_
        refine lv_aload_n hx hb dX3_addSubRow_59 rfl (lv_at hl 2 rfl) ?_
        refine va_get (D := D) (ci := 3) (v := .ref z0) (C := RX3) (T := TX3) (N := 2) hx hb hts iX3 hown hK hP 0 rfl rfl 1 (by decide) f_12 (fun _ h9 => h9) rfl dX3_addSubRow_60 ?_
        refine va_getN (D := D) (ci := 0) (v := .ref z1) (C := RX0) (T := TX0) (N := 3) hx hb hts iX0 hown hK hP 2 rfl rfl 0 (by decide) (nw_5 hN) (fun _ h9 => h9) rfl dX3_addSubRow_63 ?_
        refine lv_iload_n hx hb dX3_addSubRow_66 rfl (lv_at hl 1 rfl) ?_
        refine q_iald hx hb hK hP 3 0 rfl rfl (k := i) (by omega) (by omega) dX3_addSubRow_67 ?_
        refine q_eqi (y := Int32.ofInt (P i)) (hz i (by omega)).1 ?_
        refine lv_aload_n hx hb dX3_addSubRow_68 rfl (lv_at hl 2 rfl) ?_
        refine va_get (D := D) (ci := 3) (v := .ref z0) (C := RX3) (T := TX3) (N := 2) hx hb hts iX3 hown hK hP 0 rfl rfl 1 (by decide) f_12 (fun _ h9 => h9) rfl dX3_addSubRow_69 ?_
        refine va_getN (D := D) (ci := 0) (v := .ref z1) (C := RX0) (T := TX0) (N := 3) hx hb hts iX0 hown hK hP 2 rfl rfl 0 (by decide) (nw_5 hN) (fun _ h9 => h9) rfl dX3_addSubRow_72 ?_
        refine lv_iload_n hx hb dX3_addSubRow_75 rfl (lv_at hl 1 rfl) ?_
        refine lv_iconst (v := nI 1) hx hb dX3_addSubRow_76 (by decide) ?_
        refine lv_iadd hx hb dX3_addSubRow_77 ?_
        refine q_eqi (nI_add _ _) ?_
        refine q_iald hx hb hK hP 3 0 rfl rfl (k := (i + 1)) (by omega) (by omega) dX3_addSubRow_78 ?_
        refine q_eqi (y := Int32.ofInt (P (i + 1))) (hz (i + 1) (by omega)).1 ?_
        refine q_v0 (wr := [(z0, .inr (0, [.ref z1, .ref z2, .int (nI n)])), (z1, .inl (cI, 100, .inl zx)), (z2, .inl (cI, 100, .inl zt))]) (va_runV (As := [.int (Int32.ofInt (P i)), .int (Int32.ofInt (P (i + 1)))]) (rest := []) ⟨hx, hb, hml, hown, hts⟩ (c_X3_addSpan l D cI cZ cB cJ H.size r0 r1 z0 wd g (fun x => U x + subA rl P T x i) (P i) (P (i + 1)) hw hg (hz i (by omega)).2.2 (hz (i + 1) (by omega)).2.2 (hs i (i + 1) (by omega) (by omega))) (cwV 2 hts gX3_addSubRow_X3_addSpan rfl rfl rfl (by decide +kernel) ⟨Nat.le_of_ble_eq_true rfl, Nat.le_of_ble_eq_true rfl⟩) (q_preV (q_pre (wc := [(r0, .inr (3, [.ref r1, .ref z0])), (r1, .inl (cI, wd, .inl g))]) hP hD hK hN [0, 1] (by decide) rfl) (va_recv hK hP (ci := 3) (q0 := 0) rfl rfl)) rfl rfl hl.1 rfl (lv_room (Nat.le_of_ble_eq_true rfl)) dX3_addSubRow_79 ⟨Nat.zero_le _, Nat.zero_le _⟩) hS hA hP hD [0, 1] [2, 3, 4] rfl rfl (by decide) (by decide) (fun un3 H locs hp_79 hP hD hS => ?_)
        have hP : va_P D qCl [(z0, .inr (0, [.ref z1, .ref z2, .int (nI n)])), (z1, .inl (cI, 100, .inl zx)), (z2, .inl (cI, 100, .inl zt)), (r0, .inr (3, [.ref r1, .ref z0])), (r1, .inl (cI, wd, .inl un3))] H := hP
        have hD : va_D A [(z0, .inr (0, [.ref z1, .ref z2, .int (nI n)])), (z1, .inl (cI, 100, .inl zx)), (z2, .inl (cI, 100, .inl zt)), (r0, .inr (3, [.ref r1, .ref z0])), (r1, .inl (cI, wd, .inl un3))] := hD
        have hp_79 : ∀ x, x < wd → un3 x = Int32.ofInt ((fun x => U x + subA rl P T x i) x + ovl x (P i) (P (i + 1))) := hp_79
        have hp_79 : ∀ x, x < wd → un3 x = Int32.ofInt (U x + subA rl P T x i + ovl x (P i) (P (i + 1))) := hp_79
        exact J_82 un3 (fun x hx => by rw [hp_79 x hx, Int.add_assoc]; exact congrArg (fun q => Int32.ofInt (U x + q)) (show subA rl P T x i + ovl x (P i) (P (i + 1)) = subA rl P T x i + (if spB rl T i = true then ovl x (P i) (P (i + 1)) else 0) by rw [if_pos hsp])) _ _ _ (hP.sub [3, 4, 0, 1, 2] rfl) (hD.sub [3, 4, 0, 1, 2] (by decide) rfl) hS (lv_sub hl [0, 1, 2, 3] rfl)
      refine lv_iload_n hx hb dX3_addSubRow_29 rfl (lv_at hl 1 rfl) ?_
      refine lv_iconst (v := nI 2) hx hb dX3_addSubRow_30 (by decide) ?_
      refine lv_irem hx hb dX3_addSubRow_31 (by decide) ?_
      refine q_eqi (y := nI (i % 2)) (pk_rem (by omega) (by decide) (by decide)) ?_
      refine q_if_ne (tgt := 39) hx hb (by omega) dX3_addSubRow_32 (by decide) (fun h_32 => ?_) (fun h_32 => ?_)
      · refine lv_iconst (v := nI 0) hx hb dX3_addSubRow_39 (by decide) ?_
        refine lv_istore (lv' := [(4, .int (nI 0)), (2, .int (Int32.ofInt (sumN (i + 1) T))), (3, .int (nI i)), (0, .ref r0), (1, .int rl)]) hx hb dX3_addSubRow_40 hl (by decide) rfl (fun ls hl => ?_)
        refine lv_iload_n hx hb dX3_addSubRow_42 rfl (lv_at hl 4 rfl) ?_
        refine lv_if_ne (tgt := 53) hx hb dX3_addSubRow_43 (by decide) (fun h_43 => ?_) (fun h_43 => ?_)
        · refine lv_iload hx hb dX3_addSubRow_53 (lv_at hl 0 rfl) ?_
          refine q_if_eq (tgt := 82) hx hb (by omega) dX3_addSubRow_55 (by decide) (fun h_55 => ?_) (fun h_55 => by omega)
          exact J_82 g (fun x hx => by rw [hg x hx]; exact congrArg (fun q => Int32.ofInt (U x + q)) (show subA rl P T x i = subA rl P T x i + (if spB rl T i = true then ovl x (P i) (P (i + 1)) else 0) by rw [if_neg (by unfold spB; rw [if_neg h_43, decide_eq_true_iff]; omega), Int.add_zero])) _ _ _ (hP.sub [0, 1, 2, 3, 4] rfl) (hD.sub [0, 1, 2, 3, 4] (by decide) rfl) hS (lv_sub hl [1, 2, 3, 4] rfl)
        refine lv_iload_n hx hb dX3_addSubRow_46 rfl (lv_at hl 1 rfl) ?_
        refine lv_if_eq (tgt := 82) hx hb dX3_addSubRow_47 (by decide) (fun h_47 => ?_) (fun h_47 => ?_)
        · exact J_82 g (fun x hx => by rw [hg x hx]; exact congrArg (fun q => Int32.ofInt (U x + q)) (show subA rl P T x i = subA rl P T x i + (if spB rl T i = true then ovl x (P i) (P (i + 1)) else 0) by rw [if_neg (by unfold spB; rw [if_pos h_43, decide_eq_true_iff]; exact fun q => q h_47), Int.add_zero])) _ _ _ (hP.sub [0, 1, 2, 3, 4] rfl) (hD.sub [0, 1, 2, 3, 4] (by decide) rfl) hS (lv_sub hl [1, 2, 3, 4] rfl)
        refine lv_goto (tgt := 58) hx hb dX3_addSubRow_50 (by decide) ?_
        exact J_58 (by unfold spB; rw [if_pos h_43, decide_eq_true_iff]; exact h_47) _ _ _ (hP.sub [0, 1, 2, 3, 4] rfl) (hD.sub [0, 1, 2, 3, 4] (by decide) rfl) hS (lv_sub hl [1, 2, 3, 4] rfl)
      refine lv_iconst (v := nI 1) hx hb dX3_addSubRow_35 (by decide) ?_
      refine lv_goto (tgt := 40) hx hb dX3_addSubRow_36 (by decide) ?_
      refine lv_istore (lv' := [(4, .int (nI 1)), (2, .int (Int32.ofInt (sumN (i + 1) T))), (3, .int (nI i)), (0, .ref r0), (1, .int rl)]) hx hb dX3_addSubRow_40 hl (by decide) rfl (fun ls hl => ?_)
      refine lv_iload_n hx hb dX3_addSubRow_42 rfl (lv_at hl 4 rfl) ?_
      refine lv_if_ne (tgt := 53) hx hb dX3_addSubRow_43 (by decide) (fun h_43 => ?_) (fun h_43 => ?_)
      · refine lv_iload hx hb dX3_addSubRow_53 (lv_at hl 0 rfl) ?_
        refine q_if_eq (tgt := 82) hx hb (by omega) dX3_addSubRow_55 (by decide) (fun h_55 => by omega) (fun h_55 => ?_)
        exact J_58 (by unfold spB; rw [if_neg h_43, decide_eq_true_iff]; exact h_32) _ _ _ (hP.sub [0, 1, 2, 3, 4] rfl) (hD.sub [0, 1, 2, 3, 4] (by decide) rfl) hS (lv_sub hl [1, 2, 3, 4] rfl)
      refine lv_iload_n hx hb dX3_addSubRow_46 rfl (lv_at hl 1 rfl) ?_
      refine lv_if_eq (tgt := 82) hx hb dX3_addSubRow_47 (by decide) (fun h_47 => ?_) (fun h_47 => ?_)
      · exact J_82 g (fun x hx => by rw [hg x hx]; exact congrArg (fun q => Int32.ofInt (U x + q)) (show subA rl P T x i = subA rl P T x i + (if spB rl T i = true then ovl x (P i) (P (i + 1)) else 0) by rw [if_neg (by unfold spB; rw [if_pos h_43, decide_eq_true_iff]; exact fun q => q h_47), Int.add_zero])) _ _ _ (hP.sub [0, 1, 2, 3, 4] rfl) (hD.sub [0, 1, 2, 3, 4] (by decide) rfl) hS (lv_sub hl [1, 2, 3, 4] rfl)
      refine lv_goto (tgt := 58) hx hb dX3_addSubRow_50 (by decide) ?_
      exact J_58 (by unfold spB; rw [if_pos h_43, decide_eq_true_iff]; exact h_47) _ _ _ (hP.sub [0, 1, 2, 3, 4] rfl) (hD.sub [0, 1, 2, 3, 4] (by decide) rfl) hS (lv_sub hl [1, 2, 3, 4] rfl)
  exact L_4 _ 0 (nI 0) un (Nat.lt_succ_self _) rfl (Nat.zero_le _) (fun x hx => by rw [hU x hx]; exact congrArg Int32.ofInt (Int.add_zero _).symm) _ _ _ (hP.sub [0, 1, 2, 3, 4] rfl) (hD.sub [0, 1, 2, 3, 4] (by decide) rfl) hS (lv_sub hl [0, 1, 2, 3] rfl)

abbrev rm_X3_at : Room := { frames := 0, cells := 0, slots := 0, locals := 0 }
set_option maxHeartbeats 4000000 in
set_option maxRecDepth 100000 in
/-- RowCover.at -/
theorem c_X3_at (l : Launch) (D : va_G) (cI cZ cB cJ : ClassId) (sz : Nat) (r0 : Nat) (r1 : Nat) (z0 : Nat) (wd : Nat) (un : Nat → Int32) (k : Nat) (hw : wd ≤ 48) (hk : k < wd) : Met l yX3_at wsX3_at rm_X3_at (va_Pc [.ref r0, .int (nI k)] (PC D (qT cI cZ cB cJ) [(r0, .inr (3, [.ref r1, .ref z0])), (r1, .inl (cI, wd, .inl un))] sz)) (va_Qi (fun (r : Int32) (u : Unit) => r = cvv (un k)) (fun (u : Unit) => PO D (qT cI cZ cB cJ) (va_A [(r0, .inr (3, [.ref r1, .ref z0])), (r1, .inl (cI, wd, .inl un))] sz) [(r0, .inr (3, [.ref r1, .ref z0])), (r1, .inl (cI, wd, .inl un))]) (va_A [(r0, .inr (3, [.ref r1, .ref z0])), (r1, .inl (cI, wd, .inl un))] sz)) 0 0 (va_A [(r0, .inr (3, [.ref r1, .ref z0])), (r1, .inl (cI, wd, .inl un))] sz) := by
  refine q_entI (cc := cX3_at) (maxL := 2) (by decide +kernel) rfl (Nat.le_of_ble_eq_true rfl) ?_
  intro p e s m below meth c A Q ls hq hl hQ
  obtain ⟨hx, hb, hml, hts, hown, hin, hN, hK, hsz, hA, hP, hD, hS⟩ := hq
  have hown : s.vm.findClass RX3 = some m.cls := hown
  obtain ⟨H, hH⟩ : ∃ H, H = s.heap := ⟨_, rfl⟩
  rw [← hH] at hP ⊢
  have hS : va_S A s.heap H [] := by rw [hH]; exact va_S.rf
  clear hH
  have hl : lv_has ls 2 [(0, .ref r0), (1, .int (nI k))] := hl
  have iX3 : ∀ w ∈ wsX30, w ∈ wsX3_at := by decide +kernel
  have f_18 := hts (.fieldLink RX3 18 "RasterCover$RowCover" "units" "[I") (by decide +kernel)
  refine lv_aload_n hx hb dX3_at_0 rfl (lv_at hl 0 rfl) ?_
  refine va_get (D := D) (ci := 3) (v := .ref r1) (C := RX3) (T := TX3) (N := 2) hx hb hts iX3 hown hK hP 0 rfl rfl 0 (by decide) f_18 (fun _ h9 => h9) rfl dX3_at_1 ?_
  refine lv_iload_n hx hb dX3_at_4 rfl (lv_at hl 1 rfl) ?_
  refine q_iald hx hb hK hP 1 0 rfl rfl (k := k) (by omega) (by omega) dX3_at_5 ?_
  refine lv_sipush (v := nI 255) hx hb dX3_at_6 (by decide) ?_
  refine lv_imul hx hb dX3_at_9 ?_
  refine lv_sipush (v := nI 2048) hx hb dX3_at_10 (by decide) ?_
  refine lv_iadd hx hb dX3_at_13 ?_
  refine lv_sipush (v := nI 4096) hx hb dX3_at_14 (by decide) ?_
  refine lv_idiv hx hb dX3_at_17 (by decide) ?_
  refine q_eqi (y := cvv (un k)) rfl ?_
  have hr9 : (cvv (un k)) = cvv (un k) := rfl
  exact hQ _ _ _ _ (cvv (un k)) () _ _ dX3_at_18 (Nat.le_refl _) (Nat.le_refl _) hr9 (hP.sub [0, 1] rfl) hK (hD.sub [0, 1] (by decide) rfl) hS

abbrev rm_X3_measure : Room := { frames := 3, cells := 0, slots := 0, locals := 80 }
set_option maxHeartbeats 4000000 in
set_option maxRecDepth 100000 in
/-- RowCover.measure -/
theorem c_X3_measure (l : Launch) (D : va_G) (cI cZ cB cJ : ClassId) (sz : Nat) (r0 : Nat) (r1 : Nat) (z0 : Nat) (wd : Nat) (un : Nat → Int32) (z1 : Nat) (z2 : Nat) (n : Nat) (zx : Nat → Int32) (zt : Nat → Int32) (h0 : Nat) (h1 : Nat) (h2 : Nat) (h3 : Nat) (cn : Nat) (fx : Nat → Int32) (fy : Nat → Int32) (fb : Nat → Int32) (X : Nat → Int) (Y : Nat → Int) (bg : Nat → Int32) (row : Nat) (rl : Int32) (hw : wd ≤ 48) (hrow : row < 48) (hR : PathR fx fy fb X Y bg cn) : Met l yX3_measure wsX3_measure rm_X3_measure (va_Pc [.ref r0, .ref h0, .int (nI row), .int rl] (PC D (qT cI cZ cB cJ) [(r0, .inr (3, [.ref r1, .ref z0])), (r1, .inl (cI, wd, .inl un)), (z0, .inr (0, [.ref z1, .ref z2, .int (nI n)])), (z1, .inl (cI, 100, .inl zx)), (z2, .inl (cI, 100, .inl zt)), (h0, .inr (2, [.ref h1, .ref h2, .ref h3, .int (nI cn)])), (h1, .inl (cI, 100, .inl fx)), (h2, .inl (cI, 100, .inl fy)), (h3, .inl (cZ, 100, .inl fb))] sz)) (va_Qv (fun (u : (Nat → Int32) × (Nat → Int32) × (Nat → Int32) × Nat) => ∀ x, x < wd → u.1 x = Int32.ofInt (cov rl X Y bg cn row 16 x)) (fun (u : (Nat → Int32) × (Nat → Int32) × (Nat → Int32) × Nat) => PO D (qT cI cZ cB cJ) (va_A [(r0, .inr (3, [.ref r1, .ref z0])), (r1, .inl (cI, wd, .inl un)), (z0, .inr (0, [.ref z1, .ref z2, .int (nI n)])), (z1, .inl (cI, 100, .inl zx)), (z2, .inl (cI, 100, .inl zt)), (h0, .inr (2, [.ref h1, .ref h2, .ref h3, .int (nI cn)])), (h1, .inl (cI, 100, .inl fx)), (h2, .inl (cI, 100, .inl fy)), (h3, .inl (cZ, 100, .inl fb))] sz) [(r0, .inr (3, [.ref r1, .ref z0])), (r1, .inl (cI, wd, .inl u.1)), (z0, .inr (0, [.ref z1, .ref z2, .int (nI u.2.2.2)])), (z1, .inl (cI, 100, .inl u.2.1)), (z2, .inl (cI, 100, .inl u.2.2.1)), (h0, .inr (2, [.ref h1, .ref h2, .ref h3, .int (nI cn)])), (h1, .inl (cI, 100, .inl fx)), (h2, .inl (cI, 100, .inl fy)), (h3, .inl (cZ, 100, .inl fb))]) (va_A [(r0, .inr (3, [.ref r1, .ref z0])), (r1, .inl (cI, wd, .inl un)), (z0, .inr (0, [.ref z1, .ref z2, .int (nI n)])), (z1, .inl (cI, 100, .inl zx)), (z2, .inl (cI, 100, .inl zt)), (h0, .inr (2, [.ref h1, .ref h2, .ref h3, .int (nI cn)])), (h1, .inl (cI, 100, .inl fx)), (h2, .inl (cI, 100, .inl fy)), (h3, .inl (cZ, 100, .inl fb))] sz)) 0 0 (va_A [(r0, .inr (3, [.ref r1, .ref z0])), (r1, .inl (cI, wd, .inl un)), (z0, .inr (0, [.ref z1, .ref z2, .int (nI n)])), (z1, .inl (cI, 100, .inl zx)), (z2, .inl (cI, 100, .inl zt)), (h0, .inr (2, [.ref h1, .ref h2, .ref h3, .int (nI cn)])), (h1, .inl (cI, 100, .inl fx)), (h2, .inl (cI, 100, .inl fy)), (h3, .inl (cZ, 100, .inl fb))] sz) := by
  refine q_entV (cc := cX3_measure) (maxL := 5) (by decide +kernel) rfl (Nat.le_of_ble_eq_true rfl) ?_
  intro p e s m below meth c A Q ls hq hl hQ
  obtain ⟨hx, hb, hml, hts, hown, hin, hN, hK, hsz, hA, hP, hD, hS⟩ := hq
  have hown : s.vm.findClass RX3 = some m.cls := hown
  obtain ⟨H, hH⟩ : ∃ H, H = s.heap := ⟨_, rfl⟩
  rw [← hH] at hP ⊢
  have hS : va_S A s.heap H [] := by rw [hH]; exact va_S.rf
  clear hH
  have hl : lv_has ls 5 [(0, .ref r0), (1, .ref h0), (2, .int (nI row)), (3, .int rl)] := hl
  have iX3 : ∀ w ∈ wsX30, w ∈ wsX3_measure := by decide +kernel
  have f_18 := hts (.fieldLink RX3 18 "RasterCover$RowCover" "units" "[I") (by decide +kernel)
  have f_12 := hts (.fieldLink RX3 12 "RasterCover$RowCover" "crossings" "LRasterCover$Crossings;") (by decide +kernel)
  have in_X0 := hts (.initialized RX0) (by decide +kernel)
  have im_28 := hts (.instanceMethod yX0_collect) (by decide +kernel)
  have se_28 := hts (.selects RX0 yX0_collect yX0_collect) (by decide +kernel)
  refine lv_aload_n hx hb dX3_measure_0 rfl (lv_at hl 0 rfl) ?_
  refine va_get (D := D) (ci := 3) (v := .ref r1) (C := RX3) (T := TX3) (N := 2) hx hb hts iX3 hown hK hP 0 rfl rfl 0 (by decide) f_18 (fun _ h9 => h9) rfl dX3_measure_1 ?_
  refine lv_iconst (v := nI 0) hx hb dX3_measure_4 (by decide) ?_
  refine q_eqi (y := Int32.ofInt 0) (by decide) ?_
  refine q_v0 (wr := [(r0, .inr (3, [.ref r1, .ref z0])), (z0, .inr (0, [.ref z1, .ref z2, .int (nI n)])), (z1, .inl (cI, 100, .inl zx)), (z2, .inl (cI, 100, .inl zt)), (h0, .inr (2, [.ref h1, .ref h2, .ref h3, .int (nI cn)])), (h1, .inl (cI, 100, .inl fx)), (h2, .inl (cI, 100, .inl fy)), (h3, .inl (cZ, 100, .inl fb))]) (va_runS (As := [.ref r1, .int (Int32.ofInt 0)]) (rest := []) ⟨hx, hb, hml, hown, hts⟩ (c_J7_fill l D cI cZ cB cJ H.size r1 wd un (Int32.ofInt 0) (by omega)) (va_cwS 2 hts gX3_measure_J7_fill_53178 rfl rfl rfl (by decide +kernel) ⟨Nat.le_of_ble_eq_true rfl, Nat.le_of_ble_eq_true rfl⟩) (q_pre (wc := [(r1, .inl (cI, wd, .inl un))]) hP hD hK hN [1] (by decide) rfl) rfl rfl hl.1 rfl (lv_room (Nat.le_of_ble_eq_true rfl)) dX3_measure_5 ⟨Nat.zero_le _, Nat.zero_le _⟩) hS hA hP hD [1] [0, 2, 3, 4, 5, 6, 7, 8] rfl rfl (by decide) (by decide) (fun g_5 H locs hp_5 hP hD hS => ?_)
  have hP : va_P D qCl [(r0, .inr (3, [.ref r1, .ref z0])), (z0, .inr (0, [.ref z1, .ref z2, .int (nI n)])), (z1, .inl (cI, 100, .inl zx)), (z2, .inl (cI, 100, .inl zt)), (h0, .inr (2, [.ref h1, .ref h2, .ref h3, .int (nI cn)])), (h1, .inl (cI, 100, .inl fx)), (h2, .inl (cI, 100, .inl fy)), (h3, .inl (cZ, 100, .inl fb)), (r1, .inl (cI, wd, .inl g_5))] H := hP
  have hD : va_D A [(r0, .inr (3, [.ref r1, .ref z0])), (z0, .inr (0, [.ref z1, .ref z2, .int (nI n)])), (z1, .inl (cI, 100, .inl zx)), (z2, .inl (cI, 100, .inl zt)), (h0, .inr (2, [.ref h1, .ref h2, .ref h3, .int (nI cn)])), (h1, .inl (cI, 100, .inl fx)), (h2, .inl (cI, 100, .inl fy)), (h3, .inl (cZ, 100, .inl fb)), (r1, .inl (cI, wd, .inl g_5))] := hD
  have hp_5 : ∀ j, j < wd → g_5 j = (Int32.ofInt 0) := hp_5
  refine lv_iconst (v := nI 0) hx hb dX3_measure_8 (by decide) ?_
  refine lv_istore (lv' := [(4, .int (nI 0)), (0, .ref r0), (1, .ref h0), (2, .int (nI row)), (3, .int rl)]) hx hb dX3_measure_9 hl (by decide) rfl (fun ls hl => ?_)
  have L_11 : ∀ (fuel : Nat) (j : Nat) (nn : Nat) (zx3 : Nat → Int32) (zt3 : Nat → Int32) (g : Nat → Int32), 16 - j < fuel → (j ≤ 16) → (∀ x, x < wd → g x = Int32.ofInt (cov rl X Y bg cn row j x)) → ∀ (H : Heap) (locs : List Loc) (ls : Array Slot), va_P D qCl [(r0, .inr (3, [.ref r1, .ref z0])), (z0, .inr (0, [.ref z1, .ref z2, .int (nI nn)])), (z1, .inl (cI, 100, .inl zx3)), (z2, .inl (cI, 100, .inl zt3)), (h0, .inr (2, [.ref h1, .ref h2, .ref h3, .int (nI cn)])), (h1, .inl (cI, 100, .inl fx)), (h2, .inl (cI, 100, .inl fy)), (h3, .inl (cZ, 100, .inl fb)), (r1, .inl (cI, wd, .inl g))] H → va_D A [(r0, .inr (3, [.ref r1, .ref z0])), (z0, .inr (0, [.ref z1, .ref z2, .int (nI nn)])), (z1, .inl (cI, 100, .inl zx3)), (z2, .inl (cI, 100, .inl zt3)), (h0, .inr (2, [.ref h1, .ref h2, .ref h3, .int (nI cn)])), (h1, .inl (cI, 100, .inl fx)), (h2, .inl (cI, 100, .inl fy)), (h3, .inl (cZ, 100, .inl fb)), (r1, .inl (cI, wd, .inl g))] → va_S A s.heap H locs → lv_has ls 5 [(4, .int (nI j)), (0, .ref r0), (1, .ref h0), (2, .int (nI row)), (3, .int rl)] → W p l e rm_X3_measure s m ([.ref r0, .ref h0, .int (nI row), .int rl] : List Value).toArray below meth c H locs 0 0 Q (F0 m 11 ls []) := by
    intro fuel
    induction fuel with
    | zero =>
      intro j nn zx3 zt3 g hm
      exact absurd hm (Nat.not_lt_zero _)
    | succ fuel ih_11 =>
      intro j nn zx3 zt3 g hm_11 hj hg H locs ls hP hD hS hl
      refine lv_iload hx hb dX3_measure_11 (lv_at hl 0 rfl) ?_
      refine lv_bipush (v := nI 16) hx hb dX3_measure_13 (by decide) ?_
      refine q_ge (tgt := 50) hx hb (by omega) (by omega) dX3_measure_15 (by decide) (fun h_15 => ?_) (fun h_15 => ?_)
      · have hr9 : ∀ x, x < wd → g x = Int32.ofInt (cov rl X Y bg cn row 16 x) := (fun x hx => by rw [hg x hx, show j = 16 by omega])
        exact hQ _ _ _ _ (g, zx3, zt3, nn) _ _ dX3_measure_50 (Nat.le_refl _) (Nat.le_refl _) hr9 (hP.sub [0, 8, 1, 2, 3, 4, 5, 6, 7] rfl) hK (hD.sub [0, 8, 1, 2, 3, 4, 5, 6, 7] (by decide) rfl) hS
      refine lv_aload_n hx hb dX3_measure_18 rfl (lv_at hl 1 rfl) ?_
      refine va_get (D := D) (ci := 3) (v := .ref z0) (C := RX3) (T := TX3) (N := 2) hx hb hts iX3 hown hK hP 0 rfl rfl 1 (by decide) f_12 (fun _ h9 => h9) rfl dX3_measure_19 ?_
      refine lv_aload_n hx hb dX3_measure_22 rfl (lv_at hl 2 rfl) ?_
      refine lv_iload_n hx hb dX3_measure_23 rfl (lv_at hl 3 rfl) ?_
      refine lv_bipush (v := nI 16) hx hb dX3_measure_24 (by decide) ?_
      refine lv_imul hx hb dX3_measure_26 ?_
      refine q_eqi (pk_mul _ _) ?_
      refine lv_iload hx hb dX3_measure_27 (lv_at hl 0 rfl) ?_
      refine lv_iadd hx hb dX3_measure_29 ?_
      refine q_eqi (nI_add _ _) ?_
      refine lv_bipush (v := nI 16) hx hb dX3_measure_30 (by decide) ?_
      refine lv_imul hx hb dX3_measure_32 ?_
      refine q_eqi (pk_mul _ _) ?_
      refine lv_bipush (v := nI 8) hx hb dX3_measure_33 (by decide) ?_
      refine lv_iadd hx hb dX3_measure_35 ?_
      refine q_eqi (nI_add _ _) ?_
      refine q_eqi (y := Int32.ofInt (16 * (16 * (row : Int) + (j : Int)) + 8)) (by rw [nI_z]; exact congrArg Int32.ofInt (by omega)) ?_
      refine q_v0 (wr := [(r0, .inr (3, [.ref r1, .ref z0])), (r1, .inl (cI, wd, .inl g))]) (va_runVN (As := [.ref h0, .int (Int32.ofInt (16 * (16 * (row : Int) + (j : Int)) + 8))]) (rest := []) ⟨hx, hb, hml, hown, hts⟩ (c_X0_collect l D cI cZ cB cJ H.size z0 z1 z2 nn zx3 zt3 h0 h1 h2 h3 cn fx fy fb X Y bg (16 * (16 * (row : Int) + (j : Int)) + 8) hR (by omega)) ⟨va_cnB 2 hts gX3_measure_X0_collect_n28 rfl rfl rfl (NW.w hN 18 rfl) in_X0 (by decide +kernel) ⟨Nat.le_of_ble_eq_true rfl, Nat.le_of_ble_eq_true rfl⟩, im_28, se_28⟩ (q_preV (q_pre (wc := [(z0, .inr (0, [.ref z1, .ref z2, .int (nI nn)])), (z1, .inl (cI, 100, .inl zx3)), (z2, .inl (cI, 100, .inl zt3)), (h0, .inr (2, [.ref h1, .ref h2, .ref h3, .int (nI cn)])), (h1, .inl (cI, 100, .inl fx)), (h2, .inl (cI, 100, .inl fy)), (h3, .inl (cZ, 100, .inl fb))]) hP hD hK hN [1, 2, 3, 4, 5, 6, 7] (by decide) rfl) (va_recv hK hP (ci := 0) (q0 := 1) rfl rfl)) rfl rfl hl.1 rfl (lv_room (Nat.le_of_ble_eq_true rfl)) dX3_measure_36 ⟨Nat.zero_le _, Nat.zero_le _⟩) hS hA hP hD [1, 2, 3, 4, 5, 6, 7] [0, 8] rfl rfl (by decide) (by decide) (fun u H locs hp_36 hP hD hS => ?_)
      obtain ⟨zx4, zt4, n4⟩ := u
      have hP : va_P D qCl [(r0, .inr (3, [.ref r1, .ref z0])), (r1, .inl (cI, wd, .inl g)), (z0, .inr (0, [.ref z1, .ref z2, .int (nI n4)])), (z1, .inl (cI, 100, .inl zx4)), (z2, .inl (cI, 100, .inl zt4)), (h0, .inr (2, [.ref h1, .ref h2, .ref h3, .int (nI cn)])), (h1, .inl (cI, 100, .inl fx)), (h2, .inl (cI, 100, .inl fy)), (h3, .inl (cZ, 100, .inl fb))] H := hP
      have hD : va_D A [(r0, .inr (3, [.ref r1, .ref z0])), (r1, .inl (cI, wd, .inl g)), (z0, .inr (0, [.ref z1, .ref z2, .int (nI n4)])), (z1, .inl (cI, 100, .inl zx4)), (z2, .inl (cI, 100, .inl zt4)), (h0, .inr (2, [.ref h1, .ref h2, .ref h3, .int (nI cn)])), (h1, .inl (cI, 100, .inl fx)), (h2, .inl (cI, 100, .inl fy)), (h3, .inl (cZ, 100, .inl fb))] := hD
      have hp_36 : CR zx4 zt4 n4 (fun f => muL X Y bg cn (16 * (16 * (row : Int) + (j : Int)) + 8) cn f) ∧ n4 ≤ cn := hp_36
      refine lv_aload_n hx hb dX3_measure_39 rfl (lv_at hl 1 rfl) ?_
      refine lv_iload_n hx hb dX3_measure_40 rfl (lv_at hl 4 rfl) ?_
      refine q_v0 (wr := [(h0, .inr (2, [.ref h1, .ref h2, .ref h3, .int (nI cn)])), (h1, .inl (cI, 100, .inl fx)), (h2, .inl (cI, 100, .inl fy)), (h3, .inl (cZ, 100, .inl fb))]) (va_runV (As := [.int rl]) (rest := []) ⟨hx, hb, hml, hown, hts⟩ (c_X3_addSubRow l D cI cZ cB cJ H.size r0 r1 z0 wd g (fun x => cov rl X Y bg cn row j x) z1 z2 n4 zx4 zt4 rl (fun f => muL X Y bg cn (16 * (16 * (row : Int) + (j : Int)) + 8) cn f) hw hg hp_36.1 (Nat.le_trans hp_36.2 hR.1)) (cwV 1 hts gX3_measure_X3_addSubRow rfl rfl rfl (by decide +kernel) ⟨Nat.le_of_ble_eq_true rfl, Nat.le_of_ble_eq_true rfl⟩) (q_preV (q_pre (wc := [(r0, .inr (3, [.ref r1, .ref z0])), (r1, .inl (cI, wd, .inl g)), (z0, .inr (0, [.ref z1, .ref z2, .int (nI n4)])), (z1, .inl (cI, 100, .inl zx4)), (z2, .inl (cI, 100, .inl zt4))]) hP hD hK hN [0, 1, 2, 3, 4] (by decide) rfl) (va_recv hK hP (ci := 3) (q0 := 0) rfl rfl)) rfl rfl hl.1 rfl (lv_room (Nat.le_of_ble_eq_true rfl)) dX3_measure_41 ⟨Nat.zero_le _, Nat.zero_le _⟩) hS hA hP hD [0, 1, 2, 3, 4] [5, 6, 7, 8] rfl rfl (by decide) (by decide) (fun un5 H locs hp_41 hP hD hS => ?_)
      have hP : va_P D qCl [(h0, .inr (2, [.ref h1, .ref h2, .ref h3, .int (nI cn)])), (h1, .inl (cI, 100, .inl fx)), (h2, .inl (cI, 100, .inl fy)), (h3, .inl (cZ, 100, .inl fb)), (r0, .inr (3, [.ref r1, .ref z0])), (r1, .inl (cI, wd, .inl un5)), (z0, .inr (0, [.ref z1, .ref z2, .int (nI n4)])), (z1, .inl (cI, 100, .inl zx4)), (z2, .inl (cI, 100, .inl zt4))] H := hP
      have hD : va_D A [(h0, .inr (2, [.ref h1, .ref h2, .ref h3, .int (nI cn)])), (h1, .inl (cI, 100, .inl fx)), (h2, .inl (cI, 100, .inl fy)), (h3, .inl (cZ, 100, .inl fb)), (r0, .inr (3, [.ref r1, .ref z0])), (r1, .inl (cI, wd, .inl un5)), (z0, .inr (0, [.ref z1, .ref z2, .int (nI n4)])), (z1, .inl (cI, 100, .inl zx4)), (z2, .inl (cI, 100, .inl zt4))] := hD
      have hp_41 : ∀ x, x < wd → un5 x = Int32.ofInt ((fun x => cov rl X Y bg cn row j x) x + cu rl (fun f => muL X Y bg cn (16 * (16 * (row : Int) + (j : Int)) + 8) cn f) x) := hp_41
      have hp_41 : ∀ x, x < wd → un5 x = Int32.ofInt (cov rl X Y bg cn row (j + 1) x) := hp_41
      refine lv_iinc (v := nI (j + 1)) (lv' := [(4, .int (nI (j + 1))), (0, .ref r0), (1, .ref h0), (2, .int (nI row)), (3, .int rl)]) hx hb dX3_measure_44 hl (k := 0) rfl (q_inc _) (by decide) rfl (fun ls hl => ?_)
      refine lv_goto (tgt := 11) hx hb dX3_measure_47 (by decide) ?_
      exact ih_11 (j + 1) n4 zx4 zt4 un5 (by omega) (by omega) hp_41 _ _ _ (hP.sub [4, 6, 7, 8, 0, 1, 2, 3, 5] rfl) (hD.sub [4, 6, 7, 8, 0, 1, 2, 3, 5] (by decide) rfl) hS (lv_sub hl [0, 1, 2, 3, 4] rfl)
  exact L_11 _ 0 n zx zt g_5 (Nat.lt_succ_self _) (by omega) (fun x hx => hp_5 x hx) _ _ _ (hP.sub [0, 1, 2, 3, 4, 5, 6, 7, 8] rfl) (hD.sub [0, 1, 2, 3, 4, 5, 6, 7, 8] (by decide) rfl) hS (lv_sub hl [0, 1, 2, 3, 4] rfl)
