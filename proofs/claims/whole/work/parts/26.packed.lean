abbrev rm_X4_packed : Room := { frames := 8, cells := 1, slots := 6, locals := 120 }
set_option maxHeartbeats 4000000 in
set_option maxRecDepth 100000 in
/-- RasterCover.packed -/
theorem c_X4_packed (l : Launch) (D : va_G) (cI cZ cB cJ : ClassId) (sz : Nat) (hst : l.stackTraces = false) (o0 : Nat) (o1 : Nat) (o2 : Nat) (o3 : Nat) (h0 : Nat) (r0 : Nat) (k0 : Nat) (wd : Nat) (ht : Nat) (pn : Nat) (bf : Nat) (bt : Nat) (fl : Int32) (k1 : Nat) (ps : Nat) (sg : Nat → Int32) (fB : Nat → Int32) (vi : Int32) (hpn : pn ≤ 4) (hht : ht ≤ 48) (hwd : wd ≤ 48) : vx_Met l yX4_packed wsX4_packed rm_X4_packed (va_Pc [.ref o0, .int vi] (PZ D (qT cI cZ cB cJ) [(o0, .inr (4, [.int (nI wd), .int (nI ht), .int (nI pn), .ref o1, .ref o2, .ref o3, .ref h0, .ref r0, .ref k0, .int (nI bf), .int (nI bt), .int fl])), (o1, .inl (cI, pn * ht * wd, .inl fB)), (k0, .inr (1, [.ref k1, .int (nI ps)])), (k1, .inl (cB, 2 * wd, .inl sg))] sz)) (va_Qi (fun (r : Int32) (u : Nat × (Nat → Int32)) => CPk fB wd (pn * ht) vi.toInt r) (fun (u : Nat × (Nat → Int32)) => PO D (qT cI cZ cB cJ) (va_A [(o0, .inr (4, [.int (nI wd), .int (nI ht), .int (nI pn), .ref o1, .ref o2, .ref o3, .ref h0, .ref r0, .ref k0, .int (nI bf), .int (nI bt), .int fl])), (o1, .inl (cI, pn * ht * wd, .inl fB)), (k0, .inr (1, [.ref k1, .int (nI ps)])), (k1, .inl (cB, 2 * wd, .inl sg))] sz) [(o0, .inr (4, [.int (nI wd), .int (nI ht), .int (nI pn), .ref o1, .ref o2, .ref o3, .ref h0, .ref r0, .ref k0, .int (nI bf), .int (nI bt), .int fl])), (o1, .inl (cI, pn * ht * wd, .inl fB)), (k0, .inr (1, [.ref k1, .int (nI u.1)])), (k1, .inl (cB, 2 * wd, .inl u.2))]) (va_A [(o0, .inr (4, [.int (nI wd), .int (nI ht), .int (nI pn), .ref o1, .ref o2, .ref o3, .ref h0, .ref r0, .ref k0, .int (nI bf), .int (nI bt), .int fl])), (o1, .inl (cI, pn * ht * wd, .inl fB)), (k0, .inr (1, [.ref k1, .int (nI ps)])), (k1, .inl (cB, 2 * wd, .inl sg))] sz)) (XC2 D (qT cI cZ cB cJ) (va_A [(o0, .inr (4, [.int (nI wd), .int (nI ht), .int (nI pn), .ref o1, .ref o2, .ref o3, .ref h0, .ref r0, .ref k0, .int (nI bf), .int (nI bt), .int fl])), (o1, .inl (cI, pn * ht * wd, .inl fB)), (k0, .inr (1, [.ref k1, .int (nI ps)])), (k1, .inl (cB, 2 * wd, .inl sg))] sz) (fun (u : Nat × (Nat → Int32)) => [(o0, .inr (4, [.int (nI wd), .int (nI ht), .int (nI pn), .ref o1, .ref o2, .ref o3, .ref h0, .ref r0, .ref k0, .int (nI bf), .int (nI bt), .int fl])), (o1, .inl (cI, pn * ht * wd, .inl fB)), (k0, .inr (1, [.ref k1, .int (nI u.1)])), (k1, .inl (cB, 2 * wd, .inl u.2))]) (fun E => E = qAIO ∧ ¬ (0 ≤ vi.toInt ∧ vi.toInt < ((offR (cszf fB wd) (pn * ht) : Nat) : Int)))) 1 6 (va_A [(o0, .inr (4, [.int (nI wd), .int (nI ht), .int (nI pn), .ref o1, .ref o2, .ref o3, .ref h0, .ref r0, .ref k0, .int (nI bf), .int (nI bt), .int fl])), (o1, .inl (cI, pn * ht * wd, .inl fB)), (k0, .inr (1, [.ref k1, .int (nI ps)])), (k1, .inl (cB, 2 * wd, .inl sg))] sz) := by
  refine q_entXZ2 (cc := cX4_packed) (maxL := 4) hst (by decide +kernel) rfl (Nat.le_of_ble_eq_true rfl) ?_
  intro p e s m below meth c A Q ls hq hl hZ hQ hT
  obtain ⟨hx, hb, hml, hts, hown, hin, hN, hK, hsz, hA, hP, hD, hS⟩ := hq
  have hown : s.vm.findClass RX4 = some m.cls := hown
  obtain ⟨H, hH⟩ : ∃ H, H = s.heap := ⟨_, rfl⟩
  rw [← hH] at hP ⊢
  have hS : va_S A s.heap H [] := by rw [hH]; exact va_S.rf
  clear hH
  have hl : lv_has ls 4 [(0, .ref o0), (1, .int vi)] := hl
  have iX1 : ∀ w ∈ wsX10, w ∈ wsX4_packed := by decide +kernel
  have iX4 : ∀ w ∈ wsX40, w ∈ wsX4_packed := by decide +kernel
  have f_20 := hts (.fieldLink RX4 20 "RasterCover" "planes" "I") (by decide +kernel)
  have f_17 := hts (.fieldLink RX4 17 "RasterCover" "height" "I") (by decide +kernel)
  have cl_143 := hts (.classLink RX4 143 "java/lang/ArrayIndexOutOfBoundsException") (by decide +kernel)
  have in_qAIO := hts (.initialized "java/lang/ArrayIndexOutOfBoundsException") (by decide +kernel)
  have f_53 := hts (.fieldLink RX4 53 "RasterCover" "packedRow" "LRasterCover$PackedRow;") (by decide +kernel)
  have f_23 := hts (.fieldLink RX4 23 "RasterCover" "bytes" "[I") (by decide +kernel)
  have f_13 := hts (.fieldLink RX4 13 "RasterCover" "width" "I") (by decide +kernel)
  have in_X1 := hts (.initialized RX1) (by decide +kernel)
  have im_132 := hts (.instanceMethod yX1_pack) (by decide +kernel)
  have se_132 := hts (.selects RX1 yX1_pack yX1_pack) (by decide +kernel)
  have hb1 : pn * ht ≤ 4 * 48 := Nat.mul_le_mul hpn hht
  have hb2 : pn * ht * wd ≤ 4 * 48 * 48 := Nat.mul_le_mul hb1 hwd
  obtain ⟨z0, hz00⟩ : ∃ z0 : Int, z0 = vi.toInt := ⟨_, rfl⟩
  have hvi : vi = Int32.ofInt z0 := by rw [hz00]; exact (Int32.ofInt_toInt _).symm
  have hvb : -2147483648 ≤ z0 ∧ z0 < 2147483648 := by rw [hz00]; have v1 := Int32.toInt_lt vi; have v2 := Int32.le_toInt vi; exact ⟨by omega, by omega⟩
  refine lv_iload_n hx hb dX4_packed_0 rfl (lv_at hl 1 rfl) ?_
  refine q_eqi (y := Int32.ofInt z0) hvi ?_
  refine lv_istore_n (lv' := [(2, .int (Int32.ofInt z0)), (0, .ref o0), (1, .int vi)]) hx hb dX4_packed_1 rfl hl (by decide) rfl (fun ls hl => ?_)
  refine lv_iconst (v := nI 0) hx hb dX4_packed_2 (by decide) ?_
  refine lv_istore_n (lv' := [(3, .int (nI 0)), (2, .int (Int32.ofInt z0)), (0, .ref o0), (1, .int vi)]) hx hb dX4_packed_3 rfl hl (by decide) rfl (fun ls hl => ?_)
  have L_4 : ∀ (fuel : Nat) (row : Nat) (z : Int) (qs : Nat) (sg1 : Nat → Int32), pn * ht - row < fuel → (row ≤ pn * ht) → (z = z0 - ((offR (cszf fB wd) row) : Nat)) → ((0 ≤ z0 ∧ 0 ≤ z) ∨ row = 0) → (-2147483648 ≤ z ∧ z < 2147483648) → ∀ (H : Heap) (locs : List Loc) (ls : Array Slot), va_P D qCl [(o0, .inr (4, [.int (nI wd), .int (nI ht), .int (nI pn), .ref o1, .ref o2, .ref o3, .ref h0, .ref r0, .ref k0, .int (nI bf), .int (nI bt), .int fl])), (o1, .inl (cI, pn * ht * wd, .inl fB)), (k0, .inr (1, [.ref k1, .int (nI qs)])), (k1, .inl (cB, 2 * wd, .inl sg1))] H → va_D A [(o0, .inr (4, [.int (nI wd), .int (nI ht), .int (nI pn), .ref o1, .ref o2, .ref o3, .ref h0, .ref r0, .ref k0, .int (nI bf), .int (nI bt), .int fl])), (o1, .inl (cI, pn * ht * wd, .inl fB)), (k0, .inr (1, [.ref k1, .int (nI qs)])), (k1, .inl (cB, 2 * wd, .inl sg1))] → va_S A s.heap H locs → lv_has ls 4 [(3, .int (nI row)), (2, .int (Int32.ofInt z)), (0, .ref o0), (1, .int vi)] → W p l e rm_X4_packed s m ([.ref o0, .int vi] : List Value).toArray below meth c H locs 0 0 Q (F0 m 4 ls []) := by
    intro fuel
    induction fuel with
    | zero =>
      intro row z qs sg1 hm
      exact absurd hm (Nat.not_lt_zero _)
    | succ fuel ih_4 =>
      intro row z qs sg1 hm_4 hrow hz hz0 hzb H locs ls hP hD hS hl
      refine lv_iload_n hx hb dX4_packed_4 rfl (lv_at hl 0 rfl) ?_
      refine lv_aload_n hx hb dX4_packed_5 rfl (lv_at hl 2 rfl) ?_
      refine va_get (D := D) (ci := 4) (v := .int (nI pn)) (C := RX4) (T := TX4) (N := 12) hx hb hts iX4 hown hK hP 0 rfl rfl 2 (by decide) f_20 (fun _ h9 => h9) rfl dX4_packed_6 ?_
      refine lv_aload_n hx hb dX4_packed_9 rfl (lv_at hl 2 rfl) ?_
      refine va_get (D := D) (ci := 4) (v := .int (nI ht)) (C := RX4) (T := TX4) (N := 12) hx hb hts iX4 hown hK hP 0 rfl rfl 1 (by decide) f_17 (fun _ h9 => h9) rfl dX4_packed_10 ?_
      refine lv_imul hx hb dX4_packed_13 ?_
      refine q_eqi (pk_mul _ _) ?_
      refine q_ge (tgt := 83) hx hb (by omega) (by omega) dX4_packed_14 (by decide) (fun h_14 => ?_) (fun h_14 => ?_)
      · have ho9 : row = 0 → offR (cszf fB wd) row = 0 := fun w => by rw [w]; rfl
        exact hT (qs, sg1) RX4 qAIO "no such byte" nmIO 143 145 147 83 0 0 H _ ls hown (by decide +kernel) (by decide +kernel) cl_143 in_qAIO hN.2.1.2.2.2.2.2 hN.at147 ot_147 (hl.1.trans hml.symm) dX4_packed_83 dX4_packed_86 dX4_packed_87 dX4_packed_89 dX4_packed_92 (by decide) (by decide) (by decide) (by decide) (by decide) (by decide) ⟨rfl, by rw [← hz00]; first | (have e9 := congrArg (offR (cszf fB wd)) (show row = pn * ht by omega); omega) | (have e9 := ho9 (by omega); omega)⟩ (hP.sub [0, 1, 2, 3] rfl) (hD.sub [0, 1, 2, 3] (by decide) rfl) hS
      have ho9 : row = 0 → offR (cszf fB wd) row = 0 := fun w => by rw [w]; rfl
      refine lv_iload_n hx hb dX4_packed_17 rfl (lv_at hl 1 rfl) ?_
      refine lv_if_lt (tgt := 83) hx hb dX4_packed_18 (by decide) (fun h_18 => ?_) (fun h_18 => ?_)
      · rw [i_lt, z_t (by omega) (by omega), show (0 : Int32).toInt = 0 from by decide] at h_18
        have hofs : row = 0 := by omega
        exact hT (qs, sg1) RX4 qAIO "no such byte" nmIO 143 145 147 83 0 0 H _ ls hown (by decide +kernel) (by decide +kernel) cl_143 in_qAIO hN.2.1.2.2.2.2.2 hN.at147 ot_147 (hl.1.trans hml.symm) dX4_packed_83 dX4_packed_86 dX4_packed_87 dX4_packed_89 dX4_packed_92 (by decide) (by decide) (by decide) (by decide) (by decide) (by decide) ⟨rfl, by rw [← hz00]; first | (have e9 := congrArg (offR (cszf fB wd)) (show row = pn * ht by omega); omega) | (have e9 := ho9 (by omega); omega)⟩ (hP.sub [0, 1, 2, 3] rfl) (hD.sub [0, 1, 2, 3] (by decide) rfl) hS
      rw [i_lt, z_t (by omega) (by omega), show (0 : Int32).toInt = 0 from by decide] at h_18
      have hb3 : (row + 1) * wd ≤ pn * ht * wd := Nat.mul_le_mul_right _ (show row + 1 ≤ pn * ht by omega)
      have hb4 : (row + 1) * wd = row * wd + wd := by rw [Nat.add_mul, Nat.one_mul]
      refine lv_aload_n hx hb dX4_packed_21 rfl (lv_at hl 2 rfl) ?_
      refine va_get (D := D) (ci := 4) (v := .ref k0) (C := RX4) (T := TX4) (N := 12) hx hb hts iX4 hown hK hP 0 rfl rfl 8 (by decide) f_53 (fun _ h9 => h9) rfl dX4_packed_22 ?_
      refine lv_aload_n hx hb dX4_packed_25 rfl (lv_at hl 2 rfl) ?_
      refine va_get (D := D) (ci := 4) (v := .ref o1) (C := RX4) (T := TX4) (N := 12) hx hb hts iX4 hown hK hP 0 rfl rfl 3 (by decide) f_23 (fun _ h9 => h9) rfl dX4_packed_26 ?_
      refine lv_iload_n hx hb dX4_packed_29 rfl (lv_at hl 0 rfl) ?_
      refine lv_aload_n hx hb dX4_packed_30 rfl (lv_at hl 2 rfl) ?_
      refine va_get (D := D) (ci := 4) (v := .int (nI wd)) (C := RX4) (T := TX4) (N := 12) hx hb hts iX4 hown hK hP 0 rfl rfl 0 (by decide) f_13 (fun _ h9 => h9) rfl dX4_packed_31 ?_
      refine lv_imul hx hb dX4_packed_34 ?_
      refine q_eqi (pk_mul _ _) ?_
      refine lv_iload_n hx hb dX4_packed_35 rfl (lv_at hl 0 rfl) ?_
      refine lv_iconst (v := nI 1) hx hb dX4_packed_36 (by decide) ?_
      refine lv_iadd hx hb dX4_packed_37 ?_
      refine q_eqi (nI_add _ _) ?_
      refine lv_aload_n hx hb dX4_packed_38 rfl (lv_at hl 2 rfl) ?_
      refine va_get (D := D) (ci := 4) (v := .int (nI wd)) (C := RX4) (T := TX4) (N := 12) hx hb hts iX4 hown hK hP 0 rfl rfl 0 (by decide) f_13 (fun _ h9 => h9) rfl dX4_packed_39 ?_
      refine lv_imul hx hb dX4_packed_42 ?_
      refine q_eqi (pk_mul _ _) ?_
      refine q_v0 (wr := [(o0, .inr (4, [.int (nI wd), .int (nI ht), .int (nI pn), .ref o1, .ref o2, .ref o3, .ref h0, .ref r0, .ref k0, .int (nI bf), .int (nI bt), .int fl]))]) (va_runVN (As := [.ref o1, .int (nI (row * wd)), .int (nI ((row + 1) * wd))]) (rest := []) ⟨hx, hb, hml, hown, hts⟩ (c_X1_pack l D cI cZ cB cJ H.size k0 k1 wd qs sg1 o1 (pn * ht * wd) fB (row * wd) ((row + 1) * wd) hwd (by omega) (by omega) hb3 (by omega)) ⟨va_cnB 3 hts gX4_packed_X1_pack_n132 rfl rfl rfl (NW.w hN 20 rfl) in_X1 (by decide +kernel) ⟨Nat.le_of_ble_eq_true rfl, Nat.le_of_ble_eq_true rfl⟩, im_132, se_132⟩ (q_preV (q_pre (wc := [(k0, .inr (1, [.ref k1, .int (nI qs)])), (k1, .inl (cB, 2 * wd, .inl sg1)), (o1, .inl (cI, (pn * ht * wd), .inl fB))]) hP hD hK hN [2, 3, 1] (by decide) rfl) (va_recv hK hP (ci := 1) (q0 := 2) rfl rfl)) rfl rfl hl.1 rfl (lv_room (Nat.le_of_ble_eq_true rfl)) dX4_packed_43 ⟨Nat.zero_le _, Nat.zero_le _⟩) hS hA hP hD [2, 3, 1] [0] rfl rfl (by decide) (by decide) (fun u H locs hp_43 hP hD hS => ?_)
      obtain ⟨sg43, qs43⟩ := u
      have hP : va_P D qCl [(o0, .inr (4, [.int (nI wd), .int (nI ht), .int (nI pn), .ref o1, .ref o2, .ref o3, .ref h0, .ref r0, .ref k0, .int (nI bf), .int (nI bt), .int fl])), (k0, .inr (1, [.ref k1, .int (nI qs43)])), (k1, .inl (cB, 2 * wd, .inl sg43)), (o1, .inl (cI, (pn * ht * wd), .inl fB))] H := hP
      have hD : va_D A [(o0, .inr (4, [.int (nI wd), .int (nI ht), .int (nI pn), .ref o1, .ref o2, .ref o3, .ref h0, .ref r0, .ref k0, .int (nI bf), .int (nI bt), .int fl])), (k0, .inr (1, [.ref k1, .int (nI qs43)])), (k1, .inl (cB, 2 * wd, .inl sg43)), (o1, .inl (cI, (pn * ht * wd), .inl fB))] := hD
      have hp_43 : sg43 = (pkS fB (row * wd) ((row + 1) * wd) sg1 (((row + 1) * wd) - (row * wd))).1 ∧ qs43 = (pkS fB (row * wd) ((row + 1) * wd) sg1 (((row + 1) * wd) - (row * wd))).2.1 ∧ qs43 ≤ 2 * (((row + 1) * wd) - (row * wd)) := hp_43
      rw [hb4, Nat.add_sub_cancel_left] at hp_43
      have hi43 := pkS_ind fB (row * wd) (row * wd + wd) sg1 z0f wd
      have hs43 : qs43 = cszf fB wd row := by rw [hp_43.2.1, hi43.1]; rfl
      refine lv_iload_n hx hb dX4_packed_46 rfl (lv_at hl 1 rfl) ?_
      refine lv_aload_n hx hb dX4_packed_47 rfl (lv_at hl 2 rfl) ?_
      refine va_get (D := D) (ci := 4) (v := .ref k0) (C := RX4) (T := TX4) (N := 12) hx hb hts iX4 hown hK hP 0 rfl rfl 8 (by decide) f_53 (fun _ h9 => h9) rfl dX4_packed_48 ?_
      refine va_getN (D := D) (ci := 1) (v := .int (nI qs43)) (C := RX1) (T := TX1) (N := 2) hx hb hts iX1 hown hK hP 1 rfl rfl 1 (by decide) (nw_9 hN) (fun _ h9 => h9) rfl dX4_packed_51 ?_
      refine lv_icmp_ge (tgt := 67) hx hb dX4_packed_54 (by decide) (fun h_54 => ?_) (fun h_54 => ?_)
      · rw [i_le, nI_toInt (by omega), z_t (by omega) (by omega)] at h_54
        refine lv_iload_n hx hb dX4_packed_67 rfl (lv_at hl 1 rfl) ?_
        refine lv_aload_n hx hb dX4_packed_68 rfl (lv_at hl 2 rfl) ?_
        refine va_get (D := D) (ci := 4) (v := .ref k0) (C := RX4) (T := TX4) (N := 12) hx hb hts iX4 hown hK hP 0 rfl rfl 8 (by decide) f_53 (fun _ h9 => h9) rfl dX4_packed_69 ?_
        refine va_getN (D := D) (ci := 1) (v := .int (nI qs43)) (C := RX1) (T := TX1) (N := 2) hx hb hts iX1 hown hK hP 1 rfl rfl 1 (by decide) (nw_9 hN) (fun _ h9 => h9) rfl dX4_packed_72 ?_
        refine lv_isub hx hb dX4_packed_75 ?_
        refine q_eqi (y := Int32.ofInt (z - (qs43 : Nat))) (by rw [nI_z]; exact z_sub _ _) ?_
        refine lv_istore_n (lv' := [(2, .int (Int32.ofInt (z - (qs43 : Nat)))), (3, .int (nI row)), (0, .ref o0), (1, .int vi)]) hx hb dX4_packed_76 rfl hl (by decide) rfl (fun ls hl => ?_)
        refine lv_iinc (v := nI (row + 1)) (lv' := [(3, .int (nI (row + 1))), (2, .int (Int32.ofInt (z - (qs43 : Nat)))), (0, .ref o0), (1, .int vi)]) hx hb dX4_packed_77 hl (k := 1) rfl (q_inc _) (by decide) rfl (fun ls hl => ?_)
        refine lv_goto (tgt := 4) hx hb dX4_packed_80 (by decide) ?_
        exact ih_4 (row + 1) (z - (qs43 : Nat)) qs43 sg43 (by omega) (by omega) (by show z - ((qs43 : Nat) : Int) = z0 - (((offR (cszf fB wd) row) + cszf fB wd row : Nat) : Int); omega) (by omega) (by omega) _ _ _ (hP.sub [0, 3, 1, 2] rfl) (hD.sub [0, 3, 1, 2] (by decide) rfl) hS (lv_sub hl [0, 1, 2, 3] rfl)
      rw [i_le, nI_toInt (by omega), z_t (by omega) (by omega)] at h_54
      refine lv_aload_n hx hb dX4_packed_57 rfl (lv_at hl 2 rfl) ?_
      refine va_get (D := D) (ci := 4) (v := .ref k0) (C := RX4) (T := TX4) (N := 12) hx hb hts iX4 hown hK hP 0 rfl rfl 8 (by decide) f_53 (fun _ h9 => h9) rfl dX4_packed_58 ?_
      refine va_getN (D := D) (ci := 1) (v := .ref k1) (C := RX1) (T := TX1) (N := 2) hx hb hts iX1 hown hK hP 1 rfl rfl 0 (by decide) (nw_8 hN) (fun _ h9 => h9) rfl dX4_packed_61 ?_
      refine lv_iload_n hx hb dX4_packed_64 rfl (lv_at hl 1 rfl) ?_
      refine q_eqi (y := nI z.toNat) (by rw [nI_z]; exact congrArg Int32.ofInt (by omega)) ?_
      refine q_bald hx hb hK hP 2 2 rfl rfl (k := z.toNat) (by omega) (by omega) dX4_packed_65 ?_
      have hv43 : sg43 z.toNat = (rowS fB (row * wd) wd).1 z.toNat := by rw [hp_43.1]; exact hi43.2.1 _ (by rw [← hp_43.2.1]; omega)
      have hr9 : CPk fB wd (pn * ht) vi.toInt (sg43 z.toNat) := ⟨row, z.toNat, by omega, by omega, by rw [← hz00]; omega, hv43⟩
      exact hQ _ _ _ _ (sg43 z.toNat) (qs43, sg43) _ _ (by rw [hv43]; exact congrArg Value.int (pkS_b8 (sg := z0f) fB (row * wd) (row * wd + wd) (fun _ => (by decide : b8 0 = 0)) wd z.toNat)) dX4_packed_66 (by first | decide | omega) (by first | decide | omega) hr9 (hP.sub [0, 3, 1, 2] rfl) hK (hD.sub [0, 3, 1, 2] (by decide) rfl) hS
  exact L_4 _ 0 z0 ps sg (Nat.lt_succ_self _) (Nat.zero_le _) (by show z0 = z0 - ((0 : Nat) : Int); omega) (Or.inr rfl) hvb _ _ _ (hP.sub [0, 1, 2, 3] rfl) (hD.sub [0, 1, 2, 3] (by decide) rfl) hS (lv_sub hl [0, 1, 2, 3] rfl)

abbrev rm_X5_packed : Room := { frames := 2, cells := 0, slots := 0, locals := 49 }
set_option maxHeartbeats 4000000 in
set_option maxRecDepth 100000 in
/-- the reference: packed -/
theorem c_X5_packed (l : Launch) (D : va_G) (cI cZ cB cJ : ClassId) (sz : Nat) (m0 : Nat) (m1 : Nat) (m2 : Nat) (m3 : Nat) (m4 : Nat) (m5 : Nat) (m6 : Nat) (m7 : Nat) (m8 : Nat) (m9 : Nat) (ma : Nat) (th : Int32) (wd : Nat) (ht : Nat) (pn : Nat) (cn : Nat) (fl : Int32) (bf : Nat) (bt : Nat) (xn : Nat) (ip : Int32) (ps : Nat) (gB : Nat → Int32) (gk : Nat → Int32) (vi : Int32) (hpn : pn ≤ 4) (hht : ht ≤ 48) (hwd : wd ≤ 48) (hI : ip = 0 ∨ (ip = nI 1 ∧ MPk gB wd ht gk ps (pn * ht) ∧ ps ≤ 18432)) : Met l yX5_packed wsX5_packed rm_X5_packed (va_Pc [.ref m0, .int vi] (PC D (qT cI cZ cB cJ) [(m0, .inr (5, [.int th, .int (nI wd), .int (nI ht), .int (nI pn), .ref m1, .ref m2, .ref m3, .int (nI cn), .ref m4, .ref m5, .ref m6, .int fl, .int (nI bf), .int (nI bt), .int (nI xn), .ref m7, .ref m8, .ref m9, .int ip, .int (nI ps), .ref ma])), (m1, .inl (cI, 9216, .inl gB)), (ma, .inl (cI, 18432, .inl gk))] sz)) (va_Qi (fun (r : Int32) (u : Int32 × (Nat → Int32) × Nat) => MPk gB wd ht u.2.1 u.2.2 (pn * ht) ∧ u.2.2 ≤ 18432 ∧ ((0 ≤ vi.toInt ∧ vi.toInt < (u.2.2 : Int)) → u.1 = nI 0 ∧ r = b8 (u.2.1 vi.toInt.toNat)) ∧ (¬ (0 ≤ vi.toInt ∧ vi.toInt < (u.2.2 : Int)) → u.1 = nI 1)) (fun (u : Int32 × (Nat → Int32) × Nat) => PO D (qT cI cZ cB cJ) (va_A [(m0, .inr (5, [.int th, .int (nI wd), .int (nI ht), .int (nI pn), .ref m1, .ref m2, .ref m3, .int (nI cn), .ref m4, .ref m5, .ref m6, .int fl, .int (nI bf), .int (nI bt), .int (nI xn), .ref m7, .ref m8, .ref m9, .int ip, .int (nI ps), .ref ma])), (m1, .inl (cI, 9216, .inl gB)), (ma, .inl (cI, 18432, .inl gk))] sz) [(m0, .inr (5, [.int u.1, .int (nI wd), .int (nI ht), .int (nI pn), .ref m1, .ref m2, .ref m3, .int (nI cn), .ref m4, .ref m5, .ref m6, .int fl, .int (nI bf), .int (nI bt), .int (nI xn), .ref m7, .ref m8, .ref m9, .int (nI 1), .int (nI u.2.2), .ref ma])), (m1, .inl (cI, 9216, .inl gB)), (ma, .inl (cI, 18432, .inl u.2.1))]) (va_A [(m0, .inr (5, [.int th, .int (nI wd), .int (nI ht), .int (nI pn), .ref m1, .ref m2, .ref m3, .int (nI cn), .ref m4, .ref m5, .ref m6, .int fl, .int (nI bf), .int (nI bt), .int (nI xn), .ref m7, .ref m8, .ref m9, .int ip, .int (nI ps), .ref ma])), (m1, .inl (cI, 9216, .inl gB)), (ma, .inl (cI, 18432, .inl gk))] sz)) 0 0 (va_A [(m0, .inr (5, [.int th, .int (nI wd), .int (nI ht), .int (nI pn), .ref m1, .ref m2, .ref m3, .int (nI cn), .ref m4, .ref m5, .ref m6, .int fl, .int (nI bf), .int (nI bt), .int (nI xn), .ref m7, .ref m8, .ref m9, .int ip, .int (nI ps), .ref ma])), (m1, .inl (cI, 9216, .inl gB)), (ma, .inl (cI, 18432, .inl gk))] sz) := by
  refine q_entZ (cc := cX5_packed) (maxL := 2) (by decide +kernel) rfl (Nat.le_of_ble_eq_true rfl) ?_
  intro p e s m below meth c A Q ls hq hl hQ
  obtain ⟨hx, hb, hml, hts, hown, hin, hN, hK, hsz, hA, hP, hD, hS⟩ := hq
  have hown : s.vm.findClass RX5 = some m.cls := hown
  obtain ⟨H, hH⟩ : ∃ H, H = s.heap := ⟨_, rfl⟩
  rw [← hH] at hP ⊢
  have hS : va_S A s.heap H [] := by rw [hH]; exact va_S.rf
  clear hH
  have hl : lv_has ls 2 [(0, .ref m0), (1, .int vi)] := hl
  have iX5 : ∀ w ∈ wsX50, w ∈ wsX5_packed := by decide +kernel
  have f_55 := hts (.fieldLink RX5 55 "RasterCoverModel" "thrown" "I") (by decide +kernel)
  have f_135 := hts (.fieldLink RX5 135 "RasterCoverModel" "size" "I") (by decide +kernel)
  have f_39 := hts (.fieldLink RX5 39 "RasterCoverModel" "packed" "[I") (by decide +kernel)
  have f_127 := hts (.fieldLink RX5 127 "RasterCoverModel" "isPacked" "Z") (by decide +kernel)
  have J_11 : ∀ (ip2 : Int32) (gk2 : Nat → Int32) (ps2 : Nat), (ip2 = nI 1) → (MPk gB wd ht gk2 ps2 (pn * ht)) → (ps2 ≤ 18432) → ∀ (H : Heap) (locs : List Loc) (ls : Array Slot), va_P D qCl [(m0, .inr (5, [.int th, .int (nI wd), .int (nI ht), .int (nI pn), .ref m1, .ref m2, .ref m3, .int (nI cn), .ref m4, .ref m5, .ref m6, .int fl, .int (nI bf), .int (nI bt), .int (nI xn), .ref m7, .ref m8, .ref m9, .int ip2, .int (nI ps2), .ref ma])), (m1, .inl (cI, 9216, .inl gB)), (ma, .inl (cI, 18432, .inl gk2))] H → va_D A [(m0, .inr (5, [.int th, .int (nI wd), .int (nI ht), .int (nI pn), .ref m1, .ref m2, .ref m3, .int (nI cn), .ref m4, .ref m5, .ref m6, .int fl, .int (nI bf), .int (nI bt), .int (nI xn), .ref m7, .ref m8, .ref m9, .int ip2, .int (nI ps2), .ref ma])), (m1, .inl (cI, 9216, .inl gB)), (ma, .inl (cI, 18432, .inl gk2))] → va_S A s.heap H locs → lv_has ls 2 [(0, .ref m0), (1, .int vi)] → W p l e rm_X5_packed s m ([.ref m0, .int vi] : List Value).toArray below meth c H locs 0 0 Q (F0 m 11 ls []) := by
    intro ip2 gk2 ps2 hip2 hM2 hps2 H locs ls hP hD hS hl
    refine lv_aload_n hx hb dX5_packed_11 rfl (lv_at hl 0 rfl) ?_
    refine lv_iload_n hx hb dX5_packed_12 rfl (lv_at hl 1 rfl) ?_
    refine lv_if_lt (tgt := 24) hx hb dX5_packed_13 (by decide) (fun h_13 => ?_) (fun h_13 => ?_)
    · rw [i_lt, show (0 : Int32).toInt = 0 from by decide] at h_13
      refine lv_iconst (v := nI 1) hx hb dX5_packed_24 (by decide) ?_
      refine lv_goto (tgt := 29) hx hb dX5_packed_25 (by decide) ?_
      refine va_put (D := D) (ci := 5) (v := .int (nI 1)) (ty := .int) (C := RX5) (T := TX5) (N := 21) hx hb hts iX5 tyX5 tyX5_ok nmX5 hown hK hP hD hS 0 rfl rfl 0 (by decide) f_55 (fun _ h9 => h9) rfl (by decide +kernel) rfl rfl (Nat.le_of_ble_eq_true rfl) dX5_packed_29 (fun H locs hP hD hS => ?_)
      have hP : va_P D qCl [(m0, .inr (5, [.int (nI 1), .int (nI wd), .int (nI ht), .int (nI pn), .ref m1, .ref m2, .ref m3, .int (nI cn), .ref m4, .ref m5, .ref m6, .int fl, .int (nI bf), .int (nI bt), .int (nI xn), .ref m7, .ref m8, .ref m9, .int ip2, .int (nI ps2), .ref ma])), (m1, .inl (cI, 9216, .inl gB)), (ma, .inl (cI, 18432, .inl gk2))] H := hP
      have hD : va_D A [(m0, .inr (5, [.int (nI 1), .int (nI wd), .int (nI ht), .int (nI pn), .ref m1, .ref m2, .ref m3, .int (nI cn), .ref m4, .ref m5, .ref m6, .int fl, .int (nI bf), .int (nI bt), .int (nI xn), .ref m7, .ref m8, .ref m9, .int ip2, .int (nI ps2), .ref ma])), (m1, .inl (cI, 9216, .inl gB)), (ma, .inl (cI, 18432, .inl gk2))] := hD
      refine lv_aload_n hx hb dX5_packed_32 rfl (lv_at hl 0 rfl) ?_
      refine va_get (D := D) (ci := 5) (v := .int (nI 1)) (C := RX5) (T := TX5) (N := 21) hx hb hts iX5 hown hK hP 0 rfl rfl 0 (by decide) f_55 (fun _ h9 => h9) rfl dX5_packed_33 ?_
      refine q_if_le (tgt := 43) hx hb (by omega) dX5_packed_36 (by decide) (fun h_36 => by omega) (fun h_36 => ?_)
      refine lv_iconst (v := nI 0) hx hb dX5_packed_39 (by decide) ?_
      refine lv_goto (tgt := 50) hx hb dX5_packed_40 (by decide) ?_
      subst hip2
      have hr9 : MPk gB wd ht gk2 ps2 (pn * ht) ∧ ps2 ≤ 18432 ∧ ((0 ≤ vi.toInt ∧ vi.toInt < (ps2 : Int)) → (nI 1) = nI 0 ∧ (nI 0) = b8 (gk2 vi.toInt.toNat)) ∧ (¬ (0 ≤ vi.toInt ∧ vi.toInt < (ps2 : Int)) → (nI 1) = nI 1) := ⟨hM2, hps2, fun w => absurd w (by omega), fun _ => rfl⟩
      exact hQ _ _ _ _ (nI 0) (nI 1, gk2, ps2) _ _ rfl dX5_packed_50 (Nat.le_refl _) (Nat.le_refl _) hr9 (hP.sub [0, 1, 2] rfl) hK (hD.sub [0, 1, 2] (by decide) rfl) hS
    rw [i_lt, show (0 : Int32).toInt = 0 from by decide] at h_13
    refine lv_iload_n hx hb dX5_packed_16 rfl (lv_at hl 1 rfl) ?_
    refine lv_aload_n hx hb dX5_packed_17 rfl (lv_at hl 0 rfl) ?_
    refine va_get (D := D) (ci := 5) (v := .int (nI ps2)) (C := RX5) (T := TX5) (N := 21) hx hb hts iX5 hown hK hP 0 rfl rfl 19 (by decide) f_135 (fun _ h9 => h9) rfl dX5_packed_18 ?_
    refine lv_icmp_lt (tgt := 28) hx hb dX5_packed_21 (by decide) (fun h_21 => ?_) (fun h_21 => ?_)
    · rw [i_lt, nI_toInt (by omega)] at h_21
      refine lv_iconst (v := nI 0) hx hb dX5_packed_28 (by decide) ?_
      refine va_put (D := D) (ci := 5) (v := .int (nI 0)) (ty := .int) (C := RX5) (T := TX5) (N := 21) hx hb hts iX5 tyX5 tyX5_ok nmX5 hown hK hP hD hS 0 rfl rfl 0 (by decide) f_55 (fun _ h9 => h9) rfl (by decide +kernel) rfl rfl (Nat.le_of_ble_eq_true rfl) dX5_packed_29 (fun H locs hP hD hS => ?_)
      have hP : va_P D qCl [(m0, .inr (5, [.int (nI 0), .int (nI wd), .int (nI ht), .int (nI pn), .ref m1, .ref m2, .ref m3, .int (nI cn), .ref m4, .ref m5, .ref m6, .int fl, .int (nI bf), .int (nI bt), .int (nI xn), .ref m7, .ref m8, .ref m9, .int ip2, .int (nI ps2), .ref ma])), (m1, .inl (cI, 9216, .inl gB)), (ma, .inl (cI, 18432, .inl gk2))] H := hP
      have hD : va_D A [(m0, .inr (5, [.int (nI 0), .int (nI wd), .int (nI ht), .int (nI pn), .ref m1, .ref m2, .ref m3, .int (nI cn), .ref m4, .ref m5, .ref m6, .int fl, .int (nI bf), .int (nI bt), .int (nI xn), .ref m7, .ref m8, .ref m9, .int ip2, .int (nI ps2), .ref ma])), (m1, .inl (cI, 9216, .inl gB)), (ma, .inl (cI, 18432, .inl gk2))] := hD
      refine lv_aload_n hx hb dX5_packed_32 rfl (lv_at hl 0 rfl) ?_
      refine va_get (D := D) (ci := 5) (v := .int (nI 0)) (C := RX5) (T := TX5) (N := 21) hx hb hts iX5 hown hK hP 0 rfl rfl 0 (by decide) f_55 (fun _ h9 => h9) rfl dX5_packed_33 ?_
      refine q_if_le (tgt := 43) hx hb (by omega) dX5_packed_36 (by decide) (fun h_36 => ?_) (fun h_36 => by omega)
      refine lv_aload_n hx hb dX5_packed_43 rfl (lv_at hl 0 rfl) ?_
      refine va_get (D := D) (ci := 5) (v := .ref ma) (C := RX5) (T := TX5) (N := 21) hx hb hts iX5 hown hK hP 0 rfl rfl 20 (by decide) f_39 (fun _ h9 => h9) rfl dX5_packed_44 ?_
      refine lv_iload_n hx hb dX5_packed_47 rfl (lv_at hl 1 rfl) ?_
      refine q_eqi (y := nI vi.toInt.toNat) (by rw [i_eq, nI_toInt (by omega)]; omega) ?_
      refine q_iald hx hb hK hP 2 0 rfl rfl (k := vi.toInt.toNat) (by omega) (by omega) dX5_packed_48 ?_
      refine lv_i2b hx hb dX5_packed_49 rfl ?_
      refine q_eqi (y := b8 (gk2 vi.toInt.toNat)) rfl ?_
      subst hip2
      have hr9 : MPk gB wd ht gk2 ps2 (pn * ht) ∧ ps2 ≤ 18432 ∧ ((0 ≤ vi.toInt ∧ vi.toInt < (ps2 : Int)) → (nI 0) = nI 0 ∧ (b8 (gk2 vi.toInt.toNat)) = b8 (gk2 vi.toInt.toNat)) ∧ (¬ (0 ≤ vi.toInt ∧ vi.toInt < (ps2 : Int)) → (nI 0) = nI 1) := ⟨hM2, hps2, fun _ => ⟨rfl, rfl⟩, fun w => absurd (show 0 ≤ vi.toInt ∧ vi.toInt < (ps2 : Int) by omega) w⟩
      exact hQ _ _ _ _ (b8 (gk2 vi.toInt.toNat)) (nI 0, gk2, ps2) _ _ (congrArg Value.int (b8_b8 _)) dX5_packed_50 (Nat.le_refl _) (Nat.le_refl _) hr9 (hP.sub [0, 1, 2] rfl) hK (hD.sub [0, 1, 2] (by decide) rfl) hS
    rw [i_lt, nI_toInt (by omega)] at h_21
    refine lv_iconst (v := nI 1) hx hb dX5_packed_24 (by decide) ?_
    refine lv_goto (tgt := 29) hx hb dX5_packed_25 (by decide) ?_
    refine va_put (D := D) (ci := 5) (v := .int (nI 1)) (ty := .int) (C := RX5) (T := TX5) (N := 21) hx hb hts iX5 tyX5 tyX5_ok nmX5 hown hK hP hD hS 0 rfl rfl 0 (by decide) f_55 (fun _ h9 => h9) rfl (by decide +kernel) rfl rfl (Nat.le_of_ble_eq_true rfl) dX5_packed_29 (fun H locs hP hD hS => ?_)
    have hP : va_P D qCl [(m0, .inr (5, [.int (nI 1), .int (nI wd), .int (nI ht), .int (nI pn), .ref m1, .ref m2, .ref m3, .int (nI cn), .ref m4, .ref m5, .ref m6, .int fl, .int (nI bf), .int (nI bt), .int (nI xn), .ref m7, .ref m8, .ref m9, .int ip2, .int (nI ps2), .ref ma])), (m1, .inl (cI, 9216, .inl gB)), (ma, .inl (cI, 18432, .inl gk2))] H := hP
    have hD : va_D A [(m0, .inr (5, [.int (nI 1), .int (nI wd), .int (nI ht), .int (nI pn), .ref m1, .ref m2, .ref m3, .int (nI cn), .ref m4, .ref m5, .ref m6, .int fl, .int (nI bf), .int (nI bt), .int (nI xn), .ref m7, .ref m8, .ref m9, .int ip2, .int (nI ps2), .ref ma])), (m1, .inl (cI, 9216, .inl gB)), (ma, .inl (cI, 18432, .inl gk2))] := hD
    refine lv_aload_n hx hb dX5_packed_32 rfl (lv_at hl 0 rfl) ?_
    refine va_get (D := D) (ci := 5) (v := .int (nI 1)) (C := RX5) (T := TX5) (N := 21) hx hb hts iX5 hown hK hP 0 rfl rfl 0 (by decide) f_55 (fun _ h9 => h9) rfl dX5_packed_33 ?_
    refine q_if_le (tgt := 43) hx hb (by omega) dX5_packed_36 (by decide) (fun h_36 => by omega) (fun h_36 => ?_)
    refine lv_iconst (v := nI 0) hx hb dX5_packed_39 (by decide) ?_
    refine lv_goto (tgt := 50) hx hb dX5_packed_40 (by decide) ?_
    subst hip2
    have hr9 : MPk gB wd ht gk2 ps2 (pn * ht) ∧ ps2 ≤ 18432 ∧ ((0 ≤ vi.toInt ∧ vi.toInt < (ps2 : Int)) → (nI 1) = nI 0 ∧ (nI 0) = b8 (gk2 vi.toInt.toNat)) ∧ (¬ (0 ≤ vi.toInt ∧ vi.toInt < (ps2 : Int)) → (nI 1) = nI 1) := ⟨hM2, hps2, fun w => absurd w (by omega), fun _ => rfl⟩
    exact hQ _ _ _ _ (nI 0) (nI 1, gk2, ps2) _ _ rfl dX5_packed_50 (Nat.le_refl _) (Nat.le_refl _) hr9 (hP.sub [0, 1, 2] rfl) hK (hD.sub [0, 1, 2] (by decide) rfl) hS
  refine lv_aload_n hx hb dX5_packed_0 rfl (lv_at hl 0 rfl) ?_
  refine va_get (D := D) (ci := 5) (v := .int ip) (C := RX5) (T := TX5) (N := 21) hx hb hts iX5 hown hK hP 0 rfl rfl 18 (by decide) f_127 (fun _ h9 => h9) rfl dX5_packed_1 ?_
  refine lv_if_ne (tgt := 11) hx hb dX5_packed_4 (by decide) (fun h_4 => ?_) (fun h_4 => ?_)
  · exact J_11 ip gk ps (by rcases hI with w | w; (· exact absurd w h_4); (· exact w.1)) (by rcases hI with w | w; (· exact absurd w h_4); (· exact w.2.1)) (by rcases hI with w | w; (· exact absurd w h_4); (· exact w.2.2)) _ _ _ (hP.sub [0, 1, 2] rfl) (hD.sub [0, 1, 2] (by decide) rfl) hS (lv_sub hl [0, 1] rfl)
  refine lv_aload_n hx hb dX5_packed_7 rfl (lv_at hl 0 rfl) ?_
  refine q_v0 (wr := []) (va_runV (As := []) (rest := []) ⟨hx, hb, hml, hown, hts⟩ (c_X5_packAll l D cI cZ cB cJ H.size m0 m1 m2 m3 m4 m5 m6 m7 m8 m9 ma th wd ht pn cn fl bf bt xn ip ps gB gk hpn hht hwd) (cwV 0 hts gX5_packed_X5_packAll rfl rfl rfl (by decide +kernel) ⟨Nat.le_of_ble_eq_true rfl, Nat.le_of_ble_eq_true rfl⟩) (q_preV (q_pre (wc := [(m0, .inr (5, [.int th, .int (nI wd), .int (nI ht), .int (nI pn), .ref m1, .ref m2, .ref m3, .int (nI cn), .ref m4, .ref m5, .ref m6, .int fl, .int (nI bf), .int (nI bt), .int (nI xn), .ref m7, .ref m8, .ref m9, .int ip, .int (nI ps), .ref ma])), (m1, .inl (cI, 9216, .inl gB)), (ma, .inl (cI, 18432, .inl gk))]) hP hD hK hN [0, 1, 2] (by decide) rfl) (va_recv hK hP (ci := 5) (q0 := 0) rfl rfl)) rfl rfl hl.1 rfl (lv_room (Nat.le_of_ble_eq_true rfl)) dX5_packed_8 ⟨Nat.zero_le _, Nat.zero_le _⟩) hS hA hP hD [0, 1, 2] [] rfl rfl (by decide) (by decide) (fun u H locs hp_8 hP hD hS => ?_)
  obtain ⟨gk3, ps3⟩ := u
  have hP : va_P D qCl [(m0, .inr (5, [.int th, .int (nI wd), .int (nI ht), .int (nI pn), .ref m1, .ref m2, .ref m3, .int (nI cn), .ref m4, .ref m5, .ref m6, .int fl, .int (nI bf), .int (nI bt), .int (nI xn), .ref m7, .ref m8, .ref m9, .int (nI 1), .int (nI ps3), .ref ma])), (m1, .inl (cI, 9216, .inl gB)), (ma, .inl (cI, 18432, .inl gk3))] H := hP
  have hD : va_D A [(m0, .inr (5, [.int th, .int (nI wd), .int (nI ht), .int (nI pn), .ref m1, .ref m2, .ref m3, .int (nI cn), .ref m4, .ref m5, .ref m6, .int fl, .int (nI bf), .int (nI bt), .int (nI xn), .ref m7, .ref m8, .ref m9, .int (nI 1), .int (nI ps3), .ref ma])), (m1, .inl (cI, 9216, .inl gB)), (ma, .inl (cI, 18432, .inl gk3))] := hD
  have hp_8 : MPk gB wd ht gk3 ps3 (pn * ht) ∧ ps3 ≤ 18432 := hp_8
  exact J_11 (nI 1) gk3 ps3 rfl hp_8.1 hp_8.2 _ _ _ (hP.sub [0, 1, 2] rfl) (hD.sub [0, 1, 2] (by decide) rfl) hS (lv_sub hl [0, 1] rfl)
