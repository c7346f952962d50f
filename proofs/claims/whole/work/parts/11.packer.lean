abbrev rm_X1_put : Room := { frames := 0, cells := 0, slots := 0, locals := 0 }
set_option maxHeartbeats 4000000 in
set_option maxRecDepth 100000 in
theorem c_X1_put (l : Launch) (D : va_G) (cI cZ cB cJ : ClassId) (sz : Nat) (k0 : Nat) (k1 : Nat) (wd : Nat) (ps : Nat) (sg : Nat → Int32) (v : Int32) (hwd : wd ≤ 48) (hps : ps < 2 * wd) : Met l yX1_put wsX1_put rm_X1_put (va_Pc [.ref k0, .int v] (PC D (qT cI cZ cB cJ) [(k0, .inr (1, [.ref k1, .int (nI ps)])), (k1, .inl (cB, 2 * wd, .inl sg))] sz)) (va_Qv (fun (u : Unit) => True) (fun (u : Unit) => PO D (qT cI cZ cB cJ) (va_A [(k0, .inr (1, [.ref k1, .int (nI ps)])), (k1, .inl (cB, 2 * wd, .inl sg))] sz) [(k0, .inr (1, [.ref k1, .int (nI (ps + 1))])), (k1, .inl (cB, 2 * wd, .inl (upd sg ps (b8 v))))]) (va_A [(k0, .inr (1, [.ref k1, .int (nI ps)])), (k1, .inl (cB, 2 * wd, .inl sg))] sz)) 0 0 (va_A [(k0, .inr (1, [.ref k1, .int (nI ps)])), (k1, .inl (cB, 2 * wd, .inl sg))] sz) := by
  refine q_entV (cc := cX1_put) (maxL := 2) (by decide +kernel) rfl (Nat.le_of_ble_eq_true rfl) ?_
  intro p e s m below meth c A Q ls hq hl hQ
  obtain ⟨hx, hb, hml, hts, hown, hin, hN, hK, hsz, hA, hP, hD, hS⟩ := hq
  have hown : s.vm.findClass RX1 = some m.cls := hown
  obtain ⟨H, hH⟩ : ∃ H, H = s.heap := ⟨_, rfl⟩
  rw [← hH] at hP ⊢
  have hS : va_S A s.heap H [] := by rw [hH]; exact va_S.rf
  clear hH
  have hl : lv_has ls 2 [(0, .ref k0), (1, .int v)] := hl
  have iX1 : ∀ w ∈ wsX10, w ∈ wsX1_put := by decide +kernel
  have f_7 := hts (.fieldLink RX1 7 "RasterCover$PackedRow" "size" "I") (by decide +kernel)
  have f_13 := hts (.fieldLink RX1 13 "RasterCover$PackedRow" "signs" "[B") (by decide +kernel)
  refine lv_aload_n hx hb dX1_put_0 rfl (lv_at hl 0 rfl) ?_
  refine va_get (D := D) (ci := 1) (v := .int (nI ps)) (C := RX1) (T := TX1) (N := 2) hx hb hts iX1 hown hK hP 0 rfl rfl 1 (by decide) f_7 (fun _ h9 => h9) rfl dX1_put_1 ?_
  refine lv_aload_n hx hb dX1_put_4 rfl (lv_at hl 0 rfl) ?_
  refine va_get (D := D) (ci := 1) (v := .ref k1) (C := RX1) (T := TX1) (N := 2) hx hb hts iX1 hown hK hP 0 rfl rfl 0 (by decide) f_13 (fun _ h9 => h9) rfl dX1_put_5 ?_
  refine va_alen hx hb hK hP 1 2 rfl rfl (v := nI (2 * wd)) rfl dX1_put_8 ?_
  refine q_ge (tgt := 33) hx hb (by omega) (by omega) dX1_put_9 (by decide) (fun h_9 => by omega) (fun h_9 => ?_)
  refine lv_aload_n hx hb dX1_put_12 rfl (lv_at hl 0 rfl) ?_
  refine va_get (D := D) (ci := 1) (v := .ref k1) (C := RX1) (T := TX1) (N := 2) hx hb hts iX1 hown hK hP 0 rfl rfl 0 (by decide) f_13 (fun _ h9 => h9) rfl dX1_put_13 ?_
  refine lv_aload_n hx hb dX1_put_16 rfl (lv_at hl 0 rfl) ?_
  refine va_get (D := D) (ci := 1) (v := .int (nI ps)) (C := RX1) (T := TX1) (N := 2) hx hb hts iX1 hown hK hP 0 rfl rfl 1 (by decide) f_7 (fun _ h9 => h9) rfl dX1_put_17 ?_
  refine lv_iload_n hx hb dX1_put_20 rfl (lv_at hl 1 rfl) ?_
  refine lv_i2b hx hb dX1_put_21 rfl ?_
  refine q_eqi (y := b8 v) rfl ?_
  refine q_bastv hx hb hK hP hD hS 1 2 rfl rfl (k := ps) (b8_b8 _) (by omega) (by omega) dX1_put_22 (fun H locs hP hD hS => ?_)
  have hP : va_P D qCl [(k0, .inr (1, [.ref k1, .int (nI ps)])), (k1, .inl (cB, 2 * wd, .inl (upd sg ps (b8 v))))] H := hP
  have hD : va_D A [(k0, .inr (1, [.ref k1, .int (nI ps)])), (k1, .inl (cB, 2 * wd, .inl (upd sg ps (b8 v))))] := hD
  refine lv_aload_n hx hb dX1_put_23 rfl (lv_at hl 0 rfl) ?_
  refine lv_dup hx hb dX1_put_24 rfl ?_
  refine va_get (D := D) (ci := 1) (v := .int (nI ps)) (C := RX1) (T := TX1) (N := 2) hx hb hts iX1 hown hK hP 0 rfl rfl 1 (by decide) f_7 (fun _ h9 => h9) rfl dX1_put_25 ?_
  refine lv_iconst (v := nI 1) hx hb dX1_put_28 (by decide) ?_
  refine lv_iadd hx hb dX1_put_29 ?_
  refine q_eqi (nI_add _ _) ?_
  refine va_put (D := D) (ci := 1) (v := .int (nI (ps + 1))) (ty := .int) (C := RX1) (T := TX1) (N := 2) hx hb hts iX1 tyX1 tyX1_ok nmX1 hown hK hP hD hS 0 rfl rfl 1 (by decide) f_7 (fun _ h9 => h9) rfl (by decide +kernel) rfl rfl (Nat.le_of_ble_eq_true rfl) dX1_put_30 (fun H locs hP hD hS => ?_)
  have hP : va_P D qCl [(k0, .inr (1, [.ref k1, .int (nI (ps + 1))])), (k1, .inl (cB, 2 * wd, .inl (upd sg ps (b8 v))))] H := hP
  have hD : va_D A [(k0, .inr (1, [.ref k1, .int (nI (ps + 1))])), (k1, .inl (cB, 2 * wd, .inl (upd sg ps (b8 v))))] := hD
  exact hQ _ _ _ _ () _ _ dX1_put_33 (Nat.le_refl _) (Nat.le_refl _) trivial (hP.sub [0, 1] rfl) hK (hD.sub [0, 1] (by decide) rfl) hS

abbrev rm_X1_pack : Room := { frames := 1, cells := 0, slots := 0, locals := 21 }
set_option maxHeartbeats 4000000 in
set_option maxRecDepth 100000 in
/-- PackedRow.pack -/
theorem c_X1_pack (l : Launch) (D : va_G) (cI cZ cB cJ : ClassId) (sz : Nat) (k0 : Nat) (k1 : Nat) (wd : Nat) (ps : Nat) (sg : Nat → Int32) (o1 : Nat) (bl : Nat) (fB : Nat → Int32) (st : Nat) (en : Nat) (hwd : wd ≤ 48) (hse : st ≤ en) (hew : en ≤ st + wd) (heb : en ≤ bl) (hbl : bl < 2 ^ 31) : Met l yX1_pack wsX1_pack rm_X1_pack (va_Pc [.ref k0, .ref o1, .int (nI st), .int (nI en)] (PC D (qT cI cZ cB cJ) [(k0, .inr (1, [.ref k1, .int (nI ps)])), (k1, .inl (cB, 2 * wd, .inl sg)), (o1, .inl (cI, bl, .inl fB))] sz)) (va_Qv (fun (u : (Nat → Int32) × Nat) => u.1 = (pkS fB st en sg (en - st)).1 ∧ u.2 = (pkS fB st en sg (en - st)).2.1 ∧ u.2 ≤ 2 * (en - st)) (fun (u : (Nat → Int32) × Nat) => PO D (qT cI cZ cB cJ) (va_A [(k0, .inr (1, [.ref k1, .int (nI ps)])), (k1, .inl (cB, 2 * wd, .inl sg)), (o1, .inl (cI, bl, .inl fB))] sz) [(k0, .inr (1, [.ref k1, .int (nI u.2)])), (k1, .inl (cB, 2 * wd, .inl u.1)), (o1, .inl (cI, bl, .inl fB))]) (va_A [(k0, .inr (1, [.ref k1, .int (nI ps)])), (k1, .inl (cB, 2 * wd, .inl sg)), (o1, .inl (cI, bl, .inl fB))] sz)) 0 0 (va_A [(k0, .inr (1, [.ref k1, .int (nI ps)])), (k1, .inl (cB, 2 * wd, .inl sg)), (o1, .inl (cI, bl, .inl fB))] sz) := by
  refine q_entV (cc := cX1_pack) (maxL := 7) (by decide +kernel) rfl (Nat.le_of_ble_eq_true rfl) ?_
  intro p e s m below meth c A Q ls hq hl hQ
  obtain ⟨hx, hb, hml, hts, hown, hin, hN, hK, hsz, hA, hP, hD, hS⟩ := hq
  have hown : s.vm.findClass RX1 = some m.cls := hown
  obtain ⟨H, hH⟩ : ∃ H, H = s.heap := ⟨_, rfl⟩
  rw [← hH] at hP ⊢
  have hS : va_S A s.heap H [] := by rw [hH]; exact va_S.rf
  clear hH
  have hl : lv_has ls 7 [(0, .ref k0), (1, .ref o1), (2, .int (nI st)), (3, .int (nI en))] := hl
  have iX1 : ∀ w ∈ wsX10, w ∈ wsX1_pack := by decide +kernel
  have f_7 := hts (.fieldLink RX1 7 "RasterCover$PackedRow" "size" "I") (by decide +kernel)
  have f_13 := hts (.fieldLink RX1 13 "RasterCover$PackedRow" "signs" "[B") (by decide +kernel)
  refine lv_aload_n hx hb dX1_pack_0 rfl (lv_at hl 0 rfl) ?_
  refine lv_iconst (v := nI 0) hx hb dX1_pack_1 (by decide) ?_
  refine va_put (D := D) (ci := 1) (v := .int (nI 0)) (ty := .int) (C := RX1) (T := TX1) (N := 2) hx hb hts iX1 tyX1 tyX1_ok nmX1 hown hK hP hD hS 0 rfl rfl 1 (by decide) f_7 (fun _ h9 => h9) rfl (by decide +kernel) rfl rfl (Nat.le_of_ble_eq_true rfl) dX1_pack_2 (fun H locs hP hD hS => ?_)
  have hP : va_P D qCl [(k0, .inr (1, [.ref k1, .int (nI 0)])), (k1, .inl (cB, 2 * wd, .inl sg)), (o1, .inl (cI, bl, .inl fB))] H := hP
  have hD : va_D A [(k0, .inr (1, [.ref k1, .int (nI 0)])), (k1, .inl (cB, 2 * wd, .inl sg)), (o1, .inl (cI, bl, .inl fB))] := hD
  refine lv_iconst (v := nI 0) hx hb dX1_pack_5 (by decide) ?_
  refine lv_istore (lv' := [(4, .int (nI 0)), (0, .ref k0), (1, .ref o1), (2, .int (nI st)), (3, .int (nI en))]) hx hb dX1_pack_6 hl (by decide) rfl (fun ls hl => ?_)
  refine lv_iconst (v := nI 0) hx hb dX1_pack_8 (by decide) ?_
  refine lv_istore (lv' := [(5, .int (nI 0)), (4, .int (nI 0)), (0, .ref k0), (1, .ref o1), (2, .int (nI st)), (3, .int (nI en))]) hx hb dX1_pack_9 hl (by decide) rfl (fun ls hl => ?_)
  refine lv_iload_n hx hb dX1_pack_11 rfl (lv_at hl 4 rfl) ?_
  refine lv_istore (lv' := [(6, .int (nI st)), (5, .int (nI 0)), (4, .int (nI 0)), (0, .ref k0), (1, .ref o1), (2, .int (nI st)), (3, .int (nI en))]) hx hb dX1_pack_12 hl (by decide) rfl (fun ls hl => ?_)
  have L_14 : ∀ (fuel : Nat) (k : Nat) (sg1 : Nat → Int32) (qs : Nat) (hd : Nat) (af : Nat), en - (st + k) < fuel → (st + k ≤ en) → (pkS fB st en sg k = (sg1, qs, hd, af)) → (qs ≤ 2 * k) → (k = 0 ∨ hd < qs) → (af = 0 ∨ (af = 1 ∧ hd < qs)) → ∀ (H : Heap) (locs : List Loc) (ls : Array Slot), va_P D qCl [(k0, .inr (1, [.ref k1, .int (nI qs)])), (k1, .inl (cB, 2 * wd, .inl sg1)), (o1, .inl (cI, bl, .inl fB))] H → va_D A [(k0, .inr (1, [.ref k1, .int (nI qs)])), (k1, .inl (cB, 2 * wd, .inl sg1)), (o1, .inl (cI, bl, .inl fB))] → va_S A s.heap H locs → lv_has ls 7 [(6, .int (nI (st + k))), (5, .int (nI af)), (4, .int (nI hd)), (0, .ref k0), (1, .ref o1), (2, .int (nI st)), (3, .int (nI en))] → W p l e rm_X1_pack s m ([.ref k0, .ref o1, .int (nI st), .int (nI en)] : List Value).toArray below meth c H locs 0 0 Q (F0 m 14 ls []) := by
    intro fuel
    induction fuel with
    | zero =>
      intro k sg1 qs hd af hm
      exact absurd hm (Nat.not_lt_zero _)
    | succ fuel ih_14 =>
      intro k sg1 qs hd af hm_14 hk hS4 hqs hhd haf H locs ls hP hD hS hl
      refine lv_iload hx hb dX1_pack_14 (lv_at hl 0 rfl) ?_
      refine lv_iload_n hx hb dX1_pack_16 rfl (lv_at hl 6 rfl) ?_
      refine q_ge (tgt := 146) hx hb (by omega) (by omega) dX1_pack_17 (by decide) (fun h_17 => ?_) (fun h_17 => ?_)
      · have e9 : k = en - st := by omega
        rw [e9] at hS4
        have hr9 : sg1 = (pkS fB st en sg (en - st)).1 ∧ qs = (pkS fB st en sg (en - st)).2.1 ∧ qs ≤ 2 * (en - st) := ⟨by rw [hS4], by rw [hS4], by omega⟩
        exact hQ _ _ _ _ (sg1, qs) _ _ dX1_pack_146 (Nat.le_refl _) (Nat.le_refl _) hr9 (hP.sub [0, 1, 2] rfl) hK (hD.sub [0, 1, 2] (by decide) rfl) hS
      have J_54 : (¬ (0 < k ∧ fB (st + k) = fB (st + k - 1))) → ∀ (H : Heap) (locs : List Loc) (ls : Array Slot), va_P D qCl [(k0, .inr (1, [.ref k1, .int (nI qs)])), (k1, .inl (cB, 2 * wd, .inl sg1)), (o1, .inl (cI, bl, .inl fB))] H → va_D A [(k0, .inr (1, [.ref k1, .int (nI qs)])), (k1, .inl (cB, 2 * wd, .inl sg1)), (o1, .inl (cI, bl, .inl fB))] → va_S A s.heap H locs → lv_has ls 7 [(6, .int (nI (st + k))), (5, .int (nI af)), (4, .int (nI hd)), (0, .ref k0), (1, .ref o1), (2, .int (nI st)), (3, .int (nI en))] → W p l e rm_X1_pack s m ([.ref k0, .ref o1, .int (nI st), .int (nI en)] : List Value).toArray below meth c H locs 0 0 Q (F0 m 54 ls []) := by
        intro  hn54 H locs ls hP hD hS hl
        have J_101 : (¬ (st + k + 1 < en ∧ fB (st + k) = fB (st + k + 1))) → ∀ (H : Heap) (locs : List Loc) (ls : Array Slot), va_P D qCl [(k0, .inr (1, [.ref k1, .int (nI qs)])), (k1, .inl (cB, 2 * wd, .inl sg1)), (o1, .inl (cI, bl, .inl fB))] H → va_D A [(k0, .inr (1, [.ref k1, .int (nI qs)])), (k1, .inl (cB, 2 * wd, .inl sg1)), (o1, .inl (cI, bl, .inl fB))] → va_S A s.heap H locs → lv_has ls 7 [(6, .int (nI (st + k))), (5, .int (nI af)), (4, .int (nI hd)), (0, .ref k0), (1, .ref o1), (2, .int (nI st)), (3, .int (nI en))] → W p l e rm_X1_pack s m ([.ref k0, .ref o1, .int (nI st), .int (nI en)] : List Value).toArray below meth c H locs 0 0 Q (F0 m 101 ls []) := by
          intro  hn101 H locs ls hP hD hS hl
          refine lv_iload hx hb dX1_pack_101 (lv_at hl 1 rfl) ?_
          refine q_if_ne (tgt := 117) hx hb (by omega) dX1_pack_103 (by decide) (fun h_103 => ?_) (fun h_103 => ?_)
          · refine lv_aload_n hx hb dX1_pack_117 rfl (lv_at hl 3 rfl) ?_
            refine va_get (D := D) (ci := 1) (v := .ref k1) (C := RX1) (T := TX1) (N := 2) hx hb hts iX1 hown hK hP 0 rfl rfl 0 (by decide) f_13 (fun _ h9 => h9) rfl dX1_pack_118 ?_
            refine lv_iload hx hb dX1_pack_121 (lv_at hl 2 rfl) ?_
            refine lv_dup2_11 hx hb dX1_pack_123 rfl rfl ?_
            refine q_bald hx hb hK hP 1 2 rfl rfl (k := hd) (by omega) (by omega) dX1_pack_124 ?_
            refine lv_iconst (v := nI 1) hx hb dX1_pack_125 (by decide) ?_
            refine lv_iadd hx hb dX1_pack_126 ?_
            refine lv_i2b hx hb dX1_pack_127 rfl ?_
            refine q_eqi (y := b8 ((sg1 hd) + (nI 1))) rfl ?_
            refine q_bastv hx hb hK hP hD hS 1 2 rfl rfl (k := hd) (b8_b8 _) (by omega) (by omega) dX1_pack_128 (fun H locs hP hD hS => ?_)
            have hP : va_P D qCl [(k0, .inr (1, [.ref k1, .int (nI qs)])), (k1, .inl (cB, 2 * wd, .inl (upd sg1 hd (b8 ((sg1 hd) + (nI 1)))))), (o1, .inl (cI, bl, .inl fB))] H := hP
            have hD : va_D A [(k0, .inr (1, [.ref k1, .int (nI qs)])), (k1, .inl (cB, 2 * wd, .inl (upd sg1 hd (b8 ((sg1 hd) + (nI 1)))))), (o1, .inl (cI, bl, .inl fB))] := hD
            refine lv_aload_n hx hb dX1_pack_129 rfl (lv_at hl 3 rfl) ?_
            refine lv_aload_n hx hb dX1_pack_130 rfl (lv_at hl 4 rfl) ?_
            refine lv_iload hx hb dX1_pack_131 (lv_at hl 0 rfl) ?_
            refine q_iald hx hb hK hP 2 0 rfl rfl (k := (st + k)) (by omega) (by omega) dX1_pack_133 ?_
            refine q_v0 (wr := [(o1, .inl (cI, bl, .inl fB))]) (va_runV (As := [.int (fB (st + k))]) (rest := []) ⟨hx, hb, hml, hown, hts⟩ (c_X1_put l D cI cZ cB cJ H.size k0 k1 wd qs (upd sg1 hd (b8 ((sg1 hd) + (nI 1)))) (fB (st + k)) (by omega) (by omega)) (cwV 1 hts gX1_pack_X1_put rfl rfl rfl (by decide +kernel) ⟨Nat.le_of_ble_eq_true rfl, Nat.le_of_ble_eq_true rfl⟩) (q_preV (q_pre (wc := [(k0, .inr (1, [.ref k1, .int (nI qs)])), (k1, .inl (cB, 2 * wd, .inl (upd sg1 hd (b8 ((sg1 hd) + (nI 1))))))]) hP hD hK hN [0, 1] (by decide) rfl) (va_recv hK hP (ci := 1) (q0 := 0) rfl rfl)) rfl rfl hl.1 rfl (lv_room (Nat.le_of_ble_eq_true rfl)) dX1_pack_134 ⟨Nat.zero_le _, Nat.zero_le _⟩) hS hA hP hD [0, 1] [2] rfl rfl (by decide) (by decide) (fun u H locs hp_134 hP hD hS => ?_)
            have hP : va_P D qCl [(o1, .inl (cI, bl, .inl fB)), (k0, .inr (1, [.ref k1, .int (nI (qs + 1))])), (k1, .inl (cB, 2 * wd, .inl (upd (upd sg1 hd (b8 ((sg1 hd) + (nI 1)))) qs (b8 (fB (st + k))))))] H := hP
            have hD : va_D A [(o1, .inl (cI, bl, .inl fB)), (k0, .inr (1, [.ref k1, .int (nI (qs + 1))])), (k1, .inl (cB, 2 * wd, .inl (upd (upd sg1 hd (b8 ((sg1 hd) + (nI 1)))) qs (b8 (fB (st + k))))))] := hD
            refine lv_iconst (v := nI 1) hx hb dX1_pack_137 (by decide) ?_
            refine lv_istore (lv' := [(5, .int (nI 1)), (6, .int (nI (st + k))), (4, .int (nI hd)), (0, .ref k0), (1, .ref o1), (2, .int (nI st)), (3, .int (nI en))]) hx hb dX1_pack_138 hl (by decide) rfl (fun ls hl => ?_)
            refine lv_iinc (v := nI (st + k + 1)) (lv' := [(6, .int (nI (st + k + 1))), (5, .int (nI 1)), (4, .int (nI hd)), (0, .ref k0), (1, .ref o1), (2, .int (nI st)), (3, .int (nI en))]) hx hb dX1_pack_140 hl (k := 1) rfl (q_inc _) (by decide) rfl (fun ls hl => ?_)
            refine lv_goto (tgt := 14) hx hb dX1_pack_143 (by decide) ?_
            exact ih_14 (k + 1) (upd (upd sg1 hd (b8 ((sg1 hd) + (nI 1)))) qs (b8 (fB (st + k)))) (qs + 1) hd 1 (by omega) (by omega) (by show pkSt fB st en k (pkS fB st en sg k) = _; rw [hS4]; exact (if_neg hn54).trans ((if_neg hn101).trans (if_neg (show ¬ af = 0 by omega)))) (by omega) (by omega) (by omega) _ _ _ (hP.sub [1, 2, 0] rfl) (hD.sub [1, 2, 0] (by decide) rfl) hS (lv_sub hl [0, 1, 2, 3, 4, 5, 6] rfl)
          refine lv_aload_n hx hb dX1_pack_106 rfl (lv_at hl 3 rfl) ?_
          refine va_get (D := D) (ci := 1) (v := .int (nI qs)) (C := RX1) (T := TX1) (N := 2) hx hb hts iX1 hown hK hP 0 rfl rfl 1 (by decide) f_7 (fun _ h9 => h9) rfl dX1_pack_107 ?_
          refine lv_istore (lv' := [(4, .int (nI qs)), (6, .int (nI (st + k))), (5, .int (nI af)), (0, .ref k0), (1, .ref o1), (2, .int (nI st)), (3, .int (nI en))]) hx hb dX1_pack_110 hl (by decide) rfl (fun ls hl => ?_)
          refine lv_aload_n hx hb dX1_pack_112 rfl (lv_at hl 3 rfl) ?_
          refine lv_iconst (v := nI 0) hx hb dX1_pack_113 (by decide) ?_
          refine q_v0 (wr := [(o1, .inl (cI, bl, .inl fB))]) (va_runV (As := [.int (nI 0)]) (rest := []) ⟨hx, hb, hml, hown, hts⟩ (c_X1_put l D cI cZ cB cJ H.size k0 k1 wd qs sg1 (nI 0) (by omega) (by omega)) (cwV 1 hts gX1_pack_X1_put rfl rfl rfl (by decide +kernel) ⟨Nat.le_of_ble_eq_true rfl, Nat.le_of_ble_eq_true rfl⟩) (q_preV (q_pre (wc := [(k0, .inr (1, [.ref k1, .int (nI qs)])), (k1, .inl (cB, 2 * wd, .inl sg1))]) hP hD hK hN [0, 1] (by decide) rfl) (va_recv hK hP (ci := 1) (q0 := 0) rfl rfl)) rfl rfl hl.1 rfl (lv_room (Nat.le_of_ble_eq_true rfl)) dX1_pack_114 ⟨Nat.zero_le _, Nat.zero_le _⟩) hS hA hP hD [0, 1] [2] rfl rfl (by decide) (by decide) (fun u H locs hp_114 hP hD hS => ?_)
          have hP : va_P D qCl [(o1, .inl (cI, bl, .inl fB)), (k0, .inr (1, [.ref k1, .int (nI (qs + 1))])), (k1, .inl (cB, 2 * wd, .inl (upd sg1 qs (b8 (nI 0)))))] H := hP
          have hD : va_D A [(o1, .inl (cI, bl, .inl fB)), (k0, .inr (1, [.ref k1, .int (nI (qs + 1))])), (k1, .inl (cB, 2 * wd, .inl (upd sg1 qs (b8 (nI 0)))))] := hD
          refine lv_aload_n hx hb dX1_pack_117 rfl (lv_at hl 3 rfl) ?_
          refine va_get (D := D) (ci := 1) (v := .ref k1) (C := RX1) (T := TX1) (N := 2) hx hb hts iX1 hown hK hP 1 rfl rfl 0 (by decide) f_13 (fun _ h9 => h9) rfl dX1_pack_118 ?_
          refine lv_iload hx hb dX1_pack_121 (lv_at hl 0 rfl) ?_
          refine lv_dup2_11 hx hb dX1_pack_123 rfl rfl ?_
          refine q_bald hx hb hK hP 2 2 rfl rfl (k := qs) (by omega) (by omega) dX1_pack_124 ?_
          refine lv_iconst (v := nI 1) hx hb dX1_pack_125 (by decide) ?_
          refine lv_iadd hx hb dX1_pack_126 ?_
          refine lv_i2b hx hb dX1_pack_127 rfl ?_
          refine q_eqi (y := b8 (((upd sg1 qs (b8 (nI 0))) qs) + (nI 1))) rfl ?_
          refine q_bastv hx hb hK hP hD hS 2 2 rfl rfl (k := qs) (b8_b8 _) (by omega) (by omega) dX1_pack_128 (fun H locs hP hD hS => ?_)
          have hP : va_P D qCl [(o1, .inl (cI, bl, .inl fB)), (k0, .inr (1, [.ref k1, .int (nI (qs + 1))])), (k1, .inl (cB, 2 * wd, .inl (upd (upd sg1 qs (b8 (nI 0))) qs (b8 (((upd sg1 qs (b8 (nI 0))) qs) + (nI 1))))))] H := hP
          have hD : va_D A [(o1, .inl (cI, bl, .inl fB)), (k0, .inr (1, [.ref k1, .int (nI (qs + 1))])), (k1, .inl (cB, 2 * wd, .inl (upd (upd sg1 qs (b8 (nI 0))) qs (b8 (((upd sg1 qs (b8 (nI 0))) qs) + (nI 1))))))] := hD
          refine lv_aload_n hx hb dX1_pack_129 rfl (lv_at hl 3 rfl) ?_
          refine lv_aload_n hx hb dX1_pack_130 rfl (lv_at hl 4 rfl) ?_
          refine lv_iload hx hb dX1_pack_131 (lv_at hl 1 rfl) ?_
          refine q_iald hx hb hK hP 0 0 rfl rfl (k := (st + k)) (by omega) (by omega) dX1_pack_133 ?_
          refine q_v0 (wr := [(o1, .inl (cI, bl, .inl fB))]) (va_runV (As := [.int (fB (st + k))]) (rest := []) ⟨hx, hb, hml, hown, hts⟩ (c_X1_put l D cI cZ cB cJ H.size k0 k1 wd (qs + 1) (upd (upd sg1 qs (b8 (nI 0))) qs (b8 (((upd sg1 qs (b8 (nI 0))) qs) + (nI 1)))) (fB (st + k)) (by omega) (by omega)) (cwV 1 hts gX1_pack_X1_put rfl rfl rfl (by decide +kernel) ⟨Nat.le_of_ble_eq_true rfl, Nat.le_of_ble_eq_true rfl⟩) (q_preV (q_pre (wc := [(k0, .inr (1, [.ref k1, .int (nI (qs + 1))])), (k1, .inl (cB, 2 * wd, .inl (upd (upd sg1 qs (b8 (nI 0))) qs (b8 (((upd sg1 qs (b8 (nI 0))) qs) + (nI 1))))))]) hP hD hK hN [1, 2] (by decide) rfl) (va_recv hK hP (ci := 1) (q0 := 1) rfl rfl)) rfl rfl hl.1 rfl (lv_room (Nat.le_of_ble_eq_true rfl)) dX1_pack_134 ⟨Nat.zero_le _, Nat.zero_le _⟩) hS hA hP hD [1, 2] [0] rfl rfl (by decide) (by decide) (fun u H locs hp_134 hP hD hS => ?_)
          have hP : va_P D qCl [(o1, .inl (cI, bl, .inl fB)), (k0, .inr (1, [.ref k1, .int (nI ((qs + 1) + 1))])), (k1, .inl (cB, 2 * wd, .inl (upd (upd (upd sg1 qs (b8 (nI 0))) qs (b8 (((upd sg1 qs (b8 (nI 0))) qs) + (nI 1)))) (qs + 1) (b8 (fB (st + k))))))] H := hP
          have hD : va_D A [(o1, .inl (cI, bl, .inl fB)), (k0, .inr (1, [.ref k1, .int (nI ((qs + 1) + 1))])), (k1, .inl (cB, 2 * wd, .inl (upd (upd (upd sg1 qs (b8 (nI 0))) qs (b8 (((upd sg1 qs (b8 (nI 0))) qs) + (nI 1)))) (qs + 1) (b8 (fB (st + k))))))] := hD
          refine lv_iconst (v := nI 1) hx hb dX1_pack_137 (by decide) ?_
          refine lv_istore (lv' := [(5, .int (nI 1)), (4, .int (nI qs)), (6, .int (nI (st + k))), (0, .ref k0), (1, .ref o1), (2, .int (nI st)), (3, .int (nI en))]) hx hb dX1_pack_138 hl (by decide) rfl (fun ls hl => ?_)
          refine lv_iinc (v := nI (st + k + 1)) (lv' := [(6, .int (nI (st + k + 1))), (5, .int (nI 1)), (4, .int (nI qs)), (0, .ref k0), (1, .ref o1), (2, .int (nI st)), (3, .int (nI en))]) hx hb dX1_pack_140 hl (k := 2) rfl (q_inc _) (by decide) rfl (fun ls hl => ?_)
          refine lv_goto (tgt := 14) hx hb dX1_pack_143 (by decide) ?_
          exact ih_14 (k + 1) (upd (upd (upd sg1 qs (b8 (nI 0))) qs (b8 (((upd sg1 qs (b8 (nI 0))) qs) + (nI 1)))) (qs + 1) (b8 (fB (st + k)))) ((qs + 1) + 1) qs 1 (by omega) (by omega) (by show pkSt fB st en k (pkS fB st en sg k) = _; rw [hS4]; exact (if_neg hn54).trans ((if_neg hn101).trans (if_pos h_103))) (by omega) (by omega) (by omega) _ _ _ (hP.sub [1, 2, 0] rfl) (hD.sub [1, 2, 0] (by decide) rfl) hS (lv_sub hl [0, 1, 2, 3, 4, 5, 6] rfl)
        refine lv_iload hx hb dX1_pack_54 (lv_at hl 0 rfl) ?_
        refine lv_iconst (v := nI 1) hx hb dX1_pack_56 (by decide) ?_
        refine lv_iadd hx hb dX1_pack_57 ?_
        refine q_eqi (nI_add _ _) ?_
        refine lv_iload_n hx hb dX1_pack_58 rfl (lv_at hl 6 rfl) ?_
        refine q_ge (tgt := 101) hx hb (by omega) (by omega) dX1_pack_59 (by decide) (fun h_59 => ?_) (fun h_59 => ?_)
        · exact J_101 (fun z => by omega) _ _ _ (hP.sub [0, 1, 2] rfl) (hD.sub [0, 1, 2] (by decide) rfl) hS (lv_sub hl [0, 1, 2, 3, 4, 5, 6] rfl)
        refine lv_aload_n hx hb dX1_pack_62 rfl (lv_at hl 4 rfl) ?_
        refine lv_iload hx hb dX1_pack_63 (lv_at hl 0 rfl) ?_
        refine q_iald hx hb hK hP 2 0 rfl rfl (k := (st + k)) (by omega) (by omega) dX1_pack_65 ?_
        refine lv_aload_n hx hb dX1_pack_66 rfl (lv_at hl 4 rfl) ?_
        refine lv_iload hx hb dX1_pack_67 (lv_at hl 0 rfl) ?_
        refine lv_iconst (v := nI 1) hx hb dX1_pack_69 (by decide) ?_
        refine lv_iadd hx hb dX1_pack_70 ?_
        refine q_eqi (nI_add _ _) ?_
        refine q_iald hx hb hK hP 2 0 rfl rfl (k := ((st + k) + 1)) (by omega) (by omega) dX1_pack_71 ?_
        refine lv_icmp_ne (tgt := 101) hx hb dX1_pack_72 (by decide) (fun h_72 => ?_) (fun h_72 => ?_)
        · exact J_101 (fun z => h_72 z.2) _ _ _ (hP.sub [0, 1, 2] rfl) (hD.sub [0, 1, 2] (by decide) rfl) hS (lv_sub hl [0, 1, 2, 3, 4, 5, 6] rfl)
        refine lv_aload_n hx hb dX1_pack_75 rfl (lv_at hl 3 rfl) ?_
        refine va_get (D := D) (ci := 1) (v := .int (nI qs)) (C := RX1) (T := TX1) (N := 2) hx hb hts iX1 hown hK hP 0 rfl rfl 1 (by decide) f_7 (fun _ h9 => h9) rfl dX1_pack_76 ?_
        refine lv_istore (lv' := [(4, .int (nI qs)), (6, .int (nI (st + k))), (5, .int (nI af)), (0, .ref k0), (1, .ref o1), (2, .int (nI st)), (3, .int (nI en))]) hx hb dX1_pack_79 hl (by decide) rfl (fun ls hl => ?_)
        refine lv_aload_n hx hb dX1_pack_81 rfl (lv_at hl 3 rfl) ?_
        refine lv_bipush (v := nI 127) hx hb dX1_pack_82 (by decide) ?_
        refine q_v0 (wr := [(o1, .inl (cI, bl, .inl fB))]) (va_runV (As := [.int (nI 127)]) (rest := []) ⟨hx, hb, hml, hown, hts⟩ (c_X1_put l D cI cZ cB cJ H.size k0 k1 wd qs sg1 (nI 127) (by omega) (by omega)) (cwV 1 hts gX1_pack_X1_put rfl rfl rfl (by decide +kernel) ⟨Nat.le_of_ble_eq_true rfl, Nat.le_of_ble_eq_true rfl⟩) (q_preV (q_pre (wc := [(k0, .inr (1, [.ref k1, .int (nI qs)])), (k1, .inl (cB, 2 * wd, .inl sg1))]) hP hD hK hN [0, 1] (by decide) rfl) (va_recv hK hP (ci := 1) (q0 := 0) rfl rfl)) rfl rfl hl.1 rfl (lv_room (Nat.le_of_ble_eq_true rfl)) dX1_pack_84 ⟨Nat.zero_le _, Nat.zero_le _⟩) hS hA hP hD [0, 1] [2] rfl rfl (by decide) (by decide) (fun u H locs hp_84 hP hD hS => ?_)
        have hP : va_P D qCl [(o1, .inl (cI, bl, .inl fB)), (k0, .inr (1, [.ref k1, .int (nI (qs + 1))])), (k1, .inl (cB, 2 * wd, .inl (upd sg1 qs (b8 (nI 127)))))] H := hP
        have hD : va_D A [(o1, .inl (cI, bl, .inl fB)), (k0, .inr (1, [.ref k1, .int (nI (qs + 1))])), (k1, .inl (cB, 2 * wd, .inl (upd sg1 qs (b8 (nI 127)))))] := hD
        refine lv_aload_n hx hb dX1_pack_87 rfl (lv_at hl 3 rfl) ?_
        refine lv_aload_n hx hb dX1_pack_88 rfl (lv_at hl 4 rfl) ?_
        refine lv_iload hx hb dX1_pack_89 (lv_at hl 1 rfl) ?_
        refine q_iald hx hb hK hP 0 0 rfl rfl (k := (st + k)) (by omega) (by omega) dX1_pack_91 ?_
        refine q_v0 (wr := [(o1, .inl (cI, bl, .inl fB))]) (va_runV (As := [.int (fB (st + k))]) (rest := []) ⟨hx, hb, hml, hown, hts⟩ (c_X1_put l D cI cZ cB cJ H.size k0 k1 wd (qs + 1) (upd sg1 qs (b8 (nI 127))) (fB (st + k)) (by omega) (by omega)) (cwV 1 hts gX1_pack_X1_put rfl rfl rfl (by decide +kernel) ⟨Nat.le_of_ble_eq_true rfl, Nat.le_of_ble_eq_true rfl⟩) (q_preV (q_pre (wc := [(k0, .inr (1, [.ref k1, .int (nI (qs + 1))])), (k1, .inl (cB, 2 * wd, .inl (upd sg1 qs (b8 (nI 127)))))]) hP hD hK hN [1, 2] (by decide) rfl) (va_recv hK hP (ci := 1) (q0 := 1) rfl rfl)) rfl rfl hl.1 rfl (lv_room (Nat.le_of_ble_eq_true rfl)) dX1_pack_92 ⟨Nat.zero_le _, Nat.zero_le _⟩) hS hA hP hD [1, 2] [0] rfl rfl (by decide) (by decide) (fun u H locs hp_92 hP hD hS => ?_)
        have hP : va_P D qCl [(o1, .inl (cI, bl, .inl fB)), (k0, .inr (1, [.ref k1, .int (nI ((qs + 1) + 1))])), (k1, .inl (cB, 2 * wd, .inl (upd (upd sg1 qs (b8 (nI 127))) (qs + 1) (b8 (fB (st + k))))))] H := hP
        have hD : va_D A [(o1, .inl (cI, bl, .inl fB)), (k0, .inr (1, [.ref k1, .int (nI ((qs + 1) + 1))])), (k1, .inl (cB, 2 * wd, .inl (upd (upd sg1 qs (b8 (nI 127))) (qs + 1) (b8 (fB (st + k))))))] := hD
        refine lv_iconst (v := nI 0) hx hb dX1_pack_95 (by decide) ?_
        refine lv_istore (lv' := [(5, .int (nI 0)), (4, .int (nI qs)), (6, .int (nI (st + k))), (0, .ref k0), (1, .ref o1), (2, .int (nI st)), (3, .int (nI en))]) hx hb dX1_pack_96 hl (by decide) rfl (fun ls hl => ?_)
        refine lv_goto (tgt := 140) hx hb dX1_pack_98 (by decide) ?_
        refine lv_iinc (v := nI (st + k + 1)) (lv' := [(6, .int (nI (st + k + 1))), (5, .int (nI 0)), (4, .int (nI qs)), (0, .ref k0), (1, .ref o1), (2, .int (nI st)), (3, .int (nI en))]) hx hb dX1_pack_140 hl (k := 2) rfl (q_inc _) (by decide) rfl (fun ls hl => ?_)
        refine lv_goto (tgt := 14) hx hb dX1_pack_143 (by decide) ?_
        exact ih_14 (k + 1) (upd (upd sg1 qs (b8 (nI 127))) (qs + 1) (b8 (fB (st + k)))) ((qs + 1) + 1) qs 0 (by omega) (by omega) (by show pkSt fB st en k (pkS fB st en sg k) = _; rw [hS4]; exact (if_neg hn54).trans (if_pos ⟨by omega, h_72⟩)) (by omega) (by omega) (by omega) _ _ _ (hP.sub [1, 2, 0] rfl) (hD.sub [1, 2, 0] (by decide) rfl) hS (lv_sub hl [0, 1, 2, 3, 4, 5, 6] rfl)
      refine lv_iload hx hb dX1_pack_20 (lv_at hl 0 rfl) ?_
      refine lv_iload_n hx hb dX1_pack_22 rfl (lv_at hl 5 rfl) ?_
      refine q_le (tgt := 54) hx hb (by omega) (by omega) dX1_pack_23 (by decide) (fun h_23 => ?_) (fun h_23 => ?_)
      · exact J_54 (fun z => by omega) _ _ _ (hP.sub [0, 1, 2] rfl) (hD.sub [0, 1, 2] (by decide) rfl) hS (lv_sub hl [0, 1, 2, 3, 4, 5, 6] rfl)
      refine lv_aload_n hx hb dX1_pack_26 rfl (lv_at hl 4 rfl) ?_
      refine lv_iload hx hb dX1_pack_27 (lv_at hl 0 rfl) ?_
      refine q_iald hx hb hK hP 2 0 rfl rfl (k := (st + k)) (by omega) (by omega) dX1_pack_29 ?_
      refine lv_aload_n hx hb dX1_pack_30 rfl (lv_at hl 4 rfl) ?_
      refine lv_iload hx hb dX1_pack_31 (lv_at hl 0 rfl) ?_
      refine lv_iconst (v := nI 1) hx hb dX1_pack_33 (by decide) ?_
      refine lv_isub hx hb dX1_pack_34 ?_
      refine q_eqi (y := nI (st + k - 1)) (pk_sub (by omega)) ?_
      refine q_iald hx hb hK hP 2 0 rfl rfl (k := (st + k - 1)) (by omega) (by omega) dX1_pack_35 ?_
      refine lv_icmp_ne (tgt := 54) hx hb dX1_pack_36 (by decide) (fun h_36 => ?_) (fun h_36 => ?_)
      · exact J_54 (fun z => h_36 z.2) _ _ _ (hP.sub [0, 1, 2] rfl) (hD.sub [0, 1, 2] (by decide) rfl) hS (lv_sub hl [0, 1, 2, 3, 4, 5, 6] rfl)
      refine lv_aload_n hx hb dX1_pack_39 rfl (lv_at hl 3 rfl) ?_
      refine va_get (D := D) (ci := 1) (v := .ref k1) (C := RX1) (T := TX1) (N := 2) hx hb hts iX1 hown hK hP 0 rfl rfl 0 (by decide) f_13 (fun _ h9 => h9) rfl dX1_pack_40 ?_
      refine lv_iload hx hb dX1_pack_43 (lv_at hl 2 rfl) ?_
      refine lv_dup2_11 hx hb dX1_pack_45 rfl rfl ?_
      refine q_bald hx hb hK hP 1 2 rfl rfl (k := hd) (by omega) (by omega) dX1_pack_46 ?_
      refine lv_iconst (v := nI 1) hx hb dX1_pack_47 (by decide) ?_
      refine lv_isub hx hb dX1_pack_48 ?_
      refine lv_i2b hx hb dX1_pack_49 rfl ?_
      refine q_eqi (y := b8 (sg1 hd - nI 1)) rfl ?_
      refine q_bastv hx hb hK hP hD hS 1 2 rfl rfl (k := hd) (b8_b8 _) (by omega) (by omega) dX1_pack_50 (fun H locs hP hD hS => ?_)
      have hP : va_P D qCl [(k0, .inr (1, [.ref k1, .int (nI qs)])), (k1, .inl (cB, 2 * wd, .inl (upd sg1 hd (b8 (sg1 hd - nI 1))))), (o1, .inl (cI, bl, .inl fB))] H := hP
      have hD : va_D A [(k0, .inr (1, [.ref k1, .int (nI qs)])), (k1, .inl (cB, 2 * wd, .inl (upd sg1 hd (b8 (sg1 hd - nI 1))))), (o1, .inl (cI, bl, .inl fB))] := hD
      refine lv_goto (tgt := 140) hx hb dX1_pack_51 (by decide) ?_
      refine lv_iinc (v := nI (st + k + 1)) (lv' := [(6, .int (nI (st + k + 1))), (5, .int (nI af)), (4, .int (nI hd)), (0, .ref k0), (1, .ref o1), (2, .int (nI st)), (3, .int (nI en))]) hx hb dX1_pack_140 hl (k := 0) rfl (q_inc _) (by decide) rfl (fun ls hl => ?_)
      refine lv_goto (tgt := 14) hx hb dX1_pack_143 (by decide) ?_
      exact ih_14 (k + 1) (upd sg1 hd (b8 (sg1 hd - nI 1))) qs hd af (by omega) (by omega) (by show pkSt fB st en k (pkS fB st en sg k) = _; rw [hS4]; exact if_pos ⟨by omega, h_36⟩) (by omega) (by omega) (by omega) _ _ _ (hP.sub [0, 1, 2] rfl) (hD.sub [0, 1, 2] (by decide) rfl) hS (lv_sub hl [0, 1, 2, 3, 4, 5, 6] rfl)
  exact L_14 _ 0 sg 0 0 0 (Nat.lt_succ_self _) (by omega) rfl (by omega) (Or.inl rfl) (Or.inl rfl) _ _ _ (hP.sub [0, 1, 2] rfl) (hD.sub [0, 1, 2] (by decide) rfl) hS (lv_sub hl [0, 1, 2, 3, 4, 5, 6] rfl)
