abbrev rm_X0_insert : Room := { frames := 0, cells := 0, slots := 0, locals := 0 }
set_option maxHeartbeats 4000000 in
set_option maxRecDepth 100000 in
/-- Crossings.insert -/
theorem c_X0_insert (l : Launch) (D : va_G) (cI cZ cB cJ : ClassId) (sz : Nat) (z0 : Nat) (z1 : Nat) (z2 : Nat) (n : Nat) (zx : Nat → Int32) (zt : Nat → Int32) (mu : (Int → Int → Int) → Int) (a : Int) (t : Int) (hn : n < 100) (hC : CR zx zt n mu) (ha : bd a) : Met l yX0_insert wsX0_insert rm_X0_insert (va_Pc [.ref z0, .int (Int32.ofInt a), .int (Int32.ofInt t)] (PC D (qT cI cZ cB cJ) [(z0, .inr (0, [.ref z1, .ref z2, .int (nI n)])), (z1, .inl (cI, 100, .inl zx)), (z2, .inl (cI, 100, .inl zt))] sz)) (va_Qv (fun (u : (Nat → Int32) × (Nat → Int32)) => CR u.1 u.2 (n + 1) (fun f => mu f + f a t)) (fun (u : (Nat → Int32) × (Nat → Int32)) => PO D (qT cI cZ cB cJ) (va_A [(z0, .inr (0, [.ref z1, .ref z2, .int (nI n)])), (z1, .inl (cI, 100, .inl zx)), (z2, .inl (cI, 100, .inl zt))] sz) [(z0, .inr (0, [.ref z1, .ref z2, .int (nI (n + 1))])), (z1, .inl (cI, 100, .inl u.1)), (z2, .inl (cI, 100, .inl u.2))]) (va_A [(z0, .inr (0, [.ref z1, .ref z2, .int (nI n)])), (z1, .inl (cI, 100, .inl zx)), (z2, .inl (cI, 100, .inl zt))] sz)) 0 0 (va_A [(z0, .inr (0, [.ref z1, .ref z2, .int (nI n)])), (z1, .inl (cI, 100, .inl zx)), (z2, .inl (cI, 100, .inl zt))] sz) := by
  refine q_entV (cc := cX0_insert) (maxL := 4) (by decide +kernel) rfl (Nat.le_of_ble_eq_true rfl) ?_
  intro p e s m below meth c A Q ls hq hl hQ
  obtain ⟨hx, hb, hml, hts, hown, hin, hN, hK, hsz, hA, hP, hD, hS⟩ := hq
  have hown : s.vm.findClass RX0 = some m.cls := hown
  obtain ⟨H, hH⟩ : ∃ H, H = s.heap := ⟨_, rfl⟩
  rw [← hH] at hP ⊢
  have hS : va_S A s.heap H [] := by rw [hH]; exact va_S.rf
  clear hH
  have hl : lv_has ls 4 [(0, .ref z0), (1, .int (Int32.ofInt a)), (2, .int (Int32.ofInt t))] := hl
  have iX0 : ∀ w ∈ wsX00, w ∈ wsX0_insert := by decide +kernel
  have f_18 := hts (.fieldLink RX0 18 "RasterCover$Crossings" "count" "I") (by decide +kernel)
  have f_9 := hts (.fieldLink RX0 9 "RasterCover$Crossings" "xs" "[I") (by decide +kernel)
  have f_15 := hts (.fieldLink RX0 15 "RasterCover$Crossings" "turns" "[I") (by decide +kernel)
  refine lv_aload_n hx hb dX0_insert_0 rfl (lv_at hl 0 rfl) ?_
  refine va_get (D := D) (ci := 0) (v := .int (nI n)) (C := RX0) (T := TX0) (N := 3) hx hb hts iX0 hown hK hP 0 rfl rfl 2 (by decide) f_18 (fun _ h9 => h9) rfl dX0_insert_1 ?_
  refine lv_bipush (v := nI 100) hx hb dX0_insert_4 (by decide) ?_
  refine q_lt (tgt := 10) hx hb (by omega) (by omega) dX0_insert_6 (by decide) (fun h_6 => ?_) (fun h_6 => by omega)
  refine lv_aload_n hx hb dX0_insert_10 rfl (lv_at hl 0 rfl) ?_
  refine va_get (D := D) (ci := 0) (v := .int (nI n)) (C := RX0) (T := TX0) (N := 3) hx hb hts iX0 hown hK hP 0 rfl rfl 2 (by decide) f_18 (fun _ h9 => h9) rfl dX0_insert_11 ?_
  refine lv_istore_n (lv' := [(3, .int (nI n)), (0, .ref z0), (1, .int (Int32.ofInt a)), (2, .int (Int32.ofInt t))]) hx hb dX0_insert_14 rfl hl (by decide) rfl (fun ls hl => ?_)
  have L_15 : ∀ (fuel : Nat) (k : Nat) (gx : Nat → Int32) (gt : Nat → Int32), k < fuel → (k ≤ n) → (∀ j, j < k → gx j = zx j ∧ gt j = zt j) → (∀ j, k < j → j ≤ n → gx j = zx (j - 1) ∧ gt j = zt (j - 1)) → (∀ j, k ≤ j → j < n → Int32.ofInt a < zx j) → ∀ (H : Heap) (locs : List Loc) (ls : Array Slot), va_P D qCl [(z0, .inr (0, [.ref z1, .ref z2, .int (nI n)])), (z1, .inl (cI, 100, .inl gx)), (z2, .inl (cI, 100, .inl gt))] H → va_D A [(z0, .inr (0, [.ref z1, .ref z2, .int (nI n)])), (z1, .inl (cI, 100, .inl gx)), (z2, .inl (cI, 100, .inl gt))] → va_S A s.heap H locs → lv_has ls 4 [(3, .int (nI k)), (0, .ref z0), (1, .int (Int32.ofInt a)), (2, .int (Int32.ofInt t))] → W p l e rm_X0_insert s m ([.ref z0, .int (Int32.ofInt a), .int (Int32.ofInt t)] : List Value).toArray below meth c H locs 0 0 Q (F0 m 15 ls []) := by
    intro fuel
    induction fuel with
    | zero =>
      intro k gx gt hm
      exact absurd hm (Nat.not_lt_zero _)
    | succ fuel ih_15 =>
      intro k gx gt hm_15 hk g1 g2 g3 H locs ls hP hD hS hl
      have J_65 : ∀ (k : Nat) (gx : Nat → Int32) (gt : Nat → Int32), (k ≤ n) → (∀ j, j < k → gx j = zx j ∧ gt j = zt j) → (∀ j, k < j → j ≤ n → gx j = zx (j - 1) ∧ gt j = zt (j - 1)) → (∀ j, k ≤ j → j < n → Int32.ofInt a < zx j) → (k = 0 ∨ zx (k - 1) ≤ Int32.ofInt a) → ∀ (H : Heap) (locs : List Loc) (ls : Array Slot), va_P D qCl [(z0, .inr (0, [.ref z1, .ref z2, .int (nI n)])), (z1, .inl (cI, 100, .inl gx)), (z2, .inl (cI, 100, .inl gt))] H → va_D A [(z0, .inr (0, [.ref z1, .ref z2, .int (nI n)])), (z1, .inl (cI, 100, .inl gx)), (z2, .inl (cI, 100, .inl gt))] → va_S A s.heap H locs → lv_has ls 4 [(3, .int (nI k)), (0, .ref z0), (1, .int (Int32.ofInt a)), (2, .int (Int32.ofInt t))] → W p l e rm_X0_insert s m ([.ref z0, .int (Int32.ofInt a), .int (Int32.ofInt t)] : List Value).toArray below meth c H locs 0 0 Q (F0 m 65 ls []) := by
        intro k gx gt hk g1 g2 g3 g4 H locs ls hP hD hS hl
        refine lv_aload_n hx hb dX0_insert_65 rfl (lv_at hl 1 rfl) ?_
        refine va_get (D := D) (ci := 0) (v := .ref z1) (C := RX0) (T := TX0) (N := 3) hx hb hts iX0 hown hK hP 0 rfl rfl 0 (by decide) f_9 (fun _ h9 => h9) rfl dX0_insert_66 ?_
        refine lv_iload_n hx hb dX0_insert_69 rfl (lv_at hl 0 rfl) ?_
        refine lv_iload_n hx hb dX0_insert_70 rfl (lv_at hl 2 rfl) ?_
        refine q_iast hx hb hK hP hD hS 1 0 rfl rfl (k := k) (by omega) (by omega) dX0_insert_71 (fun H locs hP hD hS => ?_)
        have hP : va_P D qCl [(z0, .inr (0, [.ref z1, .ref z2, .int (nI n)])), (z1, .inl (cI, 100, .inl (upd gx k (Int32.ofInt a)))), (z2, .inl (cI, 100, .inl gt))] H := hP
        have hD : va_D A [(z0, .inr (0, [.ref z1, .ref z2, .int (nI n)])), (z1, .inl (cI, 100, .inl (upd gx k (Int32.ofInt a)))), (z2, .inl (cI, 100, .inl gt))] := hD
        refine lv_aload_n hx hb dX0_insert_72 rfl (lv_at hl 1 rfl) ?_
        refine va_get (D := D) (ci := 0) (v := .ref z2) (C := RX0) (T := TX0) (N := 3) hx hb hts iX0 hown hK hP 0 rfl rfl 1 (by decide) f_15 (fun _ h9 => h9) rfl dX0_insert_73 ?_
        refine lv_iload_n hx hb dX0_insert_76 rfl (lv_at hl 0 rfl) ?_
        refine lv_iload_n hx hb dX0_insert_77 rfl (lv_at hl 3 rfl) ?_
        refine q_iast hx hb hK hP hD hS 2 0 rfl rfl (k := k) (by omega) (by omega) dX0_insert_78 (fun H locs hP hD hS => ?_)
        have hP : va_P D qCl [(z0, .inr (0, [.ref z1, .ref z2, .int (nI n)])), (z1, .inl (cI, 100, .inl (upd gx k (Int32.ofInt a)))), (z2, .inl (cI, 100, .inl (upd gt k (Int32.ofInt t))))] H := hP
        have hD : va_D A [(z0, .inr (0, [.ref z1, .ref z2, .int (nI n)])), (z1, .inl (cI, 100, .inl (upd gx k (Int32.ofInt a)))), (z2, .inl (cI, 100, .inl (upd gt k (Int32.ofInt t))))] := hD
        refine lv_aload_n hx hb dX0_insert_79 rfl (lv_at hl 1 rfl) ?_
        refine lv_dup hx hb dX0_insert_80 rfl ?_
        refine va_get (D := D) (ci := 0) (v := .int (nI n)) (C := RX0) (T := TX0) (N := 3) hx hb hts iX0 hown hK hP 0 rfl rfl 2 (by decide) f_18 (fun _ h9 => h9) rfl dX0_insert_81 ?_
        refine lv_iconst (v := nI 1) hx hb dX0_insert_84 (by decide) ?_
        refine lv_iadd hx hb dX0_insert_85 ?_
        refine q_eqi (nI_add _ _) ?_
        refine va_put (D := D) (ci := 0) (v := .int (nI (n + 1))) (ty := .int) (C := RX0) (T := TX0) (N := 3) hx hb hts iX0 tyX0 tyX0_ok nmX0 hown hK hP hD hS 0 rfl rfl 2 (by decide) f_18 (fun _ h9 => h9) rfl (by decide +kernel) rfl rfl (Nat.le_of_ble_eq_true rfl) dX0_insert_86 (fun H locs hP hD hS => ?_)
        have hP : va_P D qCl [(z0, .inr (0, [.ref z1, .ref z2, .int (nI (n + 1))])), (z1, .inl (cI, 100, .inl (upd gx k (Int32.ofInt a)))), (z2, .inl (cI, 100, .inl (upd gt k (Int32.ofInt t))))] H := hP
        have hD : va_D A [(z0, .inr (0, [.ref z1, .ref z2, .int (nI (n + 1))])), (z1, .inl (cI, 100, .inl (upd gx k (Int32.ofInt a)))), (z2, .inl (cI, 100, .inl (upd gt k (Int32.ofInt t))))] := hD
        have hr9 : CR (upd gx k (Int32.ofInt a)) (upd gt k (Int32.ofInt t)) (n + 1) (fun f => mu f + f a t) := ins_fin hC ha hk g1 g2 g3 g4
        exact hQ _ _ _ _ (upd gx k (Int32.ofInt a), upd gt k (Int32.ofInt t)) _ _ dX0_insert_89 (Nat.le_refl _) (Nat.le_refl _) hr9 (hP.sub [0, 1, 2] rfl) hK (hD.sub [0, 1, 2] (by decide) rfl) hS
      refine lv_iload_n hx hb dX0_insert_15 rfl (lv_at hl 0 rfl) ?_
      refine q_if_le (tgt := 65) hx hb (by omega) dX0_insert_16 (by decide) (fun h_16 => ?_) (fun h_16 => ?_)
      · exact J_65 k gx gt hk g1 g2 g3 (Or.inl h_16) _ _ _ (hP.sub [0, 1, 2] rfl) (hD.sub [0, 1, 2] (by decide) rfl) hS (lv_sub hl [0, 1, 2, 3] rfl)
      obtain ⟨k, rfl⟩ : ∃ j, k = j + 1 := ⟨k - 1, by omega⟩
      refine lv_aload_n hx hb dX0_insert_19 rfl (lv_at hl 1 rfl) ?_
      refine va_get (D := D) (ci := 0) (v := .ref z1) (C := RX0) (T := TX0) (N := 3) hx hb hts iX0 hown hK hP 0 rfl rfl 0 (by decide) f_9 (fun _ h9 => h9) rfl dX0_insert_20 ?_
      refine lv_iload_n hx hb dX0_insert_23 rfl (lv_at hl 0 rfl) ?_
      refine lv_iconst (v := nI 1) hx hb dX0_insert_24 (by decide) ?_
      refine lv_isub hx hb dX0_insert_25 ?_
      refine q_eqi (y := nI k) (q_pred k) ?_
      refine q_iald hx hb hK hP 1 0 rfl rfl (k := k) (by omega) (by omega) dX0_insert_26 ?_
      refine lv_iload_n hx hb dX0_insert_27 rfl (lv_at hl 2 rfl) ?_
      refine lv_icmp_le (tgt := 65) hx hb dX0_insert_28 (by decide) (fun h_28 => ?_) (fun h_28 => ?_)
      · exact J_65 (k + 1) gx gt hk g1 g2 g3 (Or.inr (by rw [Nat.add_sub_cancel, ← (g1 k (Nat.lt_succ_self k)).1]; exact h_28)) _ _ _ (hP.sub [0, 1, 2] rfl) (hD.sub [0, 1, 2] (by decide) rfl) hS (lv_sub hl [0, 1, 2, 3] rfl)
      refine lv_aload_n hx hb dX0_insert_31 rfl (lv_at hl 1 rfl) ?_
      refine va_get (D := D) (ci := 0) (v := .ref z1) (C := RX0) (T := TX0) (N := 3) hx hb hts iX0 hown hK hP 0 rfl rfl 0 (by decide) f_9 (fun _ h9 => h9) rfl dX0_insert_32 ?_
      refine lv_iload_n hx hb dX0_insert_35 rfl (lv_at hl 0 rfl) ?_
      refine lv_aload_n hx hb dX0_insert_36 rfl (lv_at hl 1 rfl) ?_
      refine va_get (D := D) (ci := 0) (v := .ref z1) (C := RX0) (T := TX0) (N := 3) hx hb hts iX0 hown hK hP 0 rfl rfl 0 (by decide) f_9 (fun _ h9 => h9) rfl dX0_insert_37 ?_
      refine lv_iload_n hx hb dX0_insert_40 rfl (lv_at hl 0 rfl) ?_
      refine lv_iconst (v := nI 1) hx hb dX0_insert_41 (by decide) ?_
      refine lv_isub hx hb dX0_insert_42 ?_
      refine q_eqi (y := nI k) (q_pred k) ?_
      refine q_iald hx hb hK hP 1 0 rfl rfl (k := k) (by omega) (by omega) dX0_insert_43 ?_
      refine q_iast hx hb hK hP hD hS 1 0 rfl rfl (k := (k + 1)) (by omega) (by omega) dX0_insert_44 (fun H locs hP hD hS => ?_)
      have hP : va_P D qCl [(z0, .inr (0, [.ref z1, .ref z2, .int (nI n)])), (z1, .inl (cI, 100, .inl (upd gx (k + 1) (gx k)))), (z2, .inl (cI, 100, .inl gt))] H := hP
      have hD : va_D A [(z0, .inr (0, [.ref z1, .ref z2, .int (nI n)])), (z1, .inl (cI, 100, .inl (upd gx (k + 1) (gx k)))), (z2, .inl (cI, 100, .inl gt))] := hD
      refine lv_aload_n hx hb dX0_insert_45 rfl (lv_at hl 1 rfl) ?_
      refine va_get (D := D) (ci := 0) (v := .ref z2) (C := RX0) (T := TX0) (N := 3) hx hb hts iX0 hown hK hP 0 rfl rfl 1 (by decide) f_15 (fun _ h9 => h9) rfl dX0_insert_46 ?_
      refine lv_iload_n hx hb dX0_insert_49 rfl (lv_at hl 0 rfl) ?_
      refine lv_aload_n hx hb dX0_insert_50 rfl (lv_at hl 1 rfl) ?_
      refine va_get (D := D) (ci := 0) (v := .ref z2) (C := RX0) (T := TX0) (N := 3) hx hb hts iX0 hown hK hP 0 rfl rfl 1 (by decide) f_15 (fun _ h9 => h9) rfl dX0_insert_51 ?_
      refine lv_iload_n hx hb dX0_insert_54 rfl (lv_at hl 0 rfl) ?_
      refine lv_iconst (v := nI 1) hx hb dX0_insert_55 (by decide) ?_
      refine lv_isub hx hb dX0_insert_56 ?_
      refine q_eqi (y := nI k) (q_pred k) ?_
      refine q_iald hx hb hK hP 2 0 rfl rfl (k := k) (by omega) (by omega) dX0_insert_57 ?_
      refine q_iast hx hb hK hP hD hS 2 0 rfl rfl (k := (k + 1)) (by omega) (by omega) dX0_insert_58 (fun H locs hP hD hS => ?_)
      have hP : va_P D qCl [(z0, .inr (0, [.ref z1, .ref z2, .int (nI n)])), (z1, .inl (cI, 100, .inl (upd gx (k + 1) (gx k)))), (z2, .inl (cI, 100, .inl (upd gt (k + 1) (gt k))))] H := hP
      have hD : va_D A [(z0, .inr (0, [.ref z1, .ref z2, .int (nI n)])), (z1, .inl (cI, 100, .inl (upd gx (k + 1) (gx k)))), (z2, .inl (cI, 100, .inl (upd gt (k + 1) (gt k))))] := hD
      refine lv_iinc (v := nI k) (lv' := [(3, .int (nI k)), (0, .ref z0), (1, .int (Int32.ofInt a)), (2, .int (Int32.ofInt t))]) hx hb dX0_insert_59 hl (k := 0) rfl (q_dec _) (by decide) rfl (fun ls hl => ?_)
      refine lv_goto (tgt := 15) hx hb dX0_insert_62 (by decide) ?_
      exact ih_15 k (upd gx (k + 1) (gx k)) (upd gt (k + 1) (gt k)) (by omega) (by omega) (fun j hj => by unfold upd; rw [if_neg (show ¬ j = k + 1 by omega), if_neg (show ¬ j = k + 1 by omega)]; exact g1 j (by omega)) (fun j hj hj2 => by unfold upd; by_cases c9 : j = k + 1; (· rw [if_pos c9, if_pos c9, c9]; exact g1 k (by omega)); (· rw [if_neg c9, if_neg c9]; exact g2 j (by omega) hj2)) (fun j hj hj2 => by rcases Nat.lt_or_ge j (k + 1) with c9 | c9; (· rw [show j = k by omega, ← (g1 k (by omega)).1]; exact i_lt.mpr (Int.lt_of_not_ge fun z => h_28 (i_le.mpr z))); (· exact g3 j c9 hj2)) _ _ _ (hP.sub [0, 1, 2] rfl) (hD.sub [0, 1, 2] (by decide) rfl) hS (lv_sub hl [0, 1, 2, 3] rfl)
  exact L_15 _ n zx zt (Nat.lt_succ_self _) (Nat.le_refl _) (fun j hj => ⟨rfl, rfl⟩) (fun j hj hj2 => by omega) (fun j hj hj2 => by omega) _ _ _ (hP.sub [0, 1, 2] rfl) (hD.sub [0, 1, 2] (by decide) rfl) hS (lv_sub hl [0, 1, 2, 3] rfl)

abbrev rm_X0_cross : Room := { frames := 1, cells := 0, slots := 0, locals := 25 }
set_option maxHeartbeats 4000000 in
set_option maxRecDepth 100000 in
/-- Crossings.cross -/
theorem c_X0_cross (l : Launch) (D : va_G) (cI cZ cB cJ : ClassId) (sz : Nat) (z0 : Nat) (z1 : Nat) (z2 : Nat) (n : Nat) (zx : Nat → Int32) (zt : Nat → Int32) (h0 : Nat) (h1 : Nat) (h2 : Nat) (h3 : Nat) (cn : Nat) (fx : Nat → Int32) (fy : Nat → Int32) (fb : Nat → Int32) (X : Nat → Int) (Y : Nat → Int) (bg : Nat → Int32) (mu : (Int → Int → Int) → Int) (ku : Nat) (kd : Nat) (L : Int) (t : Int) (hn : n < 100) (hC : CR zx zt n mu) (hR : PathR fx fy fb X Y bg cn) (hu : ku < cn) (hd : kd < cn) (hL : 0 ≤ L ∧ L ≤ 100000) : Met l yX0_cross wsX0_cross rm_X0_cross (va_Pc [.ref z0, .ref h0, .int (nI ku), .int (nI kd), .int (Int32.ofInt L), .int (Int32.ofInt t)] (PC D (qT cI cZ cB cJ) [(z0, .inr (0, [.ref z1, .ref z2, .int (nI n)])), (z1, .inl (cI, 100, .inl zx)), (z2, .inl (cI, 100, .inl zt)), (h0, .inr (2, [.ref h1, .ref h2, .ref h3, .int (nI cn)])), (h1, .inl (cI, 100, .inl fx)), (h2, .inl (cI, 100, .inl fy)), (h3, .inl (cZ, 100, .inl fb))] sz)) (va_Qv (fun (u : (Nat → Int32) × (Nat → Int32) × Nat) => CR u.1 u.2.1 u.2.2 (fun f => mu f + crs X Y L ku kd t f) ∧ u.2.2 ≤ n + 1) (fun (u : (Nat → Int32) × (Nat → Int32) × Nat) => PO D (qT cI cZ cB cJ) (va_A [(z0, .inr (0, [.ref z1, .ref z2, .int (nI n)])), (z1, .inl (cI, 100, .inl zx)), (z2, .inl (cI, 100, .inl zt)), (h0, .inr (2, [.ref h1, .ref h2, .ref h3, .int (nI cn)])), (h1, .inl (cI, 100, .inl fx)), (h2, .inl (cI, 100, .inl fy)), (h3, .inl (cZ, 100, .inl fb))] sz) [(z0, .inr (0, [.ref z1, .ref z2, .int (nI u.2.2)])), (z1, .inl (cI, 100, .inl u.1)), (z2, .inl (cI, 100, .inl u.2.1)), (h0, .inr (2, [.ref h1, .ref h2, .ref h3, .int (nI cn)])), (h1, .inl (cI, 100, .inl fx)), (h2, .inl (cI, 100, .inl fy)), (h3, .inl (cZ, 100, .inl fb))]) (va_A [(z0, .inr (0, [.ref z1, .ref z2, .int (nI n)])), (z1, .inl (cI, 100, .inl zx)), (z2, .inl (cI, 100, .inl zt)), (h0, .inr (2, [.ref h1, .ref h2, .ref h3, .int (nI cn)])), (h1, .inl (cI, 100, .inl fx)), (h2, .inl (cI, 100, .inl fy)), (h3, .inl (cZ, 100, .inl fb))] sz)) 0 0 (va_A [(z0, .inr (0, [.ref z1, .ref z2, .int (nI n)])), (z1, .inl (cI, 100, .inl zx)), (z2, .inl (cI, 100, .inl zt)), (h0, .inr (2, [.ref h1, .ref h2, .ref h3, .int (nI cn)])), (h1, .inl (cI, 100, .inl fx)), (h2, .inl (cI, 100, .inl fy)), (h3, .inl (cZ, 100, .inl fb))] sz) := by
  refine q_entV (cc := cX0_cross) (maxL := 10) (by decide +kernel) rfl (Nat.le_of_ble_eq_true rfl) ?_
  intro p e s m below meth c A Q ls hq hl hQ
  obtain ⟨hx, hb, hml, hts, hown, hin, hN, hK, hsz, hA, hP, hD, hS⟩ := hq
  have hown : s.vm.findClass RX0 = some m.cls := hown
  obtain ⟨H, hH⟩ : ∃ H, H = s.heap := ⟨_, rfl⟩
  rw [← hH] at hP ⊢
  have hS : va_S A s.heap H [] := by rw [hH]; exact va_S.rf
  clear hH
  have hl : lv_has ls 10 [(0, .ref z0), (1, .ref h0), (2, .int (nI ku)), (3, .int (nI kd)), (4, .int (Int32.ofInt L)), (5, .int (Int32.ofInt t))] := hl
  have iX2 : ∀ w ∈ wsX20, w ∈ wsX0_cross := by decide +kernel
  obtain ⟨exu, eyu, -, ⟨bxu1, bxu2⟩, byu1, byu2⟩ := hR.2 ku hu
  obtain ⟨exd, eyd, -, ⟨bxd1, bxd2⟩, byd1, byd2⟩ := hR.2 kd hd
  have hcn := hR.1
  refine lv_aload_n hx hb dX0_cross_0 rfl (lv_at hl 1 rfl) ?_
  refine va_getN (D := D) (ci := 2) (v := .ref h2) (C := RX2) (T := TX2) (N := 4) hx hb hts iX2 hown hK hP 3 rfl rfl 1 (by decide) (nw_1 hN) (fun _ h9 => h9) rfl dX0_cross_1 ?_
  refine lv_iload_n hx hb dX0_cross_4 rfl (lv_at hl 2 rfl) ?_
  refine q_iald hx hb hK hP 5 0 rfl rfl (k := ku) (by omega) (by omega) dX0_cross_5 ?_
  refine q_eqi (y := Int32.ofInt (Y ku)) eyu ?_
  refine lv_istore (lv' := [(6, .int (Int32.ofInt (Y ku))), (0, .ref z0), (1, .ref h0), (2, .int (nI ku)), (3, .int (nI kd)), (4, .int (Int32.ofInt L)), (5, .int (Int32.ofInt t))]) hx hb dX0_cross_6 hl (by decide) rfl (fun ls hl => ?_)
  refine lv_aload_n hx hb dX0_cross_8 rfl (lv_at hl 2 rfl) ?_
  refine va_getN (D := D) (ci := 2) (v := .ref h2) (C := RX2) (T := TX2) (N := 4) hx hb hts iX2 hown hK hP 3 rfl rfl 1 (by decide) (nw_1 hN) (fun _ h9 => h9) rfl dX0_cross_9 ?_
  refine lv_iload_n hx hb dX0_cross_12 rfl (lv_at hl 4 rfl) ?_
  refine q_iald hx hb hK hP 5 0 rfl rfl (k := kd) (by omega) (by omega) dX0_cross_13 ?_
  refine q_eqi (y := Int32.ofInt (Y kd)) eyd ?_
  refine lv_istore (lv' := [(7, .int (Int32.ofInt (Y kd))), (6, .int (Int32.ofInt (Y ku))), (0, .ref z0), (1, .ref h0), (2, .int (nI ku)), (3, .int (nI kd)), (4, .int (Int32.ofInt L)), (5, .int (Int32.ofInt t))]) hx hb dX0_cross_14 hl (by decide) rfl (fun ls hl => ?_)
  refine lv_iload hx hb dX0_cross_16 (lv_at hl 1 rfl) ?_
  refine lv_iload hx hb dX0_cross_18 (lv_at hl 6 rfl) ?_
  refine lv_icmp_gt (tgt := 78) hx hb dX0_cross_20 (by decide) (fun h_20 => ?_) (fun h_20 => ?_)
  · rw [z_lt (by omega) (by omega) (by omega) (by omega)] at h_20
    have hr9 : CR zx zt n (fun f => mu f + crs X Y L ku kd t f) ∧ n ≤ n + 1 := ⟨CR_congr hC (fun f => by unfold crs; rw [if_neg (by omega)]; omega), by omega⟩
    exact hQ _ _ _ _ (zx, zt, n) _ _ dX0_cross_78 (Nat.le_refl _) (Nat.le_refl _) hr9 (hP.sub [0, 1, 2, 3, 4, 5, 6] rfl) hK (hD.sub [0, 1, 2, 3, 4, 5, 6] (by decide) rfl) hS
  rw [z_lt (by omega) (by omega) (by omega) (by omega)] at h_20
  refine lv_iload hx hb dX0_cross_23 (lv_at hl 6 rfl) ?_
  refine lv_iload hx hb dX0_cross_25 (lv_at hl 0 rfl) ?_
  refine lv_icmp_ge (tgt := 78) hx hb dX0_cross_27 (by decide) (fun h_27 => ?_) (fun h_27 => ?_)
  · rw [z_le (by omega) (by omega) (by omega) (by omega)] at h_27
    have hr9 : CR zx zt n (fun f => mu f + crs X Y L ku kd t f) ∧ n ≤ n + 1 := ⟨CR_congr hC (fun f => by unfold crs; rw [if_neg (by omega)]; omega), by omega⟩
    exact hQ _ _ _ _ (zx, zt, n) _ _ dX0_cross_78 (Nat.le_refl _) (Nat.le_refl _) hr9 (hP.sub [0, 1, 2, 3, 4, 5, 6] rfl) hK (hD.sub [0, 1, 2, 3, 4, 5, 6] (by decide) rfl) hS
  rw [z_le (by omega) (by omega) (by omega) (by omega)] at h_27
  refine lv_iload hx hb dX0_cross_30 (lv_at hl 6 rfl) ?_
  refine lv_iload hx hb dX0_cross_32 (lv_at hl 1 rfl) ?_
  refine lv_isub hx hb dX0_cross_34 ?_
  refine q_eqi (y := Int32.ofInt (L - Y ku)) (z_sub _ _) ?_
  refine lv_i2l hx hb dX0_cross_35 rfl ?_
  refine q_eql (y := Int64.ofInt (L - Y ku)) (z_l (by omega) (by omega)) ?_
  refine lv_aload_n hx hb dX0_cross_36 rfl (lv_at hl 3 rfl) ?_
  refine va_getN (D := D) (ci := 2) (v := .ref h1) (C := RX2) (T := TX2) (N := 4) hx hb hts iX2 hown hK hP 3 rfl rfl 0 (by decide) (nw_0 hN) (fun _ h9 => h9) rfl dX0_cross_37 ?_
  refine lv_iload_n hx hb dX0_cross_40 rfl (lv_at hl 5 rfl) ?_
  refine q_iald hx hb hK hP 4 0 rfl rfl (k := kd) (by omega) (by omega) dX0_cross_41 ?_
  refine q_eqi (y := Int32.ofInt (X kd)) exd ?_
  refine lv_aload_n hx hb dX0_cross_42 rfl (lv_at hl 3 rfl) ?_
  refine va_getN (D := D) (ci := 2) (v := .ref h1) (C := RX2) (T := TX2) (N := 4) hx hb hts iX2 hown hK hP 3 rfl rfl 0 (by decide) (nw_0 hN) (fun _ h9 => h9) rfl dX0_cross_43 ?_
  refine lv_iload_n hx hb dX0_cross_46 rfl (lv_at hl 4 rfl) ?_
  refine q_iald hx hb hK hP 4 0 rfl rfl (k := ku) (by omega) (by omega) dX0_cross_47 ?_
  refine q_eqi (y := Int32.ofInt (X ku)) exu ?_
  refine lv_isub hx hb dX0_cross_48 ?_
  refine q_eqi (y := Int32.ofInt (X kd - X ku)) (z_sub _ _) ?_
  refine lv_i2l hx hb dX0_cross_49 rfl ?_
  refine q_eql (y := Int64.ofInt (X kd - X ku)) (z_l (by omega) (by omega)) ?_
  refine lv_lmul hx hb dX0_cross_50 ?_
  refine q_eql (y := Int64.ofInt ((L - Y ku) * (X kd - X ku))) (w_mul _ _) ?_
  refine lv_lstore (lv' := [(8, .long (Int64.ofInt ((L - Y ku) * (X kd - X ku)))), (7, .int (Int32.ofInt (Y kd))), (6, .int (Int32.ofInt (Y ku))), (0, .ref z0), (1, .ref h0), (2, .int (nI ku)), (3, .int (nI kd)), (4, .int (Int32.ofInt L)), (5, .int (Int32.ofInt t))]) hx hb dX0_cross_51 hl (by decide) rfl (fun ls hl => ?_)
  refine lv_aload_n hx hb dX0_cross_53 rfl (lv_at hl 3 rfl) ?_
  refine lv_aload_n hx hb dX0_cross_54 rfl (lv_at hl 4 rfl) ?_
  refine va_getN (D := D) (ci := 2) (v := .ref h1) (C := RX2) (T := TX2) (N := 4) hx hb hts iX2 hown hK hP 3 rfl rfl 0 (by decide) (nw_0 hN) (fun _ h9 => h9) rfl dX0_cross_55 ?_
  refine lv_iload_n hx hb dX0_cross_58 rfl (lv_at hl 5 rfl) ?_
  refine q_iald hx hb hK hP 4 0 rfl rfl (k := ku) (by omega) (by omega) dX0_cross_59 ?_
  refine q_eqi (y := Int32.ofInt (X ku)) exu ?_
  refine lv_lload hx hb dX0_cross_60 (lv_at hl 0 rfl) ?_
  refine lv_iload hx hb dX0_cross_62 (lv_at hl 1 rfl) ?_
  refine lv_iload hx hb dX0_cross_64 (lv_at hl 2 rfl) ?_
  refine lv_isub hx hb dX0_cross_66 ?_
  refine q_eqi (y := Int32.ofInt (Y kd - Y ku)) (z_sub _ _) ?_
  refine lv_i2l hx hb dX0_cross_67 rfl ?_
  refine q_eql (y := Int64.ofInt (Y kd - Y ku)) (z_l (by omega) (by omega)) ?_
  refine q_l0 (wr := [(z0, .inr (0, [.ref z1, .ref z2, .int (nI n)])), (z1, .inl (cI, 100, .inl zx)), (z2, .inl (cI, 100, .inl zt)), (h0, .inr (2, [.ref h1, .ref h2, .ref h3, .int (nI cn)])), (h1, .inl (cI, 100, .inl fx)), (h2, .inl (cI, 100, .inl fy)), (h3, .inl (cZ, 100, .inl fb))]) (va_runS (As := [.long (Int64.ofInt ((L - Y ku) * (X kd - X ku))), .long (Int64.ofInt (Y kd - Y ku))]) (rest := [.int (Int32.ofInt (X ku)), .ref z0]) ⟨hx, hb, hml, hown, hts⟩ (c_J9_floorDiv l D cI cZ cB cJ H.size (Int64.ofInt ((L - Y ku) * (X kd - X ku))) (Int64.ofInt (Y kd - Y ku)) (fun z => by rw [j_eq, w_t (by omega) (by omega), show (0 : Int64).toInt = 0 from by decide] at z; omega)) (va_cwS 2 hts gX0_cross_J9_floorDiv_f86c9 rfl rfl rfl (by decide +kernel) ⟨Nat.le_of_ble_eq_true rfl, Nat.le_of_ble_eq_true rfl⟩) (q_pre (wc := []) hP hD hK hN [] (by decide) rfl) rfl rfl hl.1 rfl (lv_room (Nat.le_of_ble_eq_true rfl)) dX0_cross_68 ⟨Nat.zero_le _, Nat.zero_le _⟩) hS hA hP hD [] [0, 1, 2, 3, 4, 5, 6] rfl rfl (by decide) (by decide) (fun r_68 u H locs hp_68 hP hD hS => ?_)
  have hP : va_P D qCl [(z0, .inr (0, [.ref z1, .ref z2, .int (nI n)])), (z1, .inl (cI, 100, .inl zx)), (z2, .inl (cI, 100, .inl zt)), (h0, .inr (2, [.ref h1, .ref h2, .ref h3, .int (nI cn)])), (h1, .inl (cI, 100, .inl fx)), (h2, .inl (cI, 100, .inl fy)), (h3, .inl (cZ, 100, .inl fb))] H := hP
  have hD : va_D A [(z0, .inr (0, [.ref z1, .ref z2, .int (nI n)])), (z1, .inl (cI, 100, .inl zx)), (z2, .inl (cI, 100, .inl zt)), (h0, .inr (2, [.ref h1, .ref h2, .ref h3, .int (nI cn)])), (h1, .inl (cI, 100, .inl fx)), (h2, .inl (cI, 100, .inl fy)), (h3, .inl (cZ, 100, .inl fb))] := hD
  have hp_68 : r_68 = fdJ (Int64.ofInt ((L - Y ku) * (X kd - X ku))) (Int64.ofInt (Y kd - Y ku)) := hp_68
  subst hp_68
  have hm9 := mul_bd (a := L - Y ku) (b := X kd - X ku) (by omega) (by omega) (by omega) (by omega)
  refine q_eql (y := Int64.ofInt ((L - Y ku) * (X kd - X ku) / (Y kd - Y ku))) (fdJ_eq (by omega) (by omega) (by omega) (by omega)) ?_
  refine lv_l2i hx hb dX0_cross_71 rfl ?_
  refine q_eqi (y := Int32.ofInt ((L - Y ku) * (X kd - X ku) / (Y kd - Y ku))) Int64.toInt32_ofInt ?_
  refine lv_iadd hx hb dX0_cross_72 ?_
  refine q_eqi (y := Int32.ofInt (X ku + (L - Y ku) * (X kd - X ku) / (Y kd - Y ku))) (z_add _ _) ?_
  refine q_eqi (y := Int32.ofInt (plc X Y L ku kd)) rfl ?_
  refine lv_iload hx hb dX0_cross_73 (lv_at hl 8 rfl) ?_
  refine q_v0 (wr := [(h0, .inr (2, [.ref h1, .ref h2, .ref h3, .int (nI cn)])), (h1, .inl (cI, 100, .inl fx)), (h2, .inl (cI, 100, .inl fy)), (h3, .inl (cZ, 100, .inl fb))]) (va_runV (As := [.int (Int32.ofInt (plc X Y L ku kd)), .int (Int32.ofInt t)]) (rest := []) ⟨hx, hb, hml, hown, hts⟩ (c_X0_insert l D cI cZ cB cJ H.size z0 z1 z2 n zx zt mu (plc X Y L ku kd) t hn hC (plc_bd (by omega) (by omega) ⟨bxu1, bxu2⟩ ⟨bxd1, bxd2⟩)) (cwV 2 hts gX0_cross_X0_insert rfl rfl rfl (by decide +kernel) ⟨Nat.le_of_ble_eq_true rfl, Nat.le_of_ble_eq_true rfl⟩) (q_preV (q_pre (wc := [(z0, .inr (0, [.ref z1, .ref z2, .int (nI n)])), (z1, .inl (cI, 100, .inl zx)), (z2, .inl (cI, 100, .inl zt))]) hP hD hK hN [0, 1, 2] (by decide) rfl) (va_recv hK hP (ci := 0) (q0 := 0) rfl rfl)) rfl rfl hl.1 rfl (lv_room (Nat.le_of_ble_eq_true rfl)) dX0_cross_75 ⟨Nat.zero_le _, Nat.zero_le _⟩) hS hA hP hD [0, 1, 2] [3, 4, 5, 6] rfl rfl (by decide) (by decide) (fun u H locs hp_75 hP hD hS => ?_)
  obtain ⟨zx2_75, zt2_75⟩ := u
  have hP : va_P D qCl [(h0, .inr (2, [.ref h1, .ref h2, .ref h3, .int (nI cn)])), (h1, .inl (cI, 100, .inl fx)), (h2, .inl (cI, 100, .inl fy)), (h3, .inl (cZ, 100, .inl fb)), (z0, .inr (0, [.ref z1, .ref z2, .int (nI (n + 1))])), (z1, .inl (cI, 100, .inl zx2_75)), (z2, .inl (cI, 100, .inl zt2_75))] H := hP
  have hD : va_D A [(h0, .inr (2, [.ref h1, .ref h2, .ref h3, .int (nI cn)])), (h1, .inl (cI, 100, .inl fx)), (h2, .inl (cI, 100, .inl fy)), (h3, .inl (cZ, 100, .inl fb)), (z0, .inr (0, [.ref z1, .ref z2, .int (nI (n + 1))])), (z1, .inl (cI, 100, .inl zx2_75)), (z2, .inl (cI, 100, .inl zt2_75))] := hD
  have hp_75 : CR zx2_75 zt2_75 (n + 1) (fun f => mu f + f (plc X Y L ku kd) t) := hp_75
  have hr9 : CR zx2_75 zt2_75 (n + 1) (fun f => mu f + crs X Y L ku kd t f) ∧ (n + 1) ≤ n + 1 := ⟨CR_congr hp_75 (fun f => by unfold crs; rw [if_pos ⟨by omega, by omega⟩]), Nat.le_refl _⟩
  exact hQ _ _ _ _ (zx2_75, zt2_75, n + 1) _ _ dX0_cross_78 (Nat.le_refl _) (Nat.le_refl _) hr9 (hP.sub [4, 5, 6, 0, 1, 2, 3] rfl) hK (hD.sub [4, 5, 6, 0, 1, 2, 3] (by decide) rfl) hS

abbrev rm_X0_collect : Room := { frames := 2, cells := 0, slots := 0, locals := 54 }
set_option maxHeartbeats 4000000 in
set_option maxRecDepth 100000 in
/-- Crossings.collect -/
theorem c_X0_collect (l : Launch) (D : va_G) (cI cZ cB cJ : ClassId) (sz : Nat) (z0 : Nat) (z1 : Nat) (z2 : Nat) (n : Nat) (zx : Nat → Int32) (zt : Nat → Int32) (h0 : Nat) (h1 : Nat) (h2 : Nat) (h3 : Nat) (cn : Nat) (fx : Nat → Int32) (fy : Nat → Int32) (fb : Nat → Int32) (X : Nat → Int) (Y : Nat → Int) (bg : Nat → Int32) (L : Int) (hR : PathR fx fy fb X Y bg cn) (hL : 0 ≤ L ∧ L ≤ 100000) : Met l yX0_collect wsX0_collect rm_X0_collect (va_Pc [.ref z0, .ref h0, .int (Int32.ofInt L)] (PC D (qT cI cZ cB cJ) [(z0, .inr (0, [.ref z1, .ref z2, .int (nI n)])), (z1, .inl (cI, 100, .inl zx)), (z2, .inl (cI, 100, .inl zt)), (h0, .inr (2, [.ref h1, .ref h2, .ref h3, .int (nI cn)])), (h1, .inl (cI, 100, .inl fx)), (h2, .inl (cI, 100, .inl fy)), (h3, .inl (cZ, 100, .inl fb))] sz)) (va_Qv (fun (u : (Nat → Int32) × (Nat → Int32) × Nat) => CR u.1 u.2.1 u.2.2 (fun f => muL X Y bg cn L cn f) ∧ u.2.2 ≤ cn) (fun (u : (Nat → Int32) × (Nat → Int32) × Nat) => PO D (qT cI cZ cB cJ) (va_A [(z0, .inr (0, [.ref z1, .ref z2, .int (nI n)])), (z1, .inl (cI, 100, .inl zx)), (z2, .inl (cI, 100, .inl zt)), (h0, .inr (2, [.ref h1, .ref h2, .ref h3, .int (nI cn)])), (h1, .inl (cI, 100, .inl fx)), (h2, .inl (cI, 100, .inl fy)), (h3, .inl (cZ, 100, .inl fb))] sz) [(z0, .inr (0, [.ref z1, .ref z2, .int (nI u.2.2)])), (z1, .inl (cI, 100, .inl u.1)), (z2, .inl (cI, 100, .inl u.2.1)), (h0, .inr (2, [.ref h1, .ref h2, .ref h3, .int (nI cn)])), (h1, .inl (cI, 100, .inl fx)), (h2, .inl (cI, 100, .inl fy)), (h3, .inl (cZ, 100, .inl fb))]) (va_A [(z0, .inr (0, [.ref z1, .ref z2, .int (nI n)])), (z1, .inl (cI, 100, .inl zx)), (z2, .inl (cI, 100, .inl zt)), (h0, .inr (2, [.ref h1, .ref h2, .ref h3, .int (nI cn)])), (h1, .inl (cI, 100, .inl fx)), (h2, .inl (cI, 100, .inl fy)), (h3, .inl (cZ, 100, .inl fb))] sz)) 0 0 (va_A [(z0, .inr (0, [.ref z1, .ref z2, .int (nI n)])), (z1, .inl (cI, 100, .inl zx)), (z2, .inl (cI, 100, .inl zt)), (h0, .inr (2, [.ref h1, .ref h2, .ref h3, .int (nI cn)])), (h1, .inl (cI, 100, .inl fx)), (h2, .inl (cI, 100, .inl fy)), (h3, .inl (cZ, 100, .inl fb))] sz) := by
  refine q_entV (cc := cX0_collect) (maxL := 7) (by decide +kernel) rfl (Nat.le_of_ble_eq_true rfl) ?_
  intro p e s m below meth c A Q ls hq hl hQ
  obtain ⟨hx, hb, hml, hts, hown, hin, hN, hK, hsz, hA, hP, hD, hS⟩ := hq
  have hown : s.vm.findClass RX0 = some m.cls := hown
  obtain ⟨H, hH⟩ : ∃ H, H = s.heap := ⟨_, rfl⟩
  rw [← hH] at hP ⊢
  have hS : va_S A s.heap H [] := by rw [hH]; exact va_S.rf
  clear hH
  have hl : lv_has ls 7 [(0, .ref z0), (1, .ref h0), (2, .int (Int32.ofInt L))] := hl
  have iX0 : ∀ w ∈ wsX00, w ∈ wsX0_collect := by decide +kernel
  have iX2 : ∀ w ∈ wsX20, w ∈ wsX0_collect := by decide +kernel
  have f_18 := hts (.fieldLink RX0 18 "RasterCover$Crossings" "count" "I") (by decide +kernel)
  have hcn := hR.1
  refine lv_aload_n hx hb dX0_collect_0 rfl (lv_at hl 0 rfl) ?_
  refine lv_iconst (v := nI 0) hx hb dX0_collect_1 (by decide) ?_
  refine va_put (D := D) (ci := 0) (v := .int (nI 0)) (ty := .int) (C := RX0) (T := TX0) (N := 3) hx hb hts iX0 tyX0 tyX0_ok nmX0 hown hK hP hD hS 0 rfl rfl 2 (by decide) f_18 (fun _ h9 => h9) rfl (by decide +kernel) rfl rfl (Nat.le_of_ble_eq_true rfl) dX0_collect_2 (fun H locs hP hD hS => ?_)
  have hP : va_P D qCl [(z0, .inr (0, [.ref z1, .ref z2, .int (nI 0)])), (z1, .inl (cI, 100, .inl zx)), (z2, .inl (cI, 100, .inl zt)), (h0, .inr (2, [.ref h1, .ref h2, .ref h3, .int (nI cn)])), (h1, .inl (cI, 100, .inl fx)), (h2, .inl (cI, 100, .inl fy)), (h3, .inl (cZ, 100, .inl fb))] H := hP
  have hD : va_D A [(z0, .inr (0, [.ref z1, .ref z2, .int (nI 0)])), (z1, .inl (cI, 100, .inl zx)), (z2, .inl (cI, 100, .inl zt)), (h0, .inr (2, [.ref h1, .ref h2, .ref h3, .int (nI cn)])), (h1, .inl (cI, 100, .inl fx)), (h2, .inl (cI, 100, .inl fy)), (h3, .inl (cZ, 100, .inl fb))] := hD
  refine lv_iconst (v := nI 0) hx hb dX0_collect_5 (by decide) ?_
  refine lv_istore_n (lv' := [(3, .int (nI 0)), (0, .ref z0), (1, .ref h0), (2, .int (Int32.ofInt L))]) hx hb dX0_collect_6 rfl hl (by decide) rfl (fun ls hl => ?_)
  refine lv_iconst (v := nI 0) hx hb dX0_collect_7 (by decide) ?_
  refine lv_istore (lv' := [(4, .int (nI 0)), (3, .int (nI 0)), (0, .ref z0), (1, .ref h0), (2, .int (Int32.ofInt L))]) hx hb dX0_collect_8 hl (by decide) rfl (fun ls hl => ?_)
  have L_10 : ∀ (fuel : Nat) (i : Nat) (nn : Nat) (fv : Nat) (zx2 : Nat → Int32) (zt2 : Nat → Int32), cn - i < fuel → (fv = fiP bg i) → (i ≤ cn) → (nn ≤ i) → (CR zx2 zt2 nn (fun f => muL X Y bg cn L i f)) → ∀ (H : Heap) (locs : List Loc) (ls : Array Slot), va_P D qCl [(z0, .inr (0, [.ref z1, .ref z2, .int (nI nn)])), (z1, .inl (cI, 100, .inl zx2)), (z2, .inl (cI, 100, .inl zt2)), (h0, .inr (2, [.ref h1, .ref h2, .ref h3, .int (nI cn)])), (h1, .inl (cI, 100, .inl fx)), (h2, .inl (cI, 100, .inl fy)), (h3, .inl (cZ, 100, .inl fb))] H → va_D A [(z0, .inr (0, [.ref z1, .ref z2, .int (nI nn)])), (z1, .inl (cI, 100, .inl zx2)), (z2, .inl (cI, 100, .inl zt2)), (h0, .inr (2, [.ref h1, .ref h2, .ref h3, .int (nI cn)])), (h1, .inl (cI, 100, .inl fx)), (h2, .inl (cI, 100, .inl fy)), (h3, .inl (cZ, 100, .inl fb))] → va_S A s.heap H locs → lv_has ls 7 [(4, .int (nI i)), (3, .int (nI fv)), (0, .ref z0), (1, .ref h0), (2, .int (Int32.ofInt L))] → W p l e rm_X0_collect s m ([.ref z0, .ref h0, .int (Int32.ofInt L)] : List Value).toArray below meth c H locs 0 0 Q (F0 m 10 ls []) := by
    intro fuel
    induction fuel with
    | zero =>
      intro i nn fv zx2 zt2 hm
      exact absurd hm (Nat.not_lt_zero _)
    | succ fuel ih_10 =>
      intro i nn fv zx2 zt2 hm_10 hfv hi hnn hC H locs ls hP hD hS hl
      refine lv_iload hx hb dX0_collect_10 (lv_at hl 0 rfl) ?_
      refine lv_aload_n hx hb dX0_collect_12 rfl (lv_at hl 3 rfl) ?_
      refine va_getN (D := D) (ci := 2) (v := .int (nI cn)) (C := RX2) (T := TX2) (N := 4) hx hb hts iX2 hown hK hP 3 rfl rfl 3 (by decide) (nw_3 hN) (fun _ h9 => h9) rfl dX0_collect_13 ?_
      refine q_ge (tgt := 125) hx hb (by omega) (by omega) dX0_collect_16 (by decide) (fun h_16 => ?_) (fun h_16 => ?_)
      · have e9 : i = cn := by omega
        rw [e9] at hC hnn
        have hr9 : CR zx2 zt2 nn (fun f => muL X Y bg cn L cn f) ∧ nn ≤ cn := ⟨hC, hnn⟩
        exact hQ _ _ _ _ (zx2, zt2, nn) _ _ dX0_collect_125 (Nat.le_refl _) (Nat.le_refl _) hr9 (hP.sub [0, 1, 2, 3, 4, 5, 6] rfl) hK (hD.sub [0, 1, 2, 3, 4, 5, 6] (by decide) rfl) hS
      have J_32 : ∀ (w : Nat), (w = fiP bg (i + 1)) → ∀ (H : Heap) (locs : List Loc) (ls : Array Slot), va_P D qCl [(z0, .inr (0, [.ref z1, .ref z2, .int (nI nn)])), (z1, .inl (cI, 100, .inl zx2)), (z2, .inl (cI, 100, .inl zt2)), (h0, .inr (2, [.ref h1, .ref h2, .ref h3, .int (nI cn)])), (h1, .inl (cI, 100, .inl fx)), (h2, .inl (cI, 100, .inl fy)), (h3, .inl (cZ, 100, .inl fb))] H → va_D A [(z0, .inr (0, [.ref z1, .ref z2, .int (nI nn)])), (z1, .inl (cI, 100, .inl zx2)), (z2, .inl (cI, 100, .inl zt2)), (h0, .inr (2, [.ref h1, .ref h2, .ref h3, .int (nI cn)])), (h1, .inl (cI, 100, .inl fx)), (h2, .inl (cI, 100, .inl fy)), (h3, .inl (cZ, 100, .inl fb))] → va_S A s.heap H locs → lv_has ls 7 [(4, .int (nI i)), (3, .int (nI w)), (0, .ref z0), (1, .ref h0), (2, .int (Int32.ofInt L))] → W p l e rm_X0_collect s m ([.ref z0, .ref h0, .int (Int32.ofInt L)] : List Value).toArray below meth c H locs 0 0 Q (F0 m 32 ls []) := by
        intro w hw H locs ls hP hD hS hl
        have J_75 : ∀ (j : Nat), (j = nxP bg cn i) → ∀ (H : Heap) (locs : List Loc) (ls : Array Slot), va_P D qCl [(z0, .inr (0, [.ref z1, .ref z2, .int (nI nn)])), (z1, .inl (cI, 100, .inl zx2)), (z2, .inl (cI, 100, .inl zt2)), (h0, .inr (2, [.ref h1, .ref h2, .ref h3, .int (nI cn)])), (h1, .inl (cI, 100, .inl fx)), (h2, .inl (cI, 100, .inl fy)), (h3, .inl (cZ, 100, .inl fb))] H → va_D A [(z0, .inr (0, [.ref z1, .ref z2, .int (nI nn)])), (z1, .inl (cI, 100, .inl zx2)), (z2, .inl (cI, 100, .inl zt2)), (h0, .inr (2, [.ref h1, .ref h2, .ref h3, .int (nI cn)])), (h1, .inl (cI, 100, .inl fx)), (h2, .inl (cI, 100, .inl fy)), (h3, .inl (cZ, 100, .inl fb))] → va_S A s.heap H locs → lv_has ls 7 [(4, .int (nI i)), (3, .int (nI w)), (0, .ref z0), (1, .ref h0), (2, .int (Int32.ofInt L))] → W p l e rm_X0_collect s m ([.ref z0, .ref h0, .int (Int32.ofInt L)] : List Value).toArray below meth c H locs 0 0 Q (F0 m 75 ls [.int (nI j)]) := by
          intro j hj H locs ls hP hD hS hl
          refine lv_istore (lv' := [(6, .int (nI j)), (4, .int (nI i)), (3, .int (nI w)), (0, .ref z0), (1, .ref h0), (2, .int (Int32.ofInt L))]) hx hb dX0_collect_75 hl (by decide) rfl (fun ls hl => ?_)
          have hjl : j < cn := by rw [hj]; exact nxP_lt (by omega)
          obtain ⟨-, -, -, -, byi1, byi2⟩ := hR.2 i (by omega)
          obtain ⟨-, -, -, -, byj1, byj2⟩ := hR.2 j hjl
          refine lv_aload_n hx hb dX0_collect_77 rfl (lv_at hl 4 rfl) ?_
          refine va_getN (D := D) (ci := 2) (v := .ref h2) (C := RX2) (T := TX2) (N := 4) hx hb hts iX2 hown hK hP 3 rfl rfl 1 (by decide) (nw_1 hN) (fun _ h9 => h9) rfl dX0_collect_78 ?_
          refine lv_iload hx hb dX0_collect_81 (lv_at hl 1 rfl) ?_
          refine q_iald hx hb hK hP 5 0 rfl rfl (k := i) (by omega) (by omega) dX0_collect_83 ?_
          refine q_eqi (y := Int32.ofInt (Y i)) (hR.2 i (by omega)).2.1 ?_
          refine lv_aload_n hx hb dX0_collect_84 rfl (lv_at hl 4 rfl) ?_
          refine va_getN (D := D) (ci := 2) (v := .ref h2) (C := RX2) (T := TX2) (N := 4) hx hb hts iX2 hown hK hP 3 rfl rfl 1 (by decide) (nw_1 hN) (fun _ h9 => h9) rfl dX0_collect_85 ?_
          refine lv_iload hx hb dX0_collect_88 (lv_at hl 0 rfl) ?_
          refine q_iald hx hb hK hP 5 0 rfl rfl (k := j) (by omega) (by omega) dX0_collect_90 ?_
          refine q_eqi (y := Int32.ofInt (Y j)) (hR.2 j hjl).2.1 ?_
          refine lv_icmp_gt (tgt := 108) hx hb dX0_collect_91 (by decide) (fun h_91 => ?_) (fun h_91 => ?_)
          · rw [z_lt (by omega) (by omega) (by omega) (by omega)] at h_91
            refine lv_aload_n hx hb dX0_collect_108 rfl (lv_at hl 3 rfl) ?_
            refine lv_aload_n hx hb dX0_collect_109 rfl (lv_at hl 4 rfl) ?_
            refine lv_iload hx hb dX0_collect_110 (lv_at hl 0 rfl) ?_
            refine lv_iload hx hb dX0_collect_112 (lv_at hl 1 rfl) ?_
            refine lv_iload_n hx hb dX0_collect_114 rfl (lv_at hl 5 rfl) ?_
            refine lv_iconst (v := (-1)) hx hb dX0_collect_115 (by decide) ?_
            refine q_eqi (y := Int32.ofInt (-1)) (by decide) ?_
            refine q_v0 (wr := []) (va_runV (As := [.ref h0, .int (nI j), .int (nI i), .int (Int32.ofInt L), .int (Int32.ofInt (-1))]) (rest := []) ⟨hx, hb, hml, hown, hts⟩ (c_X0_cross l D cI cZ cB cJ H.size z0 z1 z2 nn zx2 zt2 h0 h1 h2 h3 cn fx fy fb X Y bg (fun f => muL X Y bg cn L i f) j i L (-1) (by omega) hC hR hjl (by omega) hL) (cwV 5 hts gX0_collect_X0_cross rfl rfl rfl (by decide +kernel) ⟨Nat.le_of_ble_eq_true rfl, Nat.le_of_ble_eq_true rfl⟩) (q_preV (q_pre (wc := [(z0, .inr (0, [.ref z1, .ref z2, .int (nI nn)])), (z1, .inl (cI, 100, .inl zx2)), (z2, .inl (cI, 100, .inl zt2)), (h0, .inr (2, [.ref h1, .ref h2, .ref h3, .int (nI cn)])), (h1, .inl (cI, 100, .inl fx)), (h2, .inl (cI, 100, .inl fy)), (h3, .inl (cZ, 100, .inl fb))]) hP hD hK hN [0, 1, 2, 3, 4, 5, 6] (by decide) rfl) (va_recv hK hP (ci := 0) (q0 := 0) rfl rfl)) rfl rfl hl.1 rfl (lv_room (Nat.le_of_ble_eq_true rfl)) dX0_collect_116 ⟨Nat.zero_le _, Nat.zero_le _⟩) hS hA hP hD [0, 1, 2, 3, 4, 5, 6] [] rfl rfl (by decide) (by decide) (fun u H locs hp_116 hP hD hS => ?_)
            obtain ⟨zx3, zt3, n3⟩ := u
            have hP : va_P D qCl [(z0, .inr (0, [.ref z1, .ref z2, .int (nI n3)])), (z1, .inl (cI, 100, .inl zx3)), (z2, .inl (cI, 100, .inl zt3)), (h0, .inr (2, [.ref h1, .ref h2, .ref h3, .int (nI cn)])), (h1, .inl (cI, 100, .inl fx)), (h2, .inl (cI, 100, .inl fy)), (h3, .inl (cZ, 100, .inl fb))] H := hP
            have hD : va_D A [(z0, .inr (0, [.ref z1, .ref z2, .int (nI n3)])), (z1, .inl (cI, 100, .inl zx3)), (z2, .inl (cI, 100, .inl zt3)), (h0, .inr (2, [.ref h1, .ref h2, .ref h3, .int (nI cn)])), (h1, .inl (cI, 100, .inl fx)), (h2, .inl (cI, 100, .inl fy)), (h3, .inl (cZ, 100, .inl fb))] := hD
            have hp_116 : CR zx3 zt3 n3 (fun f => (fun f => muL X Y bg cn L i f) f + crs X Y L j i (-1) f) ∧ n3 ≤ nn + 1 := hp_116
            refine lv_iinc (v := nI (i + 1)) (lv' := [(4, .int (nI (i + 1))), (6, .int (nI j)), (3, .int (nI w)), (0, .ref z0), (1, .ref h0), (2, .int (Int32.ofInt L))]) hx hb dX0_collect_119 hl (k := 1) rfl (q_inc _) (by decide) rfl (fun ls hl => ?_)
            refine lv_goto (tgt := 10) hx hb dX0_collect_122 (by decide) ?_
            exact ih_10 (i + 1) n3 w zx3 zt3 (by omega) hw (by omega) (by omega) (CR_congr hp_116.1 (fun f => by show muL X Y bg cn L i f + crs X Y L j i (-1) f = muL X Y bg cn L i f + edg X Y bg cn L i f; unfold edg; rw [if_neg (by rw [← hj]; omega), ← hj])) _ _ _ (hP.sub [0, 1, 2, 3, 4, 5, 6] rfl) (hD.sub [0, 1, 2, 3, 4, 5, 6] (by decide) rfl) hS (lv_sub hl [0, 2, 3, 4, 5] rfl)
          rw [z_lt (by omega) (by omega) (by omega) (by omega)] at h_91
          refine lv_aload_n hx hb dX0_collect_94 rfl (lv_at hl 3 rfl) ?_
          refine lv_aload_n hx hb dX0_collect_95 rfl (lv_at hl 4 rfl) ?_
          refine lv_iload hx hb dX0_collect_96 (lv_at hl 1 rfl) ?_
          refine lv_iload hx hb dX0_collect_98 (lv_at hl 0 rfl) ?_
          refine lv_iload_n hx hb dX0_collect_100 rfl (lv_at hl 5 rfl) ?_
          refine lv_iconst (v := nI 1) hx hb dX0_collect_101 (by decide) ?_
          refine q_eqi (y := Int32.ofInt 1) (by decide) ?_
          refine q_v0 (wr := []) (va_runV (As := [.ref h0, .int (nI i), .int (nI j), .int (Int32.ofInt L), .int (Int32.ofInt 1)]) (rest := []) ⟨hx, hb, hml, hown, hts⟩ (c_X0_cross l D cI cZ cB cJ H.size z0 z1 z2 nn zx2 zt2 h0 h1 h2 h3 cn fx fy fb X Y bg (fun f => muL X Y bg cn L i f) i j L 1 (by omega) hC hR (by omega) hjl hL) (cwV 5 hts gX0_collect_X0_cross rfl rfl rfl (by decide +kernel) ⟨Nat.le_of_ble_eq_true rfl, Nat.le_of_ble_eq_true rfl⟩) (q_preV (q_pre (wc := [(z0, .inr (0, [.ref z1, .ref z2, .int (nI nn)])), (z1, .inl (cI, 100, .inl zx2)), (z2, .inl (cI, 100, .inl zt2)), (h0, .inr (2, [.ref h1, .ref h2, .ref h3, .int (nI cn)])), (h1, .inl (cI, 100, .inl fx)), (h2, .inl (cI, 100, .inl fy)), (h3, .inl (cZ, 100, .inl fb))]) hP hD hK hN [0, 1, 2, 3, 4, 5, 6] (by decide) rfl) (va_recv hK hP (ci := 0) (q0 := 0) rfl rfl)) rfl rfl hl.1 rfl (lv_room (Nat.le_of_ble_eq_true rfl)) dX0_collect_102 ⟨Nat.zero_le _, Nat.zero_le _⟩) hS hA hP hD [0, 1, 2, 3, 4, 5, 6] [] rfl rfl (by decide) (by decide) (fun u H locs hp_102 hP hD hS => ?_)
          obtain ⟨zx3, zt3, n3⟩ := u
          have hP : va_P D qCl [(z0, .inr (0, [.ref z1, .ref z2, .int (nI n3)])), (z1, .inl (cI, 100, .inl zx3)), (z2, .inl (cI, 100, .inl zt3)), (h0, .inr (2, [.ref h1, .ref h2, .ref h3, .int (nI cn)])), (h1, .inl (cI, 100, .inl fx)), (h2, .inl (cI, 100, .inl fy)), (h3, .inl (cZ, 100, .inl fb))] H := hP
          have hD : va_D A [(z0, .inr (0, [.ref z1, .ref z2, .int (nI n3)])), (z1, .inl (cI, 100, .inl zx3)), (z2, .inl (cI, 100, .inl zt3)), (h0, .inr (2, [.ref h1, .ref h2, .ref h3, .int (nI cn)])), (h1, .inl (cI, 100, .inl fx)), (h2, .inl (cI, 100, .inl fy)), (h3, .inl (cZ, 100, .inl fb))] := hD
          have hp_102 : CR zx3 zt3 n3 (fun f => (fun f => muL X Y bg cn L i f) f + crs X Y L i j 1 f) ∧ n3 ≤ nn + 1 := hp_102
          refine lv_goto (tgt := 119) hx hb dX0_collect_105 (by decide) ?_
          refine lv_iinc (v := nI (i + 1)) (lv' := [(4, .int (nI (i + 1))), (6, .int (nI j)), (3, .int (nI w)), (0, .ref z0), (1, .ref h0), (2, .int (Int32.ofInt L))]) hx hb dX0_collect_119 hl (k := 1) rfl (q_inc _) (by decide) rfl (fun ls hl => ?_)
          refine lv_goto (tgt := 10) hx hb dX0_collect_122 (by decide) ?_
          exact ih_10 (i + 1) n3 w zx3 zt3 (by omega) hw (by omega) (by omega) (CR_congr hp_102.1 (fun f => by show muL X Y bg cn L i f + crs X Y L i j 1 f = muL X Y bg cn L i f + edg X Y bg cn L i f; unfold edg; rw [if_pos (by rw [← hj]; omega), ← hj])) _ _ _ (hP.sub [0, 1, 2, 3, 4, 5, 6] rfl) (hD.sub [0, 1, 2, 3, 4, 5, 6] (by decide) rfl) hS (lv_sub hl [0, 2, 3, 4, 5] rfl)
        refine lv_iload hx hb dX0_collect_32 (lv_at hl 0 rfl) ?_
        refine lv_iconst (v := nI 1) hx hb dX0_collect_34 (by decide) ?_
        refine lv_iadd hx hb dX0_collect_35 ?_
        refine q_eqi (nI_add _ _) ?_
        refine lv_aload_n hx hb dX0_collect_36 rfl (lv_at hl 3 rfl) ?_
        refine va_getN (D := D) (ci := 2) (v := .int (nI cn)) (C := RX2) (T := TX2) (N := 4) hx hb hts iX2 hown hK hP 3 rfl rfl 3 (by decide) (nw_3 hN) (fun _ h9 => h9) rfl dX0_collect_37 ?_
        refine q_eq (tgt := 55) hx hb (by omega) (by omega) dX0_collect_40 (by decide) (fun h_40 => ?_) (fun h_40 => ?_)
        · refine lv_iconst (v := nI 1) hx hb dX0_collect_55 (by decide) ?_
          refine lv_goto (tgt := 60) hx hb dX0_collect_56 (by decide) ?_
          refine lv_istore (lv' := [(5, .int (nI 1)), (4, .int (nI i)), (3, .int (nI w)), (0, .ref z0), (1, .ref h0), (2, .int (Int32.ofInt L))]) hx hb dX0_collect_60 hl (by decide) rfl (fun ls hl => ?_)
          refine lv_iload hx hb dX0_collect_62 (lv_at hl 0 rfl) ?_
          refine q_if_eq (tgt := 71) hx hb (by omega) dX0_collect_64 (by decide) (fun h_64 => by omega) (fun h_64 => ?_)
          refine lv_iload_n hx hb dX0_collect_67 rfl (lv_at hl 2 rfl) ?_
          refine lv_goto (tgt := 75) hx hb dX0_collect_68 (by decide) ?_
          exact J_75 w (by unfold nxP; rw [if_pos (Or.inl h_40)]; exact hw) _ _ _ (hP.sub [0, 1, 2, 3, 4, 5, 6] rfl) (hD.sub [0, 1, 2, 3, 4, 5, 6] (by decide) rfl) hS (lv_sub hl [1, 2, 3, 4, 5] rfl)
        refine lv_aload_n hx hb dX0_collect_43 rfl (lv_at hl 3 rfl) ?_
        refine va_getN (D := D) (ci := 2) (v := .ref h3) (C := RX2) (T := TX2) (N := 4) hx hb hts iX2 hown hK hP 3 rfl rfl 2 (by decide) (nw_2 hN) (fun _ h9 => h9) rfl dX0_collect_44 ?_
        refine lv_iload hx hb dX0_collect_47 (lv_at hl 0 rfl) ?_
        refine lv_iconst (v := nI 1) hx hb dX0_collect_49 (by decide) ?_
        refine lv_iadd hx hb dX0_collect_50 ?_
        refine q_eqi (nI_add _ _) ?_
        refine q_zald hx hb hK hP 6 1 rfl rfl (k := (i + 1)) (by omega) (by omega) dX0_collect_51 ?_
        refine q_eqi (y := bg (i + 1)) (hR.2 (i + 1) (by omega)).2.2.1 ?_
        refine lv_if_eq (tgt := 59) hx hb dX0_collect_52 (by decide) (fun h_52 => ?_) (fun h_52 => ?_)
        · refine lv_iconst (v := nI 0) hx hb dX0_collect_59 (by decide) ?_
          refine lv_istore (lv' := [(5, .int (nI 0)), (4, .int (nI i)), (3, .int (nI w)), (0, .ref z0), (1, .ref h0), (2, .int (Int32.ofInt L))]) hx hb dX0_collect_60 hl (by decide) rfl (fun ls hl => ?_)
          refine lv_iload hx hb dX0_collect_62 (lv_at hl 0 rfl) ?_
          refine q_if_eq (tgt := 71) hx hb (by omega) dX0_collect_64 (by decide) (fun h_64 => ?_) (fun h_64 => by omega)
          refine lv_iload hx hb dX0_collect_71 (lv_at hl 1 rfl) ?_
          refine lv_iconst (v := nI 1) hx hb dX0_collect_73 (by decide) ?_
          refine lv_iadd hx hb dX0_collect_74 ?_
          refine q_eqi (nI_add _ _) ?_
          exact J_75 (i + 1) (by unfold nxP; rw [if_neg (by rintro (q | q); (· exact h_40 q); (· exact q h_52))]) _ _ _ (hP.sub [0, 1, 2, 3, 4, 5, 6] rfl) (hD.sub [0, 1, 2, 3, 4, 5, 6] (by decide) rfl) hS (lv_sub hl [1, 2, 3, 4, 5] rfl)
        refine lv_iconst (v := nI 1) hx hb dX0_collect_55 (by decide) ?_
        refine lv_goto (tgt := 60) hx hb dX0_collect_56 (by decide) ?_
        refine lv_istore (lv' := [(5, .int (nI 1)), (4, .int (nI i)), (3, .int (nI w)), (0, .ref z0), (1, .ref h0), (2, .int (Int32.ofInt L))]) hx hb dX0_collect_60 hl (by decide) rfl (fun ls hl => ?_)
        refine lv_iload hx hb dX0_collect_62 (lv_at hl 0 rfl) ?_
        refine q_if_eq (tgt := 71) hx hb (by omega) dX0_collect_64 (by decide) (fun h_64 => by omega) (fun h_64 => ?_)
        refine lv_iload_n hx hb dX0_collect_67 rfl (lv_at hl 2 rfl) ?_
        refine lv_goto (tgt := 75) hx hb dX0_collect_68 (by decide) ?_
        exact J_75 w (by unfold nxP; rw [if_pos (Or.inr h_52)]; exact hw) _ _ _ (hP.sub [0, 1, 2, 3, 4, 5, 6] rfl) (hD.sub [0, 1, 2, 3, 4, 5, 6] (by decide) rfl) hS (lv_sub hl [1, 2, 3, 4, 5] rfl)
      refine lv_aload_n hx hb dX0_collect_19 rfl (lv_at hl 3 rfl) ?_
      refine va_getN (D := D) (ci := 2) (v := .ref h3) (C := RX2) (T := TX2) (N := 4) hx hb hts iX2 hown hK hP 3 rfl rfl 2 (by decide) (nw_2 hN) (fun _ h9 => h9) rfl dX0_collect_20 ?_
      refine lv_iload hx hb dX0_collect_23 (lv_at hl 0 rfl) ?_
      refine q_zald hx hb hK hP 6 1 rfl rfl (k := i) (by omega) (by omega) dX0_collect_25 ?_
      refine q_eqi (y := bg i) (hR.2 i (by omega)).2.2.1 ?_
      refine lv_if_eq (tgt := 32) hx hb dX0_collect_26 (by decide) (fun h_26 => ?_) (fun h_26 => ?_)
      · exact J_32 fv (by show fv = if bg i = 0 then fiP bg i else i; rw [if_pos h_26]; exact hfv) _ _ _ (hP.sub [0, 1, 2, 3, 4, 5, 6] rfl) (hD.sub [0, 1, 2, 3, 4, 5, 6] (by decide) rfl) hS (lv_sub hl [0, 1, 2, 3, 4] rfl)
      refine lv_iload hx hb dX0_collect_29 (lv_at hl 0 rfl) ?_
      refine lv_istore_n (lv' := [(3, .int (nI i)), (4, .int (nI i)), (0, .ref z0), (1, .ref h0), (2, .int (Int32.ofInt L))]) hx hb dX0_collect_31 rfl hl (by decide) rfl (fun ls hl => ?_)
      exact J_32 i (by show i = if bg i = 0 then fiP bg i else i; rw [if_neg h_26]) _ _ _ (hP.sub [0, 1, 2, 3, 4, 5, 6] rfl) (hD.sub [0, 1, 2, 3, 4, 5, 6] (by decide) rfl) hS (lv_sub hl [1, 0, 2, 3, 4] rfl)
  exact L_10 _ 0 0 0 zx zt (Nat.lt_succ_self _) rfl (Nat.zero_le _) (Nat.le_refl _) (CR_0 (fun f => rfl)) _ _ _ (hP.sub [0, 1, 2, 3, 4, 5, 6] rfl) (hD.sub [0, 1, 2, 3, 4, 5, 6] (by decide) rfl) hS (lv_sub hl [0, 1, 2, 3, 4] rfl)
