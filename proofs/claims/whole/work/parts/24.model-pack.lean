abbrev rm_X5_put : Room := { frames := 0, cells := 0, slots := 0, locals := 0 }
set_option maxHeartbeats 4000000 in
set_option maxRecDepth 100000 in
theorem c_X5_put (l : Launch) (D : va_G) (cI cZ cB cJ : ClassId) (sz : Nat) (m0 : Nat) (m1 : Nat) (m2 : Nat) (m3 : Nat) (m4 : Nat) (m5 : Nat) (m6 : Nat) (m7 : Nat) (m8 : Nat) (m9 : Nat) (ma : Nat) (th : Int32) (wd : Nat) (ht : Nat) (pn : Nat) (cn : Nat) (fl : Int32) (bf : Nat) (bt : Nat) (xn : Nat) (ip : Int32) (ps : Nat) (gk : Nat → Int32) (v : Int32) (hps : ps < 18432) : Met l yX5_put wsX5_put rm_X5_put (va_Pc [.ref m0, .int v] (PC D (qT cI cZ cB cJ) [(m0, .inr (5, [.int th, .int (nI wd), .int (nI ht), .int (nI pn), .ref m1, .ref m2, .ref m3, .int (nI cn), .ref m4, .ref m5, .ref m6, .int fl, .int (nI bf), .int (nI bt), .int (nI xn), .ref m7, .ref m8, .ref m9, .int ip, .int (nI ps), .ref ma])), (ma, .inl (cI, 18432, .inl gk))] sz)) (va_Qv (fun (u : Unit) => True) (fun (u : Unit) => PO D (qT cI cZ cB cJ) (va_A [(m0, .inr (5, [.int th, .int (nI wd), .int (nI ht), .int (nI pn), .ref m1, .ref m2, .ref m3, .int (nI cn), .ref m4, .ref m5, .ref m6, .int fl, .int (nI bf), .int (nI bt), .int (nI xn), .ref m7, .ref m8, .ref m9, .int ip, .int (nI ps), .ref ma])), (ma, .inl (cI, 18432, .inl gk))] sz) [(m0, .inr (5, [.int th, .int (nI wd), .int (nI ht), .int (nI pn), .ref m1, .ref m2, .ref m3, .int (nI cn), .ref m4, .ref m5, .ref m6, .int fl, .int (nI bf), .int (nI bt), .int (nI xn), .ref m7, .ref m8, .ref m9, .int ip, .int (nI (ps + 1)), .ref ma])), (ma, .inl (cI, 18432, .inl (upd gk ps (v &&& nI 255))))]) (va_A [(m0, .inr (5, [.int th, .int (nI wd), .int (nI ht), .int (nI pn), .ref m1, .ref m2, .ref m3, .int (nI cn), .ref m4, .ref m5, .ref m6, .int fl, .int (nI bf), .int (nI bt), .int (nI xn), .ref m7, .ref m8, .ref m9, .int ip, .int (nI ps), .ref ma])), (ma, .inl (cI, 18432, .inl gk))] sz)) 0 0 (va_A [(m0, .inr (5, [.int th, .int (nI wd), .int (nI ht), .int (nI pn), .ref m1, .ref m2, .ref m3, .int (nI cn), .ref m4, .ref m5, .ref m6, .int fl, .int (nI bf), .int (nI bt), .int (nI xn), .ref m7, .ref m8, .ref m9, .int ip, .int (nI ps), .ref ma])), (ma, .inl (cI, 18432, .inl gk))] sz) := by
  refine q_entV (cc := cX5_put) (maxL := 2) (by decide +kernel) rfl (Nat.le_of_ble_eq_true rfl) ?_
  intro p e s m below meth c A Q ls hq hl hQ
  obtain ⟨hx, hb, hml, hts, hown, hin, hN, hK, hsz, hA, hP, hD, hS⟩ := hq
  have hown : s.vm.findClass RX5 = some m.cls := hown
  obtain ⟨H, hH⟩ : ∃ H, H = s.heap := ⟨_, rfl⟩
  rw [← hH] at hP ⊢
  have hS : va_S A s.heap H [] := by rw [hH]; exact va_S.rf
  clear hH
  have hl : lv_has ls 2 [(0, .ref m0), (1, .int v)] := hl
  have iX5 : ∀ w ∈ wsX50, w ∈ wsX5_put := by decide +kernel
  have f_39 := hts (.fieldLink RX5 39 "RasterCoverModel" "packed" "[I") (by decide +kernel)
  have f_135 := hts (.fieldLink RX5 135 "RasterCoverModel" "size" "I") (by decide +kernel)
  refine lv_aload_n hx hb dX5_put_0 rfl (lv_at hl 0 rfl) ?_
  refine va_get (D := D) (ci := 5) (v := .ref ma) (C := RX5) (T := TX5) (N := 21) hx hb hts iX5 hown hK hP 0 rfl rfl 20 (by decide) f_39 (fun _ h9 => h9) rfl dX5_put_1 ?_
  refine lv_aload_n hx hb dX5_put_4 rfl (lv_at hl 0 rfl) ?_
  refine va_get (D := D) (ci := 5) (v := .int (nI ps)) (C := RX5) (T := TX5) (N := 21) hx hb hts iX5 hown hK hP 0 rfl rfl 19 (by decide) f_135 (fun _ h9 => h9) rfl dX5_put_5 ?_
  refine lv_iload_n hx hb dX5_put_8 rfl (lv_at hl 1 rfl) ?_
  refine lv_sipush (v := nI 255) hx hb dX5_put_9 (by decide) ?_
  refine lv_iand hx hb dX5_put_12 ?_
  refine q_iast hx hb hK hP hD hS 1 0 rfl rfl (k := ps) (by omega) (by omega) dX5_put_13 (fun H locs hP hD hS => ?_)
  have hP : va_P D qCl [(m0, .inr (5, [.int th, .int (nI wd), .int (nI ht), .int (nI pn), .ref m1, .ref m2, .ref m3, .int (nI cn), .ref m4, .ref m5, .ref m6, .int fl, .int (nI bf), .int (nI bt), .int (nI xn), .ref m7, .ref m8, .ref m9, .int ip, .int (nI ps), .ref ma])), (ma, .inl (cI, 18432, .inl (upd gk ps (v &&& (nI 255)))))] H := hP
  have hD : va_D A [(m0, .inr (5, [.int th, .int (nI wd), .int (nI ht), .int (nI pn), .ref m1, .ref m2, .ref m3, .int (nI cn), .ref m4, .ref m5, .ref m6, .int fl, .int (nI bf), .int (nI bt), .int (nI xn), .ref m7, .ref m8, .ref m9, .int ip, .int (nI ps), .ref ma])), (ma, .inl (cI, 18432, .inl (upd gk ps (v &&& (nI 255)))))] := hD
  refine lv_aload_n hx hb dX5_put_14 rfl (lv_at hl 0 rfl) ?_
  refine lv_dup hx hb dX5_put_15 rfl ?_
  refine va_get (D := D) (ci := 5) (v := .int (nI ps)) (C := RX5) (T := TX5) (N := 21) hx hb hts iX5 hown hK hP 0 rfl rfl 19 (by decide) f_135 (fun _ h9 => h9) rfl dX5_put_16 ?_
  refine lv_iconst (v := nI 1) hx hb dX5_put_19 (by decide) ?_
  refine lv_iadd hx hb dX5_put_20 ?_
  refine q_eqi (nI_add _ _) ?_
  refine va_put (D := D) (ci := 5) (v := .int (nI (ps + 1))) (ty := .int) (C := RX5) (T := TX5) (N := 21) hx hb hts iX5 tyX5 tyX5_ok nmX5 hown hK hP hD hS 0 rfl rfl 19 (by decide) f_135 (fun _ h9 => h9) rfl (by decide +kernel) rfl rfl (Nat.le_of_ble_eq_true rfl) dX5_put_21 (fun H locs hP hD hS => ?_)
  have hP : va_P D qCl [(m0, .inr (5, [.int th, .int (nI wd), .int (nI ht), .int (nI pn), .ref m1, .ref m2, .ref m3, .int (nI cn), .ref m4, .ref m5, .ref m6, .int fl, .int (nI bf), .int (nI bt), .int (nI xn), .ref m7, .ref m8, .ref m9, .int ip, .int (nI (ps + 1)), .ref ma])), (ma, .inl (cI, 18432, .inl (upd gk ps (v &&& (nI 255)))))] H := hP
  have hD : va_D A [(m0, .inr (5, [.int th, .int (nI wd), .int (nI ht), .int (nI pn), .ref m1, .ref m2, .ref m3, .int (nI cn), .ref m4, .ref m5, .ref m6, .int fl, .int (nI bf), .int (nI bt), .int (nI xn), .ref m7, .ref m8, .ref m9, .int ip, .int (nI (ps + 1)), .ref ma])), (ma, .inl (cI, 18432, .inl (upd gk ps (v &&& (nI 255)))))] := hD
  exact hQ _ _ _ _ () _ _ dX5_put_24 (Nat.le_refl _) (Nat.le_refl _) trivial (hP.sub [0, 1] rfl) hK (hD.sub [0, 1] (by decide) rfl) hS

abbrev rm_X5_runAt : Room := { frames := 0, cells := 0, slots := 0, locals := 0 }
set_option maxHeartbeats 4000000 in
set_option maxRecDepth 100000 in
theorem c_X5_runAt (l : Launch) (D : va_G) (cI cZ cB cJ : ClassId) (sz : Nat) (m0 : Nat) (m1 : Nat) (m2 : Nat) (m3 : Nat) (m4 : Nat) (m5 : Nat) (m6 : Nat) (m7 : Nat) (m8 : Nat) (m9 : Nat) (ma : Nat) (th : Int32) (wd : Nat) (ht : Nat) (pn : Nat) (cn : Nat) (fl : Int32) (bf : Nat) (bt : Nat) (xn : Nat) (ip : Int32) (ps : Nat) (gB : Nat → Int32) (i9 : Nat) (lf : Nat) (hi : i9 + lf ≤ 9216) (h1 : 1 ≤ lf) (h64 : lf ≤ 64) : Met l yX5_runAt wsX5_runAt rm_X5_runAt (va_Pc [.ref m0, .int (nI i9), .int (nI lf)] (PC D (qT cI cZ cB cJ) [(m0, .inr (5, [.int th, .int (nI wd), .int (nI ht), .int (nI pn), .ref m1, .ref m2, .ref m3, .int (nI cn), .ref m4, .ref m5, .ref m6, .int fl, .int (nI bf), .int (nI bt), .int (nI xn), .ref m7, .ref m8, .ref m9, .int ip, .int (nI ps), .ref ma])), (m1, .inl (cI, 9216, .inl gB))] sz)) (va_Qi (fun (r : Int32) (u : Nat) => r = nI u ∧ (1 ≤ u ∧ u ≤ lf ∧ (∀ j, j < u → gB (i9 + j) = gB i9) ∧ (u < lf → gB (i9 + u) ≠ gB i9))) (fun (u : Nat) => PO D (qT cI cZ cB cJ) (va_A [(m0, .inr (5, [.int th, .int (nI wd), .int (nI ht), .int (nI pn), .ref m1, .ref m2, .ref m3, .int (nI cn), .ref m4, .ref m5, .ref m6, .int fl, .int (nI bf), .int (nI bt), .int (nI xn), .ref m7, .ref m8, .ref m9, .int ip, .int (nI ps), .ref ma])), (m1, .inl (cI, 9216, .inl gB))] sz) [(m0, .inr (5, [.int th, .int (nI wd), .int (nI ht), .int (nI pn), .ref m1, .ref m2, .ref m3, .int (nI cn), .ref m4, .ref m5, .ref m6, .int fl, .int (nI bf), .int (nI bt), .int (nI xn), .ref m7, .ref m8, .ref m9, .int ip, .int (nI ps), .ref ma])), (m1, .inl (cI, 9216, .inl gB))]) (va_A [(m0, .inr (5, [.int th, .int (nI wd), .int (nI ht), .int (nI pn), .ref m1, .ref m2, .ref m3, .int (nI cn), .ref m4, .ref m5, .ref m6, .int fl, .int (nI bf), .int (nI bt), .int (nI xn), .ref m7, .ref m8, .ref m9, .int ip, .int (nI ps), .ref ma])), (m1, .inl (cI, 9216, .inl gB))] sz)) 0 0 (va_A [(m0, .inr (5, [.int th, .int (nI wd), .int (nI ht), .int (nI pn), .ref m1, .ref m2, .ref m3, .int (nI cn), .ref m4, .ref m5, .ref m6, .int fl, .int (nI bf), .int (nI bt), .int (nI xn), .ref m7, .ref m8, .ref m9, .int ip, .int (nI ps), .ref ma])), (m1, .inl (cI, 9216, .inl gB))] sz) := by
  refine q_entI (cc := cX5_runAt) (maxL := 4) (by decide +kernel) rfl (Nat.le_of_ble_eq_true rfl) ?_
  intro p e s m below meth c A Q ls hq hl hQ
  obtain ⟨hx, hb, hml, hts, hown, hin, hN, hK, hsz, hA, hP, hD, hS⟩ := hq
  have hown : s.vm.findClass RX5 = some m.cls := hown
  obtain ⟨H, hH⟩ : ∃ H, H = s.heap := ⟨_, rfl⟩
  rw [← hH] at hP ⊢
  have hS : va_S A s.heap H [] := by rw [hH]; exact va_S.rf
  clear hH
  have hl : lv_has ls 4 [(0, .ref m0), (1, .int (nI i9)), (2, .int (nI lf))] := hl
  have iX5 : ∀ w ∈ wsX50, w ∈ wsX5_runAt := by decide +kernel
  have f_7 := hts (.fieldLink RX5 7 "RasterCoverModel" "bytes" "[I") (by decide +kernel)
  refine lv_iconst (v := nI 1) hx hb dX5_runAt_0 (by decide) ?_
  refine lv_istore_n (lv' := [(3, .int (nI 1)), (0, .ref m0), (1, .int (nI i9)), (2, .int (nI lf))]) hx hb dX5_runAt_1 rfl hl (by decide) rfl (fun ls hl => ?_)
  have L_2 : ∀ (fuel : Nat) (n : Nat), lf - n < fuel → (1 ≤ n) → (n ≤ lf) → (∀ j, j < n → gB (i9 + j) = gB i9) → ∀ (H : Heap) (locs : List Loc) (ls : Array Slot), va_P D qCl [(m0, .inr (5, [.int th, .int (nI wd), .int (nI ht), .int (nI pn), .ref m1, .ref m2, .ref m3, .int (nI cn), .ref m4, .ref m5, .ref m6, .int fl, .int (nI bf), .int (nI bt), .int (nI xn), .ref m7, .ref m8, .ref m9, .int ip, .int (nI ps), .ref ma])), (m1, .inl (cI, 9216, .inl gB))] H → va_D A [(m0, .inr (5, [.int th, .int (nI wd), .int (nI ht), .int (nI pn), .ref m1, .ref m2, .ref m3, .int (nI cn), .ref m4, .ref m5, .ref m6, .int fl, .int (nI bf), .int (nI bt), .int (nI xn), .ref m7, .ref m8, .ref m9, .int ip, .int (nI ps), .ref ma])), (m1, .inl (cI, 9216, .inl gB))] → va_S A s.heap H locs → lv_has ls 4 [(3, .int (nI n)), (0, .ref m0), (1, .int (nI i9)), (2, .int (nI lf))] → W p l e rm_X5_runAt s m ([.ref m0, .int (nI i9), .int (nI lf)] : List Value).toArray below meth c H locs 0 0 Q (F0 m 2 ls []) := by
    intro fuel
    induction fuel with
    | zero =>
      intro n hm
      exact absurd hm (Nat.not_lt_zero _)
    | succ fuel ih_2 =>
      intro n hm_2 hn1 hn2 hn3 H locs ls hP hD hS hl
      refine lv_iload_n hx hb dX5_runAt_2 rfl (lv_at hl 0 rfl) ?_
      refine lv_iload_n hx hb dX5_runAt_3 rfl (lv_at hl 3 rfl) ?_
      refine q_ge (tgt := 36) hx hb (by omega) (by omega) dX5_runAt_4 (by decide) (fun h_4 => ?_) (fun h_4 => ?_)
      · refine lv_iload_n hx hb dX5_runAt_36 rfl (lv_at hl 0 rfl) ?_
        have hr9 : (nI n) = nI n ∧ (1 ≤ n ∧ n ≤ lf ∧ (∀ j, j < n → gB (i9 + j) = gB i9) ∧ (n < lf → gB (i9 + n) ≠ gB i9)) := ⟨rfl, hn1, hn2, hn3, fun w => by first | omega | exact h_27⟩
        exact hQ _ _ _ _ (nI n) n _ _ dX5_runAt_37 (Nat.le_refl _) (Nat.le_refl _) hr9 (hP.sub [0, 1] rfl) hK (hD.sub [0, 1] (by decide) rfl) hS
      refine lv_iload_n hx hb dX5_runAt_7 rfl (lv_at hl 0 rfl) ?_
      refine lv_bipush (v := nI 64) hx hb dX5_runAt_8 (by decide) ?_
      refine q_ge (tgt := 36) hx hb (by omega) (by omega) dX5_runAt_10 (by decide) (fun h_10 => by omega) (fun h_10 => ?_)
      refine lv_aload_n hx hb dX5_runAt_13 rfl (lv_at hl 1 rfl) ?_
      refine va_get (D := D) (ci := 5) (v := .ref m1) (C := RX5) (T := TX5) (N := 21) hx hb hts iX5 hown hK hP 0 rfl rfl 4 (by decide) f_7 (fun _ h9 => h9) rfl dX5_runAt_14 ?_
      refine lv_iload_n hx hb dX5_runAt_17 rfl (lv_at hl 2 rfl) ?_
      refine lv_iload_n hx hb dX5_runAt_18 rfl (lv_at hl 0 rfl) ?_
      refine lv_iadd hx hb dX5_runAt_19 ?_
      refine q_eqi (nI_add _ _) ?_
      refine q_iald hx hb hK hP 1 0 rfl rfl (k := (i9 + n)) (by omega) (by omega) dX5_runAt_20 ?_
      refine lv_aload_n hx hb dX5_runAt_21 rfl (lv_at hl 1 rfl) ?_
      refine va_get (D := D) (ci := 5) (v := .ref m1) (C := RX5) (T := TX5) (N := 21) hx hb hts iX5 hown hK hP 0 rfl rfl 4 (by decide) f_7 (fun _ h9 => h9) rfl dX5_runAt_22 ?_
      refine lv_iload_n hx hb dX5_runAt_25 rfl (lv_at hl 2 rfl) ?_
      refine q_iald hx hb hK hP 1 0 rfl rfl (k := i9) (by omega) (by omega) dX5_runAt_26 ?_
      refine lv_icmp_ne (tgt := 36) hx hb dX5_runAt_27 (by decide) (fun h_27 => ?_) (fun h_27 => ?_)
      · refine lv_iload_n hx hb dX5_runAt_36 rfl (lv_at hl 0 rfl) ?_
        have hr9 : (nI n) = nI n ∧ (1 ≤ n ∧ n ≤ lf ∧ (∀ j, j < n → gB (i9 + j) = gB i9) ∧ (n < lf → gB (i9 + n) ≠ gB i9)) := ⟨rfl, hn1, hn2, hn3, fun w => by first | omega | exact h_27⟩
        exact hQ _ _ _ _ (nI n) n _ _ dX5_runAt_37 (Nat.le_refl _) (Nat.le_refl _) hr9 (hP.sub [0, 1] rfl) hK (hD.sub [0, 1] (by decide) rfl) hS
      refine lv_iinc (v := nI (n + 1)) (lv' := [(3, .int (nI (n + 1))), (0, .ref m0), (1, .int (nI i9)), (2, .int (nI lf))]) hx hb dX5_runAt_30 hl (k := 0) rfl (q_inc _) (by decide) rfl (fun ls hl => ?_)
      refine lv_goto (tgt := 2) hx hb dX5_runAt_33 (by decide) ?_
      exact ih_2 (n + 1) (by omega) (by omega) (by omega) (fun j hj => by by_cases c9 : j = n; (· rw [c9]; exact h_27); (· exact hn3 j (by omega))) _ _ _ (hP.sub [0, 1] rfl) (hD.sub [0, 1] (by decide) rfl) hS (lv_sub hl [0, 1, 2, 3] rfl)
  exact L_2 _ 1 (Nat.lt_succ_self _) (Nat.le_refl _) h1 (fun j hj => by rw [show j = 0 by omega, Nat.add_zero]) _ _ _ (hP.sub [0, 1] rfl) (hD.sub [0, 1] (by decide) rfl) hS (lv_sub hl [0, 1, 2, 3] rfl)

abbrev rm_X5_packAll : Room := { frames := 1, cells := 0, slots := 0, locals := 23 }
set_option maxHeartbeats 4000000 in
set_option maxRecDepth 100000 in
/-- the reference: packAll -/
theorem c_X5_packAll (l : Launch) (D : va_G) (cI cZ cB cJ : ClassId) (sz : Nat) (m0 : Nat) (m1 : Nat) (m2 : Nat) (m3 : Nat) (m4 : Nat) (m5 : Nat) (m6 : Nat) (m7 : Nat) (m8 : Nat) (m9 : Nat) (ma : Nat) (th : Int32) (wd : Nat) (ht : Nat) (pn : Nat) (cn : Nat) (fl : Int32) (bf : Nat) (bt : Nat) (xn : Nat) (ip : Int32) (ps : Nat) (gB : Nat → Int32) (gk : Nat → Int32) (hpn : pn ≤ 4) (hht : ht ≤ 48) (hwd : wd ≤ 48) : Met l yX5_packAll wsX5_packAll rm_X5_packAll (va_Pc [.ref m0] (PC D (qT cI cZ cB cJ) [(m0, .inr (5, [.int th, .int (nI wd), .int (nI ht), .int (nI pn), .ref m1, .ref m2, .ref m3, .int (nI cn), .ref m4, .ref m5, .ref m6, .int fl, .int (nI bf), .int (nI bt), .int (nI xn), .ref m7, .ref m8, .ref m9, .int ip, .int (nI ps), .ref ma])), (m1, .inl (cI, 9216, .inl gB)), (ma, .inl (cI, 18432, .inl gk))] sz)) (va_Qv (fun (u : (Nat → Int32) × Nat) => MPk gB wd ht u.1 u.2 (pn * ht) ∧ u.2 ≤ 18432) (fun (u : (Nat → Int32) × Nat) => PO D (qT cI cZ cB cJ) (va_A [(m0, .inr (5, [.int th, .int (nI wd), .int (nI ht), .int (nI pn), .ref m1, .ref m2, .ref m3, .int (nI cn), .ref m4, .ref m5, .ref m6, .int fl, .int (nI bf), .int (nI bt), .int (nI xn), .ref m7, .ref m8, .ref m9, .int ip, .int (nI ps), .ref ma])), (m1, .inl (cI, 9216, .inl gB)), (ma, .inl (cI, 18432, .inl gk))] sz) [(m0, .inr (5, [.int th, .int (nI wd), .int (nI ht), .int (nI pn), .ref m1, .ref m2, .ref m3, .int (nI cn), .ref m4, .ref m5, .ref m6, .int fl, .int (nI bf), .int (nI bt), .int (nI xn), .ref m7, .ref m8, .ref m9, .int (nI 1), .int (nI u.2), .ref ma])), (m1, .inl (cI, 9216, .inl gB)), (ma, .inl (cI, 18432, .inl u.1))]) (va_A [(m0, .inr (5, [.int th, .int (nI wd), .int (nI ht), .int (nI pn), .ref m1, .ref m2, .ref m3, .int (nI cn), .ref m4, .ref m5, .ref m6, .int fl, .int (nI bf), .int (nI bt), .int (nI xn), .ref m7, .ref m8, .ref m9, .int ip, .int (nI ps), .ref ma])), (m1, .inl (cI, 9216, .inl gB)), (ma, .inl (cI, 18432, .inl gk))] sz)) 0 0 (va_A [(m0, .inr (5, [.int th, .int (nI wd), .int (nI ht), .int (nI pn), .ref m1, .ref m2, .ref m3, .int (nI cn), .ref m4, .ref m5, .ref m6, .int fl, .int (nI bf), .int (nI bt), .int (nI xn), .ref m7, .ref m8, .ref m9, .int ip, .int (nI ps), .ref ma])), (m1, .inl (cI, 9216, .inl gB)), (ma, .inl (cI, 18432, .inl gk))] sz) := by
  refine q_entV (cc := cX5_packAll) (maxL := 7) (by decide +kernel) rfl (Nat.le_of_ble_eq_true rfl) ?_
  intro p e s m below meth c A Q ls hq hl hQ
  obtain ⟨hx, hb, hml, hts, hown, hin, hN, hK, hsz, hA, hP, hD, hS⟩ := hq
  have hown : s.vm.findClass RX5 = some m.cls := hown
  obtain ⟨H, hH⟩ : ∃ H, H = s.heap := ⟨_, rfl⟩
  rw [← hH] at hP ⊢
  have hS : va_S A s.heap H [] := by rw [hH]; exact va_S.rf
  clear hH
  have hl : lv_has ls 7 [(0, .ref m0)] := hl
  have iX5 : ∀ w ∈ wsX50, w ∈ wsX5_packAll := by decide +kernel
  have f_135 := hts (.fieldLink RX5 135 "RasterCoverModel" "size" "I") (by decide +kernel)
  have f_49 := hts (.fieldLink RX5 49 "RasterCoverModel" "planes" "I") (by decide +kernel)
  have f_127 := hts (.fieldLink RX5 127 "RasterCoverModel" "isPacked" "Z") (by decide +kernel)
  have f_46 := hts (.fieldLink RX5 46 "RasterCoverModel" "high" "I") (by decide +kernel)
  have f_42 := hts (.fieldLink RX5 42 "RasterCoverModel" "wide" "I") (by decide +kernel)
  have f_7 := hts (.fieldLink RX5 7 "RasterCoverModel" "bytes" "[I") (by decide +kernel)
  refine lv_aload_n hx hb dX5_packAll_0 rfl (lv_at hl 0 rfl) ?_
  refine lv_iconst (v := nI 0) hx hb dX5_packAll_1 (by decide) ?_
  refine va_put (D := D) (ci := 5) (v := .int (nI 0)) (ty := .int) (C := RX5) (T := TX5) (N := 21) hx hb hts iX5 tyX5 tyX5_ok nmX5 hown hK hP hD hS 0 rfl rfl 19 (by decide) f_135 (fun _ h9 => h9) rfl (by decide +kernel) rfl rfl (Nat.le_of_ble_eq_true rfl) dX5_packAll_2 (fun H locs hP hD hS => ?_)
  have hP : va_P D qCl [(m0, .inr (5, [.int th, .int (nI wd), .int (nI ht), .int (nI pn), .ref m1, .ref m2, .ref m3, .int (nI cn), .ref m4, .ref m5, .ref m6, .int fl, .int (nI bf), .int (nI bt), .int (nI xn), .ref m7, .ref m8, .ref m9, .int ip, .int (nI 0), .ref ma])), (m1, .inl (cI, 9216, .inl gB)), (ma, .inl (cI, 18432, .inl gk))] H := hP
  have hD : va_D A [(m0, .inr (5, [.int th, .int (nI wd), .int (nI ht), .int (nI pn), .ref m1, .ref m2, .ref m3, .int (nI cn), .ref m4, .ref m5, .ref m6, .int fl, .int (nI bf), .int (nI bt), .int (nI xn), .ref m7, .ref m8, .ref m9, .int ip, .int (nI 0), .ref ma])), (m1, .inl (cI, 9216, .inl gB)), (ma, .inl (cI, 18432, .inl gk))] := hD
  refine lv_iconst (v := nI 0) hx hb dX5_packAll_5 (by decide) ?_
  refine lv_istore_n (lv' := [(1, .int (nI 0)), (0, .ref m0)]) hx hb dX5_packAll_6 rfl hl (by decide) rfl (fun ls hl => ?_)
  have L_7 : ∀ (fuel : Nat) (p9 : Nat) (ps1 : Nat) (g1 : Nat → Int32), pn - p9 < fuel → (p9 ≤ pn) → (MPk gB wd ht g1 ps1 (p9 * ht)) → (ps1 ≤ 96 * (48 * p9)) → ∀ (H : Heap) (locs : List Loc) (ls : Array Slot), va_P D qCl [(m0, .inr (5, [.int th, .int (nI wd), .int (nI ht), .int (nI pn), .ref m1, .ref m2, .ref m3, .int (nI cn), .ref m4, .ref m5, .ref m6, .int fl, .int (nI bf), .int (nI bt), .int (nI xn), .ref m7, .ref m8, .ref m9, .int ip, .int (nI ps1), .ref ma])), (m1, .inl (cI, 9216, .inl gB)), (ma, .inl (cI, 18432, .inl g1))] H → va_D A [(m0, .inr (5, [.int th, .int (nI wd), .int (nI ht), .int (nI pn), .ref m1, .ref m2, .ref m3, .int (nI cn), .ref m4, .ref m5, .ref m6, .int fl, .int (nI bf), .int (nI bt), .int (nI xn), .ref m7, .ref m8, .ref m9, .int ip, .int (nI ps1), .ref ma])), (m1, .inl (cI, 9216, .inl gB)), (ma, .inl (cI, 18432, .inl g1))] → va_S A s.heap H locs → lv_has ls 7 [(1, .int (nI p9)), (0, .ref m0)] → W p l e rm_X5_packAll s m ([.ref m0] : List Value).toArray below meth c H locs 0 0 Q (F0 m 7 ls []) := by
    intro fuel
    induction fuel with
    | zero =>
      intro p9 ps1 g1 hm
      exact absurd hm (Nat.not_lt_zero _)
    | succ fuel ih_7 =>
      intro p9 ps1 g1 hm_7 hp9 hM1 hb1 H locs ls hP hD hS hl
      refine lv_iload_n hx hb dX5_packAll_7 rfl (lv_at hl 0 rfl) ?_
      refine lv_aload_n hx hb dX5_packAll_8 rfl (lv_at hl 1 rfl) ?_
      refine va_get (D := D) (ci := 5) (v := .int (nI pn)) (C := RX5) (T := TX5) (N := 21) hx hb hts iX5 hown hK hP 0 rfl rfl 3 (by decide) f_49 (fun _ h9 => h9) rfl dX5_packAll_9 ?_
      refine q_ge (tgt := 195) hx hb (by omega) (by omega) dX5_packAll_12 (by decide) (fun h_12 => ?_) (fun h_12 => ?_)
      · refine lv_aload_n hx hb dX5_packAll_195 rfl (lv_at hl 1 rfl) ?_
        refine lv_iconst (v := nI 1) hx hb dX5_packAll_196 (by decide) ?_
        refine va_put (D := D) (ci := 5) (v := .int (nI 1)) (ty := .boolean) (C := RX5) (T := TX5) (N := 21) hx hb hts iX5 tyX5 tyX5_ok nmX5 hown hK hP hD hS 0 rfl rfl 18 (by decide) f_127 (fun _ h9 => h9) rfl (by decide +kernel) (by decide) rfl (Nat.le_of_ble_eq_true rfl) dX5_packAll_197 (fun H locs hP hD hS => ?_)
        have hP : va_P D qCl [(m0, .inr (5, [.int th, .int (nI wd), .int (nI ht), .int (nI pn), .ref m1, .ref m2, .ref m3, .int (nI cn), .ref m4, .ref m5, .ref m6, .int fl, .int (nI bf), .int (nI bt), .int (nI xn), .ref m7, .ref m8, .ref m9, .int (nI 1), .int (nI ps1), .ref ma])), (m1, .inl (cI, 9216, .inl gB)), (ma, .inl (cI, 18432, .inl g1))] H := hP
        have hD : va_D A [(m0, .inr (5, [.int th, .int (nI wd), .int (nI ht), .int (nI pn), .ref m1, .ref m2, .ref m3, .int (nI cn), .ref m4, .ref m5, .ref m6, .int fl, .int (nI bf), .int (nI bt), .int (nI xn), .ref m7, .ref m8, .ref m9, .int (nI 1), .int (nI ps1), .ref ma])), (m1, .inl (cI, 9216, .inl gB)), (ma, .inl (cI, 18432, .inl g1))] := hD
        have e9 : p9 = pn := by omega
        rw [e9] at hM1 hb1
        have hr9 : MPk gB wd ht g1 ps1 (pn * ht) ∧ ps1 ≤ 18432 := ⟨hM1, by omega⟩
        exact hQ _ _ _ _ (g1, ps1) _ _ dX5_packAll_200 (Nat.le_refl _) (Nat.le_refl _) hr9 (hP.sub [0, 1, 2] rfl) hK (hD.sub [0, 1, 2] (by decide) rfl) hS
      refine lv_iconst (v := nI 0) hx hb dX5_packAll_15 (by decide) ?_
      refine lv_istore_n (lv' := [(2, .int (nI 0)), (1, .int (nI p9)), (0, .ref m0)]) hx hb dX5_packAll_16 rfl hl (by decide) rfl (fun ls hl => ?_)
      have L_17 : ∀ (fuel : Nat) (y9 : Nat) (ps2 : Nat) (g2 : Nat → Int32), ht - y9 < fuel → (y9 ≤ ht) → (MPk gB wd ht g2 ps2 (p9 * ht + y9)) → (ps2 ≤ 96 * (48 * p9 + y9)) → ∀ (H : Heap) (locs : List Loc) (ls : Array Slot), va_P D qCl [(m0, .inr (5, [.int th, .int (nI wd), .int (nI ht), .int (nI pn), .ref m1, .ref m2, .ref m3, .int (nI cn), .ref m4, .ref m5, .ref m6, .int fl, .int (nI bf), .int (nI bt), .int (nI xn), .ref m7, .ref m8, .ref m9, .int ip, .int (nI ps2), .ref ma])), (m1, .inl (cI, 9216, .inl gB)), (ma, .inl (cI, 18432, .inl g2))] H → va_D A [(m0, .inr (5, [.int th, .int (nI wd), .int (nI ht), .int (nI pn), .ref m1, .ref m2, .ref m3, .int (nI cn), .ref m4, .ref m5, .ref m6, .int fl, .int (nI bf), .int (nI bt), .int (nI xn), .ref m7, .ref m8, .ref m9, .int ip, .int (nI ps2), .ref ma])), (m1, .inl (cI, 9216, .inl gB)), (ma, .inl (cI, 18432, .inl g2))] → va_S A s.heap H locs → lv_has ls 7 [(2, .int (nI y9)), (1, .int (nI p9)), (0, .ref m0)] → W p l e rm_X5_packAll s m ([.ref m0] : List Value).toArray below meth c H locs 0 0 Q (F0 m 17 ls []) := by
        intro fuel
        induction fuel with
        | zero =>
          intro y9 ps2 g2 hm
          exact absurd hm (Nat.not_lt_zero _)
        | succ fuel ih_17 =>
          intro y9 ps2 g2 hm_17 hy9 hM2 hb2 H locs ls hP hD hS hl
          refine lv_iload_n hx hb dX5_packAll_17 rfl (lv_at hl 0 rfl) ?_
          refine lv_aload_n hx hb dX5_packAll_18 rfl (lv_at hl 2 rfl) ?_
          refine va_get (D := D) (ci := 5) (v := .int (nI ht)) (C := RX5) (T := TX5) (N := 21) hx hb hts iX5 hown hK hP 0 rfl rfl 2 (by decide) f_46 (fun _ h9 => h9) rfl dX5_packAll_19 ?_
          refine q_ge (tgt := 189) hx hb (by omega) (by omega) dX5_packAll_22 (by decide) (fun h_22 => ?_) (fun h_22 => ?_)
          · refine lv_iinc (v := nI (p9 + 1)) (lv' := [(1, .int (nI (p9 + 1))), (2, .int (nI y9)), (0, .ref m0)]) hx hb dX5_packAll_189 hl (k := 1) rfl (q_inc _) (by decide) rfl (fun ls hl => ?_)
            refine lv_goto (tgt := 7) hx hb dX5_packAll_192 (by decide) ?_
            exact ih_7 (p9 + 1) ps2 g2 (by omega) (by omega) (by rw [Nat.add_mul, Nat.one_mul, show p9 * ht + ht = p9 * ht + y9 by omega]; exact hM2) (by omega) _ _ _ (hP.sub [0, 1, 2] rfl) (hD.sub [0, 1, 2] (by decide) rfl) hS (lv_sub hl [0, 2] rfl)
          refine lv_iconst (v := nI 0) hx hb dX5_packAll_25 (by decide) ?_
          refine lv_istore_n (lv' := [(3, .int (nI 0)), (2, .int (nI y9)), (1, .int (nI p9)), (0, .ref m0)]) hx hb dX5_packAll_26 rfl hl (by decide) rfl (fun ls hl => ?_)
          have L_27 : ∀ (fuel : Nat) (x : Nat) (ps3 : Nat) (g3 : Nat → Int32), wd - x < fuel → (x ≤ wd) → (RI gB (2304 * p9 + 48 * y9) wd ps2 x g3 ps3) → (∀ j, j < ps2 → g3 j = g2 j) → ∀ (H : Heap) (locs : List Loc) (ls : Array Slot), va_P D qCl [(m0, .inr (5, [.int th, .int (nI wd), .int (nI ht), .int (nI pn), .ref m1, .ref m2, .ref m3, .int (nI cn), .ref m4, .ref m5, .ref m6, .int fl, .int (nI bf), .int (nI bt), .int (nI xn), .ref m7, .ref m8, .ref m9, .int ip, .int (nI ps3), .ref ma])), (m1, .inl (cI, 9216, .inl gB)), (ma, .inl (cI, 18432, .inl g3))] H → va_D A [(m0, .inr (5, [.int th, .int (nI wd), .int (nI ht), .int (nI pn), .ref m1, .ref m2, .ref m3, .int (nI cn), .ref m4, .ref m5, .ref m6, .int fl, .int (nI bf), .int (nI bt), .int (nI xn), .ref m7, .ref m8, .ref m9, .int ip, .int (nI ps3), .ref ma])), (m1, .inl (cI, 9216, .inl gB)), (ma, .inl (cI, 18432, .inl g3))] → va_S A s.heap H locs → lv_has ls 7 [(3, .int (nI x)), (2, .int (nI y9)), (1, .int (nI p9)), (0, .ref m0)] → W p l e rm_X5_packAll s m ([.ref m0] : List Value).toArray below meth c H locs 0 0 Q (F0 m 27 ls []) := by
            intro fuel
            induction fuel with
            | zero =>
              intro x ps3 g3 hm
              exact absurd hm (Nat.not_lt_zero _)
            | succ fuel ih_27 =>
              intro x ps3 g3 hm_27 hx9 hR3 hk3 H locs ls hP hD hS hl
              refine lv_iload_n hx hb dX5_packAll_27 rfl (lv_at hl 0 rfl) ?_
              refine lv_aload_n hx hb dX5_packAll_28 rfl (lv_at hl 3 rfl) ?_
              refine va_get (D := D) (ci := 5) (v := .int (nI wd)) (C := RX5) (T := TX5) (N := 21) hx hb hts iX5 hown hK hP 0 rfl rfl 1 (by decide) f_42 (fun _ h9 => h9) rfl dX5_packAll_29 ?_
              refine q_ge (tgt := 183) hx hb (by omega) (by omega) dX5_packAll_32 (by decide) (fun h_32 => ?_) (fun h_32 => ?_)
              · refine lv_iinc (v := nI (y9 + 1)) (lv' := [(2, .int (nI (y9 + 1))), (3, .int (nI x)), (1, .int (nI p9)), (0, .ref m0)]) hx hb dX5_packAll_183 hl (k := 1) rfl (q_inc _) (by decide) rfl (fun ls hl => ?_)
                refine lv_goto (tgt := 17) hx hb dX5_packAll_186 (by decide) ?_
                exact ih_17 (y9 + 1) ps3 g3 (by omega) (by omega) (MPk_row hM2 (by omega) hk3 ((show x = wd by omega) ▸ hR3)) (by have := RI_le hR3; omega) _ _ _ (hP.sub [0, 1, 2] rfl) (hD.sub [0, 1, 2] (by decide) rfl) hS (lv_sub hl [0, 2, 3] rfl)
              have J_175 : ∀ (n : Nat) (ps5 : Nat) (g5 : Nat → Int32), (1 ≤ n) → (x + n ≤ wd) → (RI gB (2304 * p9 + 48 * y9) wd ps2 (x + n) g5 ps5) → (∀ j, j < ps2 → g5 j = g2 j) → ∀ (H : Heap) (locs : List Loc) (ls : Array Slot), va_P D qCl [(m0, .inr (5, [.int th, .int (nI wd), .int (nI ht), .int (nI pn), .ref m1, .ref m2, .ref m3, .int (nI cn), .ref m4, .ref m5, .ref m6, .int fl, .int (nI bf), .int (nI bt), .int (nI xn), .ref m7, .ref m8, .ref m9, .int ip, .int (nI ps5), .ref ma])), (m1, .inl (cI, 9216, .inl gB)), (ma, .inl (cI, 18432, .inl g5))] H → va_D A [(m0, .inr (5, [.int th, .int (nI wd), .int (nI ht), .int (nI pn), .ref m1, .ref m2, .ref m3, .int (nI cn), .ref m4, .ref m5, .ref m6, .int fl, .int (nI bf), .int (nI bt), .int (nI xn), .ref m7, .ref m8, .ref m9, .int ip, .int (nI ps5), .ref ma])), (m1, .inl (cI, 9216, .inl gB)), (ma, .inl (cI, 18432, .inl g5))] → va_S A s.heap H locs → lv_has ls 7 [(3, .int (nI x)), (2, .int (nI y9)), (1, .int (nI p9)), (0, .ref m0), (5, .int (nI n))] → W p l e rm_X5_packAll s m ([.ref m0] : List Value).toArray below meth c H locs 0 0 Q (F0 m 175 ls []) := by
                intro n ps5 g5 hn1 hn2 hR5 hk5 H locs ls hP hD hS hl
                refine lv_iload_n hx hb dX5_packAll_175 rfl (lv_at hl 0 rfl) ?_
                refine lv_iload hx hb dX5_packAll_176 (lv_at hl 4 rfl) ?_
                refine lv_iadd hx hb dX5_packAll_178 ?_
                refine q_eqi (nI_add _ _) ?_
                refine lv_istore_n (lv' := [(3, .int (nI (x + n))), (2, .int (nI y9)), (1, .int (nI p9)), (0, .ref m0), (5, .int (nI n))]) hx hb dX5_packAll_179 rfl hl (by decide) rfl (fun ls hl => ?_)
                refine lv_goto (tgt := 27) hx hb dX5_packAll_180 (by decide) ?_
                exact ih_27 (x + n) ps5 g5 (by omega) hn2 hR5 hk5 _ _ _ (hP.sub [0, 1, 2] rfl) (hD.sub [0, 1, 2] (by decide) rfl) hS (lv_sub hl [0, 1, 2, 3] rfl)
              refine lv_sipush (v := nI 2304) hx hb dX5_packAll_35 (by decide) ?_
              refine lv_iload_n hx hb dX5_packAll_38 rfl (lv_at hl 2 rfl) ?_
              refine lv_imul hx hb dX5_packAll_39 ?_
              refine q_eqi (pk_mul _ _) ?_
              refine lv_bipush (v := nI 48) hx hb dX5_packAll_40 (by decide) ?_
              refine lv_iload_n hx hb dX5_packAll_42 rfl (lv_at hl 1 rfl) ?_
              refine lv_imul hx hb dX5_packAll_43 ?_
              refine q_eqi (pk_mul _ _) ?_
              refine lv_iadd hx hb dX5_packAll_44 ?_
              refine q_eqi (nI_add _ _) ?_
              refine lv_iload_n hx hb dX5_packAll_45 rfl (lv_at hl 0 rfl) ?_
              refine lv_iadd hx hb dX5_packAll_46 ?_
              refine q_eqi (nI_add _ _) ?_
              refine lv_istore (lv' := [(4, .int (nI (((2304 * p9) + (48 * y9)) + x))), (3, .int (nI x)), (2, .int (nI y9)), (1, .int (nI p9)), (0, .ref m0)]) hx hb dX5_packAll_47 hl (by decide) rfl (fun ls hl => ?_)
              refine lv_aload_n hx hb dX5_packAll_49 rfl (lv_at hl 4 rfl) ?_
              refine lv_iload hx hb dX5_packAll_50 (lv_at hl 0 rfl) ?_
              refine lv_aload_n hx hb dX5_packAll_52 rfl (lv_at hl 4 rfl) ?_
              refine va_get (D := D) (ci := 5) (v := .int (nI wd)) (C := RX5) (T := TX5) (N := 21) hx hb hts iX5 hown hK hP 0 rfl rfl 1 (by decide) f_42 (fun _ h9 => h9) rfl dX5_packAll_53 ?_
              refine lv_iload_n hx hb dX5_packAll_56 rfl (lv_at hl 1 rfl) ?_
              refine lv_isub hx hb dX5_packAll_57 ?_
              refine q_eqi (y := nI (wd - x)) (pk_sub (by omega)) ?_
              refine q_i0 (wr := [(ma, .inl (cI, 18432, .inl g3))]) (va_runV (As := [.int (nI (((2304 * p9) + (48 * y9)) + x)), .int (nI (wd - x))]) (rest := []) ⟨hx, hb, hml, hown, hts⟩ (c_X5_runAt l D cI cZ cB cJ H.size m0 m1 m2 m3 m4 m5 m6 m7 m8 m9 ma th wd ht pn cn fl bf bt xn ip ps3 gB (((2304 * p9) + (48 * y9)) + x) (wd - x) (by omega) (by omega) (by omega)) (cwV 2 hts gX5_packAll_X5_runAt rfl rfl rfl (by decide +kernel) ⟨Nat.le_of_ble_eq_true rfl, Nat.le_of_ble_eq_true rfl⟩) (q_preV (q_pre (wc := [(m0, .inr (5, [.int th, .int (nI wd), .int (nI ht), .int (nI pn), .ref m1, .ref m2, .ref m3, .int (nI cn), .ref m4, .ref m5, .ref m6, .int fl, .int (nI bf), .int (nI bt), .int (nI xn), .ref m7, .ref m8, .ref m9, .int ip, .int (nI ps3), .ref ma])), (m1, .inl (cI, 9216, .inl gB))]) hP hD hK hN [0, 1] (by decide) rfl) (va_recv hK hP (ci := 5) (q0 := 0) rfl rfl)) rfl rfl hl.1 rfl (lv_room (Nat.le_of_ble_eq_true rfl)) dX5_packAll_58 ⟨Nat.zero_le _, Nat.zero_le _⟩) hS hA hP hD [0, 1] [2] rfl rfl (by decide) (by decide) (fun r_58 n_58 H locs hp_58 hP hD hS => ?_)
              have hP : va_P D qCl [(ma, .inl (cI, 18432, .inl g3)), (m0, .inr (5, [.int th, .int (nI wd), .int (nI ht), .int (nI pn), .ref m1, .ref m2, .ref m3, .int (nI cn), .ref m4, .ref m5, .ref m6, .int fl, .int (nI bf), .int (nI bt), .int (nI xn), .ref m7, .ref m8, .ref m9, .int ip, .int (nI ps3), .ref ma])), (m1, .inl (cI, 9216, .inl gB))] H := hP
              have hD : va_D A [(ma, .inl (cI, 18432, .inl g3)), (m0, .inr (5, [.int th, .int (nI wd), .int (nI ht), .int (nI pn), .ref m1, .ref m2, .ref m3, .int (nI cn), .ref m4, .ref m5, .ref m6, .int fl, .int (nI bf), .int (nI bt), .int (nI xn), .ref m7, .ref m8, .ref m9, .int ip, .int (nI ps3), .ref ma])), (m1, .inl (cI, 9216, .inl gB))] := hD
              have hp_58 : r_58 = nI n_58 ∧ (1 ≤ n_58 ∧ n_58 ≤ (wd - x) ∧ (∀ j, j < n_58 → gB ((((2304 * p9) + (48 * y9)) + x) + j) = gB (((2304 * p9) + (48 * y9)) + x)) ∧ (n_58 < (wd - x) → gB ((((2304 * p9) + (48 * y9)) + x) + n_58) ≠ gB (((2304 * p9) + (48 * y9)) + x))) := hp_58
              obtain ⟨e_58, hq_58⟩ := hp_58
              subst e_58
              have hp_58 := hq_58
              refine lv_istore (lv' := [(5, .int (nI n_58)), (4, .int (nI (((2304 * p9) + (48 * y9)) + x))), (3, .int (nI x)), (2, .int (nI y9)), (1, .int (nI p9)), (0, .ref m0)]) hx hb dX5_packAll_61 hl (by decide) rfl (fun ls hl => ?_)
              refine lv_iload hx hb dX5_packAll_63 (lv_at hl 0 rfl) ?_
              have J_139 : ∀ (n : Nat), (1 ≤ n) → (x + n ≤ wd) → (∀ j, j < n → x + j + 1 < wd → gB ((2304 * p9 + 48 * y9) + x + j) ≠ gB ((2304 * p9 + 48 * y9) + x + j + 1)) → (x + n = wd ∨ (x + n + 1 < wd ∧ gB ((2304 * p9 + 48 * y9) + x + n) = gB ((2304 * p9 + 48 * y9) + x + n + 1))) → ∀ (H : Heap) (locs : List Loc) (ls : Array Slot), va_P D qCl [(ma, .inl (cI, 18432, .inl g3)), (m0, .inr (5, [.int th, .int (nI wd), .int (nI ht), .int (nI pn), .ref m1, .ref m2, .ref m3, .int (nI cn), .ref m4, .ref m5, .ref m6, .int fl, .int (nI bf), .int (nI bt), .int (nI xn), .ref m7, .ref m8, .ref m9, .int ip, .int (nI ps3), .ref ma])), (m1, .inl (cI, 9216, .inl gB))] H → va_D A [(ma, .inl (cI, 18432, .inl g3)), (m0, .inr (5, [.int th, .int (nI wd), .int (nI ht), .int (nI pn), .ref m1, .ref m2, .ref m3, .int (nI cn), .ref m4, .ref m5, .ref m6, .int fl, .int (nI bf), .int (nI bt), .int (nI xn), .ref m7, .ref m8, .ref m9, .int ip, .int (nI ps3), .ref ma])), (m1, .inl (cI, 9216, .inl gB))] → va_S A s.heap H locs → lv_has ls 7 [(5, .int (nI n)), (4, .int (nI (((2304 * p9) + (48 * y9)) + x))), (3, .int (nI x)), (2, .int (nI y9)), (1, .int (nI p9)), (0, .ref m0)] → W p l e rm_X5_packAll s m ([.ref m0] : List Value).toArray below meth c H locs 0 0 Q (F0 m 139 ls []) := by
                intro n hn1 hn2 hsg he9 H locs ls hP hD hS hl
                refine lv_aload_n hx hb dX5_packAll_139 rfl (lv_at hl 5 rfl) ?_
                refine lv_iload hx hb dX5_packAll_140 (lv_at hl 0 rfl) ?_
                refine q_v0 (wr := [(m1, .inl (cI, 9216, .inl gB))]) (va_runV (As := [.int (nI n)]) (rest := []) ⟨hx, hb, hml, hown, hts⟩ (c_X5_put l D cI cZ cB cJ H.size m0 m1 m2 m3 m4 m5 m6 m7 m8 m9 ma th wd ht pn cn fl bf bt xn ip ps3 g3 (nI n) (by have := RI_le hR3; omega)) (cwV 1 hts gX5_packAll_X5_put rfl rfl rfl (by decide +kernel) ⟨Nat.le_of_ble_eq_true rfl, Nat.le_of_ble_eq_true rfl⟩) (q_preV (q_pre (wc := [(m0, .inr (5, [.int th, .int (nI wd), .int (nI ht), .int (nI pn), .ref m1, .ref m2, .ref m3, .int (nI cn), .ref m4, .ref m5, .ref m6, .int fl, .int (nI bf), .int (nI bt), .int (nI xn), .ref m7, .ref m8, .ref m9, .int ip, .int (nI ps3), .ref ma])), (ma, .inl (cI, 18432, .inl g3))]) hP hD hK hN [1, 0] (by decide) rfl) (va_recv hK hP (ci := 5) (q0 := 1) rfl rfl)) rfl rfl hl.1 rfl (lv_room (Nat.le_of_ble_eq_true rfl)) dX5_packAll_142 ⟨Nat.zero_le _, Nat.zero_le _⟩) hS hA hP hD [1, 0] [2] rfl rfl (by decide) (by decide) (fun u H locs hp_142 hP hD hS => ?_)
                have hP : va_P D qCl [(m1, .inl (cI, 9216, .inl gB)), (m0, .inr (5, [.int th, .int (nI wd), .int (nI ht), .int (nI pn), .ref m1, .ref m2, .ref m3, .int (nI cn), .ref m4, .ref m5, .ref m6, .int fl, .int (nI bf), .int (nI bt), .int (nI xn), .ref m7, .ref m8, .ref m9, .int ip, .int (nI (ps3 + 1)), .ref ma])), (ma, .inl (cI, 18432, .inl (upd g3 ps3 ((nI n) &&& nI 255))))] H := hP
                have hD : va_D A [(m1, .inl (cI, 9216, .inl gB)), (m0, .inr (5, [.int th, .int (nI wd), .int (nI ht), .int (nI pn), .ref m1, .ref m2, .ref m3, .int (nI cn), .ref m4, .ref m5, .ref m6, .int fl, .int (nI bf), .int (nI bt), .int (nI xn), .ref m7, .ref m8, .ref m9, .int ip, .int (nI (ps3 + 1)), .ref ma])), (ma, .inl (cI, 18432, .inl (upd g3 ps3 ((nI n) &&& nI 255))))] := hD
                refine lv_iconst (v := nI 0) hx hb dX5_packAll_145 (by decide) ?_
                refine lv_istore (lv' := [(6, .int (nI 0)), (5, .int (nI n)), (4, .int (nI (((2304 * p9) + (48 * y9)) + x))), (3, .int (nI x)), (2, .int (nI y9)), (1, .int (nI p9)), (0, .ref m0)]) hx hb dX5_packAll_146 hl (by decide) rfl (fun ls hl => ?_)
                have L_148 : ∀ (fuel : Nat) (k : Nat) (ps4 : Nat) (g4 : Nat → Int32), n - k < fuel → (k ≤ n) → (ps4 = ps3 + 1 + k) → (g4 ps3 = nI n &&& nI 255) → (∀ j, j < k → g4 (ps3 + 1 + j) = gB ((2304 * p9 + 48 * y9) + x + j) &&& nI 255) → (∀ j, j < ps3 → g4 j = g3 j) → ∀ (H : Heap) (locs : List Loc) (ls : Array Slot), va_P D qCl [(m1, .inl (cI, 9216, .inl gB)), (m0, .inr (5, [.int th, .int (nI wd), .int (nI ht), .int (nI pn), .ref m1, .ref m2, .ref m3, .int (nI cn), .ref m4, .ref m5, .ref m6, .int fl, .int (nI bf), .int (nI bt), .int (nI xn), .ref m7, .ref m8, .ref m9, .int ip, .int (nI ps4), .ref ma])), (ma, .inl (cI, 18432, .inl g4))] H → va_D A [(m1, .inl (cI, 9216, .inl gB)), (m0, .inr (5, [.int th, .int (nI wd), .int (nI ht), .int (nI pn), .ref m1, .ref m2, .ref m3, .int (nI cn), .ref m4, .ref m5, .ref m6, .int fl, .int (nI bf), .int (nI bt), .int (nI xn), .ref m7, .ref m8, .ref m9, .int ip, .int (nI ps4), .ref ma])), (ma, .inl (cI, 18432, .inl g4))] → va_S A s.heap H locs → lv_has ls 7 [(6, .int (nI k)), (5, .int (nI n)), (4, .int (nI (((2304 * p9) + (48 * y9)) + x))), (3, .int (nI x)), (2, .int (nI y9)), (1, .int (nI p9)), (0, .ref m0)] → W p l e rm_X5_packAll s m ([.ref m0] : List Value).toArray below meth c H locs 0 0 Q (F0 m 148 ls []) := by
                  intro fuel
                  induction fuel with
                  | zero =>
                    intro k ps4 g4 hm
                    exact absurd hm (Nat.not_lt_zero _)
                  | succ fuel ih_148 =>
                    intro k ps4 g4 hm_148 hk9 hps4 hg41 hg42 hg43 H locs ls hP hD hS hl
                    refine lv_iload hx hb dX5_packAll_148 (lv_at hl 0 rfl) ?_
                    refine lv_iload hx hb dX5_packAll_150 (lv_at hl 1 rfl) ?_
                    refine q_ge (tgt := 175) hx hb (by omega) (by omega) dX5_packAll_152 (by decide) (fun h_152 => ?_) (fun h_152 => ?_)
                    · exact J_175 n ps4 g4 hn1 hn2 (by rw [hps4, show k = n by omega]; exact RI_sing hR3 (by omega) hn2 (by omega) hn1 hsg he9 (by rw [hg41, b8_and]) (fun j hj => by rw [hg42 j (by omega), b8_and]) hg43) (fun j hj => by have := RI_le hR3; rw [hg43 j (by omega)]; exact hk3 j hj) _ _ _ (hP.sub [1, 0, 2] rfl) (hD.sub [1, 0, 2] (by decide) rfl) hS (lv_sub hl [3, 4, 5, 6, 1] rfl)
                    refine lv_aload_n hx hb dX5_packAll_155 rfl (lv_at hl 6 rfl) ?_
                    refine lv_aload_n hx hb dX5_packAll_156 rfl (lv_at hl 6 rfl) ?_
                    refine va_get (D := D) (ci := 5) (v := .ref m1) (C := RX5) (T := TX5) (N := 21) hx hb hts iX5 hown hK hP 1 rfl rfl 4 (by decide) f_7 (fun _ h9 => h9) rfl dX5_packAll_157 ?_
                    refine lv_iload hx hb dX5_packAll_160 (lv_at hl 2 rfl) ?_
                    refine lv_iload hx hb dX5_packAll_162 (lv_at hl 0 rfl) ?_
                    refine lv_iadd hx hb dX5_packAll_164 ?_
                    refine q_eqi (nI_add _ _) ?_
                    refine q_iald hx hb hK hP 0 0 rfl rfl (k := ((((2304 * p9) + (48 * y9)) + x) + k)) (by omega) (by omega) dX5_packAll_165 ?_
                    refine q_v0 (wr := [(m1, .inl (cI, 9216, .inl gB))]) (va_runV (As := [.int (gB ((((2304 * p9) + (48 * y9)) + x) + k))]) (rest := []) ⟨hx, hb, hml, hown, hts⟩ (c_X5_put l D cI cZ cB cJ H.size m0 m1 m2 m3 m4 m5 m6 m7 m8 m9 ma th wd ht pn cn fl bf bt xn ip ps4 g4 (gB ((((2304 * p9) + (48 * y9)) + x) + k)) (by have := RI_le hR3; omega)) (cwV 1 hts gX5_packAll_X5_put rfl rfl rfl (by decide +kernel) ⟨Nat.le_of_ble_eq_true rfl, Nat.le_of_ble_eq_true rfl⟩) (q_preV (q_pre (wc := [(m0, .inr (5, [.int th, .int (nI wd), .int (nI ht), .int (nI pn), .ref m1, .ref m2, .ref m3, .int (nI cn), .ref m4, .ref m5, .ref m6, .int fl, .int (nI bf), .int (nI bt), .int (nI xn), .ref m7, .ref m8, .ref m9, .int ip, .int (nI ps4), .ref ma])), (ma, .inl (cI, 18432, .inl g4))]) hP hD hK hN [1, 2] (by decide) rfl) (va_recv hK hP (ci := 5) (q0 := 1) rfl rfl)) rfl rfl hl.1 rfl (lv_room (Nat.le_of_ble_eq_true rfl)) dX5_packAll_166 ⟨Nat.zero_le _, Nat.zero_le _⟩) hS hA hP hD [1, 2] [0] rfl rfl (by decide) (by decide) (fun u H locs hp_166 hP hD hS => ?_)
                    have hP : va_P D qCl [(m1, .inl (cI, 9216, .inl gB)), (m0, .inr (5, [.int th, .int (nI wd), .int (nI ht), .int (nI pn), .ref m1, .ref m2, .ref m3, .int (nI cn), .ref m4, .ref m5, .ref m6, .int fl, .int (nI bf), .int (nI bt), .int (nI xn), .ref m7, .ref m8, .ref m9, .int ip, .int (nI (ps4 + 1)), .ref ma])), (ma, .inl (cI, 18432, .inl (upd g4 ps4 ((gB ((((2304 * p9) + (48 * y9)) + x) + k)) &&& nI 255))))] H := hP
                    have hD : va_D A [(m1, .inl (cI, 9216, .inl gB)), (m0, .inr (5, [.int th, .int (nI wd), .int (nI ht), .int (nI pn), .ref m1, .ref m2, .ref m3, .int (nI cn), .ref m4, .ref m5, .ref m6, .int fl, .int (nI bf), .int (nI bt), .int (nI xn), .ref m7, .ref m8, .ref m9, .int ip, .int (nI (ps4 + 1)), .ref ma])), (ma, .inl (cI, 18432, .inl (upd g4 ps4 ((gB ((((2304 * p9) + (48 * y9)) + x) + k)) &&& nI 255))))] := hD
                    refine lv_iinc (v := nI (k + 1)) (lv' := [(6, .int (nI (k + 1))), (5, .int (nI n)), (4, .int (nI (((2304 * p9) + (48 * y9)) + x))), (3, .int (nI x)), (2, .int (nI y9)), (1, .int (nI p9)), (0, .ref m0)]) hx hb dX5_packAll_169 hl (k := 0) rfl (q_inc _) (by decide) rfl (fun ls hl => ?_)
                    refine lv_goto (tgt := 148) hx hb dX5_packAll_172 (by decide) ?_
                    exact ih_148 (k + 1) (ps4 + 1) (upd g4 ps4 ((gB ((((2304 * p9) + (48 * y9)) + x) + k)) &&& nI 255)) (by omega) (by omega) (by omega) (by unfold upd; rw [if_neg (by omega)]; exact hg41) (fun j hj => by unfold upd; by_cases c9 : j = k; (· rw [if_pos (by omega), c9]); (· rw [if_neg (by omega)]; exact hg42 j (by omega))) (fun j hj => by unfold upd; rw [if_neg (by omega)]; exact hg43 j hj) _ _ _ (hP.sub [0, 1, 2] rfl) (hD.sub [0, 1, 2] (by decide) rfl) hS (lv_sub hl [0, 1, 2, 3, 4, 5, 6] rfl)
                exact L_148 _ 0 (ps3 + 1) (upd g3 ps3 ((nI n) &&& nI 255)) (Nat.lt_succ_self _) (Nat.zero_le _) rfl (by unfold upd; rw [if_pos rfl]) (fun j hj => absurd hj (Nat.not_lt_zero _)) (fun j hj => by unfold upd; rw [if_neg (by omega)]) _ _ _ (hP.sub [0, 1, 2] rfl) (hD.sub [0, 1, 2] (by decide) rfl) hS (lv_sub hl [0, 1, 2, 3, 4, 5, 6] rfl)
              refine lv_iconst (v := nI 1) hx hb dX5_packAll_65 (by decide) ?_
              refine q_le (tgt := 93) hx hb (by omega) (by omega) dX5_packAll_66 (by decide) (fun h_66 => ?_) (fun h_66 => ?_)
              · have L_93 : ∀ (fuel : Nat) (n : Nat), wd - n < fuel → (1 ≤ n) → (x + n ≤ wd) → (∀ j, j < n → x + j + 1 < wd → gB ((2304 * p9 + 48 * y9) + x + j) ≠ gB ((2304 * p9 + 48 * y9) + x + j + 1)) → ∀ (H : Heap) (locs : List Loc) (ls : Array Slot), va_P D qCl [(ma, .inl (cI, 18432, .inl g3)), (m0, .inr (5, [.int th, .int (nI wd), .int (nI ht), .int (nI pn), .ref m1, .ref m2, .ref m3, .int (nI cn), .ref m4, .ref m5, .ref m6, .int fl, .int (nI bf), .int (nI bt), .int (nI xn), .ref m7, .ref m8, .ref m9, .int ip, .int (nI ps3), .ref ma])), (m1, .inl (cI, 9216, .inl gB))] H → va_D A [(ma, .inl (cI, 18432, .inl g3)), (m0, .inr (5, [.int th, .int (nI wd), .int (nI ht), .int (nI pn), .ref m1, .ref m2, .ref m3, .int (nI cn), .ref m4, .ref m5, .ref m6, .int fl, .int (nI bf), .int (nI bt), .int (nI xn), .ref m7, .ref m8, .ref m9, .int ip, .int (nI ps3), .ref ma])), (m1, .inl (cI, 9216, .inl gB))] → va_S A s.heap H locs → lv_has ls 7 [(5, .int (nI n)), (4, .int (nI (((2304 * p9) + (48 * y9)) + x))), (3, .int (nI x)), (2, .int (nI y9)), (1, .int (nI p9)), (0, .ref m0)] → W p l e rm_X5_packAll s m ([.ref m0] : List Value).toArray below meth c H locs 0 0 Q (F0 m 93 ls []) := by
                  intro fuel
                  induction fuel with
                  | zero =>
                    intro n hm
                    exact absurd hm (Nat.not_lt_zero _)
                  | succ fuel ih_93 =>
                    intro n hm_93 hn1 hn2 hsg H locs ls hP hD hS hl
                    refine lv_iload_n hx hb dX5_packAll_93 rfl (lv_at hl 2 rfl) ?_
                    refine lv_iload hx hb dX5_packAll_94 (lv_at hl 0 rfl) ?_
                    refine lv_iadd hx hb dX5_packAll_96 ?_
                    refine q_eqi (nI_add _ _) ?_
                    refine lv_aload_n hx hb dX5_packAll_97 rfl (lv_at hl 5 rfl) ?_
                    refine va_get (D := D) (ci := 5) (v := .int (nI wd)) (C := RX5) (T := TX5) (N := 21) hx hb hts iX5 hown hK hP 1 rfl rfl 1 (by decide) f_42 (fun _ h9 => h9) rfl dX5_packAll_98 ?_
                    refine q_ge (tgt := 139) hx hb (by omega) (by omega) dX5_packAll_101 (by decide) (fun h_101 => ?_) (fun h_101 => ?_)
                    · exact J_139 n hn1 hn2 hsg (Or.inl (by omega)) _ _ _ (hP.sub [0, 1, 2] rfl) (hD.sub [0, 1, 2] (by decide) rfl) hS (lv_sub hl [0, 1, 2, 3, 4, 5] rfl)
                    refine lv_iload hx hb dX5_packAll_104 (lv_at hl 0 rfl) ?_
                    refine lv_bipush (v := nI 64) hx hb dX5_packAll_106 (by decide) ?_
                    refine q_ge (tgt := 139) hx hb (by omega) (by omega) dX5_packAll_108 (by decide) (fun h_108 => by omega) (fun h_108 => ?_)
                    refine lv_aload_n hx hb dX5_packAll_111 rfl (lv_at hl 5 rfl) ?_
                    refine lv_iload hx hb dX5_packAll_112 (lv_at hl 1 rfl) ?_
                    refine lv_iload hx hb dX5_packAll_114 (lv_at hl 0 rfl) ?_
                    refine lv_iadd hx hb dX5_packAll_116 ?_
                    refine q_eqi (nI_add _ _) ?_
                    refine lv_aload_n hx hb dX5_packAll_117 rfl (lv_at hl 5 rfl) ?_
                    refine va_get (D := D) (ci := 5) (v := .int (nI wd)) (C := RX5) (T := TX5) (N := 21) hx hb hts iX5 hown hK hP 1 rfl rfl 1 (by decide) f_42 (fun _ h9 => h9) rfl dX5_packAll_118 ?_
                    refine lv_iload_n hx hb dX5_packAll_121 rfl (lv_at hl 2 rfl) ?_
                    refine lv_isub hx hb dX5_packAll_122 ?_
                    refine q_eqi (y := nI (wd - x)) (pk_sub (by omega)) ?_
                    refine lv_iload hx hb dX5_packAll_123 (lv_at hl 0 rfl) ?_
                    refine lv_isub hx hb dX5_packAll_125 ?_
                    refine q_eqi (y := nI (wd - x - n)) (pk_sub (by omega)) ?_
                    refine q_i0 (wr := [(ma, .inl (cI, 18432, .inl g3))]) (va_runV (As := [.int (nI ((((2304 * p9) + (48 * y9)) + x) + n)), .int (nI (wd - x - n))]) (rest := []) ⟨hx, hb, hml, hown, hts⟩ (c_X5_runAt l D cI cZ cB cJ H.size m0 m1 m2 m3 m4 m5 m6 m7 m8 m9 ma th wd ht pn cn fl bf bt xn ip ps3 gB ((((2304 * p9) + (48 * y9)) + x) + n) (wd - x - n) (by omega) (by omega) (by omega)) (cwV 2 hts gX5_packAll_X5_runAt rfl rfl rfl (by decide +kernel) ⟨Nat.le_of_ble_eq_true rfl, Nat.le_of_ble_eq_true rfl⟩) (q_preV (q_pre (wc := [(m0, .inr (5, [.int th, .int (nI wd), .int (nI ht), .int (nI pn), .ref m1, .ref m2, .ref m3, .int (nI cn), .ref m4, .ref m5, .ref m6, .int fl, .int (nI bf), .int (nI bt), .int (nI xn), .ref m7, .ref m8, .ref m9, .int ip, .int (nI ps3), .ref ma])), (m1, .inl (cI, 9216, .inl gB))]) hP hD hK hN [1, 2] (by decide) rfl) (va_recv hK hP (ci := 5) (q0 := 1) rfl rfl)) rfl rfl hl.1 rfl (lv_room (Nat.le_of_ble_eq_true rfl)) dX5_packAll_126 ⟨Nat.zero_le _, Nat.zero_le _⟩) hS hA hP hD [1, 2] [0] rfl rfl (by decide) (by decide) (fun r_126 n_126 H locs hp_126 hP hD hS => ?_)
                    have hP : va_P D qCl [(ma, .inl (cI, 18432, .inl g3)), (m0, .inr (5, [.int th, .int (nI wd), .int (nI ht), .int (nI pn), .ref m1, .ref m2, .ref m3, .int (nI cn), .ref m4, .ref m5, .ref m6, .int fl, .int (nI bf), .int (nI bt), .int (nI xn), .ref m7, .ref m8, .ref m9, .int ip, .int (nI ps3), .ref ma])), (m1, .inl (cI, 9216, .inl gB))] H := hP
                    have hD : va_D A [(ma, .inl (cI, 18432, .inl g3)), (m0, .inr (5, [.int th, .int (nI wd), .int (nI ht), .int (nI pn), .ref m1, .ref m2, .ref m3, .int (nI cn), .ref m4, .ref m5, .ref m6, .int fl, .int (nI bf), .int (nI bt), .int (nI xn), .ref m7, .ref m8, .ref m9, .int ip, .int (nI ps3), .ref ma])), (m1, .inl (cI, 9216, .inl gB))] := hD
                    have hp_126 : r_126 = nI n_126 ∧ (1 ≤ n_126 ∧ n_126 ≤ (wd - x - n) ∧ (∀ j, j < n_126 → gB (((((2304 * p9) + (48 * y9)) + x) + n) + j) = gB ((((2304 * p9) + (48 * y9)) + x) + n)) ∧ (n_126 < (wd - x - n) → gB (((((2304 * p9) + (48 * y9)) + x) + n) + n_126) ≠ gB ((((2304 * p9) + (48 * y9)) + x) + n))) := hp_126
                    obtain ⟨e_126, hq_126⟩ := hp_126
                    subst e_126
                    have hp_126 := hq_126
                    refine lv_iconst (v := nI 1) hx hb dX5_packAll_129 (by decide) ?_
                    refine q_ne (tgt := 139) hx hb (by omega) (by omega) dX5_packAll_130 (by decide) (fun h_130 => ?_) (fun h_130 => ?_)
                    · exact J_139 n hn1 hn2 hsg (Or.inr ⟨by omega, (hp_126.2.2.1 1 (by omega)).symm⟩) _ _ _ (hP.sub [0, 1, 2] rfl) (hD.sub [0, 1, 2] (by decide) rfl) hS (lv_sub hl [0, 1, 2, 3, 4, 5] rfl)
                    refine lv_iinc (v := nI (n + 1)) (lv' := [(5, .int (nI (n + 1))), (4, .int (nI (((2304 * p9) + (48 * y9)) + x))), (3, .int (nI x)), (2, .int (nI y9)), (1, .int (nI p9)), (0, .ref m0)]) hx hb dX5_packAll_133 hl (k := 0) rfl (q_inc _) (by decide) rfl (fun ls hl => ?_)
                    refine lv_goto (tgt := 93) hx hb dX5_packAll_136 (by decide) ?_
                    exact ih_93 (n + 1) (by omega) (by omega) (by omega) (fun j hj hw => by by_cases c9 : j = n; (· rw [c9]; rw [c9] at hw; have z9 := hp_126.2.2.2 (by omega); rw [h_130] at z9; exact fun w => z9 w.symm); (· exact hsg j (by omega) hw)) _ _ _ (hP.sub [0, 1, 2] rfl) (hD.sub [0, 1, 2] (by decide) rfl) hS (lv_sub hl [0, 1, 2, 3, 4, 5] rfl)
                exact L_93 _ n_58 (Nat.lt_succ_self _) (by omega) (by omega) (fun j hj hw => by rw [show j = 0 by omega]; have z9 := hp_58.2.2.2 (by omega); rw [show n_58 = 1 by omega] at z9; exact fun w => z9 w.symm) _ _ _ (hP.sub [0, 1, 2] rfl) (hD.sub [0, 1, 2] (by decide) rfl) hS (lv_sub hl [0, 1, 2, 3, 4, 5] rfl)
              refine lv_aload_n hx hb dX5_packAll_69 rfl (lv_at hl 5 rfl) ?_
              refine lv_sipush (v := nI 128) hx hb dX5_packAll_70 (by decide) ?_
              refine lv_iload hx hb dX5_packAll_73 (lv_at hl 0 rfl) ?_
              refine lv_isub hx hb dX5_packAll_75 ?_
              refine q_v0 (wr := [(m1, .inl (cI, 9216, .inl gB))]) (va_runV (As := [.int ((nI 128) - (nI n_58))]) (rest := []) ⟨hx, hb, hml, hown, hts⟩ (c_X5_put l D cI cZ cB cJ H.size m0 m1 m2 m3 m4 m5 m6 m7 m8 m9 ma th wd ht pn cn fl bf bt xn ip ps3 g3 ((nI 128) - (nI n_58)) (by have := RI_le hR3; omega)) (cwV 1 hts gX5_packAll_X5_put rfl rfl rfl (by decide +kernel) ⟨Nat.le_of_ble_eq_true rfl, Nat.le_of_ble_eq_true rfl⟩) (q_preV (q_pre (wc := [(m0, .inr (5, [.int th, .int (nI wd), .int (nI ht), .int (nI pn), .ref m1, .ref m2, .ref m3, .int (nI cn), .ref m4, .ref m5, .ref m6, .int fl, .int (nI bf), .int (nI bt), .int (nI xn), .ref m7, .ref m8, .ref m9, .int ip, .int (nI ps3), .ref ma])), (ma, .inl (cI, 18432, .inl g3))]) hP hD hK hN [1, 0] (by decide) rfl) (va_recv hK hP (ci := 5) (q0 := 1) rfl rfl)) rfl rfl hl.1 rfl (lv_room (Nat.le_of_ble_eq_true rfl)) dX5_packAll_76 ⟨Nat.zero_le _, Nat.zero_le _⟩) hS hA hP hD [1, 0] [2] rfl rfl (by decide) (by decide) (fun u H locs hp_76 hP hD hS => ?_)
              have hP : va_P D qCl [(m1, .inl (cI, 9216, .inl gB)), (m0, .inr (5, [.int th, .int (nI wd), .int (nI ht), .int (nI pn), .ref m1, .ref m2, .ref m3, .int (nI cn), .ref m4, .ref m5, .ref m6, .int fl, .int (nI bf), .int (nI bt), .int (nI xn), .ref m7, .ref m8, .ref m9, .int ip, .int (nI (ps3 + 1)), .ref ma])), (ma, .inl (cI, 18432, .inl (upd g3 ps3 (((nI 128) - (nI n_58)) &&& nI 255))))] H := hP
              have hD : va_D A [(m1, .inl (cI, 9216, .inl gB)), (m0, .inr (5, [.int th, .int (nI wd), .int (nI ht), .int (nI pn), .ref m1, .ref m2, .ref m3, .int (nI cn), .ref m4, .ref m5, .ref m6, .int fl, .int (nI bf), .int (nI bt), .int (nI xn), .ref m7, .ref m8, .ref m9, .int ip, .int (nI (ps3 + 1)), .ref ma])), (ma, .inl (cI, 18432, .inl (upd g3 ps3 (((nI 128) - (nI n_58)) &&& nI 255))))] := hD
              refine lv_aload_n hx hb dX5_packAll_79 rfl (lv_at hl 5 rfl) ?_
              refine lv_aload_n hx hb dX5_packAll_80 rfl (lv_at hl 5 rfl) ?_
              refine va_get (D := D) (ci := 5) (v := .ref m1) (C := RX5) (T := TX5) (N := 21) hx hb hts iX5 hown hK hP 1 rfl rfl 4 (by decide) f_7 (fun _ h9 => h9) rfl dX5_packAll_81 ?_
              refine lv_iload hx hb dX5_packAll_84 (lv_at hl 1 rfl) ?_
              refine q_iald hx hb hK hP 0 0 rfl rfl (k := (((2304 * p9) + (48 * y9)) + x)) (by omega) (by omega) dX5_packAll_86 ?_
              refine q_v0 (wr := [(m1, .inl (cI, 9216, .inl gB))]) (va_runV (As := [.int (gB (((2304 * p9) + (48 * y9)) + x))]) (rest := []) ⟨hx, hb, hml, hown, hts⟩ (c_X5_put l D cI cZ cB cJ H.size m0 m1 m2 m3 m4 m5 m6 m7 m8 m9 ma th wd ht pn cn fl bf bt xn ip (ps3 + 1) (upd g3 ps3 (((nI 128) - (nI n_58)) &&& nI 255)) (gB (((2304 * p9) + (48 * y9)) + x)) (by have := RI_le hR3; omega)) (cwV 1 hts gX5_packAll_X5_put rfl rfl rfl (by decide +kernel) ⟨Nat.le_of_ble_eq_true rfl, Nat.le_of_ble_eq_true rfl⟩) (q_preV (q_pre (wc := [(m0, .inr (5, [.int th, .int (nI wd), .int (nI ht), .int (nI pn), .ref m1, .ref m2, .ref m3, .int (nI cn), .ref m4, .ref m5, .ref m6, .int fl, .int (nI bf), .int (nI bt), .int (nI xn), .ref m7, .ref m8, .ref m9, .int ip, .int (nI (ps3 + 1)), .ref ma])), (ma, .inl (cI, 18432, .inl (upd g3 ps3 (((nI 128) - (nI n_58)) &&& nI 255))))]) hP hD hK hN [1, 2] (by decide) rfl) (va_recv hK hP (ci := 5) (q0 := 1) rfl rfl)) rfl rfl hl.1 rfl (lv_room (Nat.le_of_ble_eq_true rfl)) dX5_packAll_87 ⟨Nat.zero_le _, Nat.zero_le _⟩) hS hA hP hD [1, 2] [0] rfl rfl (by decide) (by decide) (fun u H locs hp_87 hP hD hS => ?_)
              have hP : va_P D qCl [(m1, .inl (cI, 9216, .inl gB)), (m0, .inr (5, [.int th, .int (nI wd), .int (nI ht), .int (nI pn), .ref m1, .ref m2, .ref m3, .int (nI cn), .ref m4, .ref m5, .ref m6, .int fl, .int (nI bf), .int (nI bt), .int (nI xn), .ref m7, .ref m8, .ref m9, .int ip, .int (nI ((ps3 + 1) + 1)), .ref ma])), (ma, .inl (cI, 18432, .inl (upd (upd g3 ps3 (((nI 128) - (nI n_58)) &&& nI 255)) (ps3 + 1) ((gB (((2304 * p9) + (48 * y9)) + x)) &&& nI 255))))] H := hP
              have hD : va_D A [(m1, .inl (cI, 9216, .inl gB)), (m0, .inr (5, [.int th, .int (nI wd), .int (nI ht), .int (nI pn), .ref m1, .ref m2, .ref m3, .int (nI cn), .ref m4, .ref m5, .ref m6, .int fl, .int (nI bf), .int (nI bt), .int (nI xn), .ref m7, .ref m8, .ref m9, .int ip, .int (nI ((ps3 + 1) + 1)), .ref ma])), (ma, .inl (cI, 18432, .inl (upd (upd g3 ps3 (((nI 128) - (nI n_58)) &&& nI 255)) (ps3 + 1) ((gB (((2304 * p9) + (48 * y9)) + x)) &&& nI 255))))] := hD
              refine lv_goto (tgt := 175) hx hb dX5_packAll_90 (by decide) ?_
              exact J_175 n_58 ((ps3 + 1) + 1) (upd (upd g3 ps3 (((nI 128) - (nI n_58)) &&& nI 255)) (ps3 + 1) ((gB (((2304 * p9) + (48 * y9)) + x)) &&& nI 255)) (by omega) (by omega) (RI_run hR3 (by omega) (by omega) (by omega) (by omega) (fun j hj => hp_58.2.2.1 j hj) (fun w => hp_58.2.2.2 (by omega)) (by unfold upd; rw [if_neg (by omega), if_pos rfl, b8_and, pk_sub (by omega)]) (by unfold upd; rw [if_pos rfl, b8_and]) (fun j hj => by unfold upd; rw [if_neg (by omega), if_neg (by omega)])) (fun j hj => by have := RI_le hR3; unfold upd; rw [if_neg (by omega), if_neg (by omega)]; exact hk3 j hj) _ _ _ (hP.sub [1, 0, 2] rfl) (hD.sub [1, 0, 2] (by decide) rfl) hS (lv_sub hl [2, 3, 4, 5, 0] rfl)
          exact L_27 _ 0 ps2 g2 (Nat.lt_succ_self _) (Nat.zero_le _) (RI_0 _ _ _ _ _) (fun _ _ => rfl) _ _ _ (hP.sub [0, 1, 2] rfl) (hD.sub [0, 1, 2] (by decide) rfl) hS (lv_sub hl [0, 1, 2, 3] rfl)
      exact L_17 _ 0 ps1 g1 (Nat.lt_succ_self _) (Nat.zero_le _) hM1 (by omega) _ _ _ (hP.sub [0, 1, 2] rfl) (hD.sub [0, 1, 2] (by decide) rfl) hS (lv_sub hl [0, 1, 2] rfl)
  exact L_7 _ 0 0 gk (Nat.lt_succ_self _) (Nat.zero_le _) (by rw [Nat.zero_mul]; exact MPk_0 _ _ _ _) (Nat.zero_le _) _ _ _ (hP.sub [0, 1, 2] rfl) (hD.sub [0, 1, 2] (by decide) rfl) hS (lv_sub hl [0, 1] rfl)
