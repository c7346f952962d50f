abbrev rm_X5_isInside : Room := { frames := 0, cells := 0, slots := 0, locals := 0 }
set_option maxHeartbeats 4000000 in
set_option maxRecDepth 100000 in
/-- the reference: isInside -/
theorem c_X5_isInside (l : Launch) (D : va_G) (cI cZ cB cJ : ClassId) (sz : Nat) (m0 : Nat) (m1 : Nat) (m2 : Nat) (m3 : Nat) (m4 : Nat) (m5 : Nat) (m6 : Nat) (m7 : Nat) (m8 : Nat) (m9 : Nat) (ma : Nat) (th : Int32) (wd : Nat) (ht : Nat) (pn : Nat) (cn : Nat) (fl : Int32) (bf : Nat) (bt : Nat) (xn : Nat) (ip : Int32) (ps : Nat) (gp : Nat → Int64) (gt : Nat → Int32) (mu : (Int → Int → Int) → Int) (rl : Int32) (z : Int) (hC : CM gp gt xn mu) (hxn : xn ≤ 100) (hz : bd z) : Met l yX5_isInside wsX5_isInside rm_X5_isInside (va_Pc [.ref m0, .int rl, .long (Int64.ofInt z)] (PC D (qT cI cZ cB cJ) [(m0, .inr (5, [.int th, .int (nI wd), .int (nI ht), .int (nI pn), .ref m1, .ref m2, .ref m3, .int (nI cn), .ref m4, .ref m5, .ref m6, .int fl, .int (nI bf), .int (nI bt), .int (nI xn), .ref m7, .ref m8, .ref m9, .int ip, .int (nI ps), .ref ma])), (m7, .inl (cJ, 200, .inr (.inl gp))), (m8, .inl (cI, 200, .inl gt))] sz)) (va_Qi (fun (r : Int32) (u : Unit) => r = (if insB rl mu z = true then nI 1 else nI 0)) (fun (u : Unit) => PO D (qT cI cZ cB cJ) (va_A [(m0, .inr (5, [.int th, .int (nI wd), .int (nI ht), .int (nI pn), .ref m1, .ref m2, .ref m3, .int (nI cn), .ref m4, .ref m5, .ref m6, .int fl, .int (nI bf), .int (nI bt), .int (nI xn), .ref m7, .ref m8, .ref m9, .int ip, .int (nI ps), .ref ma])), (m7, .inl (cJ, 200, .inr (.inl gp))), (m8, .inl (cI, 200, .inl gt))] sz) [(m0, .inr (5, [.int th, .int (nI wd), .int (nI ht), .int (nI pn), .ref m1, .ref m2, .ref m3, .int (nI cn), .ref m4, .ref m5, .ref m6, .int fl, .int (nI bf), .int (nI bt), .int (nI xn), .ref m7, .ref m8, .ref m9, .int ip, .int (nI ps), .ref ma])), (m7, .inl (cJ, 200, .inr (.inl gp))), (m8, .inl (cI, 200, .inl gt))]) (va_A [(m0, .inr (5, [.int th, .int (nI wd), .int (nI ht), .int (nI pn), .ref m1, .ref m2, .ref m3, .int (nI cn), .ref m4, .ref m5, .ref m6, .int fl, .int (nI bf), .int (nI bt), .int (nI xn), .ref m7, .ref m8, .ref m9, .int ip, .int (nI ps), .ref ma])), (m7, .inl (cJ, 200, .inr (.inl gp))), (m8, .inl (cI, 200, .inl gt))] sz)) 0 0 (va_A [(m0, .inr (5, [.int th, .int (nI wd), .int (nI ht), .int (nI pn), .ref m1, .ref m2, .ref m3, .int (nI cn), .ref m4, .ref m5, .ref m6, .int fl, .int (nI bf), .int (nI bt), .int (nI xn), .ref m7, .ref m8, .ref m9, .int ip, .int (nI ps), .ref ma])), (m7, .inl (cJ, 200, .inr (.inl gp))), (m8, .inl (cI, 200, .inl gt))] sz) := by
  refine q_entZ (cc := cX5_isInside) (maxL := 7) (by decide +kernel) rfl (Nat.le_of_ble_eq_true rfl) ?_
  intro p e s m below meth c A Q ls hq hl hQ
  obtain ⟨hx, hb, hml, hts, hown, hin, hN, hK, hsz, hA, hP, hD, hS⟩ := hq
  have hown : s.vm.findClass RX5 = some m.cls := hown
  obtain ⟨H, hH⟩ : ∃ H, H = s.heap := ⟨_, rfl⟩
  rw [← hH] at hP ⊢
  have hS : va_S A s.heap H [] := by rw [hH]; exact va_S.rf
  clear hH
  have hl : lv_has ls 7 [(0, .ref m0), (1, .int rl), (2, .long (Int64.ofInt z))] := hl
  have iX5 : ∀ w ∈ wsX50, w ∈ wsX5_isInside := by decide +kernel
  have f_78 := hts (.fieldLink RX5 78 "RasterCoverModel" "crossings" "I") (by decide +kernel)
  have f_30 := hts (.fieldLink RX5 30 "RasterCoverModel" "place" "[J") (by decide +kernel)
  have f_33 := hts (.fieldLink RX5 33 "RasterCoverModel" "turn" "[I") (by decide +kernel)
  obtain ⟨P, T, hz1, hm⟩ := id hC
  obtain ⟨hza, hzb⟩ := id hz
  refine lv_iconst (v := nI 0) hx hb dX5_isInside_0 (by decide) ?_
  refine lv_istore (lv' := [(4, .int (nI 0)), (0, .ref m0), (1, .int rl), (2, .long (Int64.ofInt z))]) hx hb dX5_isInside_1 hl (by decide) rfl (fun ls hl => ?_)
  refine lv_iconst (v := nI 0) hx hb dX5_isInside_3 (by decide) ?_
  refine lv_istore (lv' := [(5, .int (nI 0)), (4, .int (nI 0)), (0, .ref m0), (1, .int rl), (2, .long (Int64.ofInt z))]) hx hb dX5_isInside_4 hl (by decide) rfl (fun ls hl => ?_)
  refine lv_iconst (v := nI 0) hx hb dX5_isInside_6 (by decide) ?_
  refine lv_istore (lv' := [(6, .int (nI 0)), (5, .int (nI 0)), (4, .int (nI 0)), (0, .ref m0), (1, .int rl), (2, .long (Int64.ofInt z))]) hx hb dX5_isInside_7 hl (by decide) rfl (fun ls hl => ?_)
  have L_9 : ∀ (fuel : Nat) (k : Nat) (tv : Int32) (q : Nat), xn - k < fuel → (k ≤ xn) → (tv = Int32.ofInt (sumN k (fun j => if P j ≤ z then T j else 0))) → ((q : Int) = sumN k (fun j => if P j ≤ z then (1 : Int) else 0)) → (q ≤ k) → ∀ (H : Heap) (locs : List Loc) (ls : Array Slot), va_P D qCl [(m0, .inr (5, [.int th, .int (nI wd), .int (nI ht), .int (nI pn), .ref m1, .ref m2, .ref m3, .int (nI cn), .ref m4, .ref m5, .ref m6, .int fl, .int (nI bf), .int (nI bt), .int (nI xn), .ref m7, .ref m8, .ref m9, .int ip, .int (nI ps), .ref ma])), (m7, .inl (cJ, 200, .inr (.inl gp))), (m8, .inl (cI, 200, .inl gt))] H → va_D A [(m0, .inr (5, [.int th, .int (nI wd), .int (nI ht), .int (nI pn), .ref m1, .ref m2, .ref m3, .int (nI cn), .ref m4, .ref m5, .ref m6, .int fl, .int (nI bf), .int (nI bt), .int (nI xn), .ref m7, .ref m8, .ref m9, .int ip, .int (nI ps), .ref ma])), (m7, .inl (cJ, 200, .inr (.inl gp))), (m8, .inl (cI, 200, .inl gt))] → va_S A s.heap H locs → lv_has ls 7 [(6, .int (nI k)), (5, .int (nI q)), (4, .int tv), (0, .ref m0), (1, .int rl), (2, .long (Int64.ofInt z))] → W p l e rm_X5_isInside s m ([.ref m0, .int rl, .long (Int64.ofInt z)] : List Value).toArray below meth c H locs 0 0 Q (F0 m 9 ls []) := by
    intro fuel
    induction fuel with
    | zero =>
      intro k tv q hm
      exact absurd hm (Nat.not_lt_zero _)
    | succ fuel ih_9 =>
      intro k tv q hm_9 hk htv hq hqk H locs ls hP hD hS hl
      refine lv_iload hx hb dX5_isInside_9 (lv_at hl 0 rfl) ?_
      refine lv_aload_n hx hb dX5_isInside_11 rfl (lv_at hl 3 rfl) ?_
      refine va_get (D := D) (ci := 5) (v := .int (nI xn)) (C := RX5) (T := TX5) (N := 21) hx hb hts iX5 hown hK hP 0 rfl rfl 14 (by decide) f_78 (fun _ h9 => h9) rfl dX5_isInside_12 ?_
      refine q_ge (tgt := 51) hx hb (by omega) (by omega) dX5_isInside_15 (by decide) (fun h_15 => ?_) (fun h_15 => ?_)
      · have e9 : k = xn := by omega
        rw [e9] at htv hq
        have hI : mu (fun q t => if q ≤ z then t else 0) = sumN xn (fun j => if P j ≤ z then T j else 0) := (hm _).symm
        have hJ : mu (fun q _ => if q ≤ z then 1 else 0) = sumN xn (fun j => if P j ≤ z then (1 : Int) else 0) := (hm _).symm
        refine lv_iload_n hx hb dX5_isInside_51 rfl (lv_at hl 4 rfl) ?_
        refine lv_if_ne (tgt := 68) hx hb dX5_isInside_52 (by decide) (fun h_52 => ?_) (fun h_52 => ?_)
        · refine lv_iload hx hb dX5_isInside_68 (lv_at hl 1 rfl) ?_
          refine lv_iconst (v := nI 2) hx hb dX5_isInside_70 (by decide) ?_
          refine lv_irem hx hb dX5_isInside_71 (by decide) ?_
          refine q_eqi (y := nI (q % 2)) (pk_rem (by omega) (by decide) (by decide)) ?_
          refine lv_iconst (v := nI 1) hx hb dX5_isInside_72 (by decide) ?_
          refine q_ne (tgt := 80) hx hb (by omega) (by omega) dX5_isInside_73 (by decide) (fun h_73 => ?_) (fun h_73 => ?_)
          · refine lv_iconst (v := nI 0) hx hb dX5_isInside_80 (by decide) ?_
            have hr9 : (nI 0) = (if insB rl mu z = true then nI 1 else nI 0) := (by first | rw [if_neg (by unfold insB; rw [if_pos h_52, decide_eq_true_iff, hI, ← htv]; exact fun w => w h_57)] | rw [if_neg (by unfold insB; rw [if_neg h_52, decide_eq_true_iff, hJ, ← hq]; omega)])
            exact hQ _ _ _ _ (nI 0) () _ _ (by first | rfl | decide) dX5_isInside_81 (Nat.le_refl _) (Nat.le_refl _) hr9 (hP.sub [0, 1, 2] rfl) hK (hD.sub [0, 1, 2] (by decide) rfl) hS
          refine lv_iconst (v := nI 1) hx hb dX5_isInside_76 (by decide) ?_
          refine lv_goto (tgt := 81) hx hb dX5_isInside_77 (by decide) ?_
          have hr9 : (nI 1) = (if insB rl mu z = true then nI 1 else nI 0) := (by first | rw [if_pos (by unfold insB; rw [if_pos h_52, decide_eq_true_iff, hI, ← htv]; exact h_57)] | rw [if_pos (by unfold insB; rw [if_neg h_52, decide_eq_true_iff, hJ, ← hq]; omega)])
          exact hQ _ _ _ _ (nI 1) () _ _ (by first | rfl | decide) dX5_isInside_81 (Nat.le_refl _) (Nat.le_refl _) hr9 (hP.sub [0, 1, 2] rfl) hK (hD.sub [0, 1, 2] (by decide) rfl) hS
        refine lv_iload hx hb dX5_isInside_55 (lv_at hl 2 rfl) ?_
        refine lv_if_eq (tgt := 64) hx hb dX5_isInside_57 (by decide) (fun h_57 => ?_) (fun h_57 => ?_)
        · refine lv_iconst (v := nI 0) hx hb dX5_isInside_64 (by decide) ?_
          refine lv_goto (tgt := 81) hx hb dX5_isInside_65 (by decide) ?_
          have hr9 : (nI 0) = (if insB rl mu z = true then nI 1 else nI 0) := (by first | rw [if_neg (by unfold insB; rw [if_pos h_52, decide_eq_true_iff, hI, ← htv]; exact fun w => w h_57)] | rw [if_neg (by unfold insB; rw [if_neg h_52, decide_eq_true_iff, hJ, ← hq]; omega)])
          exact hQ _ _ _ _ (nI 0) () _ _ (by first | rfl | decide) dX5_isInside_81 (Nat.le_refl _) (Nat.le_refl _) hr9 (hP.sub [0, 1, 2] rfl) hK (hD.sub [0, 1, 2] (by decide) rfl) hS
        refine lv_iconst (v := nI 1) hx hb dX5_isInside_60 (by decide) ?_
        refine lv_goto (tgt := 81) hx hb dX5_isInside_61 (by decide) ?_
        have hr9 : (nI 1) = (if insB rl mu z = true then nI 1 else nI 0) := (by first | rw [if_pos (by unfold insB; rw [if_pos h_52, decide_eq_true_iff, hI, ← htv]; exact h_57)] | rw [if_pos (by unfold insB; rw [if_neg h_52, decide_eq_true_iff, hJ, ← hq]; omega)])
        exact hQ _ _ _ _ (nI 1) () _ _ (by first | rfl | decide) dX5_isInside_81 (Nat.le_refl _) (Nat.le_refl _) hr9 (hP.sub [0, 1, 2] rfl) hK (hD.sub [0, 1, 2] (by decide) rfl) hS
      have J_45 : ∀ (tv2 : Int32) (q2 : Nat), (tv2 = Int32.ofInt (sumN (k + 1) (fun j => if P j ≤ z then T j else 0))) → ((q2 : Int) = sumN (k + 1) (fun j => if P j ≤ z then (1 : Int) else 0)) → (q2 ≤ k + 1) → ∀ (H : Heap) (locs : List Loc) (ls : Array Slot), va_P D qCl [(m0, .inr (5, [.int th, .int (nI wd), .int (nI ht), .int (nI pn), .ref m1, .ref m2, .ref m3, .int (nI cn), .ref m4, .ref m5, .ref m6, .int fl, .int (nI bf), .int (nI bt), .int (nI xn), .ref m7, .ref m8, .ref m9, .int ip, .int (nI ps), .ref ma])), (m7, .inl (cJ, 200, .inr (.inl gp))), (m8, .inl (cI, 200, .inl gt))] H → va_D A [(m0, .inr (5, [.int th, .int (nI wd), .int (nI ht), .int (nI pn), .ref m1, .ref m2, .ref m3, .int (nI cn), .ref m4, .ref m5, .ref m6, .int fl, .int (nI bf), .int (nI bt), .int (nI xn), .ref m7, .ref m8, .ref m9, .int ip, .int (nI ps), .ref ma])), (m7, .inl (cJ, 200, .inr (.inl gp))), (m8, .inl (cI, 200, .inl gt))] → va_S A s.heap H locs → lv_has ls 7 [(6, .int (nI k)), (5, .int (nI q2)), (4, .int tv2), (0, .ref m0), (1, .int rl), (2, .long (Int64.ofInt z))] → W p l e rm_X5_isInside s m ([.ref m0, .int rl, .long (Int64.ofInt z)] : List Value).toArray below meth c H locs 0 0 Q (F0 m 45 ls []) := by
        intro tv2 q2 htv2 hq2 hqk2 H locs ls hP hD hS hl
        refine lv_iinc (v := nI (k + 1)) (lv' := [(6, .int (nI (k + 1))), (5, .int (nI q2)), (4, .int tv2), (0, .ref m0), (1, .int rl), (2, .long (Int64.ofInt z))]) hx hb dX5_isInside_45 hl (k := 0) rfl (q_inc _) (by decide) rfl (fun ls hl => ?_)
        refine lv_goto (tgt := 9) hx hb dX5_isInside_48 (by decide) ?_
        exact ih_9 (k + 1) tv2 q2 (by omega) (by omega) htv2 hq2 (by omega) _ _ _ (hP.sub [0, 1, 2] rfl) (hD.sub [0, 1, 2] (by decide) rfl) hS (lv_sub hl [0, 1, 2, 3, 4, 5] rfl)
      obtain ⟨hb91, hb92⟩ := (hz1 k (by omega)).2.2
      refine lv_aload_n hx hb dX5_isInside_18 rfl (lv_at hl 3 rfl) ?_
      refine va_get (D := D) (ci := 5) (v := .ref m7) (C := RX5) (T := TX5) (N := 21) hx hb hts iX5 hown hK hP 0 rfl rfl 15 (by decide) f_30 (fun _ h9 => h9) rfl dX5_isInside_19 ?_
      refine lv_iload hx hb dX5_isInside_22 (lv_at hl 0 rfl) ?_
      refine q_lald hx hb hK hP 1 3 rfl rfl (k := k) (by omega) (by omega) dX5_isInside_24 ?_
      refine q_eql (y := Int64.ofInt (P k)) (hz1 k (by omega)).1 ?_
      refine lv_lload_n hx hb dX5_isInside_25 rfl (lv_at hl 5 rfl) ?_
      refine W.lcmp hx hb dX5_isInside_26 ?_
      refine lv_if_gt (tgt := 45) hx hb dX5_isInside_27 (by decide) (fun h_27 => ?_) (fun h_27 => ?_)
      · have h_27 : ¬ P k ≤ z := by rw [lgc_gt, j_lt, w_t (by omega) (by omega), w_t (by omega) (by omega)] at h_27; omega
        exact J_45 tv q (by show tv = Int32.ofInt (sumN k (fun j => if P j ≤ z then T j else 0) + (if P k ≤ z then T k else 0)); rw [if_neg h_27, Int.add_zero]; exact htv) (by show (q : Int) = sumN k (fun j => if P j ≤ z then (1 : Int) else 0) + (if P k ≤ z then (1 : Int) else 0); rw [if_neg h_27, Int.add_zero]; exact hq) (by omega) _ _ _ (hP.sub [0, 1, 2] rfl) (hD.sub [0, 1, 2] (by decide) rfl) hS (lv_sub hl [0, 1, 2, 3, 4, 5] rfl)
      have h_27 : P k ≤ z := by rw [lgc_gt, j_lt, w_t (by omega) (by omega), w_t (by omega) (by omega)] at h_27; omega
      refine lv_iload hx hb dX5_isInside_30 (lv_at hl 2 rfl) ?_
      refine lv_aload_n hx hb dX5_isInside_32 rfl (lv_at hl 3 rfl) ?_
      refine va_get (D := D) (ci := 5) (v := .ref m8) (C := RX5) (T := TX5) (N := 21) hx hb hts iX5 hown hK hP 0 rfl rfl 16 (by decide) f_33 (fun _ h9 => h9) rfl dX5_isInside_33 ?_
      refine lv_iload hx hb dX5_isInside_36 (lv_at hl 0 rfl) ?_
      refine q_iald hx hb hK hP 2 0 rfl rfl (k := k) (by omega) (by omega) dX5_isInside_38 ?_
      refine lv_iadd hx hb dX5_isInside_39 ?_
      refine lv_istore (lv' := [(4, .int (tv + (gt k))), (6, .int (nI k)), (5, .int (nI q)), (0, .ref m0), (1, .int rl), (2, .long (Int64.ofInt z))]) hx hb dX5_isInside_40 hl (by decide) rfl (fun ls hl => ?_)
      refine lv_iinc (v := nI (q + 1)) (lv' := [(5, .int (nI (q + 1))), (4, .int (tv + (gt k))), (6, .int (nI k)), (0, .ref m0), (1, .int rl), (2, .long (Int64.ofInt z))]) hx hb dX5_isInside_42 hl (k := 2) rfl (q_inc _) (by decide) rfl (fun ls hl => ?_)
      exact J_45 (tv + (gt k)) (q + 1) (by show tv + gt k = Int32.ofInt (sumN k (fun j => if P j ≤ z then T j else 0) + (if P k ≤ z then T k else 0)); rw [if_pos h_27, (hz1 k (by omega)).2.1, htv, z_add]) (by show ((q + 1 : Nat) : Int) = sumN k (fun j => if P j ≤ z then (1 : Int) else 0) + (if P k ≤ z then (1 : Int) else 0); rw [if_pos h_27, ← hq]; rfl) (by omega) _ _ _ (hP.sub [0, 1, 2] rfl) (hD.sub [0, 1, 2] (by decide) rfl) hS (lv_sub hl [2, 0, 1, 3, 4, 5] rfl)
  exact L_9 _ 0 (nI 0) 0 (Nat.lt_succ_self _) (Nat.zero_le _) rfl rfl (Nat.le_refl _) _ _ _ (hP.sub [0, 1, 2] rfl) (hD.sub [0, 1, 2] (by decide) rfl) hS (lv_sub hl [0, 1, 2, 3, 4, 5] rfl)

abbrev rm_X5_addUnits : Room := { frames := 0, cells := 0, slots := 0, locals := 0 }
set_option maxHeartbeats 4000000 in
set_option maxRecDepth 100000 in
/-- the reference: addUnits -/
theorem c_X5_addUnits (l : Launch) (D : va_G) (cI cZ cB cJ : ClassId) (sz : Nat) (m0 : Nat) (m1 : Nat) (m2 : Nat) (m3 : Nat) (m4 : Nat) (m5 : Nat) (m6 : Nat) (m7 : Nat) (m8 : Nat) (m9 : Nat) (ma : Nat) (th : Int32) (wd : Nat) (ht : Nat) (pn : Nat) (cn : Nat) (fl : Int32) (bf : Nat) (bt : Nat) (xn : Nat) (ip : Int32) (ps : Nat) (gu : Nat → Int32) (U : Nat → Int) (a : Int) (b : Int) (hw : wd ≤ 48) (hU : ∀ x, x < wd → gu x = Int32.ofInt (U x)) (ha : bd a) (hb9 : bd b) : Met l yX5_addUnits wsX5_addUnits rm_X5_addUnits (va_Pc [.ref m0, .long (Int64.ofInt a), .long (Int64.ofInt b)] (PC D (qT cI cZ cB cJ) [(m0, .inr (5, [.int th, .int (nI wd), .int (nI ht), .int (nI pn), .ref m1, .ref m2, .ref m3, .int (nI cn), .ref m4, .ref m5, .ref m6, .int fl, .int (nI bf), .int (nI bt), .int (nI xn), .ref m7, .ref m8, .ref m9, .int ip, .int (nI ps), .ref ma])), (m9, .inl (cI, 48, .inl gu))] sz)) (va_Qv (fun (u : (Nat → Int32)) => ∀ x, x < wd → u x = Int32.ofInt (U x + ovl x a b)) (fun (u : (Nat → Int32)) => PO D (qT cI cZ cB cJ) (va_A [(m0, .inr (5, [.int th, .int (nI wd), .int (nI ht), .int (nI pn), .ref m1, .ref m2, .ref m3, .int (nI cn), .ref m4, .ref m5, .ref m6, .int fl, .int (nI bf), .int (nI bt), .int (nI xn), .ref m7, .ref m8, .ref m9, .int ip, .int (nI ps), .ref ma])), (m9, .inl (cI, 48, .inl gu))] sz) [(m0, .inr (5, [.int th, .int (nI wd), .int (nI ht), .int (nI pn), .ref m1, .ref m2, .ref m3, .int (nI cn), .ref m4, .ref m5, .ref m6, .int fl, .int (nI bf), .int (nI bt), .int (nI xn), .ref m7, .ref m8, .ref m9, .int ip, .int (nI ps), .ref ma])), (m9, .inl (cI, 48, .inl u))]) (va_A [(m0, .inr (5, [.int th, .int (nI wd), .int (nI ht), .int (nI pn), .ref m1, .ref m2, .ref m3, .int (nI cn), .ref m4, .ref m5, .ref m6, .int fl, .int (nI bf), .int (nI bt), .int (nI xn), .ref m7, .ref m8, .ref m9, .int ip, .int (nI ps), .ref ma])), (m9, .inl (cI, 48, .inl gu))] sz)) 0 0 (va_A [(m0, .inr (5, [.int th, .int (nI wd), .int (nI ht), .int (nI pn), .ref m1, .ref m2, .ref m3, .int (nI cn), .ref m4, .ref m5, .ref m6, .int fl, .int (nI bf), .int (nI bt), .int (nI xn), .ref m7, .ref m8, .ref m9, .int ip, .int (nI ps), .ref ma])), (m9, .inl (cI, 48, .inl gu))] sz) := by
  refine q_entV (cc := cX5_addUnits) (maxL := 10) (by decide +kernel) rfl (Nat.le_of_ble_eq_true rfl) ?_
  intro p e s m below meth c A Q ls hq hl hQ
  obtain ⟨hx, hb, hml, hts, hown, hin, hN, hK, hsz, hA, hP, hD, hS⟩ := hq
  have hown : s.vm.findClass RX5 = some m.cls := hown
  obtain ⟨H, hH⟩ : ∃ H, H = s.heap := ⟨_, rfl⟩
  rw [← hH] at hP ⊢
  have hS : va_S A s.heap H [] := by rw [hH]; exact va_S.rf
  clear hH
  have hl : lv_has ls 10 [(0, .ref m0), (1, .long (Int64.ofInt a)), (3, .long (Int64.ofInt b))] := hl
  have iX5 : ∀ w ∈ wsX50, w ∈ wsX5_addUnits := by decide +kernel
  have f_42 := hts (.fieldLink RX5 42 "RasterCoverModel" "wide" "I") (by decide +kernel)
  have f_36 := hts (.fieldLink RX5 36 "RasterCoverModel" "units" "[I") (by decide +kernel)
  have k_89 := hts (.constantLong RX5 89 (256)) (by decide +kernel)
  obtain ⟨ha1, ha2⟩ := id ha
  obtain ⟨hb1, hb2⟩ := id hb9
  refine lv_iconst (v := nI 0) hx hb dX5_addUnits_0 (by decide) ?_
  refine lv_istore (lv' := [(5, .int (nI 0)), (0, .ref m0), (1, .long (Int64.ofInt a)), (3, .long (Int64.ofInt b))]) hx hb dX5_addUnits_1 hl (by decide) rfl (fun ls hl => ?_)
  have L_3 : ∀ (fuel : Nat) (k : Nat) (g : Nat → Int32), wd - k < fuel → (k ≤ wd) → (∀ x, x < wd → g x = Int32.ofInt (U x + if x < k then ovl x a b else 0)) → ∀ (H : Heap) (locs : List Loc) (ls : Array Slot), va_P D qCl [(m0, .inr (5, [.int th, .int (nI wd), .int (nI ht), .int (nI pn), .ref m1, .ref m2, .ref m3, .int (nI cn), .ref m4, .ref m5, .ref m6, .int fl, .int (nI bf), .int (nI bt), .int (nI xn), .ref m7, .ref m8, .ref m9, .int ip, .int (nI ps), .ref ma])), (m9, .inl (cI, 48, .inl g))] H → va_D A [(m0, .inr (5, [.int th, .int (nI wd), .int (nI ht), .int (nI pn), .ref m1, .ref m2, .ref m3, .int (nI cn), .ref m4, .ref m5, .ref m6, .int fl, .int (nI bf), .int (nI bt), .int (nI xn), .ref m7, .ref m8, .ref m9, .int ip, .int (nI ps), .ref ma])), (m9, .inl (cI, 48, .inl g))] → va_S A s.heap H locs → lv_has ls 10 [(5, .int (nI k)), (0, .ref m0), (1, .long (Int64.ofInt a)), (3, .long (Int64.ofInt b))] → W p l e rm_X5_addUnits s m ([.ref m0, .long (Int64.ofInt a), .long (Int64.ofInt b)] : List Value).toArray below meth c H locs 0 0 Q (F0 m 3 ls []) := by
    intro fuel
    induction fuel with
    | zero =>
      intro k g hm
      exact absurd hm (Nat.not_lt_zero _)
    | succ fuel ih_3 =>
      intro k g hm_3 hk hg H locs ls hP hD hS hl
      refine lv_iload hx hb dX5_addUnits_3 (lv_at hl 0 rfl) ?_
      refine lv_aload_n hx hb dX5_addUnits_5 rfl (lv_at hl 1 rfl) ?_
      refine va_get (D := D) (ci := 5) (v := .int (nI wd)) (C := RX5) (T := TX5) (N := 21) hx hb hts iX5 hown hK hP 0 rfl rfl 1 (by decide) f_42 (fun _ h9 => h9) rfl dX5_addUnits_6 ?_
      refine q_ge (tgt := 115) hx hb (by omega) (by omega) dX5_addUnits_9 (by decide) (fun h_9 => ?_) (fun h_9 => ?_)
      · have hr9 : ∀ x, x < wd → g x = Int32.ofInt (U x + ovl x a b) := (fun x hx => by rw [hg x hx, if_pos (by omega)])
        exact hQ _ _ _ _ g _ _ dX5_addUnits_115 (Nat.le_refl _) (Nat.le_refl _) hr9 (hP.sub [0, 1] rfl) hK (hD.sub [0, 1] (by decide) rfl) hS
      have J_35 : ∀ (za : Int), (za = if a < 256 * (k : Int) then 256 * (k : Int) else a) → ∀ (H : Heap) (locs : List Loc) (ls : Array Slot), va_P D qCl [(m0, .inr (5, [.int th, .int (nI wd), .int (nI ht), .int (nI pn), .ref m1, .ref m2, .ref m3, .int (nI cn), .ref m4, .ref m5, .ref m6, .int fl, .int (nI bf), .int (nI bt), .int (nI xn), .ref m7, .ref m8, .ref m9, .int ip, .int (nI ps), .ref ma])), (m9, .inl (cI, 48, .inl g))] H → va_D A [(m0, .inr (5, [.int th, .int (nI wd), .int (nI ht), .int (nI pn), .ref m1, .ref m2, .ref m3, .int (nI cn), .ref m4, .ref m5, .ref m6, .int fl, .int (nI bf), .int (nI bt), .int (nI xn), .ref m7, .ref m8, .ref m9, .int ip, .int (nI ps), .ref ma])), (m9, .inl (cI, 48, .inl g))] → va_S A s.heap H locs → lv_has ls 10 [(5, .int (nI k)), (0, .ref m0), (1, .long (Int64.ofInt a)), (3, .long (Int64.ofInt b))] → W p l e rm_X5_addUnits s m ([.ref m0, .long (Int64.ofInt a), .long (Int64.ofInt b)] : List Value).toArray below meth c H locs 0 0 Q (F0 m 35 ls [.long (Int64.ofInt za)]) := by
        intro za hza H locs ls hP hD hS hl
        refine lv_lstore (lv' := [(6, .long (Int64.ofInt za)), (5, .int (nI k)), (0, .ref m0), (1, .long (Int64.ofInt a)), (3, .long (Int64.ofInt b))]) hx hb dX5_addUnits_35 hl (by decide) rfl (fun ls hl => ?_)
        have J_68 : ∀ (zb : Int), (zb = if b < 256 * (k : Int) + 256 then b else 256 * (k : Int) + 256) → ∀ (H : Heap) (locs : List Loc) (ls : Array Slot), va_P D qCl [(m0, .inr (5, [.int th, .int (nI wd), .int (nI ht), .int (nI pn), .ref m1, .ref m2, .ref m3, .int (nI cn), .ref m4, .ref m5, .ref m6, .int fl, .int (nI bf), .int (nI bt), .int (nI xn), .ref m7, .ref m8, .ref m9, .int ip, .int (nI ps), .ref ma])), (m9, .inl (cI, 48, .inl g))] H → va_D A [(m0, .inr (5, [.int th, .int (nI wd), .int (nI ht), .int (nI pn), .ref m1, .ref m2, .ref m3, .int (nI cn), .ref m4, .ref m5, .ref m6, .int fl, .int (nI bf), .int (nI bt), .int (nI xn), .ref m7, .ref m8, .ref m9, .int ip, .int (nI ps), .ref ma])), (m9, .inl (cI, 48, .inl g))] → va_S A s.heap H locs → lv_has ls 10 [(6, .long (Int64.ofInt za)), (5, .int (nI k)), (0, .ref m0), (1, .long (Int64.ofInt a)), (3, .long (Int64.ofInt b))] → W p l e rm_X5_addUnits s m ([.ref m0, .long (Int64.ofInt a), .long (Int64.ofInt b)] : List Value).toArray below meth c H locs 0 0 Q (F0 m 68 ls [.long (Int64.ofInt zb)]) := by
          intro zb hzb H locs ls hP hD hS hl
          refine lv_lstore (lv' := [(8, .long (Int64.ofInt zb)), (6, .long (Int64.ofInt za)), (5, .int (nI k)), (0, .ref m0), (1, .long (Int64.ofInt a)), (3, .long (Int64.ofInt b))]) hx hb dX5_addUnits_68 hl (by decide) rfl (fun ls hl => ?_)
          have J_108 : ∀ (v : Int32), (v = Int32.ofInt (U k + ovl k a b)) → ∀ (H : Heap) (locs : List Loc) (ls : Array Slot), va_P D qCl [(m0, .inr (5, [.int th, .int (nI wd), .int (nI ht), .int (nI pn), .ref m1, .ref m2, .ref m3, .int (nI cn), .ref m4, .ref m5, .ref m6, .int fl, .int (nI bf), .int (nI bt), .int (nI xn), .ref m7, .ref m8, .ref m9, .int ip, .int (nI ps), .ref ma])), (m9, .inl (cI, 48, .inl g))] H → va_D A [(m0, .inr (5, [.int th, .int (nI wd), .int (nI ht), .int (nI pn), .ref m1, .ref m2, .ref m3, .int (nI cn), .ref m4, .ref m5, .ref m6, .int fl, .int (nI bf), .int (nI bt), .int (nI xn), .ref m7, .ref m8, .ref m9, .int ip, .int (nI ps), .ref ma])), (m9, .inl (cI, 48, .inl g))] → va_S A s.heap H locs → lv_has ls 10 [(8, .long (Int64.ofInt zb)), (6, .long (Int64.ofInt za)), (5, .int (nI k)), (0, .ref m0), (1, .long (Int64.ofInt a)), (3, .long (Int64.ofInt b))] → W p l e rm_X5_addUnits s m ([.ref m0, .long (Int64.ofInt a), .long (Int64.ofInt b)] : List Value).toArray below meth c H locs 0 0 Q (F0 m 108 ls [.int v, .int (nI k), .ref m9]) := by
            intro v hv H locs ls hP hD hS hl
            refine q_iast hx hb hK hP hD hS 1 0 rfl rfl (k := k) (by omega) (by omega) dX5_addUnits_108 (fun H locs hP hD hS => ?_)
            have hP : va_P D qCl [(m0, .inr (5, [.int th, .int (nI wd), .int (nI ht), .int (nI pn), .ref m1, .ref m2, .ref m3, .int (nI cn), .ref m4, .ref m5, .ref m6, .int fl, .int (nI bf), .int (nI bt), .int (nI xn), .ref m7, .ref m8, .ref m9, .int ip, .int (nI ps), .ref ma])), (m9, .inl (cI, 48, .inl (upd g k v)))] H := hP
            have hD : va_D A [(m0, .inr (5, [.int th, .int (nI wd), .int (nI ht), .int (nI pn), .ref m1, .ref m2, .ref m3, .int (nI cn), .ref m4, .ref m5, .ref m6, .int fl, .int (nI bf), .int (nI bt), .int (nI xn), .ref m7, .ref m8, .ref m9, .int ip, .int (nI ps), .ref ma])), (m9, .inl (cI, 48, .inl (upd g k v)))] := hD
            refine lv_iinc (v := nI (k + 1)) (lv' := [(5, .int (nI (k + 1))), (8, .long (Int64.ofInt zb)), (6, .long (Int64.ofInt za)), (0, .ref m0), (1, .long (Int64.ofInt a)), (3, .long (Int64.ofInt b))]) hx hb dX5_addUnits_109 hl (k := 2) rfl (q_inc _) (by decide) rfl (fun ls hl => ?_)
            refine lv_goto (tgt := 3) hx hb dX5_addUnits_112 (by decide) ?_
            exact ih_3 (k + 1) (upd g k v) (by omega) (by omega) (fun x hx => by unfold upd; by_cases c9 : x = k; (· rw [if_pos c9, c9, if_pos (Nat.lt_succ_self k)]; exact hv); (· rw [if_neg c9, hg x hx]; by_cases c8 : x < k; (· rw [if_pos c8, if_pos (show x < k + 1 by omega)]); (· rw [if_neg c8, if_neg (show ¬ x < k + 1 by omega)]))) _ _ _ (hP.sub [0, 1] rfl) (hD.sub [0, 1] (by decide) rfl) hS (lv_sub hl [0, 3, 4, 5] rfl)
          have hza1 : -2000000 ≤ za ∧ za ≤ 2000000 := by rw [hza]; split <;> omega
          have hzb1 : -2000000 ≤ zb ∧ zb ≤ 2000000 := by rw [hzb]; split <;> omega
          refine lv_aload_n hx hb dX5_addUnits_70 rfl (lv_at hl 3 rfl) ?_
          refine va_get (D := D) (ci := 5) (v := .ref m9) (C := RX5) (T := TX5) (N := 21) hx hb hts iX5 hown hK hP 0 rfl rfl 17 (by decide) f_36 (fun _ h9 => h9) rfl dX5_addUnits_71 ?_
          refine lv_iload hx hb dX5_addUnits_74 (lv_at hl 2 rfl) ?_
          refine lv_lload hx hb dX5_addUnits_76 (lv_at hl 0 rfl) ?_
          refine lv_lload hx hb dX5_addUnits_78 (lv_at hl 1 rfl) ?_
          refine W.lcmp hx hb dX5_addUnits_80 ?_
          refine lv_if_le (tgt := 101) hx hb dX5_addUnits_81 (by decide) (fun h_81 => ?_) (fun h_81 => ?_)
          · rw [lgc_le, j_le, w_t (by omega) (by omega), w_t (by omega) (by omega)] at h_81
            refine lv_aload_n hx hb dX5_addUnits_101 rfl (lv_at hl 3 rfl) ?_
            refine va_get (D := D) (ci := 5) (v := .ref m9) (C := RX5) (T := TX5) (N := 21) hx hb hts iX5 hown hK hP 0 rfl rfl 17 (by decide) f_36 (fun _ h9 => h9) rfl dX5_addUnits_102 ?_
            refine lv_iload hx hb dX5_addUnits_105 (lv_at hl 2 rfl) ?_
            refine q_iald hx hb hK hP 1 0 rfl rfl (k := k) (by omega) (by omega) dX5_addUnits_107 ?_
            exact J_108 (g k) (by rw [hg k (by omega), if_neg (Nat.lt_irrefl k), ovl_if, ← hza, ← hzb, if_neg (by omega)]) _ _ _ (hP.sub [0, 1] rfl) (hD.sub [0, 1] (by decide) rfl) hS (lv_sub hl [0, 1, 2, 3, 4, 5] rfl)
          rw [lgc_le, j_le, w_t (by omega) (by omega), w_t (by omega) (by omega)] at h_81
          refine lv_aload_n hx hb dX5_addUnits_84 rfl (lv_at hl 3 rfl) ?_
          refine va_get (D := D) (ci := 5) (v := .ref m9) (C := RX5) (T := TX5) (N := 21) hx hb hts iX5 hown hK hP 0 rfl rfl 17 (by decide) f_36 (fun _ h9 => h9) rfl dX5_addUnits_85 ?_
          refine lv_iload hx hb dX5_addUnits_88 (lv_at hl 2 rfl) ?_
          refine q_iald hx hb hK hP 1 0 rfl rfl (k := k) (by omega) (by omega) dX5_addUnits_90 ?_
          refine lv_lload hx hb dX5_addUnits_91 (lv_at hl 0 rfl) ?_
          refine lv_lload hx hb dX5_addUnits_93 (lv_at hl 1 rfl) ?_
          refine lv_lsub hx hb dX5_addUnits_95 ?_
          refine q_eql (y := Int64.ofInt (zb - za)) (w_sub _ _) ?_
          refine lv_l2i hx hb dX5_addUnits_96 rfl ?_
          refine q_eqi (y := Int32.ofInt (zb - za)) Int64.toInt32_ofInt ?_
          refine lv_iadd hx hb dX5_addUnits_97 ?_
          refine lv_goto (tgt := 108) hx hb dX5_addUnits_98 (by decide) ?_
          exact J_108 ((g k) + (Int32.ofInt (zb - za))) (by rw [hg k (by omega), if_neg (Nat.lt_irrefl k), Int.add_zero, ovl_if, ← hza, ← hzb, if_pos (by omega), z_add]) _ _ _ (hP.sub [0, 1] rfl) (hD.sub [0, 1] (by decide) rfl) hS (lv_sub hl [0, 1, 2, 3, 4, 5] rfl)
        refine lv_lload_n hx hb dX5_addUnits_37 rfl (lv_at hl 4 rfl) ?_
        refine lv_ldc2 hx hb hown k_89 dX5_addUnits_38 ?_
        refine lv_iload hx hb dX5_addUnits_41 (lv_at hl 1 rfl) ?_
        refine lv_i2l hx hb dX5_addUnits_43 rfl ?_
        refine q_eql (y := Int64.ofInt (k : Int)) (j_nI (by omega)) ?_
        refine lv_lmul hx hb dX5_addUnits_44 ?_
        refine q_eql (y := Int64.ofInt (256 * (k : Int))) (w_mul 256 _) ?_
        refine lv_ldc2 hx hb hown k_89 dX5_addUnits_45 ?_
        refine lv_ladd hx hb dX5_addUnits_48 ?_
        refine q_eql (y := Int64.ofInt (256 * (k : Int) + 256)) (w_add _ 256) ?_
        refine W.lcmp hx hb dX5_addUnits_49 ?_
        refine lv_if_ge (tgt := 57) hx hb dX5_addUnits_50 (by decide) (fun h_50 => ?_) (fun h_50 => ?_)
        · rw [lgc_ge, j_le, w_t (by omega) (by omega), w_t (by omega) (by omega)] at h_50
          refine lv_ldc2 hx hb hown k_89 dX5_addUnits_57 ?_
          refine lv_iload hx hb dX5_addUnits_60 (lv_at hl 1 rfl) ?_
          refine lv_i2l hx hb dX5_addUnits_62 rfl ?_
          refine q_eql (y := Int64.ofInt (k : Int)) (j_nI (by omega)) ?_
          refine lv_lmul hx hb dX5_addUnits_63 ?_
          refine q_eql (y := Int64.ofInt (256 * (k : Int))) (w_mul 256 _) ?_
          refine lv_ldc2 hx hb hown k_89 dX5_addUnits_64 ?_
          refine lv_ladd hx hb dX5_addUnits_67 ?_
          refine q_eql (y := Int64.ofInt (256 * (k : Int) + 256)) (w_add _ 256) ?_
          exact J_68 (256 * (k : Int) + 256) (by rw [if_neg (by omega)]) _ _ _ (hP.sub [0, 1] rfl) (hD.sub [0, 1] (by decide) rfl) hS (lv_sub hl [0, 1, 2, 3, 4] rfl)
        rw [lgc_ge, j_le, w_t (by omega) (by omega), w_t (by omega) (by omega)] at h_50
        refine lv_lload_n hx hb dX5_addUnits_53 rfl (lv_at hl 4 rfl) ?_
        refine lv_goto (tgt := 68) hx hb dX5_addUnits_54 (by decide) ?_
        exact J_68 b (by rw [if_pos (by omega)]) _ _ _ (hP.sub [0, 1] rfl) (hD.sub [0, 1] (by decide) rfl) hS (lv_sub hl [0, 1, 2, 3, 4] rfl)
      refine lv_lload_n hx hb dX5_addUnits_12 rfl (lv_at hl 2 rfl) ?_
      refine lv_ldc2 hx hb hown k_89 dX5_addUnits_13 ?_
      refine lv_iload hx hb dX5_addUnits_16 (lv_at hl 0 rfl) ?_
      refine lv_i2l hx hb dX5_addUnits_18 rfl ?_
      refine q_eql (y := Int64.ofInt (k : Int)) (j_nI (by omega)) ?_
      refine lv_lmul hx hb dX5_addUnits_19 ?_
      refine q_eql (y := Int64.ofInt (256 * (k : Int))) (w_mul 256 _) ?_
      refine W.lcmp hx hb dX5_addUnits_20 ?_
      refine lv_if_le (tgt := 28) hx hb dX5_addUnits_21 (by decide) (fun h_21 => ?_) (fun h_21 => ?_)
      · rw [lgc_le, j_le, w_t (by omega) (by omega), w_t (by omega) (by omega)] at h_21
        refine lv_ldc2 hx hb hown k_89 dX5_addUnits_28 ?_
        refine lv_iload hx hb dX5_addUnits_31 (lv_at hl 0 rfl) ?_
        refine lv_i2l hx hb dX5_addUnits_33 rfl ?_
        refine q_eql (y := Int64.ofInt (k : Int)) (j_nI (by omega)) ?_
        refine lv_lmul hx hb dX5_addUnits_34 ?_
        refine q_eql (y := Int64.ofInt (256 * (k : Int))) (w_mul 256 _) ?_
        exact J_35 (256 * (k : Int)) (by split <;> omega) _ _ _ (hP.sub [0, 1] rfl) (hD.sub [0, 1] (by decide) rfl) hS (lv_sub hl [0, 1, 2, 3] rfl)
      rw [lgc_le, j_le, w_t (by omega) (by omega), w_t (by omega) (by omega)] at h_21
      refine lv_lload_n hx hb dX5_addUnits_24 rfl (lv_at hl 2 rfl) ?_
      refine lv_goto (tgt := 35) hx hb dX5_addUnits_25 (by decide) ?_
      exact J_35 a (by split <;> omega) _ _ _ (hP.sub [0, 1] rfl) (hD.sub [0, 1] (by decide) rfl) hS (lv_sub hl [0, 1, 2, 3] rfl)
  exact L_3 _ 0 gu (Nat.lt_succ_self _) (Nat.zero_le _) (fun x hx => by rw [if_neg (Nat.not_lt_zero _), Int.add_zero]; exact hU x hx) _ _ _ (hP.sub [0, 1] rfl) (hD.sub [0, 1] (by decide) rfl) hS (lv_sub hl [0, 1, 2, 3] rfl)

abbrev rm_X5_coverAt : Room := { frames := 0, cells := 0, slots := 0, locals := 0 }
set_option maxHeartbeats 4000000 in
set_option maxRecDepth 100000 in
theorem c_X5_coverAt (l : Launch) (D : va_G) (cI cZ cB cJ : ClassId) (sz : Nat) (m0 : Nat) (m1 : Nat) (m2 : Nat) (m3 : Nat) (m4 : Nat) (m5 : Nat) (m6 : Nat) (m7 : Nat) (m8 : Nat) (m9 : Nat) (ma : Nat) (th : Int32) (wd : Nat) (ht : Nat) (pn : Nat) (cn : Nat) (fl : Int32) (bf : Nat) (bt : Nat) (xn : Nat) (ip : Int32) (ps : Nat) (gu : Nat → Int32) (k : Nat) (hk : k < 48) : Met l yX5_coverAt wsX5_coverAt rm_X5_coverAt (va_Pc [.ref m0, .int (nI k)] (PC D (qT cI cZ cB cJ) [(m0, .inr (5, [.int th, .int (nI wd), .int (nI ht), .int (nI pn), .ref m1, .ref m2, .ref m3, .int (nI cn), .ref m4, .ref m5, .ref m6, .int fl, .int (nI bf), .int (nI bt), .int (nI xn), .ref m7, .ref m8, .ref m9, .int ip, .int (nI ps), .ref ma])), (m9, .inl (cI, 48, .inl gu))] sz)) (va_Qi (fun (r : Int32) (u : Unit) => r = cvv (gu k)) (fun (u : Unit) => PO D (qT cI cZ cB cJ) (va_A [(m0, .inr (5, [.int th, .int (nI wd), .int (nI ht), .int (nI pn), .ref m1, .ref m2, .ref m3, .int (nI cn), .ref m4, .ref m5, .ref m6, .int fl, .int (nI bf), .int (nI bt), .int (nI xn), .ref m7, .ref m8, .ref m9, .int ip, .int (nI ps), .ref ma])), (m9, .inl (cI, 48, .inl gu))] sz) [(m0, .inr (5, [.int th, .int (nI wd), .int (nI ht), .int (nI pn), .ref m1, .ref m2, .ref m3, .int (nI cn), .ref m4, .ref m5, .ref m6, .int fl, .int (nI bf), .int (nI bt), .int (nI xn), .ref m7, .ref m8, .ref m9, .int ip, .int (nI ps), .ref ma])), (m9, .inl (cI, 48, .inl gu))]) (va_A [(m0, .inr (5, [.int th, .int (nI wd), .int (nI ht), .int (nI pn), .ref m1, .ref m2, .ref m3, .int (nI cn), .ref m4, .ref m5, .ref m6, .int fl, .int (nI bf), .int (nI bt), .int (nI xn), .ref m7, .ref m8, .ref m9, .int ip, .int (nI ps), .ref ma])), (m9, .inl (cI, 48, .inl gu))] sz)) 0 0 (va_A [(m0, .inr (5, [.int th, .int (nI wd), .int (nI ht), .int (nI pn), .ref m1, .ref m2, .ref m3, .int (nI cn), .ref m4, .ref m5, .ref m6, .int fl, .int (nI bf), .int (nI bt), .int (nI xn), .ref m7, .ref m8, .ref m9, .int ip, .int (nI ps), .ref ma])), (m9, .inl (cI, 48, .inl gu))] sz) := by
  refine q_entI (cc := cX5_coverAt) (maxL := 2) (by decide +kernel) rfl (Nat.le_of_ble_eq_true rfl) ?_
  intro p e s m below meth c A Q ls hq hl hQ
  obtain ⟨hx, hb, hml, hts, hown, hin, hN, hK, hsz, hA, hP, hD, hS⟩ := hq
  have hown : s.vm.findClass RX5 = some m.cls := hown
  obtain ⟨H, hH⟩ : ∃ H, H = s.heap := ⟨_, rfl⟩
  rw [← hH] at hP ⊢
  have hS : va_S A s.heap H [] := by rw [hH]; exact va_S.rf
  clear hH
  have hl : lv_has ls 2 [(0, .ref m0), (1, .int (nI k))] := hl
  have iX5 : ∀ w ∈ wsX50, w ∈ wsX5_coverAt := by decide +kernel
  have f_36 := hts (.fieldLink RX5 36 "RasterCoverModel" "units" "[I") (by decide +kernel)
  refine lv_aload_n hx hb dX5_coverAt_0 rfl (lv_at hl 0 rfl) ?_
  refine va_get (D := D) (ci := 5) (v := .ref m9) (C := RX5) (T := TX5) (N := 21) hx hb hts iX5 hown hK hP 0 rfl rfl 17 (by decide) f_36 (fun _ h9 => h9) rfl dX5_coverAt_1 ?_
  refine lv_iload_n hx hb dX5_coverAt_4 rfl (lv_at hl 1 rfl) ?_
  refine q_iald hx hb hK hP 1 0 rfl rfl (k := k) (by omega) (by omega) dX5_coverAt_5 ?_
  refine lv_sipush (v := nI 255) hx hb dX5_coverAt_6 (by decide) ?_
  refine lv_imul hx hb dX5_coverAt_9 ?_
  refine lv_sipush (v := nI 2048) hx hb dX5_coverAt_10 (by decide) ?_
  refine lv_iadd hx hb dX5_coverAt_13 ?_
  refine lv_sipush (v := nI 4096) hx hb dX5_coverAt_14 (by decide) ?_
  refine lv_idiv hx hb dX5_coverAt_17 (by decide) ?_
  refine q_eqi (y := cvv (gu k)) rfl ?_
  have hr9 : (cvv (gu k)) = cvv (gu k) := rfl
  exact hQ _ _ _ _ (cvv (gu k)) () _ _ dX5_coverAt_18 (Nat.le_refl _) (Nat.le_refl _) hr9 (hP.sub [0, 1] rfl) hK (hD.sub [0, 1] (by decide) rfl) hS

abbrev rm_X5_mul : Room := { frames := 0, cells := 0, slots := 0, locals := 0 }
set_option maxHeartbeats 4000000 in
set_option maxRecDepth 100000 in
theorem c_X5_mul (l : Launch) (D : va_G) (cI cZ cB cJ : ClassId) (sz : Nat) (a : Int32) (b : Int32) : Met l yX5_mul wsX5_mul rm_X5_mul (va_Pc [.int a, .int b] (PC D (qT cI cZ cB cJ) [] sz)) (va_Qi (fun (r : Int32) (u : Unit) => r = mulv a b) (fun (u : Unit) => PO D (qT cI cZ cB cJ) (va_A [] sz) []) (va_A [] sz)) 0 0 (va_A [] sz) := by
  refine q_entI (cc := cX5_mul) (maxL := 2) (by decide +kernel) rfl (Nat.le_of_ble_eq_true rfl) ?_
  intro p e s m below meth c A Q ls hq hl hQ
  obtain ⟨hx, hb, hml, hts, hown, hin, hN, hK, hsz, hA, hP, hD, hS⟩ := hq
  have hown : s.vm.findClass RX5 = some m.cls := hown
  obtain ⟨H, hH⟩ : ∃ H, H = s.heap := ⟨_, rfl⟩
  rw [← hH] at hP ⊢
  have hS : va_S A s.heap H [] := by rw [hH]; exact va_S.rf
  clear hH
  have hl : lv_has ls 2 [(0, .int a), (1, .int b)] := hl
  refine lv_iload_n hx hb dX5_mul_0 rfl (lv_at hl 0 rfl) ?_
  refine lv_iload_n hx hb dX5_mul_1 rfl (lv_at hl 1 rfl) ?_
  refine lv_imul hx hb dX5_mul_2 ?_
  refine lv_bipush (v := nI 127) hx hb dX5_mul_3 (by decide) ?_
  refine lv_iadd hx hb dX5_mul_5 ?_
  refine lv_sipush (v := nI 255) hx hb dX5_mul_6 (by decide) ?_
  refine lv_idiv hx hb dX5_mul_9 (by decide) ?_
  have hr9 : (((a * b) + (nI 127)) / (nI 255)) = mulv a b := rfl
  exact hQ _ _ _ _ (((a * b) + (nI 127)) / (nI 255)) () _ _ dX5_mul_10 (Nat.le_refl _) (Nat.le_refl _) hr9 (hP.sub [] rfl) hK (hD.sub [] (by decide) rfl) hS

abbrev rm_X5_coverRow : Room := { frames := 3, cells := 0, slots := 0, locals := 77 }
set_option maxHeartbeats 4000000 in
set_option maxRecDepth 100000 in
/-- the reference: coverRow -/
theorem c_X5_coverRow (l : Launch) (D : va_G) (cI cZ cB cJ : ClassId) (sz : Nat) (m0 : Nat) (m1 : Nat) (m2 : Nat) (m3 : Nat) (m4 : Nat) (m5 : Nat) (m6 : Nat) (m7 : Nat) (m8 : Nat) (m9 : Nat) (ma : Nat) (th : Int32) (wd : Nat) (ht : Nat) (pn : Nat) (cn : Nat) (fl : Int32) (bf : Nat) (bt : Nat) (xn : Nat) (ip : Int32) (ps : Nat) (gx : Nat → Int64) (gy : Nat → Int64) (gb : Nat → Int32) (X : Nat → Int) (Y : Nat → Int) (bg : Nat → Int32) (gp : Nat → Int64) (gt : Nat → Int32) (gu : Nat → Int32) (rl : Int32) (row : Nat) (hw : wd ≤ 48) (hrow : row < 48) (hR : PathM gx gy gb X Y bg cn) : Met l yX5_coverRow wsX5_coverRow rm_X5_coverRow (va_Pc [.ref m0, .int rl, .int (nI row)] (PC D (qT cI cZ cB cJ) [(m0, .inr (5, [.int th, .int (nI wd), .int (nI ht), .int (nI pn), .ref m1, .ref m2, .ref m3, .int (nI cn), .ref m4, .ref m5, .ref m6, .int fl, .int (nI bf), .int (nI bt), .int (nI xn), .ref m7, .ref m8, .ref m9, .int ip, .int (nI ps), .ref ma])), (m4, .inl (cJ, 100, .inr (.inl gx))), (m5, .inl (cJ, 100, .inr (.inl gy))), (m6, .inl (cZ, 100, .inl gb)), (m7, .inl (cJ, 200, .inr (.inl gp))), (m8, .inl (cI, 200, .inl gt)), (m9, .inl (cI, 48, .inl gu))] sz)) (va_Qv (fun (u : (Nat → Int32) × (Nat → Int64) × (Nat → Int32) × Nat) => ∀ x, x < wd → u.1 x = Int32.ofInt (cov rl X Y bg cn row 16 x)) (fun (u : (Nat → Int32) × (Nat → Int64) × (Nat → Int32) × Nat) => PO D (qT cI cZ cB cJ) (va_A [(m0, .inr (5, [.int th, .int (nI wd), .int (nI ht), .int (nI pn), .ref m1, .ref m2, .ref m3, .int (nI cn), .ref m4, .ref m5, .ref m6, .int fl, .int (nI bf), .int (nI bt), .int (nI xn), .ref m7, .ref m8, .ref m9, .int ip, .int (nI ps), .ref ma])), (m4, .inl (cJ, 100, .inr (.inl gx))), (m5, .inl (cJ, 100, .inr (.inl gy))), (m6, .inl (cZ, 100, .inl gb)), (m7, .inl (cJ, 200, .inr (.inl gp))), (m8, .inl (cI, 200, .inl gt)), (m9, .inl (cI, 48, .inl gu))] sz) [(m0, .inr (5, [.int th, .int (nI wd), .int (nI ht), .int (nI pn), .ref m1, .ref m2, .ref m3, .int (nI cn), .ref m4, .ref m5, .ref m6, .int fl, .int (nI bf), .int (nI bt), .int (nI u.2.2.2), .ref m7, .ref m8, .ref m9, .int ip, .int (nI ps), .ref ma])), (m4, .inl (cJ, 100, .inr (.inl gx))), (m5, .inl (cJ, 100, .inr (.inl gy))), (m6, .inl (cZ, 100, .inl gb)), (m7, .inl (cJ, 200, .inr (.inl u.2.1))), (m8, .inl (cI, 200, .inl u.2.2.1)), (m9, .inl (cI, 48, .inl u.1))]) (va_A [(m0, .inr (5, [.int th, .int (nI wd), .int (nI ht), .int (nI pn), .ref m1, .ref m2, .ref m3, .int (nI cn), .ref m4, .ref m5, .ref m6, .int fl, .int (nI bf), .int (nI bt), .int (nI xn), .ref m7, .ref m8, .ref m9, .int ip, .int (nI ps), .ref ma])), (m4, .inl (cJ, 100, .inr (.inl gx))), (m5, .inl (cJ, 100, .inr (.inl gy))), (m6, .inl (cZ, 100, .inl gb)), (m7, .inl (cJ, 200, .inr (.inl gp))), (m8, .inl (cI, 200, .inl gt)), (m9, .inl (cI, 48, .inl gu))] sz)) 0 0 (va_A [(m0, .inr (5, [.int th, .int (nI wd), .int (nI ht), .int (nI pn), .ref m1, .ref m2, .ref m3, .int (nI cn), .ref m4, .ref m5, .ref m6, .int fl, .int (nI bf), .int (nI bt), .int (nI xn), .ref m7, .ref m8, .ref m9, .int ip, .int (nI ps), .ref ma])), (m4, .inl (cJ, 100, .inr (.inl gx))), (m5, .inl (cJ, 100, .inr (.inl gy))), (m6, .inl (cZ, 100, .inl gb)), (m7, .inl (cJ, 200, .inr (.inl gp))), (m8, .inl (cI, 200, .inl gt)), (m9, .inl (cI, 48, .inl gu))] sz) := by
  refine q_entV (cc := cX5_coverRow) (maxL := 9) (by decide +kernel) rfl (Nat.le_of_ble_eq_true rfl) ?_
  intro p e s m below meth c A Q ls hq hl hQ
  obtain ⟨hx, hb, hml, hts, hown, hin, hN, hK, hsz, hA, hP, hD, hS⟩ := hq
  have hown : s.vm.findClass RX5 = some m.cls := hown
  obtain ⟨H, hH⟩ : ∃ H, H = s.heap := ⟨_, rfl⟩
  rw [← hH] at hP ⊢
  have hS : va_S A s.heap H [] := by rw [hH]; exact va_S.rf
  clear hH
  have hl : lv_has ls 9 [(0, .ref m0), (1, .int rl), (2, .int (nI row))] := hl
  have iX5 : ∀ w ∈ wsX50, w ∈ wsX5_coverRow := by decide +kernel
  have f_42 := hts (.fieldLink RX5 42 "RasterCoverModel" "wide" "I") (by decide +kernel)
  have k_91 := hts (.constantLong RX5 91 (16)) (by decide +kernel)
  have k_93 := hts (.constantLong RX5 93 (8)) (by decide +kernel)
  have f_78 := hts (.fieldLink RX5 78 "RasterCoverModel" "crossings" "I") (by decide +kernel)
  have k_99 := hts (.constantLong RX5 99 (9000000)) (by decide +kernel)
  have f_30 := hts (.fieldLink RX5 30 "RasterCoverModel" "place" "[J") (by decide +kernel)
  have f_36 := hts (.fieldLink RX5 36 "RasterCoverModel" "units" "[I") (by decide +kernel)
  have hcn9 := hR.1
  refine lv_iconst (v := nI 0) hx hb dX5_coverRow_0 (by decide) ?_
  refine lv_istore_n (lv' := [(3, .int (nI 0)), (0, .ref m0), (1, .int rl), (2, .int (nI row))]) hx hb dX5_coverRow_1 rfl hl (by decide) rfl (fun ls hl => ?_)
  have L_2 : ∀ (fuel : Nat) (k : Nat) (g : Nat → Int32), wd - k < fuel → (k ≤ wd) → (∀ x, x < k → g x = Int32.ofInt 0) → ∀ (H : Heap) (locs : List Loc) (ls : Array Slot), va_P D qCl [(m0, .inr (5, [.int th, .int (nI wd), .int (nI ht), .int (nI pn), .ref m1, .ref m2, .ref m3, .int (nI cn), .ref m4, .ref m5, .ref m6, .int fl, .int (nI bf), .int (nI bt), .int (nI xn), .ref m7, .ref m8, .ref m9, .int ip, .int (nI ps), .ref ma])), (m4, .inl (cJ, 100, .inr (.inl gx))), (m5, .inl (cJ, 100, .inr (.inl gy))), (m6, .inl (cZ, 100, .inl gb)), (m7, .inl (cJ, 200, .inr (.inl gp))), (m8, .inl (cI, 200, .inl gt)), (m9, .inl (cI, 48, .inl g))] H → va_D A [(m0, .inr (5, [.int th, .int (nI wd), .int (nI ht), .int (nI pn), .ref m1, .ref m2, .ref m3, .int (nI cn), .ref m4, .ref m5, .ref m6, .int fl, .int (nI bf), .int (nI bt), .int (nI xn), .ref m7, .ref m8, .ref m9, .int ip, .int (nI ps), .ref ma])), (m4, .inl (cJ, 100, .inr (.inl gx))), (m5, .inl (cJ, 100, .inr (.inl gy))), (m6, .inl (cZ, 100, .inl gb)), (m7, .inl (cJ, 200, .inr (.inl gp))), (m8, .inl (cI, 200, .inl gt)), (m9, .inl (cI, 48, .inl g))] → va_S A s.heap H locs → lv_has ls 9 [(3, .int (nI k)), (0, .ref m0), (1, .int rl), (2, .int (nI row))] → W p l e rm_X5_coverRow s m ([.ref m0, .int rl, .int (nI row)] : List Value).toArray below meth c H locs 0 0 Q (F0 m 2 ls []) := by
    intro fuel
    induction fuel with
    | zero =>
      intro k g hm
      exact absurd hm (Nat.not_lt_zero _)
    | succ fuel ih_2 =>
      intro k g hm_2 hk hg H locs ls hP hD hS hl
      refine lv_iload_n hx hb dX5_coverRow_2 rfl (lv_at hl 0 rfl) ?_
      refine lv_aload_n hx hb dX5_coverRow_3 rfl (lv_at hl 1 rfl) ?_
      refine va_get (D := D) (ci := 5) (v := .int (nI wd)) (C := RX5) (T := TX5) (N := 21) hx hb hts iX5 hown hK hP 0 rfl rfl 1 (by decide) f_42 (fun _ h9 => h9) rfl dX5_coverRow_4 ?_
      refine q_ge (tgt := 23) hx hb (by omega) (by omega) dX5_coverRow_7 (by decide) (fun h_7 => ?_) (fun h_7 => ?_)
      · refine lv_iconst (v := nI 0) hx hb dX5_coverRow_23 (by decide) ?_
        refine lv_istore_n (lv' := [(3, .int (nI 0)), (0, .ref m0), (1, .int rl), (2, .int (nI row))]) hx hb dX5_coverRow_24 rfl hl (by decide) rfl (fun ls hl => ?_)
        have L_25 : ∀ (fuel : Nat) (j : Nat) (nn : Nat) (gp2 : Nat → Int64) (gt2 : Nat → Int32) (g1 : Nat → Int32), 16 - j < fuel → (j ≤ 16) → (∀ x, x < wd → g1 x = Int32.ofInt (cov rl X Y bg cn row j x)) → ∀ (H : Heap) (locs : List Loc) (ls : Array Slot), va_P D qCl [(m0, .inr (5, [.int th, .int (nI wd), .int (nI ht), .int (nI pn), .ref m1, .ref m2, .ref m3, .int (nI cn), .ref m4, .ref m5, .ref m6, .int fl, .int (nI bf), .int (nI bt), .int (nI nn), .ref m7, .ref m8, .ref m9, .int ip, .int (nI ps), .ref ma])), (m4, .inl (cJ, 100, .inr (.inl gx))), (m5, .inl (cJ, 100, .inr (.inl gy))), (m6, .inl (cZ, 100, .inl gb)), (m7, .inl (cJ, 200, .inr (.inl gp2))), (m8, .inl (cI, 200, .inl gt2)), (m9, .inl (cI, 48, .inl g1))] H → va_D A [(m0, .inr (5, [.int th, .int (nI wd), .int (nI ht), .int (nI pn), .ref m1, .ref m2, .ref m3, .int (nI cn), .ref m4, .ref m5, .ref m6, .int fl, .int (nI bf), .int (nI bt), .int (nI nn), .ref m7, .ref m8, .ref m9, .int ip, .int (nI ps), .ref ma])), (m4, .inl (cJ, 100, .inr (.inl gx))), (m5, .inl (cJ, 100, .inr (.inl gy))), (m6, .inl (cZ, 100, .inl gb)), (m7, .inl (cJ, 200, .inr (.inl gp2))), (m8, .inl (cI, 200, .inl gt2)), (m9, .inl (cI, 48, .inl g1))] → va_S A s.heap H locs → lv_has ls 9 [(3, .int (nI j)), (0, .ref m0), (1, .int rl), (2, .int (nI row))] → W p l e rm_X5_coverRow s m ([.ref m0, .int rl, .int (nI row)] : List Value).toArray below meth c H locs 0 0 Q (F0 m 25 ls []) := by
          intro fuel
          induction fuel with
          | zero =>
            intro j nn gp2 gt2 g1 hm
            exact absurd hm (Nat.not_lt_zero _)
          | succ fuel ih_25 =>
            intro j nn gp2 gt2 g1 hm_25 hj hg1 H locs ls hP hD hS hl
            refine lv_iload_n hx hb dX5_coverRow_25 rfl (lv_at hl 0 rfl) ?_
            refine lv_bipush (v := nI 16) hx hb dX5_coverRow_26 (by decide) ?_
            refine q_ge (tgt := 226) hx hb (by omega) (by omega) dX5_coverRow_28 (by decide) (fun h_28 => ?_) (fun h_28 => ?_)
            · have hr9 : ∀ x, x < wd → g1 x = Int32.ofInt (cov rl X Y bg cn row 16 x) := (fun x hx => by rw [hg1 x hx, show j = 16 by omega])
              exact hQ _ _ _ _ (g1, gp2, gt2, nn) _ _ dX5_coverRow_226 (Nat.le_refl _) (Nat.le_refl _) hr9 (hP.sub [0, 1, 2, 3, 4, 5, 6] rfl) hK (hD.sub [0, 1, 2, 3, 4, 5, 6] (by decide) rfl) hS
            refine lv_aload_n hx hb dX5_coverRow_31 rfl (lv_at hl 1 rfl) ?_
            refine lv_ldc2 hx hb hown k_91 dX5_coverRow_32 ?_
            refine lv_ldc2 hx hb hown k_91 dX5_coverRow_35 ?_
            refine lv_iload_n hx hb dX5_coverRow_38 rfl (lv_at hl 3 rfl) ?_
            refine lv_i2l hx hb dX5_coverRow_39 rfl ?_
            refine q_eql (y := Int64.ofInt ((row : Int))) (j_nI (by omega)) ?_
            refine lv_lmul hx hb dX5_coverRow_40 ?_
            refine q_eql (y := Int64.ofInt (16 * (row : Int))) (w_mul 16 _) ?_
            refine lv_iload_n hx hb dX5_coverRow_41 rfl (lv_at hl 0 rfl) ?_
            refine lv_i2l hx hb dX5_coverRow_42 rfl ?_
            refine q_eql (y := Int64.ofInt ((j : Int))) (j_nI (by omega)) ?_
            refine lv_ladd hx hb dX5_coverRow_43 ?_
            refine q_eql (y := Int64.ofInt (16 * (row : Int) + (j : Int))) (w_add _ _) ?_
            refine lv_lmul hx hb dX5_coverRow_44 ?_
            refine q_eql (y := Int64.ofInt (16 * (16 * (row : Int) + (j : Int)))) (w_mul 16 _) ?_
            refine lv_ldc2 hx hb hown k_93 dX5_coverRow_45 ?_
            refine lv_ladd hx hb dX5_coverRow_48 ?_
            refine q_eql (y := Int64.ofInt (16 * (16 * (row : Int) + (j : Int)) + 8)) (w_add _ 8) ?_
            refine q_v0 (wr := [(m9, .inl (cI, 48, .inl g1))]) (va_runV (As := [.long (Int64.ofInt (16 * (16 * (row : Int) + (j : Int)) + 8))]) (rest := []) ⟨hx, hb, hml, hown, hts⟩ (c_X5_crossAll l D cI cZ cB cJ H.size m0 m1 m2 m3 m4 m5 m6 m7 m8 m9 ma th wd ht pn cn fl bf bt nn ip ps gx gy gb X Y bg gp2 gt2 (16 * (16 * (row : Int) + (j : Int)) + 8) hR (by omega)) (cwV 1 hts gX5_coverRow_X5_crossAll rfl rfl rfl (by decide +kernel) ⟨Nat.le_of_ble_eq_true rfl, Nat.le_of_ble_eq_true rfl⟩) (q_preV (q_pre (wc := [(m0, .inr (5, [.int th, .int (nI wd), .int (nI ht), .int (nI pn), .ref m1, .ref m2, .ref m3, .int (nI cn), .ref m4, .ref m5, .ref m6, .int fl, .int (nI bf), .int (nI bt), .int (nI nn), .ref m7, .ref m8, .ref m9, .int ip, .int (nI ps), .ref ma])), (m4, .inl (cJ, 100, .inr (.inl gx))), (m5, .inl (cJ, 100, .inr (.inl gy))), (m6, .inl (cZ, 100, .inl gb)), (m7, .inl (cJ, 200, .inr (.inl gp2))), (m8, .inl (cI, 200, .inl gt2))]) hP hD hK hN [0, 1, 2, 3, 4, 5] (by decide) rfl) (va_recv hK hP (ci := 5) (q0 := 0) rfl rfl)) rfl rfl hl.1 rfl (lv_room (Nat.le_of_ble_eq_true rfl)) dX5_coverRow_49 ⟨Nat.zero_le _, Nat.zero_le _⟩) hS hA hP hD [0, 1, 2, 3, 4, 5] [6] rfl rfl (by decide) (by decide) (fun u H locs hp_49 hP hD hS => ?_)
            obtain ⟨gp3, gt3, n3⟩ := u
            have hP : va_P D qCl [(m9, .inl (cI, 48, .inl g1)), (m0, .inr (5, [.int th, .int (nI wd), .int (nI ht), .int (nI pn), .ref m1, .ref m2, .ref m3, .int (nI cn), .ref m4, .ref m5, .ref m6, .int fl, .int (nI bf), .int (nI bt), .int (nI n3), .ref m7, .ref m8, .ref m9, .int ip, .int (nI ps), .ref ma])), (m4, .inl (cJ, 100, .inr (.inl gx))), (m5, .inl (cJ, 100, .inr (.inl gy))), (m6, .inl (cZ, 100, .inl gb)), (m7, .inl (cJ, 200, .inr (.inl gp3))), (m8, .inl (cI, 200, .inl gt3))] H := hP
            have hD : va_D A [(m9, .inl (cI, 48, .inl g1)), (m0, .inr (5, [.int th, .int (nI wd), .int (nI ht), .int (nI pn), .ref m1, .ref m2, .ref m3, .int (nI cn), .ref m4, .ref m5, .ref m6, .int fl, .int (nI bf), .int (nI bt), .int (nI n3), .ref m7, .ref m8, .ref m9, .int ip, .int (nI ps), .ref ma])), (m4, .inl (cJ, 100, .inr (.inl gx))), (m5, .inl (cJ, 100, .inr (.inl gy))), (m6, .inl (cZ, 100, .inl gb)), (m7, .inl (cJ, 200, .inr (.inl gp3))), (m8, .inl (cI, 200, .inl gt3))] := hD
            have hp_49 : CM gp3 gt3 n3 (fun f => muL X Y bg cn (16 * (16 * (row : Int) + (j : Int)) + 8) cn f) ∧ n3 ≤ cn := hp_49
            obtain ⟨P, T, hz1, hm⟩ := id hp_49.1
            have hn3 := hp_49.2
            refine lv_iconst (v := nI 0) hx hb dX5_coverRow_52 (by decide) ?_
            refine lv_istore (lv' := [(4, .int (nI 0)), (3, .int (nI j)), (0, .ref m0), (1, .int rl), (2, .int (nI row))]) hx hb dX5_coverRow_53 hl (by decide) rfl (fun ls hl => ?_)
            have L_55 : ∀ (fuel : Nat) (k : Nat) (g2 : Nat → Int32), n3 - k < fuel → (k ≤ n3) → (∀ x, x < wd → g2 x = Int32.ofInt (cov rl X Y bg cn row j x + sumN (k) (fun zk => mdT rl (fun f => muL X Y bg cn (16 * (16 * (row : Int) + (j : Int)) + 8) cn f) P n3 x zk))) → ∀ (H : Heap) (locs : List Loc) (ls : Array Slot), va_P D qCl [(m9, .inl (cI, 48, .inl g2)), (m0, .inr (5, [.int th, .int (nI wd), .int (nI ht), .int (nI pn), .ref m1, .ref m2, .ref m3, .int (nI cn), .ref m4, .ref m5, .ref m6, .int fl, .int (nI bf), .int (nI bt), .int (nI n3), .ref m7, .ref m8, .ref m9, .int ip, .int (nI ps), .ref ma])), (m4, .inl (cJ, 100, .inr (.inl gx))), (m5, .inl (cJ, 100, .inr (.inl gy))), (m6, .inl (cZ, 100, .inl gb)), (m7, .inl (cJ, 200, .inr (.inl gp3))), (m8, .inl (cI, 200, .inl gt3))] H → va_D A [(m9, .inl (cI, 48, .inl g2)), (m0, .inr (5, [.int th, .int (nI wd), .int (nI ht), .int (nI pn), .ref m1, .ref m2, .ref m3, .int (nI cn), .ref m4, .ref m5, .ref m6, .int fl, .int (nI bf), .int (nI bt), .int (nI n3), .ref m7, .ref m8, .ref m9, .int ip, .int (nI ps), .ref ma])), (m4, .inl (cJ, 100, .inr (.inl gx))), (m5, .inl (cJ, 100, .inr (.inl gy))), (m6, .inl (cZ, 100, .inl gb)), (m7, .inl (cJ, 200, .inr (.inl gp3))), (m8, .inl (cI, 200, .inl gt3))] → va_S A s.heap H locs → lv_has ls 9 [(4, .int (nI k)), (3, .int (nI j)), (0, .ref m0), (1, .int rl), (2, .int (nI row))] → W p l e rm_X5_coverRow s m ([.ref m0, .int rl, .int (nI row)] : List Value).toArray below meth c H locs 0 0 Q (F0 m 55 ls []) := by
              intro fuel
              induction fuel with
              | zero =>
                intro k g2 hm
                exact absurd hm (Nat.not_lt_zero _)
              | succ fuel ih_55 =>
                intro k g2 hm_55 hk hg2 H locs ls hP hD hS hl
                refine lv_iload hx hb dX5_coverRow_55 (lv_at hl 0 rfl) ?_
                refine lv_aload_n hx hb dX5_coverRow_57 rfl (lv_at hl 2 rfl) ?_
                refine va_get (D := D) (ci := 5) (v := .int (nI n3)) (C := RX5) (T := TX5) (N := 21) hx hb hts iX5 hown hK hP 1 rfl rfl 14 (by decide) f_78 (fun _ h9 => h9) rfl dX5_coverRow_58 ?_
                refine q_ge (tgt := 220) hx hb (by omega) (by omega) dX5_coverRow_61 (by decide) (fun h_61 => ?_) (fun h_61 => ?_)
                · have e9 : k = n3 := by omega
                  refine lv_iinc (v := nI (j + 1)) (lv' := [(3, .int (nI (j + 1))), (4, .int (nI k)), (0, .ref m0), (1, .int rl), (2, .int (nI row))]) hx hb dX5_coverRow_220 hl (k := 1) rfl (q_inc _) (by decide) rfl (fun ls hl => ?_)
                  refine lv_goto (tgt := 25) hx hb dX5_coverRow_223 (by decide) ?_
                  exact ih_25 (j + 1) n3 gp3 gt3 g2 (by omega) (by omega) (fun x hx => by rw [hg2 x hx, e9, md_cu (fun j hj => (hz1 j hj).2.2) hm x]; rfl) _ _ _ (hP.sub [1, 2, 3, 4, 5, 6, 0] rfl) (hD.sub [1, 2, 3, 4, 5, 6, 0] (by decide) rfl) hS (lv_sub hl [0, 2, 3, 4] rfl)
                obtain ⟨hbk1, hbk2⟩ := (hz1 k (by omega)).2.2
                refine lv_iconst (v := nI 0) hx hb dX5_coverRow_64 (by decide) ?_
                refine lv_istore (lv' := [(5, .int (nI 0)), (4, .int (nI k)), (3, .int (nI j)), (0, .ref m0), (1, .int rl), (2, .int (nI row))]) hx hb dX5_coverRow_65 hl (by decide) rfl (fun ls hl => ?_)
                refine lv_ldc2 hx hb hown k_99 dX5_coverRow_67 ?_
                refine q_eql (y := Int64.ofInt 9000000) (by decide) ?_
                refine lv_lstore (lv' := [(6, .long (Int64.ofInt 9000000)), (5, .int (nI 0)), (4, .int (nI k)), (3, .int (nI j)), (0, .ref m0), (1, .int rl), (2, .int (nI row))]) hx hb dX5_coverRow_70 hl (by decide) rfl (fun ls hl => ?_)
                refine lv_iconst (v := nI 0) hx hb dX5_coverRow_72 (by decide) ?_
                refine lv_istore (lv' := [(8, .int (nI 0)), (6, .long (Int64.ofInt 9000000)), (5, .int (nI 0)), (4, .int (nI k)), (3, .int (nI j)), (0, .ref m0), (1, .int rl), (2, .int (nI row))]) hx hb dX5_coverRow_73 hl (by decide) rfl (fun ls hl => ?_)
                have L_75 : ∀ (fuel : Nat) (i : Nat) (ag : Nat) (nx : Int), n3 - i < fuel → (i ≤ n3) → (ag = agN P k i) → (nx = nxM P k i) → ∀ (H : Heap) (locs : List Loc) (ls : Array Slot), va_P D qCl [(m9, .inl (cI, 48, .inl g2)), (m0, .inr (5, [.int th, .int (nI wd), .int (nI ht), .int (nI pn), .ref m1, .ref m2, .ref m3, .int (nI cn), .ref m4, .ref m5, .ref m6, .int fl, .int (nI bf), .int (nI bt), .int (nI n3), .ref m7, .ref m8, .ref m9, .int ip, .int (nI ps), .ref ma])), (m4, .inl (cJ, 100, .inr (.inl gx))), (m5, .inl (cJ, 100, .inr (.inl gy))), (m6, .inl (cZ, 100, .inl gb)), (m7, .inl (cJ, 200, .inr (.inl gp3))), (m8, .inl (cI, 200, .inl gt3))] H → va_D A [(m9, .inl (cI, 48, .inl g2)), (m0, .inr (5, [.int th, .int (nI wd), .int (nI ht), .int (nI pn), .ref m1, .ref m2, .ref m3, .int (nI cn), .ref m4, .ref m5, .ref m6, .int fl, .int (nI bf), .int (nI bt), .int (nI n3), .ref m7, .ref m8, .ref m9, .int ip, .int (nI ps), .ref ma])), (m4, .inl (cJ, 100, .inr (.inl gx))), (m5, .inl (cJ, 100, .inr (.inl gy))), (m6, .inl (cZ, 100, .inl gb)), (m7, .inl (cJ, 200, .inr (.inl gp3))), (m8, .inl (cI, 200, .inl gt3))] → va_S A s.heap H locs → lv_has ls 9 [(8, .int (nI i)), (6, .long (Int64.ofInt nx)), (5, .int (nI ag)), (4, .int (nI k)), (3, .int (nI j)), (0, .ref m0), (1, .int rl), (2, .int (nI row))] → W p l e rm_X5_coverRow s m ([.ref m0, .int rl, .int (nI row)] : List Value).toArray below meth c H locs 0 0 Q (F0 m 75 ls []) := by
                  intro fuel
                  induction fuel with
                  | zero =>
                    intro i ag nx hm
                    exact absurd hm (Nat.not_lt_zero _)
                  | succ fuel ih_75 =>
                    intro i ag nx hm_75 hi hag hnx H locs ls hP hD hS hl
                    refine lv_iload hx hb dX5_coverRow_75 (lv_at hl 0 rfl) ?_
                    refine lv_aload_n hx hb dX5_coverRow_77 rfl (lv_at hl 5 rfl) ?_
                    refine va_get (D := D) (ci := 5) (v := .int (nI n3)) (C := RX5) (T := TX5) (N := 21) hx hb hts iX5 hown hK hP 1 rfl rfl 14 (by decide) f_78 (fun _ h9 => h9) rfl dX5_coverRow_78 ?_
                    refine q_ge (tgt := 172) hx hb (by omega) (by omega) dX5_coverRow_81 (by decide) (fun h_81 => ?_) (fun h_81 => ?_)
                    · have hag9 := agN_le P k n3
                      have e9 : i = n3 := by omega
                      rw [e9] at hag hnx
                      obtain ⟨⟨hnb1, hnb2⟩, hnb3⟩ := nxM_bd (P := P) (k := k) (n := n3) (fun j hj => (hz1 j hj).2.2) (Nat.le_refl n3)
                      have J_214 : ∀ (g3 : Nat → Int32), (∀ x, x < wd → g3 x = Int32.ofInt (cov rl X Y bg cn row j x + sumN (k + 1) (fun zk => mdT rl (fun f => muL X Y bg cn (16 * (16 * (row : Int) + (j : Int)) + 8) cn f) P n3 x zk))) → ∀ (H : Heap) (locs : List Loc) (ls : Array Slot), va_P D qCl [(m9, .inl (cI, 48, .inl g3)), (m0, .inr (5, [.int th, .int (nI wd), .int (nI ht), .int (nI pn), .ref m1, .ref m2, .ref m3, .int (nI cn), .ref m4, .ref m5, .ref m6, .int fl, .int (nI bf), .int (nI bt), .int (nI n3), .ref m7, .ref m8, .ref m9, .int ip, .int (nI ps), .ref ma])), (m4, .inl (cJ, 100, .inr (.inl gx))), (m5, .inl (cJ, 100, .inr (.inl gy))), (m6, .inl (cZ, 100, .inl gb)), (m7, .inl (cJ, 200, .inr (.inl gp3))), (m8, .inl (cI, 200, .inl gt3))] H → va_D A [(m9, .inl (cI, 48, .inl g3)), (m0, .inr (5, [.int th, .int (nI wd), .int (nI ht), .int (nI pn), .ref m1, .ref m2, .ref m3, .int (nI cn), .ref m4, .ref m5, .ref m6, .int fl, .int (nI bf), .int (nI bt), .int (nI n3), .ref m7, .ref m8, .ref m9, .int ip, .int (nI ps), .ref ma])), (m4, .inl (cJ, 100, .inr (.inl gx))), (m5, .inl (cJ, 100, .inr (.inl gy))), (m6, .inl (cZ, 100, .inl gb)), (m7, .inl (cJ, 200, .inr (.inl gp3))), (m8, .inl (cI, 200, .inl gt3))] → va_S A s.heap H locs → lv_has ls 9 [(4, .int (nI k)), (3, .int (nI j)), (0, .ref m0), (1, .int rl), (2, .int (nI row))] → W p l e rm_X5_coverRow s m ([.ref m0, .int rl, .int (nI row)] : List Value).toArray below meth c H locs 0 0 Q (F0 m 214 ls []) := by
                        intro g3 hg3 H locs ls hP hD hS hl
                        refine lv_iinc (v := nI (k + 1)) (lv' := [(4, .int (nI (k + 1))), (3, .int (nI j)), (0, .ref m0), (1, .int rl), (2, .int (nI row))]) hx hb dX5_coverRow_214 hl (k := 0) rfl (q_inc _) (by decide) rfl (fun ls hl => ?_)
                        refine lv_goto (tgt := 55) hx hb dX5_coverRow_217 (by decide) ?_
                        exact ih_55 (k + 1) g3 (by omega) (by omega) hg3 _ _ _ (hP.sub [0, 1, 2, 3, 4, 5, 6] rfl) (hD.sub [0, 1, 2, 3, 4, 5, 6] (by decide) rfl) hS (lv_sub hl [0, 1, 2, 3, 4] rfl)
                      refine lv_iload hx hb dX5_coverRow_172 (lv_at hl 2 rfl) ?_
                      refine q_if_ne (tgt := 214) hx hb (by omega) dX5_coverRow_174 (by decide) (fun h_174 => ?_) (fun h_174 => ?_)
                      · exact J_214 g2 (fun x hx => by rw [hg2 x hx]; exact congrArg Int32.ofInt ((show cov rl X Y bg cn row j x + sumN (k) (fun zk => mdT rl (fun f => muL X Y bg cn (16 * (16 * (row : Int) + (j : Int)) + 8) cn f) P n3 x zk) = cov rl X Y bg cn row j x + sumN (k) (fun zk => mdT rl (fun f => muL X Y bg cn (16 * (16 * (row : Int) + (j : Int)) + 8) cn f) P n3 x zk) + mdT rl (fun f => muL X Y bg cn (16 * (16 * (row : Int) + (j : Int)) + 8) cn f) P n3 x k by unfold mdT; rw [if_neg (by omega), Int.add_zero]).trans (Int.add_assoc _ _ _))) _ _ _ (hP.sub [0, 1, 2, 3, 4, 5, 6] rfl) (hD.sub [0, 1, 2, 3, 4, 5, 6] (by decide) rfl) hS (lv_sub hl [3, 4, 5, 6, 7] rfl)
                      refine lv_lload hx hb dX5_coverRow_177 (lv_at hl 1 rfl) ?_
                      refine lv_ldc2 hx hb hown k_99 dX5_coverRow_179 ?_
                      refine q_eql (y := Int64.ofInt 9000000) (by decide) ?_
                      refine W.lcmp hx hb dX5_coverRow_182 ?_
                      refine lv_if_ge (tgt := 214) hx hb dX5_coverRow_183 (by decide) (fun h_183 => ?_) (fun h_183 => ?_)
                      · rw [lgc_ge, j_le, w_t (by omega) (by omega), w_t (by omega) (by omega)] at h_183
                        exact J_214 g2 (fun x hx => by rw [hg2 x hx]; exact congrArg Int32.ofInt ((show cov rl X Y bg cn row j x + sumN (k) (fun zk => mdT rl (fun f => muL X Y bg cn (16 * (16 * (row : Int) + (j : Int)) + 8) cn f) P n3 x zk) = cov rl X Y bg cn row j x + sumN (k) (fun zk => mdT rl (fun f => muL X Y bg cn (16 * (16 * (row : Int) + (j : Int)) + 8) cn f) P n3 x zk) + mdT rl (fun f => muL X Y bg cn (16 * (16 * (row : Int) + (j : Int)) + 8) cn f) P n3 x k by unfold mdT; rw [if_neg (by omega), Int.add_zero]).trans (Int.add_assoc _ _ _))) _ _ _ (hP.sub [0, 1, 2, 3, 4, 5, 6] rfl) (hD.sub [0, 1, 2, 3, 4, 5, 6] (by decide) rfl) hS (lv_sub hl [3, 4, 5, 6, 7] rfl)
                      rw [lgc_ge, j_le, w_t (by omega) (by omega), w_t (by omega) (by omega)] at h_183
                      refine lv_aload_n hx hb dX5_coverRow_186 rfl (lv_at hl 5 rfl) ?_
                      refine lv_iload_n hx hb dX5_coverRow_187 rfl (lv_at hl 6 rfl) ?_
                      refine lv_aload_n hx hb dX5_coverRow_188 rfl (lv_at hl 5 rfl) ?_
                      refine va_get (D := D) (ci := 5) (v := .ref m7) (C := RX5) (T := TX5) (N := 21) hx hb hts iX5 hown hK hP 1 rfl rfl 15 (by decide) f_30 (fun _ h9 => h9) rfl dX5_coverRow_189 ?_
                      refine lv_iload hx hb dX5_coverRow_192 (lv_at hl 3 rfl) ?_
                      refine q_lald hx hb hK hP 5 3 rfl rfl (k := k) (by omega) (by omega) dX5_coverRow_194 ?_
                      refine q_eql (y := Int64.ofInt (P k)) (hz1 k (by omega)).1 ?_
                      refine q_i0 (wr := [(m9, .inl (cI, 48, .inl g2)), (m4, .inl (cJ, 100, .inr (.inl gx))), (m5, .inl (cJ, 100, .inr (.inl gy))), (m6, .inl (cZ, 100, .inl gb))]) (va_runV (As := [.int rl, .long (Int64.ofInt (P k))]) (rest := []) ⟨hx, hb, hml, hown, hts⟩ (c_X5_isInside l D cI cZ cB cJ H.size m0 m1 m2 m3 m4 m5 m6 m7 m8 m9 ma th wd ht pn cn fl bf bt n3 ip ps gp3 gt3 (fun f => muL X Y bg cn (16 * (16 * (row : Int) + (j : Int)) + 8) cn f) rl (P k) hp_49.1 (by omega) ⟨hbk1, hbk2⟩) (cwV 2 hts gX5_coverRow_X5_isInside rfl rfl rfl (by decide +kernel) ⟨Nat.le_of_ble_eq_true rfl, Nat.le_of_ble_eq_true rfl⟩) (q_preV (q_pre (wc := [(m0, .inr (5, [.int th, .int (nI wd), .int (nI ht), .int (nI pn), .ref m1, .ref m2, .ref m3, .int (nI cn), .ref m4, .ref m5, .ref m6, .int fl, .int (nI bf), .int (nI bt), .int (nI n3), .ref m7, .ref m8, .ref m9, .int ip, .int (nI ps), .ref ma])), (m7, .inl (cJ, 200, .inr (.inl gp3))), (m8, .inl (cI, 200, .inl gt3))]) hP hD hK hN [1, 5, 6] (by decide) rfl) (va_recv hK hP (ci := 5) (q0 := 1) rfl rfl)) rfl rfl hl.1 rfl (lv_room (Nat.le_of_ble_eq_true rfl)) dX5_coverRow_195 ⟨Nat.zero_le _, Nat.zero_le _⟩) hS hA hP hD [1, 5, 6] [0, 2, 3, 4] rfl rfl (by decide) (by decide) (fun r_195 u H locs hp_195 hP hD hS => ?_)
                      have hP : va_P D qCl [(m9, .inl (cI, 48, .inl g2)), (m4, .inl (cJ, 100, .inr (.inl gx))), (m5, .inl (cJ, 100, .inr (.inl gy))), (m6, .inl (cZ, 100, .inl gb)), (m0, .inr (5, [.int th, .int (nI wd), .int (nI ht), .int (nI pn), .ref m1, .ref m2, .ref m3, .int (nI cn), .ref m4, .ref m5, .ref m6, .int fl, .int (nI bf), .int (nI bt), .int (nI n3), .ref m7, .ref m8, .ref m9, .int ip, .int (nI ps), .ref ma])), (m7, .inl (cJ, 200, .inr (.inl gp3))), (m8, .inl (cI, 200, .inl gt3))] H := hP
                      have hD : va_D A [(m9, .inl (cI, 48, .inl g2)), (m4, .inl (cJ, 100, .inr (.inl gx))), (m5, .inl (cJ, 100, .inr (.inl gy))), (m6, .inl (cZ, 100, .inl gb)), (m0, .inr (5, [.int th, .int (nI wd), .int (nI ht), .int (nI pn), .ref m1, .ref m2, .ref m3, .int (nI cn), .ref m4, .ref m5, .ref m6, .int fl, .int (nI bf), .int (nI bt), .int (nI n3), .ref m7, .ref m8, .ref m9, .int ip, .int (nI ps), .ref ma])), (m7, .inl (cJ, 200, .inr (.inl gp3))), (m8, .inl (cI, 200, .inl gt3))] := hD
                      have hp_195 : r_195 = (if insB rl (fun f => muL X Y bg cn (16 * (16 * (row : Int) + (j : Int)) + 8) cn f) (P k) = true then nI 1 else nI 0) := hp_195
                      refine lv_if_eq (tgt := 214) hx hb dX5_coverRow_198 (by decide) (fun h_198 => ?_) (fun h_198 => ?_)
                      · exact J_214 g2 (fun x hx => by rw [hg2 x hx]; exact congrArg Int32.ofInt ((show cov rl X Y bg cn row j x + sumN (k) (fun zk => mdT rl (fun f => muL X Y bg cn (16 * (16 * (row : Int) + (j : Int)) + 8) cn f) P n3 x zk) = cov rl X Y bg cn row j x + sumN (k) (fun zk => mdT rl (fun f => muL X Y bg cn (16 * (16 * (row : Int) + (j : Int)) + 8) cn f) P n3 x zk) + mdT rl (fun f => muL X Y bg cn (16 * (16 * (row : Int) + (j : Int)) + 8) cn f) P n3 x k by unfold mdT; rw [if_neg (fun w => by rw [hp_195, if_pos w.2.2] at h_198; exact absurd h_198 (by decide)), Int.add_zero]).trans (Int.add_assoc _ _ _))) _ _ _ (hP.sub [0, 4, 1, 2, 3, 5, 6] rfl) (hD.sub [0, 4, 1, 2, 3, 5, 6] (by decide) rfl) hS (lv_sub hl [3, 4, 5, 6, 7] rfl)
                      refine lv_aload_n hx hb dX5_coverRow_201 rfl (lv_at hl 5 rfl) ?_
                      refine lv_aload_n hx hb dX5_coverRow_202 rfl (lv_at hl 5 rfl) ?_
                      refine va_get (D := D) (ci := 5) (v := .ref m7) (C := RX5) (T := TX5) (N := 21) hx hb hts iX5 hown hK hP 4 rfl rfl 15 (by decide) f_30 (fun _ h9 => h9) rfl dX5_coverRow_203 ?_
                      refine lv_iload hx hb dX5_coverRow_206 (lv_at hl 3 rfl) ?_
                      refine q_lald hx hb hK hP 5 3 rfl rfl (k := k) (by omega) (by omega) dX5_coverRow_208 ?_
                      refine q_eql (y := Int64.ofInt (P k)) (hz1 k (by omega)).1 ?_
                      refine lv_lload hx hb dX5_coverRow_209 (lv_at hl 1 rfl) ?_
                      refine q_v0 (wr := [(m4, .inl (cJ, 100, .inr (.inl gx))), (m5, .inl (cJ, 100, .inr (.inl gy))), (m6, .inl (cZ, 100, .inl gb)), (m7, .inl (cJ, 200, .inr (.inl gp3))), (m8, .inl (cI, 200, .inl gt3))]) (va_runV (As := [.long (Int64.ofInt (P k)), .long (Int64.ofInt nx)]) (rest := []) ⟨hx, hb, hml, hown, hts⟩ (c_X5_addUnits l D cI cZ cB cJ H.size m0 m1 m2 m3 m4 m5 m6 m7 m8 m9 ma th wd ht pn cn fl bf bt n3 ip ps g2 (fun x => cov rl X Y bg cn row j x + sumN (k) (fun zk => mdT rl (fun f => muL X Y bg cn (16 * (16 * (row : Int) + (j : Int)) + 8) cn f) P n3 x zk)) (P k) nx hw hg2 ⟨hbk1, hbk2⟩ (by rw [hnx]; exact hnb3 (by omega))) (cwV 2 hts gX5_coverRow_X5_addUnits rfl rfl rfl (by decide +kernel) ⟨Nat.le_of_ble_eq_true rfl, Nat.le_of_ble_eq_true rfl⟩) (q_preV (q_pre (wc := [(m0, .inr (5, [.int th, .int (nI wd), .int (nI ht), .int (nI pn), .ref m1, .ref m2, .ref m3, .int (nI cn), .ref m4, .ref m5, .ref m6, .int fl, .int (nI bf), .int (nI bt), .int (nI n3), .ref m7, .ref m8, .ref m9, .int ip, .int (nI ps), .ref ma])), (m9, .inl (cI, 48, .inl g2))]) hP hD hK hN [4, 0] (by decide) rfl) (va_recv hK hP (ci := 5) (q0 := 4) rfl rfl)) rfl rfl hl.1 rfl (lv_room (Nat.le_of_ble_eq_true rfl)) dX5_coverRow_211 ⟨Nat.zero_le _, Nat.zero_le _⟩) hS hA hP hD [4, 0] [1, 2, 3, 5, 6] rfl rfl (by decide) (by decide) (fun g4 H locs hp_211 hP hD hS => ?_)
                      have hP : va_P D qCl [(m4, .inl (cJ, 100, .inr (.inl gx))), (m5, .inl (cJ, 100, .inr (.inl gy))), (m6, .inl (cZ, 100, .inl gb)), (m7, .inl (cJ, 200, .inr (.inl gp3))), (m8, .inl (cI, 200, .inl gt3)), (m0, .inr (5, [.int th, .int (nI wd), .int (nI ht), .int (nI pn), .ref m1, .ref m2, .ref m3, .int (nI cn), .ref m4, .ref m5, .ref m6, .int fl, .int (nI bf), .int (nI bt), .int (nI n3), .ref m7, .ref m8, .ref m9, .int ip, .int (nI ps), .ref ma])), (m9, .inl (cI, 48, .inl g4))] H := hP
                      have hD : va_D A [(m4, .inl (cJ, 100, .inr (.inl gx))), (m5, .inl (cJ, 100, .inr (.inl gy))), (m6, .inl (cZ, 100, .inl gb)), (m7, .inl (cJ, 200, .inr (.inl gp3))), (m8, .inl (cI, 200, .inl gt3)), (m0, .inr (5, [.int th, .int (nI wd), .int (nI ht), .int (nI pn), .ref m1, .ref m2, .ref m3, .int (nI cn), .ref m4, .ref m5, .ref m6, .int fl, .int (nI bf), .int (nI bt), .int (nI n3), .ref m7, .ref m8, .ref m9, .int ip, .int (nI ps), .ref ma])), (m9, .inl (cI, 48, .inl g4))] := hD
                      have hp_211 : ∀ x, x < wd → g4 x = Int32.ofInt ((fun x => cov rl X Y bg cn row j x + sumN (k) (fun zk => mdT rl (fun f => muL X Y bg cn (16 * (16 * (row : Int) + (j : Int)) + 8) cn f) P n3 x zk)) x + ovl x (P k) nx) := hp_211
                      exact J_214 g4 (fun x hx => by rw [hp_211 x hx, hnx]; exact congrArg Int32.ofInt ((show cov rl X Y bg cn row j x + sumN (k) (fun zk => mdT rl (fun f => muL X Y bg cn (16 * (16 * (row : Int) + (j : Int)) + 8) cn f) P n3 x zk) + ovl x (P k) (nxM P k n3) = cov rl X Y bg cn row j x + sumN (k) (fun zk => mdT rl (fun f => muL X Y bg cn (16 * (16 * (row : Int) + (j : Int)) + 8) cn f) P n3 x zk) + mdT rl (fun f => muL X Y bg cn (16 * (16 * (row : Int) + (j : Int)) + 8) cn f) P n3 x k by unfold mdT; rw [if_pos ⟨by omega, by omega, by by_cases w : insB rl (fun f => muL X Y bg cn (16 * (16 * (row : Int) + (j : Int)) + 8) cn f) (P k) = true; (· exact w); (· rw [hp_195, if_neg w] at h_198; exact absurd rfl h_198)⟩]).trans (Int.add_assoc _ _ _))) _ _ _ (hP.sub [6, 5, 0, 1, 2, 3, 4] rfl) (hD.sub [6, 5, 0, 1, 2, 3, 4] (by decide) rfl) hS (lv_sub hl [3, 4, 5, 6, 7] rfl)
                    have hag9 := agN_le P k i
                    obtain ⟨hbi1, hbi2⟩ := (hz1 i (by omega)).2.2
                    obtain ⟨⟨hnb1, hnb2⟩, -⟩ := nxM_bd (P := P) (k := k) (n := n3) (fun j hj => (hz1 j hj).2.2) hi
                    have J_119 : ∀ (ag2 : Nat), (ag2 = agN P k (i + 1)) → ∀ (H : Heap) (locs : List Loc) (ls : Array Slot), va_P D qCl [(m9, .inl (cI, 48, .inl g2)), (m0, .inr (5, [.int th, .int (nI wd), .int (nI ht), .int (nI pn), .ref m1, .ref m2, .ref m3, .int (nI cn), .ref m4, .ref m5, .ref m6, .int fl, .int (nI bf), .int (nI bt), .int (nI n3), .ref m7, .ref m8, .ref m9, .int ip, .int (nI ps), .ref ma])), (m4, .inl (cJ, 100, .inr (.inl gx))), (m5, .inl (cJ, 100, .inr (.inl gy))), (m6, .inl (cZ, 100, .inl gb)), (m7, .inl (cJ, 200, .inr (.inl gp3))), (m8, .inl (cI, 200, .inl gt3))] H → va_D A [(m9, .inl (cI, 48, .inl g2)), (m0, .inr (5, [.int th, .int (nI wd), .int (nI ht), .int (nI pn), .ref m1, .ref m2, .ref m3, .int (nI cn), .ref m4, .ref m5, .ref m6, .int fl, .int (nI bf), .int (nI bt), .int (nI n3), .ref m7, .ref m8, .ref m9, .int ip, .int (nI ps), .ref ma])), (m4, .inl (cJ, 100, .inr (.inl gx))), (m5, .inl (cJ, 100, .inr (.inl gy))), (m6, .inl (cZ, 100, .inl gb)), (m7, .inl (cJ, 200, .inr (.inl gp3))), (m8, .inl (cI, 200, .inl gt3))] → va_S A s.heap H locs → lv_has ls 9 [(8, .int (nI i)), (6, .long (Int64.ofInt nx)), (5, .int (nI ag)), (4, .int (nI k)), (3, .int (nI j)), (0, .ref m0), (1, .int rl), (2, .int (nI row))] → W p l e rm_X5_coverRow s m ([.ref m0, .int rl, .int (nI row)] : List Value).toArray below meth c H locs 0 0 Q (F0 m 119 ls [.int (nI ag2)]) := by
                      intro ag2 hag2 H locs ls hP hD hS hl
                      refine lv_istore (lv' := [(5, .int (nI ag2)), (8, .int (nI i)), (6, .long (Int64.ofInt nx)), (4, .int (nI k)), (3, .int (nI j)), (0, .ref m0), (1, .int rl), (2, .int (nI row))]) hx hb dX5_coverRow_119 hl (by decide) rfl (fun ls hl => ?_)
                      have J_164 : ∀ (nx2 : Int), (nx2 = nxM P k (i + 1)) → ∀ (H : Heap) (locs : List Loc) (ls : Array Slot), va_P D qCl [(m9, .inl (cI, 48, .inl g2)), (m0, .inr (5, [.int th, .int (nI wd), .int (nI ht), .int (nI pn), .ref m1, .ref m2, .ref m3, .int (nI cn), .ref m4, .ref m5, .ref m6, .int fl, .int (nI bf), .int (nI bt), .int (nI n3), .ref m7, .ref m8, .ref m9, .int ip, .int (nI ps), .ref ma])), (m4, .inl (cJ, 100, .inr (.inl gx))), (m5, .inl (cJ, 100, .inr (.inl gy))), (m6, .inl (cZ, 100, .inl gb)), (m7, .inl (cJ, 200, .inr (.inl gp3))), (m8, .inl (cI, 200, .inl gt3))] H → va_D A [(m9, .inl (cI, 48, .inl g2)), (m0, .inr (5, [.int th, .int (nI wd), .int (nI ht), .int (nI pn), .ref m1, .ref m2, .ref m3, .int (nI cn), .ref m4, .ref m5, .ref m6, .int fl, .int (nI bf), .int (nI bt), .int (nI n3), .ref m7, .ref m8, .ref m9, .int ip, .int (nI ps), .ref ma])), (m4, .inl (cJ, 100, .inr (.inl gx))), (m5, .inl (cJ, 100, .inr (.inl gy))), (m6, .inl (cZ, 100, .inl gb)), (m7, .inl (cJ, 200, .inr (.inl gp3))), (m8, .inl (cI, 200, .inl gt3))] → va_S A s.heap H locs → lv_has ls 9 [(5, .int (nI ag2)), (8, .int (nI i)), (6, .long (Int64.ofInt nx)), (4, .int (nI k)), (3, .int (nI j)), (0, .ref m0), (1, .int rl), (2, .int (nI row))] → W p l e rm_X5_coverRow s m ([.ref m0, .int rl, .int (nI row)] : List Value).toArray below meth c H locs 0 0 Q (F0 m 164 ls [.long (Int64.ofInt nx2)]) := by
                        intro nx2 hnx2 H locs ls hP hD hS hl
                        refine lv_lstore (lv' := [(6, .long (Int64.ofInt nx2)), (5, .int (nI ag2)), (8, .int (nI i)), (4, .int (nI k)), (3, .int (nI j)), (0, .ref m0), (1, .int rl), (2, .int (nI row))]) hx hb dX5_coverRow_164 hl (by decide) rfl (fun ls hl => ?_)
                        refine lv_iinc (v := nI (i + 1)) (lv' := [(8, .int (nI (i + 1))), (6, .long (Int64.ofInt nx2)), (5, .int (nI ag2)), (4, .int (nI k)), (3, .int (nI j)), (0, .ref m0), (1, .int rl), (2, .int (nI row))]) hx hb dX5_coverRow_166 hl (k := 2) rfl (q_inc _) (by decide) rfl (fun ls hl => ?_)
                        refine lv_goto (tgt := 75) hx hb dX5_coverRow_169 (by decide) ?_
                        exact ih_75 (i + 1) ag2 nx2 (by omega) (by omega) hag2 hnx2 _ _ _ (hP.sub [0, 1, 2, 3, 4, 5, 6] rfl) (hD.sub [0, 1, 2, 3, 4, 5, 6] (by decide) rfl) hS (lv_sub hl [0, 1, 2, 3, 4, 5, 6, 7] rfl)
                      refine lv_aload_n hx hb dX5_coverRow_121 rfl (lv_at hl 5 rfl) ?_
                      refine va_get (D := D) (ci := 5) (v := .ref m7) (C := RX5) (T := TX5) (N := 21) hx hb hts iX5 hown hK hP 1 rfl rfl 15 (by decide) f_30 (fun _ h9 => h9) rfl dX5_coverRow_122 ?_
                      refine lv_iload hx hb dX5_coverRow_125 (lv_at hl 1 rfl) ?_
                      refine q_lald hx hb hK hP 5 3 rfl rfl (k := i) (by omega) (by omega) dX5_coverRow_127 ?_
                      refine q_eql (y := Int64.ofInt (P i)) (hz1 i (by omega)).1 ?_
                      refine lv_aload_n hx hb dX5_coverRow_128 rfl (lv_at hl 5 rfl) ?_
                      refine va_get (D := D) (ci := 5) (v := .ref m7) (C := RX5) (T := TX5) (N := 21) hx hb hts iX5 hown hK hP 1 rfl rfl 15 (by decide) f_30 (fun _ h9 => h9) rfl dX5_coverRow_129 ?_
                      refine lv_iload hx hb dX5_coverRow_132 (lv_at hl 3 rfl) ?_
                      refine q_lald hx hb hK hP 5 3 rfl rfl (k := k) (by omega) (by omega) dX5_coverRow_134 ?_
                      refine q_eql (y := Int64.ofInt (P k)) (hz1 k (by omega)).1 ?_
                      refine W.lcmp hx hb dX5_coverRow_135 ?_
                      refine lv_if_le (tgt := 162) hx hb dX5_coverRow_136 (by decide) (fun h_136 => ?_) (fun h_136 => ?_)
                      · rw [lgc_le, j_le, w_t (by omega) (by omega), w_t (by omega) (by omega)] at h_136
                        refine lv_lload hx hb dX5_coverRow_162 (lv_at hl 2 rfl) ?_
                        exact J_164 nx (by show nx = (if P k < P i ∧ P i < nxM P k i then P i else nxM P k i); rw [if_neg (by omega)]; exact hnx) _ _ _ (hP.sub [0, 1, 2, 3, 4, 5, 6] rfl) (hD.sub [0, 1, 2, 3, 4, 5, 6] (by decide) rfl) hS (lv_sub hl [0, 1, 2, 3, 4, 5, 6, 7] rfl)
                      rw [lgc_le, j_le, w_t (by omega) (by omega), w_t (by omega) (by omega)] at h_136
                      refine lv_aload_n hx hb dX5_coverRow_139 rfl (lv_at hl 5 rfl) ?_
                      refine va_get (D := D) (ci := 5) (v := .ref m7) (C := RX5) (T := TX5) (N := 21) hx hb hts iX5 hown hK hP 1 rfl rfl 15 (by decide) f_30 (fun _ h9 => h9) rfl dX5_coverRow_140 ?_
                      refine lv_iload hx hb dX5_coverRow_143 (lv_at hl 1 rfl) ?_
                      refine q_lald hx hb hK hP 5 3 rfl rfl (k := i) (by omega) (by omega) dX5_coverRow_145 ?_
                      refine q_eql (y := Int64.ofInt (P i)) (hz1 i (by omega)).1 ?_
                      refine lv_lload hx hb dX5_coverRow_146 (lv_at hl 2 rfl) ?_
                      refine W.lcmp hx hb dX5_coverRow_148 ?_
                      refine lv_if_ge (tgt := 162) hx hb dX5_coverRow_149 (by decide) (fun h_149 => ?_) (fun h_149 => ?_)
                      · rw [lgc_ge, j_le, w_t (by omega) (by omega), w_t (by omega) (by omega)] at h_149
                        refine lv_lload hx hb dX5_coverRow_162 (lv_at hl 2 rfl) ?_
                        exact J_164 nx (by show nx = (if P k < P i ∧ P i < nxM P k i then P i else nxM P k i); rw [if_neg (by omega)]; exact hnx) _ _ _ (hP.sub [0, 1, 2, 3, 4, 5, 6] rfl) (hD.sub [0, 1, 2, 3, 4, 5, 6] (by decide) rfl) hS (lv_sub hl [0, 1, 2, 3, 4, 5, 6, 7] rfl)
                      rw [lgc_ge, j_le, w_t (by omega) (by omega), w_t (by omega) (by omega)] at h_149
                      refine lv_aload_n hx hb dX5_coverRow_152 rfl (lv_at hl 5 rfl) ?_
                      refine va_get (D := D) (ci := 5) (v := .ref m7) (C := RX5) (T := TX5) (N := 21) hx hb hts iX5 hown hK hP 1 rfl rfl 15 (by decide) f_30 (fun _ h9 => h9) rfl dX5_coverRow_153 ?_
                      refine lv_iload hx hb dX5_coverRow_156 (lv_at hl 1 rfl) ?_
                      refine q_lald hx hb hK hP 5 3 rfl rfl (k := i) (by omega) (by omega) dX5_coverRow_158 ?_
                      refine q_eql (y := Int64.ofInt (P i)) (hz1 i (by omega)).1 ?_
                      refine lv_goto (tgt := 164) hx hb dX5_coverRow_159 (by decide) ?_
                      exact J_164 (P i) (by show P i = (if P k < P i ∧ P i < nxM P k i then P i else nxM P k i); rw [if_pos (by omega)]) _ _ _ (hP.sub [0, 1, 2, 3, 4, 5, 6] rfl) (hD.sub [0, 1, 2, 3, 4, 5, 6] (by decide) rfl) hS (lv_sub hl [0, 1, 2, 3, 4, 5, 6, 7] rfl)
                    refine lv_iload hx hb dX5_coverRow_84 (lv_at hl 2 rfl) ?_
                    refine q_if_ne (tgt := 114) hx hb (by omega) dX5_coverRow_86 (by decide) (fun h_86 => ?_) (fun h_86 => ?_)
                    · refine lv_iconst (v := nI 1) hx hb dX5_coverRow_114 (by decide) ?_
                      refine lv_goto (tgt := 119) hx hb dX5_coverRow_115 (by decide) ?_
                      exact J_119 1 (by show 1 = (if agN P k i = 0 then (if i < k ∧ P i = P k then 1 else 0) else 1); rw [if_neg (by omega)]) _ _ _ (hP.sub [0, 1, 2, 3, 4, 5, 6] rfl) (hD.sub [0, 1, 2, 3, 4, 5, 6] (by decide) rfl) hS (lv_sub hl [0, 1, 2, 3, 4, 5, 6, 7] rfl)
                    refine lv_iload hx hb dX5_coverRow_89 (lv_at hl 0 rfl) ?_
                    refine lv_iload hx hb dX5_coverRow_91 (lv_at hl 3 rfl) ?_
                    refine q_ge (tgt := 118) hx hb (by omega) (by omega) dX5_coverRow_93 (by decide) (fun h_93 => ?_) (fun h_93 => ?_)
                    · refine lv_iconst (v := nI 0) hx hb dX5_coverRow_118 (by decide) ?_
                      exact J_119 0 (by show 0 = (if agN P k i = 0 then (if i < k ∧ P i = P k then 1 else 0) else 1); rw [if_pos (by omega), if_neg (by omega)]) _ _ _ (hP.sub [0, 1, 2, 3, 4, 5, 6] rfl) (hD.sub [0, 1, 2, 3, 4, 5, 6] (by decide) rfl) hS (lv_sub hl [0, 1, 2, 3, 4, 5, 6, 7] rfl)
                    refine lv_aload_n hx hb dX5_coverRow_96 rfl (lv_at hl 5 rfl) ?_
                    refine va_get (D := D) (ci := 5) (v := .ref m7) (C := RX5) (T := TX5) (N := 21) hx hb hts iX5 hown hK hP 1 rfl rfl 15 (by decide) f_30 (fun _ h9 => h9) rfl dX5_coverRow_97 ?_
                    refine lv_iload hx hb dX5_coverRow_100 (lv_at hl 0 rfl) ?_
                    refine q_lald hx hb hK hP 5 3 rfl rfl (k := i) (by omega) (by omega) dX5_coverRow_102 ?_
                    refine q_eql (y := Int64.ofInt (P i)) (hz1 i (by omega)).1 ?_
                    refine lv_aload_n hx hb dX5_coverRow_103 rfl (lv_at hl 5 rfl) ?_
                    refine va_get (D := D) (ci := 5) (v := .ref m7) (C := RX5) (T := TX5) (N := 21) hx hb hts iX5 hown hK hP 1 rfl rfl 15 (by decide) f_30 (fun _ h9 => h9) rfl dX5_coverRow_104 ?_
                    refine lv_iload hx hb dX5_coverRow_107 (lv_at hl 3 rfl) ?_
                    refine q_lald hx hb hK hP 5 3 rfl rfl (k := k) (by omega) (by omega) dX5_coverRow_109 ?_
                    refine q_eql (y := Int64.ofInt (P k)) (hz1 k (by omega)).1 ?_
                    refine W.lcmp hx hb dX5_coverRow_110 ?_
                    refine lv_if_ne (tgt := 118) hx hb dX5_coverRow_111 (by decide) (fun h_111 => ?_) (fun h_111 => ?_)
                    · rw [lgc_eq, j_eq, w_t (by omega) (by omega), w_t (by omega) (by omega)] at h_111
                      refine lv_iconst (v := nI 0) hx hb dX5_coverRow_118 (by decide) ?_
                      exact J_119 0 (by show 0 = (if agN P k i = 0 then (if i < k ∧ P i = P k then 1 else 0) else 1); rw [if_pos (by omega), if_neg (by omega)]) _ _ _ (hP.sub [0, 1, 2, 3, 4, 5, 6] rfl) (hD.sub [0, 1, 2, 3, 4, 5, 6] (by decide) rfl) hS (lv_sub hl [0, 1, 2, 3, 4, 5, 6, 7] rfl)
                    rw [lgc_eq, j_eq, w_t (by omega) (by omega), w_t (by omega) (by omega)] at h_111
                    refine lv_iconst (v := nI 1) hx hb dX5_coverRow_114 (by decide) ?_
                    refine lv_goto (tgt := 119) hx hb dX5_coverRow_115 (by decide) ?_
                    exact J_119 1 (by show 1 = (if agN P k i = 0 then (if i < k ∧ P i = P k then 1 else 0) else 1); rw [if_pos (by omega), if_pos ⟨h_93, h_111⟩]) _ _ _ (hP.sub [0, 1, 2, 3, 4, 5, 6] rfl) (hD.sub [0, 1, 2, 3, 4, 5, 6] (by decide) rfl) hS (lv_sub hl [0, 1, 2, 3, 4, 5, 6, 7] rfl)
                exact L_75 _ 0 0 9000000 (Nat.lt_succ_self _) (Nat.zero_le _) rfl rfl _ _ _ (hP.sub [0, 1, 2, 3, 4, 5, 6] rfl) (hD.sub [0, 1, 2, 3, 4, 5, 6] (by decide) rfl) hS (lv_sub hl [0, 1, 2, 3, 4, 5, 6, 7] rfl)
            exact L_55 _ 0 g1 (Nat.lt_succ_self _) (Nat.zero_le _) (fun x hx => by rw [hg1 x hx]; exact congrArg Int32.ofInt (Int.add_zero _).symm) _ _ _ (hP.sub [0, 1, 2, 3, 4, 5, 6] rfl) (hD.sub [0, 1, 2, 3, 4, 5, 6] (by decide) rfl) hS (lv_sub hl [0, 1, 2, 3, 4] rfl)
        exact L_25 _ 0 xn gp gt g (Nat.lt_succ_self _) (Nat.zero_le _) (fun x hx => hg x (by omega)) _ _ _ (hP.sub [0, 1, 2, 3, 4, 5, 6] rfl) (hD.sub [0, 1, 2, 3, 4, 5, 6] (by decide) rfl) hS (lv_sub hl [0, 1, 2, 3] rfl)
      refine lv_aload_n hx hb dX5_coverRow_10 rfl (lv_at hl 1 rfl) ?_
      refine va_get (D := D) (ci := 5) (v := .ref m9) (C := RX5) (T := TX5) (N := 21) hx hb hts iX5 hown hK hP 0 rfl rfl 17 (by decide) f_36 (fun _ h9 => h9) rfl dX5_coverRow_11 ?_
      refine lv_iload_n hx hb dX5_coverRow_14 rfl (lv_at hl 0 rfl) ?_
      refine lv_iconst (v := nI 0) hx hb dX5_coverRow_15 (by decide) ?_
      refine q_iast hx hb hK hP hD hS 6 0 rfl rfl (k := k) (by omega) (by omega) dX5_coverRow_16 (fun H locs hP hD hS => ?_)
      have hP : va_P D qCl [(m0, .inr (5, [.int th, .int (nI wd), .int (nI ht), .int (nI pn), .ref m1, .ref m2, .ref m3, .int (nI cn), .ref m4, .ref m5, .ref m6, .int fl, .int (nI bf), .int (nI bt), .int (nI xn), .ref m7, .ref m8, .ref m9, .int ip, .int (nI ps), .ref ma])), (m4, .inl (cJ, 100, .inr (.inl gx))), (m5, .inl (cJ, 100, .inr (.inl gy))), (m6, .inl (cZ, 100, .inl gb)), (m7, .inl (cJ, 200, .inr (.inl gp))), (m8, .inl (cI, 200, .inl gt)), (m9, .inl (cI, 48, .inl (upd g k (nI 0))))] H := hP
      have hD : va_D A [(m0, .inr (5, [.int th, .int (nI wd), .int (nI ht), .int (nI pn), .ref m1, .ref m2, .ref m3, .int (nI cn), .ref m4, .ref m5, .ref m6, .int fl, .int (nI bf), .int (nI bt), .int (nI xn), .ref m7, .ref m8, .ref m9, .int ip, .int (nI ps), .ref ma])), (m4, .inl (cJ, 100, .inr (.inl gx))), (m5, .inl (cJ, 100, .inr (.inl gy))), (m6, .inl (cZ, 100, .inl gb)), (m7, .inl (cJ, 200, .inr (.inl gp))), (m8, .inl (cI, 200, .inl gt)), (m9, .inl (cI, 48, .inl (upd g k (nI 0))))] := hD
      refine lv_iinc (v := nI (k + 1)) (lv' := [(3, .int (nI (k + 1))), (0, .ref m0), (1, .int rl), (2, .int (nI row))]) hx hb dX5_coverRow_17 hl (k := 0) rfl (q_inc _) (by decide) rfl (fun ls hl => ?_)
      refine lv_goto (tgt := 2) hx hb dX5_coverRow_20 (by decide) ?_
      exact ih_2 (k + 1) (upd g k (nI 0)) (by omega) (by omega) (fun x hx => by unfold upd; by_cases c9 : x = k; (· rw [if_pos c9]; decide); (· rw [if_neg c9]; exact hg x (by omega))) _ _ _ (hP.sub [0, 1, 2, 3, 4, 5, 6] rfl) (hD.sub [0, 1, 2, 3, 4, 5, 6] (by decide) rfl) hS (lv_sub hl [0, 1, 2, 3] rfl)
  exact L_2 _ 0 gu (Nat.lt_succ_self _) (Nat.zero_le _) (fun x hx => absurd hx (Nat.not_lt_zero _)) _ _ _ (hP.sub [0, 1, 2, 3, 4, 5, 6] rfl) (hD.sub [0, 1, 2, 3, 4, 5, 6] (by decide) rfl) hS (lv_sub hl [0, 1, 2, 3] rfl)
