abbrev rm_J9_floorDiv : Room := { frames := 0, cells := 0, slots := 0, locals := 0 }
set_option maxHeartbeats 4000000 in
set_option maxRecDepth 100000 in
theorem c_J9_floorDiv (l : Launch) (D : va_G) (cI cZ cB cJ : ClassId) (sz : Nat) (a : Int64) (b : Int64) (hb0 : ¬ b = 0) : Met l yJ9_floorDiv_f86c9 wsJ9_floorDiv_f86c9 rm_J9_floorDiv (va_Pc [.long a, .long b] (PC D (qT cI cZ cB cJ) [] sz)) (va_Ql (fun (r : Int64) (u : Unit) => r = fdJ a b) (fun (u : Unit) => PO D (qT cI cZ cB cJ) (va_A [] sz) []) (va_A [] sz)) 0 0 (va_A [] sz) := by
  refine q_entLF (cc := cJ9_floorDiv_f86c9) (maxL := 6) (by decide +kernel) rfl (Nat.le_of_ble_eq_true rfl) ?_
  intro p e s m below meth c A Q ls hq hl hQ
  obtain ⟨hx, hb, hml, hts, hown, hin, hN, hK, hsz, hA, hP, hD, hS⟩ := hq
  have hown : s.vm.findClass RJ9 = some m.cls := hown
  obtain ⟨H, hH⟩ : ∃ H, H = s.heap := ⟨_, rfl⟩
  rw [← hH] at hP ⊢
  have hS : va_S A s.heap H [] := by rw [hH]; exact va_S.rf
  clear hH
  have hl : lv_has ls 6 [(0, .long a), (2, .long b)] := hl
  refine lv_lload_n hx hb dJ9_floorDiv_f86c9_0 rfl (lv_at hl 0 rfl) ?_
  refine lv_lload_n hx hb dJ9_floorDiv_f86c9_1 rfl (lv_at hl 1 rfl) ?_
  refine lv_ldiv hx hb dJ9_floorDiv_f86c9_2 hb0 ?_
  refine lv_lstore (lv' := [(4, .long (a / b)), (0, .long a), (2, .long b)]) hx hb dJ9_floorDiv_f86c9_3 hl (by decide) rfl (fun ls hl => ?_)
  refine lv_lload_n hx hb dJ9_floorDiv_f86c9_5 rfl (lv_at hl 1 rfl) ?_
  refine lv_lload_n hx hb dJ9_floorDiv_f86c9_6 rfl (lv_at hl 2 rfl) ?_
  refine lv_lxor hx hb dJ9_floorDiv_f86c9_7 ?_
  refine lv_lconst (v := 0) hx hb dJ9_floorDiv_f86c9_8 (by decide) ?_
  refine W.lcmp hx hb dJ9_floorDiv_f86c9_9 ?_
  refine lv_if_ge (tgt := 27) hx hb dJ9_floorDiv_f86c9_10 (by decide) (fun h_10 => ?_) (fun h_10 => ?_)
  · refine lv_lload hx hb dJ9_floorDiv_f86c9_27 (lv_at hl 0 rfl) ?_
    have e9 : a / b = fdJ a b := by
      unfold fdJ
      rw [if_neg (fun z => by first | (rw [lgc_ge, j_le] at h_10; rw [j_lt] at z; omega) | exact z.2 ((lgc_eq _ _).mp h_19))]
    have hr9 : (a / b) = fdJ a b := e9
    exact hQ _ _ _ _ (a / b) () _ _ dJ9_floorDiv_f86c9_29 (Nat.le_refl _) (Nat.le_refl _) hr9 (hP.sub [] rfl) hK (hD.sub [] (by decide) rfl) hS
  refine lv_lload hx hb dJ9_floorDiv_f86c9_13 (lv_at hl 0 rfl) ?_
  refine lv_lload_n hx hb dJ9_floorDiv_f86c9_15 rfl (lv_at hl 2 rfl) ?_
  refine lv_lmul hx hb dJ9_floorDiv_f86c9_16 ?_
  refine lv_lload_n hx hb dJ9_floorDiv_f86c9_17 rfl (lv_at hl 1 rfl) ?_
  refine W.lcmp hx hb dJ9_floorDiv_f86c9_18 ?_
  refine lv_if_eq (tgt := 27) hx hb dJ9_floorDiv_f86c9_19 (by decide) (fun h_19 => ?_) (fun h_19 => ?_)
  · refine lv_lload hx hb dJ9_floorDiv_f86c9_27 (lv_at hl 0 rfl) ?_
    have e9 : a / b = fdJ a b := by
      unfold fdJ
      rw [if_neg (fun z => by first | (rw [lgc_ge, j_le] at h_10; rw [j_lt] at z; omega) | exact z.2 ((lgc_eq _ _).mp h_19))]
    have hr9 : (a / b) = fdJ a b := e9
    exact hQ _ _ _ _ (a / b) () _ _ dJ9_floorDiv_f86c9_29 (Nat.le_refl _) (Nat.le_refl _) hr9 (hP.sub [] rfl) hK (hD.sub [] (by decide) rfl) hS
  refine lv_lload hx hb dJ9_floorDiv_f86c9_22 (lv_at hl 0 rfl) ?_
  refine lv_lconst (v := 1) hx hb dJ9_floorDiv_f86c9_24 (by decide) ?_
  refine lv_lsub hx hb dJ9_floorDiv_f86c9_25 ?_
  have e9 : a / b - 1 = fdJ a b := by
    unfold fdJ
    rw [if_pos ⟨by
      rw [lgc_ge] at h_10
      rw [j_lt]
      rw [j_le] at h_10
      omega, fun z => h_19 ((lgc_eq _ _).mpr z)⟩]
  have hr9 : ((a / b) - 1) = fdJ a b := e9
  exact hQ _ _ _ _ ((a / b) - 1) () _ _ dJ9_floorDiv_f86c9_26 (Nat.le_refl _) (Nat.le_refl _) hr9 (hP.sub [] rfl) hK (hD.sub [] (by decide) rfl) hS

abbrev rm_J7_fill : Room := { frames := 0, cells := 0, slots := 0, locals := 0 }
set_option maxHeartbeats 4000000 in
set_option maxRecDepth 100000 in
theorem c_J7_fill (l : Launch) (D : va_G) (cI cZ cB cJ : ClassId) (sz : Nat) (h0 : Nat) (k : Nat) (f : Nat → Int32) (v : Int32) (hk : k < 2 ^ 31) : Met l yJ7_fill_53178 wsJ7_fill_53178 rm_J7_fill (va_Pc [.ref h0, .int v] (PC D (qT cI cZ cB cJ) [(h0, .inl (cI, k, .inl f))] sz)) (va_Qv (fun (u : (Nat → Int32)) => ∀ j, j < k → u j = v) (fun (u : (Nat → Int32)) => PO D (qT cI cZ cB cJ) (va_A [(h0, .inl (cI, k, .inl f))] sz) [(h0, .inl (cI, k, .inl u))]) (va_A [(h0, .inl (cI, k, .inl f))] sz)) 0 0 (va_A [(h0, .inl (cI, k, .inl f))] sz) := by
  refine q_entV (cc := cJ7_fill_53178) (maxL := 4) (by decide +kernel) rfl (Nat.le_of_ble_eq_true rfl) ?_
  intro p e s m below meth c A Q ls hq hl hQ
  obtain ⟨hx, hb, hml, hts, hown, hin, hN, hK, hsz, hA, hP, hD, hS⟩ := hq
  have hown : s.vm.findClass RJ7 = some m.cls := hown
  obtain ⟨H, hH⟩ : ∃ H, H = s.heap := ⟨_, rfl⟩
  rw [← hH] at hP ⊢
  have hS : va_S A s.heap H [] := by rw [hH]; exact va_S.rf
  clear hH
  have hl : lv_has ls 4 [(0, .ref h0), (1, .int v)] := hl
  refine lv_iconst (v := nI 0) hx hb dJ7_fill_53178_0 (by decide) ?_
  refine lv_istore_n (lv' := [(2, .int (nI 0)), (0, .ref h0), (1, .int v)]) hx hb dJ7_fill_53178_1 rfl hl (by decide) rfl (fun ls hl => ?_)
  refine lv_aload_n hx hb dJ7_fill_53178_2 rfl (lv_at hl 1 rfl) ?_
  refine va_alen hx hb hK hP 0 0 rfl rfl (v := nI k) rfl dJ7_fill_53178_3 ?_
  refine lv_istore_n (lv' := [(3, .int (nI k)), (2, .int (nI 0)), (0, .ref h0), (1, .int v)]) hx hb dJ7_fill_53178_4 rfl hl (by decide) rfl (fun ls hl => ?_)
  have L_5 : ∀ (fuel : Nat) (i : Nat) (g : Nat → Int32), k - i < fuel → (i ≤ k) → (∀ j, j < i → g j = v) → ∀ (H : Heap) (locs : List Loc) (ls : Array Slot), va_P D qCl [(h0, .inl (cI, k, .inl g))] H → va_D A [(h0, .inl (cI, k, .inl g))] → va_S A s.heap H locs → lv_has ls 4 [(3, .int (nI k)), (2, .int (nI i)), (0, .ref h0), (1, .int v)] → W p l e rm_J7_fill s m ([.ref h0, .int v] : List Value).toArray below meth c H locs 0 0 Q (F0 m 5 ls []) := by
    intro fuel
    induction fuel with
    | zero =>
      intro i g hm
      exact absurd hm (Nat.not_lt_zero _)
    | succ fuel ih_5 =>
      intro i g hm_5 hi hg H locs ls hP hD hS hl
      refine lv_iload_n hx hb dJ7_fill_53178_5 rfl (lv_at hl 1 rfl) ?_
      refine lv_iload_n hx hb dJ7_fill_53178_6 rfl (lv_at hl 0 rfl) ?_
      refine q_ge (tgt := 20) hx hb (by omega) (by omega) dJ7_fill_53178_7 (by decide) (fun h_7 => ?_) (fun h_7 => ?_)
      · have hr9 : ∀ j, j < k → g j = v := (fun j hj => hg j (by omega))
        exact hQ _ _ _ _ g _ _ dJ7_fill_53178_20 (Nat.le_refl _) (Nat.le_refl _) hr9 (hP.sub [0] rfl) hK (hD.sub [0] (by decide) rfl) hS
      refine lv_aload_n hx hb dJ7_fill_53178_10 rfl (lv_at hl 2 rfl) ?_
      refine lv_iload_n hx hb dJ7_fill_53178_11 rfl (lv_at hl 1 rfl) ?_
      refine lv_iload_n hx hb dJ7_fill_53178_12 rfl (lv_at hl 3 rfl) ?_
      refine q_iast hx hb hK hP hD hS 0 0 rfl rfl (k := i) (by omega) (by omega) dJ7_fill_53178_13 (fun H locs hP hD hS => ?_)
      have hP : va_P D qCl [(h0, .inl (cI, k, .inl (upd g i v)))] H := hP
      have hD : va_D A [(h0, .inl (cI, k, .inl (upd g i v)))] := hD
      refine lv_iinc (v := nI (i + 1)) (lv' := [(2, .int (nI (i + 1))), (3, .int (nI k)), (0, .ref h0), (1, .int v)]) hx hb dJ7_fill_53178_14 hl (k := 1) rfl (q_inc _) (by decide) rfl (fun ls hl => ?_)
      refine lv_goto (tgt := 5) hx hb dJ7_fill_53178_17 (by decide) ?_
      exact ih_5 (i + 1) (upd g i v) (by omega) (by omega) (fun j hj => by unfold upd; by_cases hj2 : j = i; (· rw [if_pos hj2]); (· rw [if_neg hj2]; exact hg j (by omega))) _ _ _ (hP.sub [0] rfl) (hD.sub [0] (by decide) rfl) hS (lv_sub hl [1, 0, 2, 3] rfl)
  exact L_5 _ 0 f (Nat.lt_succ_self _) (Nat.zero_le _) (fun j hj => absurd hj (Nat.not_lt_zero _)) _ _ _ (hP.sub [0] rfl) (hD.sub [0] (by decide) rfl) hS (lv_sub hl [0, 1, 2, 3] rfl)
