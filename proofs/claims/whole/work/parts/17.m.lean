/-! FlexLayout.requireLine(I)V (0,) -/
def rm_X6_requireLine_0 : Room := { frames := 6, cells := 1, slots := 6, locals := 90 }
def wp_X6_requireLine_0 (a1 : Int32) (M : fx_Mem) (Q : fx_Mem → Prop) (X : String → fx_Mem → Prop) : Prop :=
  wp_X6_isWithin a1 0 ((M.1 322) - 1) M (fun r2 M1 => ((r2 = 0 → X "java/lang/IndexOutOfBoundsException" M1) ∧ (¬ r2 = 0 → Q M1)))
set_option maxHeartbeats 4000000 in
set_option maxRecDepth 100000 in
theorem c_X6_requireLine_0 (l : Launch) {g : fx_Geo} (hG : fx_Gd g) (hfl0 : l.stackTraces = false) (a1 : Int32) (M : fx_Mem) (Q : fx_Mem → Prop) (X : String → fx_Mem → Prop) (h : wp_X6_requireLine_0 a1 M Q X) : vx_Met l yX6_requireLine (.code yX6_requireLine cX6_requireLine 2 none :: fx_U) rm_X6_requireLine_0 (va_Pc [.ref (fx_a g 0), .int a1] (fx_At g M)) (va_Qv Q (fx_Pw g) (fx_A g)) (fx_XC g X) 1 6 (fx_A g) := by
  refine vx_ofW (cc := cX6_requireLine) (maxL := 2) (ret := none) (by decide +kernel) rfl ?_
  intro p e s m args below meth c s₁ B hml hex hv
  have hfl : fx_fl l c := ⟨hfl0, hex⟩
  obtain ⟨rfl, hv⟩ := hv
  have hts := atoms_spec (ws := .code yX6_requireLine cX6_requireLine 2 none :: fx_U) B.pre
  obtain ⟨C, hH⟩ := fx_body (own := RX6) B hml rfl (fun w hw => hts w (List.mem_cons_of_mem _ hw)) hG hv
  replace hts := fun w hw => hts w (List.mem_cons_of_mem _ hw)
  obtain ⟨hx, hb, hr, -, hown, -, hlocks, hsz, hK, -, hSt⟩ := id C
  have hl := lv_entry ([.ref (fx_a g 0), .int a1]) (n := 2) (Nat.le_of_ble_eq_true rfl)
  rw [lg_entry_eq]
  generalize (lg_sl ([.ref (fx_a g 0), .int a1]) ++ List.replicate (2 - (lg_sl ([.ref (fx_a g 0), .int a1])).length) Slot.unset).toArray = ls at hl ⊢
  have hl : lv_has ls 2 [(0, .ref (fx_a g 0)), (1, .int a1)] := hl
  obtain ⟨H, eH⟩ : ∃ H : Heap, H = s.heap := ⟨_, rfl⟩
  obtain ⟨locs, elocs⟩ : ∃ q : List Loc, q = [] := ⟨_, rfl⟩
  rw [← eH, ← elocs] at hH
  show W p l e rm_X6_requireLine_0 s m _ below meth c s.heap [] 0 0 _ _
  rw [← eH, ← elocs]
  unfold wp_X6_requireLine_0 at h
  refine lv_iload_n hx hb dX6_requireLine_0 rfl (lv_at hl 1 rfl) ?_
  refine lv_iconst (v := 0) hx hb dX6_requireLine_1 (by decide) ?_
  refine lv_aload_n hx hb dX6_requireLine_2 rfl (lv_at hl 0 rfl) ?_
  refine fx_get C hH (fx_w0 g M) rfl in_X6 5 (by decide) u_204 rfl rfl dX6_requireLine_3 ?_
  refine fx_get C hH (fx_w5 g M) rfl in_X0 2 (by decide) u_134 rfl rfl dX6_requireLine_6 ?_
  refine lv_iconst (v := 1) hx hb dX6_requireLine_9 (by decide) ?_
  refine lv_isub hx hb dX6_requireLine_10 ?_
  refine fx_ci hH (fx_runS (As := [.int a1, .int 0, .int ((M.1 322) - 1)]) (rest := []) C hH (c_X6_isWithin l C.2.2.2.2.2.2.2.2.2.1 a1 0 ((M.1 322) - 1) M _ h) (fx_cwS 3 hts u_405 u_406 u_1 u_407 rfl rfl (by decide +kernel) ⟨(Nat.le_of_ble_eq_true rfl), (Nat.le_of_ble_eq_true rfl)⟩) rfl hl.1 rfl (Nat.le_of_ble_eq_true rfl) dX6_requireLine_11 ⟨(Nat.le_of_ble_eq_true rfl), (Nat.le_of_ble_eq_true rfl)⟩) (fun r2 M1 H locs h hH => ?_)
  refine lv_if_ne (tgt := 28) hx hb dX6_requireLine_14 (by decide) (fun c3 => ?_) (fun c3 => ?_)
  · replace h := h.2 c3
    refine vx_ret (W.widen (k := 1) (n := 6) (Nat.le_of_ble_eq_true rfl) (Nat.le_of_ble_eq_true rfl) ?_)
    exact fx_vret C hH h dX6_requireLine_28
  · replace h := h.1 c3
    exact fx_throwSW (text := "no such line") C hfl hH u_526 u_13 13 rfl at_90 (by decide +kernel) (by decide +kernel) (by decide +kernel) dX6_requireLine_17 dX6_requireLine_20 dX6_requireLine_21 dX6_requireLine_24 dX6_requireLine_27 (Nat.le_of_ble_eq_true rfl) (Nat.le_of_ble_eq_true rfl) (Nat.le_of_ble_eq_true rfl) (Nat.le_of_ble_eq_true rfl) hl.1 h (Nat.le_of_ble_eq_true rfl) (Nat.le_of_ble_eq_true rfl)
/-! FlexLayout.rounds(I)I (0,) -/
def rm_X6_rounds_0 : Room := { frames := 7, cells := 1, slots := 6, locals := 127 }
def wp_X6_rounds_0 (a1 : Int32) (M : fx_Mem) (Q : Int32 → fx_Mem → Prop) (X : String → fx_Mem → Prop) : Prop :=
  wp_X0_arrange_5_1  M (fun M1 => wp_X6_requireLine_0 a1 M1 (fun M2 => wp_X5_layOut_6_1_5_4  M2 (fun M3 => vp_in a1 20 ∧ Q (M3.2.1 22 a1.toNatClampNeg) M3)) X)
set_option maxHeartbeats 4000000 in
set_option maxRecDepth 100000 in
theorem c_X6_rounds_0 (l : Launch) {g : fx_Geo} (hG : fx_Gd g) (hfl0 : l.stackTraces = false) (a1 : Int32) (M : fx_Mem) (Q : Int32 → fx_Mem → Prop) (X : String → fx_Mem → Prop) (h : wp_X6_rounds_0 a1 M Q X) : vx_Met l yX6_rounds (.code yX6_rounds cX6_rounds 2 (some .int) :: fx_U) rm_X6_rounds_0 (va_Pc [.ref (fx_a g 0), .int a1] (fx_At g M)) (va_Qi Q (fx_Pw g) (fx_A g)) (fx_XC g X) 1 6 (fx_A g) := by
  refine vx_ofW (cc := cX6_rounds) (maxL := 2) (ret := (some .int)) (by decide +kernel) rfl ?_
  intro p e s m args below meth c s₁ B hml hex hv
  have hfl : fx_fl l c := ⟨hfl0, hex⟩
  obtain ⟨rfl, hv⟩ := hv
  have hts := atoms_spec (ws := .code yX6_rounds cX6_rounds 2 (some .int) :: fx_U) B.pre
  obtain ⟨C, hH⟩ := fx_body (own := RX6) B hml rfl (fun w hw => hts w (List.mem_cons_of_mem _ hw)) hG hv
  replace hts := fun w hw => hts w (List.mem_cons_of_mem _ hw)
  obtain ⟨hx, hb, hr, -, hown, -, hlocks, hsz, hK, -, hSt⟩ := id C
  have hl := lv_entry ([.ref (fx_a g 0), .int a1]) (n := 2) (Nat.le_of_ble_eq_true rfl)
  rw [lg_entry_eq]
  generalize (lg_sl ([.ref (fx_a g 0), .int a1]) ++ List.replicate (2 - (lg_sl ([.ref (fx_a g 0), .int a1])).length) Slot.unset).toArray = ls at hl ⊢
  have hl : lv_has ls 2 [(0, .ref (fx_a g 0)), (1, .int a1)] := hl
  obtain ⟨H, eH⟩ : ∃ H : Heap, H = s.heap := ⟨_, rfl⟩
  obtain ⟨locs, elocs⟩ : ∃ q : List Loc, q = [] := ⟨_, rfl⟩
  rw [← eH, ← elocs] at hH
  show W p l e rm_X6_rounds_0 s m _ below meth c s.heap [] 0 0 _ _
  rw [← eH, ← elocs]
  unfold wp_X6_rounds_0 at h
  refine lv_aload_n hx hb dX6_rounds_0 rfl (lv_at hl 0 rfl) ?_
  refine fx_get C hH (fx_w0 g M) rfl in_X6 5 (by decide) u_204 rfl rfl dX6_rounds_1 ?_
  refine lv_aload_n hx hb dX6_rounds_4 rfl (lv_at hl 0 rfl) ?_
  refine fx_get C hH (fx_w0 g M) rfl in_X6 0 (by decide) u_199 rfl rfl dX6_rounds_5 ?_
  refine fx_cv hH (fx_runV (As := [.ref (fx_a g 1)]) (rest := []) C hH (c_X0_arrange_5_1 l C.2.2.2.2.2.2.2.2.2.1  M _ h) (fx_cwV 1 hts u_232 u_233 u_234 u_5 u_235 rfl rfl (by decide +kernel) ⟨(Nat.le_of_ble_eq_true rfl), (Nat.le_of_ble_eq_true rfl)⟩) (fx_w5 g M) rfl rfl hl.1 rfl (Nat.le_of_ble_eq_true rfl) dX6_rounds_8 ⟨(Nat.le_of_ble_eq_true rfl), (Nat.le_of_ble_eq_true rfl)⟩) (fun M1 H locs h hH => ?_)
  refine lv_aload_n hx hb dX6_rounds_11 rfl (lv_at hl 0 rfl) ?_
  refine lv_iload_n hx hb dX6_rounds_12 rfl (lv_at hl 1 rfl) ?_
  refine fx_xcv (mc := 1) (ms := 6) C hfl hH (fx_xrunV (As := [.int a1]) (rest := []) C hH (c_X6_requireLine_0 l C.2.2.2.2.2.2.2.2.2.1 hfl.1 a1 M1 _ _ h) (fx_cwV 1 hts u_707 u_709 us_21 u_1 u_710 rfl rfl (by decide +kernel) ⟨(Nat.le_of_ble_eq_true rfl), (Nat.le_of_ble_eq_true rfl)⟩) (fx_w0 g M1) rfl rfl hl.1 rfl (Nat.le_of_ble_eq_true rfl) dX6_rounds_13 ⟨(Nat.le_of_ble_eq_true rfl), (Nat.le_of_ble_eq_true rfl)⟩) (fun E M9 hx9 => hx9) (Nat.le_of_ble_eq_true rfl) (Nat.le_of_ble_eq_true rfl) (fun M2 H locs h hH => ?_)
  refine lv_aload_n hx hb dX6_rounds_16 rfl (lv_at hl 0 rfl) ?_
  refine fx_get C hH (fx_w0 g M2) rfl in_X6 6 (by decide) u_205 rfl rfl dX6_rounds_17 ?_
  refine lv_aload_n hx hb dX6_rounds_20 rfl (lv_at hl 0 rfl) ?_
  refine fx_get C hH (fx_w0 g M2) rfl in_X6 0 (by decide) u_199 rfl rfl dX6_rounds_21 ?_
  refine lv_aload_n hx hb dX6_rounds_24 rfl (lv_at hl 0 rfl) ?_
  refine fx_get C hH (fx_w0 g M2) rfl in_X6 5 (by decide) u_204 rfl rfl dX6_rounds_25 ?_
  refine lv_aload_n hx hb dX6_rounds_28 rfl (lv_at hl 0 rfl) ?_
  refine fx_get C hH (fx_w0 g M2) rfl in_X6 4 (by decide) u_203 rfl rfl dX6_rounds_29 ?_
  refine fx_cv hH (fx_runV (As := [.ref (fx_a g 1), .ref (fx_a g 5), .ref (fx_a g 4)]) (rest := []) C hH (c_X5_layOut_6_1_5_4 l C.2.2.2.2.2.2.2.2.2.1  M2 _ h) (fx_cwV 3 hts u_324 u_325 u_326 u_6 u_327 rfl rfl (by decide +kernel) ⟨(Nat.le_of_ble_eq_true rfl), (Nat.le_of_ble_eq_true rfl)⟩) (fx_w6 g M2) rfl rfl hl.1 rfl (Nat.le_of_ble_eq_true rfl) dX6_rounds_32 ⟨(Nat.le_of_ble_eq_true rfl), (Nat.le_of_ble_eq_true rfl)⟩) (fun M3 H locs h hH => ?_)
  refine lv_aload_n hx hb dX6_rounds_35 rfl (lv_at hl 0 rfl) ?_
  refine fx_get C hH (fx_w0 g M3) rfl in_X6 6 (by decide) u_205 rfl rfl dX6_rounds_36 ?_
  refine fx_get C hH (fx_w6 g M3) rfl in_X5 2 (by decide) u_153 rfl rfl dX6_rounds_39 ?_
  refine lv_iload_n hx hb dX6_rounds_42 rfl (lv_at hl 1 rfl) ?_
  obtain ⟨hi4, h⟩ := h
  refine fx_iald (j := a1.toNatClampNeg) C hH 22 (fx_w22 g M3) rfl hi4 dX6_rounds_43 ?_
  refine vx_ret (W.widen (k := 1) (n := 6) (Nat.le_of_ble_eq_true rfl) (Nat.le_of_ble_eq_true rfl) ?_)
  exact fx_iret C hH h dX6_rounds_44
/-! FlexLayout.freeSpace(I)I (0,) -/
def rm_X6_freeSpace_0 : Room := { frames := 7, cells := 1, slots := 6, locals := 127 }
def wp_X6_freeSpace_0 (a1 : Int32) (M : fx_Mem) (Q : Int32 → fx_Mem → Prop) (X : String → fx_Mem → Prop) : Prop :=
  wp_X0_arrange_5_1  M (fun M1 => wp_X6_requireLine_0 a1 M1 (fun M2 => wp_X5_layOut_6_1_5_4  M2 (fun M3 => vp_in a1 20 ∧ Q (M3.2.1 23 a1.toNatClampNeg) M3)) X)
set_option maxHeartbeats 4000000 in
set_option maxRecDepth 100000 in
theorem c_X6_freeSpace_0 (l : Launch) {g : fx_Geo} (hG : fx_Gd g) (hfl0 : l.stackTraces = false) (a1 : Int32) (M : fx_Mem) (Q : Int32 → fx_Mem → Prop) (X : String → fx_Mem → Prop) (h : wp_X6_freeSpace_0 a1 M Q X) : vx_Met l yX6_freeSpace (.code yX6_freeSpace cX6_freeSpace 2 (some .int) :: fx_U) rm_X6_freeSpace_0 (va_Pc [.ref (fx_a g 0), .int a1] (fx_At g M)) (va_Qi Q (fx_Pw g) (fx_A g)) (fx_XC g X) 1 6 (fx_A g) := by
  refine vx_ofW (cc := cX6_freeSpace) (maxL := 2) (ret := (some .int)) (by decide +kernel) rfl ?_
  intro p e s m args below meth c s₁ B hml hex hv
  have hfl : fx_fl l c := ⟨hfl0, hex⟩
  obtain ⟨rfl, hv⟩ := hv
  have hts := atoms_spec (ws := .code yX6_freeSpace cX6_freeSpace 2 (some .int) :: fx_U) B.pre
  obtain ⟨C, hH⟩ := fx_body (own := RX6) B hml rfl (fun w hw => hts w (List.mem_cons_of_mem _ hw)) hG hv
  replace hts := fun w hw => hts w (List.mem_cons_of_mem _ hw)
  obtain ⟨hx, hb, hr, -, hown, -, hlocks, hsz, hK, -, hSt⟩ := id C
  have hl := lv_entry ([.ref (fx_a g 0), .int a1]) (n := 2) (Nat.le_of_ble_eq_true rfl)
  rw [lg_entry_eq]
  generalize (lg_sl ([.ref (fx_a g 0), .int a1]) ++ List.replicate (2 - (lg_sl ([.ref (fx_a g 0), .int a1])).length) Slot.unset).toArray = ls at hl ⊢
  have hl : lv_has ls 2 [(0, .ref (fx_a g 0)), (1, .int a1)] := hl
  obtain ⟨H, eH⟩ : ∃ H : Heap, H = s.heap := ⟨_, rfl⟩
  obtain ⟨locs, elocs⟩ : ∃ q : List Loc, q = [] := ⟨_, rfl⟩
  rw [← eH, ← elocs] at hH
  show W p l e rm_X6_freeSpace_0 s m _ below meth c s.heap [] 0 0 _ _
  rw [← eH, ← elocs]
  unfold wp_X6_freeSpace_0 at h
  refine lv_aload_n hx hb dX6_freeSpace_0 rfl (lv_at hl 0 rfl) ?_
  refine fx_get C hH (fx_w0 g M) rfl in_X6 5 (by decide) u_204 rfl rfl dX6_freeSpace_1 ?_
  refine lv_aload_n hx hb dX6_freeSpace_4 rfl (lv_at hl 0 rfl) ?_
  refine fx_get C hH (fx_w0 g M) rfl in_X6 0 (by decide) u_199 rfl rfl dX6_freeSpace_5 ?_
  refine fx_cv hH (fx_runV (As := [.ref (fx_a g 1)]) (rest := []) C hH (c_X0_arrange_5_1 l C.2.2.2.2.2.2.2.2.2.1  M _ h) (fx_cwV 1 hts u_232 u_233 u_234 u_5 u_235 rfl rfl (by decide +kernel) ⟨(Nat.le_of_ble_eq_true rfl), (Nat.le_of_ble_eq_true rfl)⟩) (fx_w5 g M) rfl rfl hl.1 rfl (Nat.le_of_ble_eq_true rfl) dX6_freeSpace_8 ⟨(Nat.le_of_ble_eq_true rfl), (Nat.le_of_ble_eq_true rfl)⟩) (fun M1 H locs h hH => ?_)
  refine lv_aload_n hx hb dX6_freeSpace_11 rfl (lv_at hl 0 rfl) ?_
  refine lv_iload_n hx hb dX6_freeSpace_12 rfl (lv_at hl 1 rfl) ?_
  refine fx_xcv (mc := 1) (ms := 6) C hfl hH (fx_xrunV (As := [.int a1]) (rest := []) C hH (c_X6_requireLine_0 l C.2.2.2.2.2.2.2.2.2.1 hfl.1 a1 M1 _ _ h) (fx_cwV 1 hts u_707 u_709 us_21 u_1 u_710 rfl rfl (by decide +kernel) ⟨(Nat.le_of_ble_eq_true rfl), (Nat.le_of_ble_eq_true rfl)⟩) (fx_w0 g M1) rfl rfl hl.1 rfl (Nat.le_of_ble_eq_true rfl) dX6_freeSpace_13 ⟨(Nat.le_of_ble_eq_true rfl), (Nat.le_of_ble_eq_true rfl)⟩) (fun E M9 hx9 => hx9) (Nat.le_of_ble_eq_true rfl) (Nat.le_of_ble_eq_true rfl) (fun M2 H locs h hH => ?_)
  refine lv_aload_n hx hb dX6_freeSpace_16 rfl (lv_at hl 0 rfl) ?_
  refine fx_get C hH (fx_w0 g M2) rfl in_X6 6 (by decide) u_205 rfl rfl dX6_freeSpace_17 ?_
  refine lv_aload_n hx hb dX6_freeSpace_20 rfl (lv_at hl 0 rfl) ?_
  refine fx_get C hH (fx_w0 g M2) rfl in_X6 0 (by decide) u_199 rfl rfl dX6_freeSpace_21 ?_
  refine lv_aload_n hx hb dX6_freeSpace_24 rfl (lv_at hl 0 rfl) ?_
  refine fx_get C hH (fx_w0 g M2) rfl in_X6 5 (by decide) u_204 rfl rfl dX6_freeSpace_25 ?_
  refine lv_aload_n hx hb dX6_freeSpace_28 rfl (lv_at hl 0 rfl) ?_
  refine fx_get C hH (fx_w0 g M2) rfl in_X6 4 (by decide) u_203 rfl rfl dX6_freeSpace_29 ?_
  refine fx_cv hH (fx_runV (As := [.ref (fx_a g 1), .ref (fx_a g 5), .ref (fx_a g 4)]) (rest := []) C hH (c_X5_layOut_6_1_5_4 l C.2.2.2.2.2.2.2.2.2.1  M2 _ h) (fx_cwV 3 hts u_324 u_325 u_326 u_6 u_327 rfl rfl (by decide +kernel) ⟨(Nat.le_of_ble_eq_true rfl), (Nat.le_of_ble_eq_true rfl)⟩) (fx_w6 g M2) rfl rfl hl.1 rfl (Nat.le_of_ble_eq_true rfl) dX6_freeSpace_32 ⟨(Nat.le_of_ble_eq_true rfl), (Nat.le_of_ble_eq_true rfl)⟩) (fun M3 H locs h hH => ?_)
  refine lv_aload_n hx hb dX6_freeSpace_35 rfl (lv_at hl 0 rfl) ?_
  refine fx_get C hH (fx_w0 g M3) rfl in_X6 6 (by decide) u_205 rfl rfl dX6_freeSpace_36 ?_
  refine fx_get C hH (fx_w6 g M3) rfl in_X5 3 (by decide) u_155 rfl rfl dX6_freeSpace_39 ?_
  refine lv_iload_n hx hb dX6_freeSpace_42 rfl (lv_at hl 1 rfl) ?_
  obtain ⟨hi4, h⟩ := h
  refine fx_iald (j := a1.toNatClampNeg) C hH 23 (fx_w23 g M3) rfl hi4 dX6_freeSpace_43 ?_
  refine vx_ret (W.widen (k := 1) (n := 6) (Nat.le_of_ble_eq_true rfl) (Nat.le_of_ble_eq_true rfl) ?_)
  exact fx_iret C hH h dX6_freeSpace_44
/-! FlexLayout.lineCross(I)I (0,) -/
def rm_X6_lineCross_0 : Room := { frames := 7, cells := 1, slots := 6, locals := 127 }
def wp_X6_lineCross_0 (a1 : Int32) (M : fx_Mem) (Q : Int32 → fx_Mem → Prop) (X : String → fx_Mem → Prop) : Prop :=
  wp_X0_arrange_5_1  M (fun M1 => wp_X6_requireLine_0 a1 M1 (fun M2 => wp_X2_layOut_7_1_5_4  M2 (fun M3 => vp_in a1 20 ∧ Q (M3.2.1 26 a1.toNatClampNeg) M3)) X)
set_option maxHeartbeats 4000000 in
set_option maxRecDepth 100000 in
theorem c_X6_lineCross_0 (l : Launch) {g : fx_Geo} (hG : fx_Gd g) (hfl0 : l.stackTraces = false) (a1 : Int32) (M : fx_Mem) (Q : Int32 → fx_Mem → Prop) (X : String → fx_Mem → Prop) (h : wp_X6_lineCross_0 a1 M Q X) : vx_Met l yX6_lineCross (.code yX6_lineCross cX6_lineCross 2 (some .int) :: fx_U) rm_X6_lineCross_0 (va_Pc [.ref (fx_a g 0), .int a1] (fx_At g M)) (va_Qi Q (fx_Pw g) (fx_A g)) (fx_XC g X) 1 6 (fx_A g) := by
  refine vx_ofW (cc := cX6_lineCross) (maxL := 2) (ret := (some .int)) (by decide +kernel) rfl ?_
  intro p e s m args below meth c s₁ B hml hex hv
  have hfl : fx_fl l c := ⟨hfl0, hex⟩
  obtain ⟨rfl, hv⟩ := hv
  have hts := atoms_spec (ws := .code yX6_lineCross cX6_lineCross 2 (some .int) :: fx_U) B.pre
  obtain ⟨C, hH⟩ := fx_body (own := RX6) B hml rfl (fun w hw => hts w (List.mem_cons_of_mem _ hw)) hG hv
  replace hts := fun w hw => hts w (List.mem_cons_of_mem _ hw)
  obtain ⟨hx, hb, hr, -, hown, -, hlocks, hsz, hK, -, hSt⟩ := id C
  have hl := lv_entry ([.ref (fx_a g 0), .int a1]) (n := 2) (Nat.le_of_ble_eq_true rfl)
  rw [lg_entry_eq]
  generalize (lg_sl ([.ref (fx_a g 0), .int a1]) ++ List.replicate (2 - (lg_sl ([.ref (fx_a g 0), .int a1])).length) Slot.unset).toArray = ls at hl ⊢
  have hl : lv_has ls 2 [(0, .ref (fx_a g 0)), (1, .int a1)] := hl
  obtain ⟨H, eH⟩ : ∃ H : Heap, H = s.heap := ⟨_, rfl⟩
  obtain ⟨locs, elocs⟩ : ∃ q : List Loc, q = [] := ⟨_, rfl⟩
  rw [← eH, ← elocs] at hH
  show W p l e rm_X6_lineCross_0 s m _ below meth c s.heap [] 0 0 _ _
  rw [← eH, ← elocs]
  unfold wp_X6_lineCross_0 at h
  refine lv_aload_n hx hb dX6_lineCross_0 rfl (lv_at hl 0 rfl) ?_
  refine fx_get C hH (fx_w0 g M) rfl in_X6 5 (by decide) u_204 rfl rfl dX6_lineCross_1 ?_
  refine lv_aload_n hx hb dX6_lineCross_4 rfl (lv_at hl 0 rfl) ?_
  refine fx_get C hH (fx_w0 g M) rfl in_X6 0 (by decide) u_199 rfl rfl dX6_lineCross_5 ?_
  refine fx_cv hH (fx_runV (As := [.ref (fx_a g 1)]) (rest := []) C hH (c_X0_arrange_5_1 l C.2.2.2.2.2.2.2.2.2.1  M _ h) (fx_cwV 1 hts u_232 u_233 u_234 u_5 u_235 rfl rfl (by decide +kernel) ⟨(Nat.le_of_ble_eq_true rfl), (Nat.le_of_ble_eq_true rfl)⟩) (fx_w5 g M) rfl rfl hl.1 rfl (Nat.le_of_ble_eq_true rfl) dX6_lineCross_8 ⟨(Nat.le_of_ble_eq_true rfl), (Nat.le_of_ble_eq_true rfl)⟩) (fun M1 H locs h hH => ?_)
  refine lv_aload_n hx hb dX6_lineCross_11 rfl (lv_at hl 0 rfl) ?_
  refine lv_iload_n hx hb dX6_lineCross_12 rfl (lv_at hl 1 rfl) ?_
  refine fx_xcv (mc := 1) (ms := 6) C hfl hH (fx_xrunV (As := [.int a1]) (rest := []) C hH (c_X6_requireLine_0 l C.2.2.2.2.2.2.2.2.2.1 hfl.1 a1 M1 _ _ h) (fx_cwV 1 hts u_707 u_709 us_21 u_1 u_710 rfl rfl (by decide +kernel) ⟨(Nat.le_of_ble_eq_true rfl), (Nat.le_of_ble_eq_true rfl)⟩) (fx_w0 g M1) rfl rfl hl.1 rfl (Nat.le_of_ble_eq_true rfl) dX6_lineCross_13 ⟨(Nat.le_of_ble_eq_true rfl), (Nat.le_of_ble_eq_true rfl)⟩) (fun E M9 hx9 => hx9) (Nat.le_of_ble_eq_true rfl) (Nat.le_of_ble_eq_true rfl) (fun M2 H locs h hH => ?_)
  refine lv_aload_n hx hb dX6_lineCross_16 rfl (lv_at hl 0 rfl) ?_
  refine fx_get C hH (fx_w0 g M2) rfl in_X6 7 (by decide) u_206 rfl rfl dX6_lineCross_17 ?_
  refine lv_aload_n hx hb dX6_lineCross_20 rfl (lv_at hl 0 rfl) ?_
  refine fx_get C hH (fx_w0 g M2) rfl in_X6 0 (by decide) u_199 rfl rfl dX6_lineCross_21 ?_
  refine lv_aload_n hx hb dX6_lineCross_24 rfl (lv_at hl 0 rfl) ?_
  refine fx_get C hH (fx_w0 g M2) rfl in_X6 5 (by decide) u_204 rfl rfl dX6_lineCross_25 ?_
  refine lv_aload_n hx hb dX6_lineCross_28 rfl (lv_at hl 0 rfl) ?_
  refine fx_get C hH (fx_w0 g M2) rfl in_X6 4 (by decide) u_203 rfl rfl dX6_lineCross_29 ?_
  refine fx_cv hH (fx_runV (As := [.ref (fx_a g 1), .ref (fx_a g 5), .ref (fx_a g 4)]) (rest := []) C hH (c_X2_layOut_7_1_5_4 l C.2.2.2.2.2.2.2.2.2.1  M2 _ h) (fx_cwV 3 hts u_260 u_261 u_262 u_7 u_263 rfl rfl (by decide +kernel) ⟨(Nat.le_of_ble_eq_true rfl), (Nat.le_of_ble_eq_true rfl)⟩) (fx_w7 g M2) rfl rfl hl.1 rfl (Nat.le_of_ble_eq_true rfl) dX6_lineCross_32 ⟨(Nat.le_of_ble_eq_true rfl), (Nat.le_of_ble_eq_true rfl)⟩) (fun M3 H locs h hH => ?_)
  refine lv_aload_n hx hb dX6_lineCross_35 rfl (lv_at hl 0 rfl) ?_
  refine fx_get C hH (fx_w0 g M3) rfl in_X6 7 (by decide) u_206 rfl rfl dX6_lineCross_36 ?_
  refine fx_get C hH (fx_w7 g M3) rfl in_X2 0 (by decide) u_179 rfl rfl dX6_lineCross_39 ?_
  refine lv_iload_n hx hb dX6_lineCross_42 rfl (lv_at hl 1 rfl) ?_
  obtain ⟨hi4, h⟩ := h
  refine fx_iald (j := a1.toNatClampNeg) C hH 26 (fx_w26 g M3) rfl hi4 dX6_lineCross_43 ?_
  refine vx_ret (W.widen (k := 1) (n := 6) (Nat.le_of_ble_eq_true rfl) (Nat.le_of_ble_eq_true rfl) ?_)
  exact fx_iret C hH h dX6_lineCross_44
/-! FlexLayout.lineAscent(I)I (0,) -/
def rm_X6_lineAscent_0 : Room := { frames := 7, cells := 1, slots := 6, locals := 127 }
def wp_X6_lineAscent_0 (a1 : Int32) (M : fx_Mem) (Q : Int32 → fx_Mem → Prop) (X : String → fx_Mem → Prop) : Prop :=
  wp_X0_arrange_5_1  M (fun M1 => wp_X6_requireLine_0 a1 M1 (fun M2 => wp_X2_layOut_7_1_5_4  M2 (fun M3 => vp_in a1 20 ∧ Q (M3.2.1 27 a1.toNatClampNeg) M3)) X)
set_option maxHeartbeats 4000000 in
set_option maxRecDepth 100000 in
theorem c_X6_lineAscent_0 (l : Launch) {g : fx_Geo} (hG : fx_Gd g) (hfl0 : l.stackTraces = false) (a1 : Int32) (M : fx_Mem) (Q : Int32 → fx_Mem → Prop) (X : String → fx_Mem → Prop) (h : wp_X6_lineAscent_0 a1 M Q X) : vx_Met l yX6_lineAscent (.code yX6_lineAscent cX6_lineAscent 2 (some .int) :: fx_U) rm_X6_lineAscent_0 (va_Pc [.ref (fx_a g 0), .int a1] (fx_At g M)) (va_Qi Q (fx_Pw g) (fx_A g)) (fx_XC g X) 1 6 (fx_A g) := by
  refine vx_ofW (cc := cX6_lineAscent) (maxL := 2) (ret := (some .int)) (by decide +kernel) rfl ?_
  intro p e s m args below meth c s₁ B hml hex hv
  have hfl : fx_fl l c := ⟨hfl0, hex⟩
  obtain ⟨rfl, hv⟩ := hv
  have hts := atoms_spec (ws := .code yX6_lineAscent cX6_lineAscent 2 (some .int) :: fx_U) B.pre
  obtain ⟨C, hH⟩ := fx_body (own := RX6) B hml rfl (fun w hw => hts w (List.mem_cons_of_mem _ hw)) hG hv
  replace hts := fun w hw => hts w (List.mem_cons_of_mem _ hw)
  obtain ⟨hx, hb, hr, -, hown, -, hlocks, hsz, hK, -, hSt⟩ := id C
  have hl := lv_entry ([.ref (fx_a g 0), .int a1]) (n := 2) (Nat.le_of_ble_eq_true rfl)
  rw [lg_entry_eq]
  generalize (lg_sl ([.ref (fx_a g 0), .int a1]) ++ List.replicate (2 - (lg_sl ([.ref (fx_a g 0), .int a1])).length) Slot.unset).toArray = ls at hl ⊢
  have hl : lv_has ls 2 [(0, .ref (fx_a g 0)), (1, .int a1)] := hl
  obtain ⟨H, eH⟩ : ∃ H : Heap, H = s.heap := ⟨_, rfl⟩
  obtain ⟨locs, elocs⟩ : ∃ q : List Loc, q = [] := ⟨_, rfl⟩
  rw [← eH, ← elocs] at hH
  show W p l e rm_X6_lineAscent_0 s m _ below meth c s.heap [] 0 0 _ _
  rw [← eH, ← elocs]
  unfold wp_X6_lineAscent_0 at h
  refine lv_aload_n hx hb dX6_lineAscent_0 rfl (lv_at hl 0 rfl) ?_
  refine fx_get C hH (fx_w0 g M) rfl in_X6 5 (by decide) u_204 rfl rfl dX6_lineAscent_1 ?_
  refine lv_aload_n hx hb dX6_lineAscent_4 rfl (lv_at hl 0 rfl) ?_
  refine fx_get C hH (fx_w0 g M) rfl in_X6 0 (by decide) u_199 rfl rfl dX6_lineAscent_5 ?_
  refine fx_cv hH (fx_runV (As := [.ref (fx_a g 1)]) (rest := []) C hH (c_X0_arrange_5_1 l C.2.2.2.2.2.2.2.2.2.1  M _ h) (fx_cwV 1 hts u_232 u_233 u_234 u_5 u_235 rfl rfl (by decide +kernel) ⟨(Nat.le_of_ble_eq_true rfl), (Nat.le_of_ble_eq_true rfl)⟩) (fx_w5 g M) rfl rfl hl.1 rfl (Nat.le_of_ble_eq_true rfl) dX6_lineAscent_8 ⟨(Nat.le_of_ble_eq_true rfl), (Nat.le_of_ble_eq_true rfl)⟩) (fun M1 H locs h hH => ?_)
  refine lv_aload_n hx hb dX6_lineAscent_11 rfl (lv_at hl 0 rfl) ?_
  refine lv_iload_n hx hb dX6_lineAscent_12 rfl (lv_at hl 1 rfl) ?_
  refine fx_xcv (mc := 1) (ms := 6) C hfl hH (fx_xrunV (As := [.int a1]) (rest := []) C hH (c_X6_requireLine_0 l C.2.2.2.2.2.2.2.2.2.1 hfl.1 a1 M1 _ _ h) (fx_cwV 1 hts u_707 u_709 us_21 u_1 u_710 rfl rfl (by decide +kernel) ⟨(Nat.le_of_ble_eq_true rfl), (Nat.le_of_ble_eq_true rfl)⟩) (fx_w0 g M1) rfl rfl hl.1 rfl (Nat.le_of_ble_eq_true rfl) dX6_lineAscent_13 ⟨(Nat.le_of_ble_eq_true rfl), (Nat.le_of_ble_eq_true rfl)⟩) (fun E M9 hx9 => hx9) (Nat.le_of_ble_eq_true rfl) (Nat.le_of_ble_eq_true rfl) (fun M2 H locs h hH => ?_)
  refine lv_aload_n hx hb dX6_lineAscent_16 rfl (lv_at hl 0 rfl) ?_
  refine fx_get C hH (fx_w0 g M2) rfl in_X6 7 (by decide) u_206 rfl rfl dX6_lineAscent_17 ?_
  refine lv_aload_n hx hb dX6_lineAscent_20 rfl (lv_at hl 0 rfl) ?_
  refine fx_get C hH (fx_w0 g M2) rfl in_X6 0 (by decide) u_199 rfl rfl dX6_lineAscent_21 ?_
  refine lv_aload_n hx hb dX6_lineAscent_24 rfl (lv_at hl 0 rfl) ?_
  refine fx_get C hH (fx_w0 g M2) rfl in_X6 5 (by decide) u_204 rfl rfl dX6_lineAscent_25 ?_
  refine lv_aload_n hx hb dX6_lineAscent_28 rfl (lv_at hl 0 rfl) ?_
  refine fx_get C hH (fx_w0 g M2) rfl in_X6 4 (by decide) u_203 rfl rfl dX6_lineAscent_29 ?_
  refine fx_cv hH (fx_runV (As := [.ref (fx_a g 1), .ref (fx_a g 5), .ref (fx_a g 4)]) (rest := []) C hH (c_X2_layOut_7_1_5_4 l C.2.2.2.2.2.2.2.2.2.1  M2 _ h) (fx_cwV 3 hts u_260 u_261 u_262 u_7 u_263 rfl rfl (by decide +kernel) ⟨(Nat.le_of_ble_eq_true rfl), (Nat.le_of_ble_eq_true rfl)⟩) (fx_w7 g M2) rfl rfl hl.1 rfl (Nat.le_of_ble_eq_true rfl) dX6_lineAscent_32 ⟨(Nat.le_of_ble_eq_true rfl), (Nat.le_of_ble_eq_true rfl)⟩) (fun M3 H locs h hH => ?_)
  refine lv_aload_n hx hb dX6_lineAscent_35 rfl (lv_at hl 0 rfl) ?_
  refine fx_get C hH (fx_w0 g M3) rfl in_X6 7 (by decide) u_206 rfl rfl dX6_lineAscent_36 ?_
  refine fx_get C hH (fx_w7 g M3) rfl in_X2 1 (by decide) u_181 rfl rfl dX6_lineAscent_39 ?_
  refine lv_iload_n hx hb dX6_lineAscent_42 rfl (lv_at hl 1 rfl) ?_
  obtain ⟨hi4, h⟩ := h
  refine fx_iald (j := a1.toNatClampNeg) C hH 27 (fx_w27 g M3) rfl hi4 dX6_lineAscent_43 ?_
  refine vx_ret (W.widen (k := 1) (n := 6) (Nat.le_of_ble_eq_true rfl) (Nat.le_of_ble_eq_true rfl) ?_)
  exact fx_iret C hH h dX6_lineAscent_44
/-! FlexLayout.crossExtent()I (0,) -/
def rm_X6_crossExtent_0 : Room := { frames := 5, cells := 0, slots := 0, locals := 127 }
def wp_X6_crossExtent_0 (M : fx_Mem) (Q : Int32 → fx_Mem → Prop) : Prop :=
  wp_X0_arrange_5_1  M (fun M1 => wp_X2_layOut_7_1_5_4  M1 (fun M2 => Q (M2.1 452) M2))
set_option maxHeartbeats 4000000 in
set_option maxRecDepth 100000 in
theorem c_X6_crossExtent_0 (l : Launch) {g : fx_Geo} (hG : fx_Gd g) (M : fx_Mem) (Q : Int32 → fx_Mem → Prop) (h : wp_X6_crossExtent_0 M Q) : Met l yX6_crossExtent (.code yX6_crossExtent cX6_crossExtent 1 (some .int) :: fx_U) rm_X6_crossExtent_0 (va_Pc [.ref (fx_a g 0)] (fx_At g M)) (va_Qi Q (fx_Pw g) (fx_A g)) 0 0 (fx_A g) := by
  refine Met.ofW (cc := cX6_crossExtent) (maxL := 1) (ret := (some .int)) (by decide +kernel) rfl ?_
  intro p e s m args below meth c s₁ B hml hv
  obtain ⟨rfl, hv⟩ := hv
  have hts := atoms_spec (ws := .code yX6_crossExtent cX6_crossExtent 1 (some .int) :: fx_U) B.pre
  obtain ⟨C, hH⟩ := fx_body (own := RX6) B hml rfl (fun w hw => hts w (List.mem_cons_of_mem _ hw)) hG hv
  replace hts := fun w hw => hts w (List.mem_cons_of_mem _ hw)
  obtain ⟨hx, hb, hr, -, hown, -, hlocks, hsz, hK, -, hSt⟩ := id C
  have hl := lv_entry ([.ref (fx_a g 0)]) (n := 1) (Nat.le_of_ble_eq_true rfl)
  rw [lg_entry_eq]
  generalize (lg_sl ([.ref (fx_a g 0)]) ++ List.replicate (1 - (lg_sl ([.ref (fx_a g 0)])).length) Slot.unset).toArray = ls at hl ⊢
  have hl : lv_has ls 1 [(0, .ref (fx_a g 0))] := hl
  obtain ⟨H, eH⟩ : ∃ H : Heap, H = s.heap := ⟨_, rfl⟩
  obtain ⟨locs, elocs⟩ : ∃ q : List Loc, q = [] := ⟨_, rfl⟩
  rw [← eH, ← elocs] at hH
  show W p l e rm_X6_crossExtent_0 s m _ below meth c s.heap [] 0 0 _ _
  rw [← eH, ← elocs]
  unfold wp_X6_crossExtent_0 at h
  refine lv_aload_n hx hb dX6_crossExtent_0 rfl (lv_at hl 0 rfl) ?_
  refine fx_get C hH (fx_w0 g M) rfl in_X6 5 (by decide) u_204 rfl rfl dX6_crossExtent_1 ?_
  refine lv_aload_n hx hb dX6_crossExtent_4 rfl (lv_at hl 0 rfl) ?_
  refine fx_get C hH (fx_w0 g M) rfl in_X6 0 (by decide) u_199 rfl rfl dX6_crossExtent_5 ?_
  refine fx_cv hH (fx_runV (As := [.ref (fx_a g 1)]) (rest := []) C hH (c_X0_arrange_5_1 l C.2.2.2.2.2.2.2.2.2.1  M _ h) (fx_cwV 1 hts u_232 u_233 u_234 u_5 u_235 rfl rfl (by decide +kernel) ⟨(Nat.le_of_ble_eq_true rfl), (Nat.le_of_ble_eq_true rfl)⟩) (fx_w5 g M) rfl rfl hl.1 rfl (Nat.le_of_ble_eq_true rfl) dX6_crossExtent_8 ⟨(Nat.le_of_ble_eq_true rfl), (Nat.le_of_ble_eq_true rfl)⟩) (fun M1 H locs h hH => ?_)
  refine lv_aload_n hx hb dX6_crossExtent_11 rfl (lv_at hl 0 rfl) ?_
  refine fx_get C hH (fx_w0 g M1) rfl in_X6 7 (by decide) u_206 rfl rfl dX6_crossExtent_12 ?_
  refine lv_aload_n hx hb dX6_crossExtent_15 rfl (lv_at hl 0 rfl) ?_
  refine fx_get C hH (fx_w0 g M1) rfl in_X6 0 (by decide) u_199 rfl rfl dX6_crossExtent_16 ?_
  refine lv_aload_n hx hb dX6_crossExtent_19 rfl (lv_at hl 0 rfl) ?_
  refine fx_get C hH (fx_w0 g M1) rfl in_X6 5 (by decide) u_204 rfl rfl dX6_crossExtent_20 ?_
  refine lv_aload_n hx hb dX6_crossExtent_23 rfl (lv_at hl 0 rfl) ?_
  refine fx_get C hH (fx_w0 g M1) rfl in_X6 4 (by decide) u_203 rfl rfl dX6_crossExtent_24 ?_
  refine fx_cv hH (fx_runV (As := [.ref (fx_a g 1), .ref (fx_a g 5), .ref (fx_a g 4)]) (rest := []) C hH (c_X2_layOut_7_1_5_4 l C.2.2.2.2.2.2.2.2.2.1  M1 _ h) (fx_cwV 3 hts u_260 u_261 u_262 u_7 u_263 rfl rfl (by decide +kernel) ⟨(Nat.le_of_ble_eq_true rfl), (Nat.le_of_ble_eq_true rfl)⟩) (fx_w7 g M1) rfl rfl hl.1 rfl (Nat.le_of_ble_eq_true rfl) dX6_crossExtent_27 ⟨(Nat.le_of_ble_eq_true rfl), (Nat.le_of_ble_eq_true rfl)⟩) (fun M2 H locs h hH => ?_)
  refine lv_aload_n hx hb dX6_crossExtent_30 rfl (lv_at hl 0 rfl) ?_
  refine fx_get C hH (fx_w0 g M2) rfl in_X6 7 (by decide) u_206 rfl rfl dX6_crossExtent_31 ?_
  refine fx_get C hH (fx_w7 g M2) rfl in_X2 4 (by decide) u_187 rfl rfl dX6_crossExtent_34 ?_
  exact fx_iret C hH h dX6_crossExtent_37
/-! FlexLayout.overflows(I)Z (0,) -/
def rm_X6_overflows_0 : Room := { frames := 7, cells := 1, slots := 6, locals := 147 }
def wb_X6_overflows_0_79 (Q : Int32 → fx_Mem → Prop) (X : String → fx_Mem → Prop) (M : fx_Mem) : Prop :=
  Q 1 M
set_option maxHeartbeats 4000000 in
set_option maxRecDepth 100000 in
theorem tb_X6_overflows_0_79 {g : fx_Geo} {p : Program} {l : Launch} {e : Env} {s : State} {m : MethodId} {args : Array Value} {below : List Frame} {meth : Method} {c : Code} (C : fx_Cx g p s m args meth c RX6 cX6_overflows 4 (some .boolean)) (hfl : fx_fl l c) (Q : Int32 → fx_Mem → Prop) (X : String → fx_Mem → Prop) (M : fx_Mem) (h : wb_X6_overflows_0_79 Q X M) (H : Heap) (locs : List Loc) (ls : Array Slot) (hH : fx_H g s M H locs) (hl : lv_has ls 4 []) : W p l e rm_X6_overflows_0 s m args below meth c H locs 1 6 (vx_MQ below (va_Qi Q (fx_Pw g) (fx_A g)) (fx_XC g X) args s 1 6 (fx_A g)) (F0 m 79 ls []) := by
  obtain ⟨hx, hb, hr, hml, hown, hts, hlocks, hsz, hK, hG, hSt⟩ := id C
  unfold wb_X6_overflows_0_79 at h
  refine lv_iconst (v := 1) hx hb dX6_overflows_79 (by decide) ?_
  refine lv_goto (tgt := 84) hx hb dX6_overflows_80 (by decide) ?_
  refine vx_ret (W.widen (k := 1) (n := 6) (Nat.le_of_ble_eq_true rfl) (Nat.le_of_ble_eq_true rfl) ?_)
  exact fx_zret C hH (by decide) h dX6_overflows_84
def wp_X6_overflows_0 (a1 : Int32) (M : fx_Mem) (Q : Int32 → fx_Mem → Prop) (X : String → fx_Mem → Prop) : Prop :=
  wp_X6_requireItem_0 a1 M (fun M1 => wp_X6_layOut_0  M1 (fun M2 => vp_in a1 20 ∧ ∀ v4 : Int32, v4 = M2.2.1 21 a1.toNatClampNeg → vp_in a1 20 ∧ ∀ v6 : Int32, v6 = M2.2.1 29 a1.toNatClampNeg → ((v4 < 0 → wb_X6_overflows_0_79 Q X  M2) ∧ (¬ v4 < 0 → vp_in a1 20 ∧ ((M2.1 64 < v4 + (M2.2.1 20 a1.toNatClampNeg) → wb_X6_overflows_0_79 Q X  M2) ∧ (¬ M2.1 64 < v4 + (M2.2.1 20 a1.toNatClampNeg) → ((v6 < 0 → wb_X6_overflows_0_79 Q X  M2) ∧ (¬ v6 < 0 → vp_in a1 20 ∧ ((v6 + (M2.2.1 28 a1.toNatClampNeg) ≤ M2.1 452 → Q 0 M2) ∧ (¬ v6 + (M2.2.1 28 a1.toNatClampNeg) ≤ M2.1 452 → wb_X6_overflows_0_79 Q X  M2)))))))))) X
set_option maxHeartbeats 4000000 in
set_option maxRecDepth 100000 in
theorem c_X6_overflows_0 (l : Launch) {g : fx_Geo} (hG : fx_Gd g) (hfl0 : l.stackTraces = false) (a1 : Int32) (M : fx_Mem) (Q : Int32 → fx_Mem → Prop) (X : String → fx_Mem → Prop) (h : wp_X6_overflows_0 a1 M Q X) : vx_Met l yX6_overflows (.code yX6_overflows cX6_overflows 4 (some .boolean) :: fx_U) rm_X6_overflows_0 (va_Pc [.ref (fx_a g 0), .int a1] (fx_At g M)) (va_Qi Q (fx_Pw g) (fx_A g)) (fx_XC g X) 1 6 (fx_A g) := by
  refine vx_ofW (cc := cX6_overflows) (maxL := 4) (ret := (some .boolean)) (by decide +kernel) rfl ?_
  intro p e s m args below meth c s₁ B hml hex hv
  have hfl : fx_fl l c := ⟨hfl0, hex⟩
  obtain ⟨rfl, hv⟩ := hv
  have hts := atoms_spec (ws := .code yX6_overflows cX6_overflows 4 (some .boolean) :: fx_U) B.pre
  obtain ⟨C, hH⟩ := fx_body (own := RX6) B hml rfl (fun w hw => hts w (List.mem_cons_of_mem _ hw)) hG hv
  replace hts := fun w hw => hts w (List.mem_cons_of_mem _ hw)
  obtain ⟨hx, hb, hr, -, hown, -, hlocks, hsz, hK, -, hSt⟩ := id C
  have hl := lv_entry ([.ref (fx_a g 0), .int a1]) (n := 4) (Nat.le_of_ble_eq_true rfl)
  rw [lg_entry_eq]
  generalize (lg_sl ([.ref (fx_a g 0), .int a1]) ++ List.replicate (4 - (lg_sl ([.ref (fx_a g 0), .int a1])).length) Slot.unset).toArray = ls at hl ⊢
  have hl : lv_has ls 4 [(0, .ref (fx_a g 0)), (1, .int a1)] := hl
  obtain ⟨H, eH⟩ : ∃ H : Heap, H = s.heap := ⟨_, rfl⟩
  obtain ⟨locs, elocs⟩ : ∃ q : List Loc, q = [] := ⟨_, rfl⟩
  rw [← eH, ← elocs] at hH
  show W p l e rm_X6_overflows_0 s m _ below meth c s.heap [] 0 0 _ _
  rw [← eH, ← elocs]
  unfold wp_X6_overflows_0 at h
  refine lv_aload_n hx hb dX6_overflows_0 rfl (lv_at hl 0 rfl) ?_
  refine lv_iload_n hx hb dX6_overflows_1 rfl (lv_at hl 1 rfl) ?_
  refine fx_xcv (mc := 1) (ms := 6) C hfl hH (fx_xrunV (As := [.int a1]) (rest := []) C hH (c_X6_requireItem_0 l C.2.2.2.2.2.2.2.2.2.1 hfl.1 a1 M _ _ h) (fx_cwV 1 hts u_596 u_598 us_19 u_1 u_599 rfl rfl (by decide +kernel) ⟨(Nat.le_of_ble_eq_true rfl), (Nat.le_of_ble_eq_true rfl)⟩) (fx_w0 g M) rfl rfl hl.1 rfl (Nat.le_of_ble_eq_true rfl) dX6_overflows_2 ⟨(Nat.le_of_ble_eq_true rfl), (Nat.le_of_ble_eq_true rfl)⟩) (fun E M9 hx9 => hx9) (Nat.le_of_ble_eq_true rfl) (Nat.le_of_ble_eq_true rfl) (fun M1 H locs h hH => ?_)
  refine lv_aload_n hx hb dX6_overflows_5 rfl (lv_at hl 0 rfl) ?_
  refine fx_cv hH (fx_runV (As := []) (rest := []) C hH (c_X6_layOut_0 l C.2.2.2.2.2.2.2.2.2.1  M1 _ h) (fx_cwV 0 hts u_320 u_322 us_7 u_1 u_323 rfl rfl (by decide +kernel) ⟨(Nat.le_of_ble_eq_true rfl), (Nat.le_of_ble_eq_true rfl)⟩) (fx_w0 g M1) rfl rfl hl.1 rfl (Nat.le_of_ble_eq_true rfl) dX6_overflows_6 ⟨(Nat.le_of_ble_eq_true rfl), (Nat.le_of_ble_eq_true rfl)⟩) (fun M2 H locs h hH => ?_)
  refine lv_aload_n hx hb dX6_overflows_9 rfl (lv_at hl 0 rfl) ?_
  refine fx_get C hH (fx_w0 g M2) rfl in_X6 6 (by decide) u_205 rfl rfl dX6_overflows_10 ?_
  refine fx_get C hH (fx_w6 g M2) rfl in_X5 1 (by decide) u_151 rfl rfl dX6_overflows_13 ?_
  refine lv_iload_n hx hb dX6_overflows_16 rfl (lv_at hl 1 rfl) ?_
  obtain ⟨hi3, h⟩ := h
  refine fx_iald (j := a1.toNatClampNeg) C hH 21 (fx_w21 g M2) rfl hi3 dX6_overflows_17 ?_
  refine lv_topi (fun v4 ev4 => ?_)
  replace h := h v4 ev4
  refine lv_istore_n (lv' := [(2, .int v4), (0, .ref (fx_a g 0)), (1, .int a1)]) hx hb dX6_overflows_18 rfl hl (by decide) rfl (fun ls hl => ?_)
  refine lv_aload_n hx hb dX6_overflows_19 rfl (lv_at hl 1 rfl) ?_
  refine fx_get C hH (fx_w0 g M2) rfl in_X6 7 (by decide) u_206 rfl rfl dX6_overflows_20 ?_
  refine fx_get C hH (fx_w7 g M2) rfl in_X2 3 (by decide) u_185 rfl rfl dX6_overflows_23 ?_
  refine lv_iload_n hx hb dX6_overflows_26 rfl (lv_at hl 2 rfl) ?_
  obtain ⟨hi5, h⟩ := h
  refine fx_iald (j := a1.toNatClampNeg) C hH 29 (fx_w29 g M2) rfl hi5 dX6_overflows_27 ?_
  refine lv_topi (fun v6 ev6 => ?_)
  replace h := h v6 ev6
  refine lv_istore_n (lv' := [(3, .int v6), (2, .int v4), (0, .ref (fx_a g 0)), (1, .int a1)]) hx hb dX6_overflows_28 rfl hl (by decide) rfl (fun ls hl => ?_)
  refine lv_iload_n hx hb dX6_overflows_29 rfl (lv_at hl 1 rfl) ?_
  refine lv_if_lt (tgt := 79) hx hb dX6_overflows_30 (by decide) (fun c7 => ?_) (fun c7 => ?_)
  · replace h := h.1 c7
    exact tb_X6_overflows_0_79 C hfl Q X   M2 h  H locs ls hH (lv_sub hl [] rfl)
  · replace h := h.2 c7
    refine lv_iload_n hx hb dX6_overflows_33 rfl (lv_at hl 1 rfl) ?_
    refine lv_aload_n hx hb dX6_overflows_34 rfl (lv_at hl 2 rfl) ?_
    refine fx_get C hH (fx_w0 g M2) rfl in_X6 6 (by decide) u_205 rfl rfl dX6_overflows_35 ?_
    refine fx_get C hH (fx_w6 g M2) rfl in_X5 0 (by decide) u_149 rfl rfl dX6_overflows_38 ?_
    refine lv_iload_n hx hb dX6_overflows_41 rfl (lv_at hl 3 rfl) ?_
    obtain ⟨hi8, h⟩ := h
    refine fx_iald (j := a1.toNatClampNeg) C hH 20 (fx_w20 g M2) rfl hi8 dX6_overflows_42 ?_
    refine lv_iadd hx hb dX6_overflows_43 ?_
    refine lv_aload_n hx hb dX6_overflows_44 rfl (lv_at hl 2 rfl) ?_
    refine fx_get C hH (fx_w0 g M2) rfl in_X6 0 (by decide) u_199 rfl rfl dX6_overflows_45 ?_
    refine fx_get C hH (fx_w1 g M2) rfl in_X1 0 (by decide) u_39 rfl rfl dX6_overflows_48 ?_
    refine lv_icmp_gt (tgt := 79) hx hb dX6_overflows_51 (by decide) (fun c9 => ?_) (fun c9 => ?_)
    · replace h := h.1 c9
      exact tb_X6_overflows_0_79 C hfl Q X   M2 h  H locs ls hH (lv_sub hl [] rfl)
    · replace h := h.2 c9
      refine lv_iload_n hx hb dX6_overflows_54 rfl (lv_at hl 0 rfl) ?_
      refine lv_if_lt (tgt := 79) hx hb dX6_overflows_55 (by decide) (fun c10 => ?_) (fun c10 => ?_)
      · replace h := h.1 c10
        exact tb_X6_overflows_0_79 C hfl Q X   M2 h  H locs ls hH (lv_sub hl [] rfl)
      · replace h := h.2 c10
        refine lv_iload_n hx hb dX6_overflows_58 rfl (lv_at hl 0 rfl) ?_
        refine lv_aload_n hx hb dX6_overflows_59 rfl (lv_at hl 2 rfl) ?_
        refine fx_get C hH (fx_w0 g M2) rfl in_X6 7 (by decide) u_206 rfl rfl dX6_overflows_60 ?_
        refine fx_get C hH (fx_w7 g M2) rfl in_X2 2 (by decide) u_183 rfl rfl dX6_overflows_63 ?_
        refine lv_iload_n hx hb dX6_overflows_66 rfl (lv_at hl 3 rfl) ?_
        obtain ⟨hi11, h⟩ := h
        refine fx_iald (j := a1.toNatClampNeg) C hH 28 (fx_w28 g M2) rfl hi11 dX6_overflows_67 ?_
        refine lv_iadd hx hb dX6_overflows_68 ?_
        refine lv_aload_n hx hb dX6_overflows_69 rfl (lv_at hl 2 rfl) ?_
        refine fx_get C hH (fx_w0 g M2) rfl in_X6 7 (by decide) u_206 rfl rfl dX6_overflows_70 ?_
        refine fx_get C hH (fx_w7 g M2) rfl in_X2 4 (by decide) u_187 rfl rfl dX6_overflows_73 ?_
        refine lv_icmp_le (tgt := 83) hx hb dX6_overflows_76 (by decide) (fun c12 => ?_) (fun c12 => ?_)
        · replace h := h.1 c12
          refine lv_iconst (v := 0) hx hb dX6_overflows_83 (by decide) ?_
          refine vx_ret (W.widen (k := 1) (n := 6) (Nat.le_of_ble_eq_true rfl) (Nat.le_of_ble_eq_true rfl) ?_)
          exact fx_zret C hH (by decide) h dX6_overflows_84
        · replace h := h.2 c12
          exact tb_X6_overflows_0_79 C hfl Q X   M2 h  H locs ls hH (lv_sub hl [] rfl)
/-! FlexLayout.contains(III)Z (0,) -/
def rm_X6_contains_0 : Room := { frames := 0, cells := 0, slots := 0, locals := 0 }
def wp_X6_contains_0 (a1 : Int32) (a2 : Int32) (a3 : Int32) (M : fx_Mem) (Q : Int32 → fx_Mem → Prop) : Prop :=
  vp_in a1 20 ∧ ∀ v2 : Int32, v2 = M.2.1 21 a1.toNatClampNeg → vp_in a1 20 ∧ ∀ v4 : Int32, v4 = M.2.1 29 a1.toNatClampNeg → ((a2 < v2 → Q 0 M) ∧ (¬ a2 < v2 → vp_in a1 20 ∧ ((v2 + (M.2.1 20 a1.toNatClampNeg) ≤ a2 → Q 0 M) ∧ (¬ v2 + (M.2.1 20 a1.toNatClampNeg) ≤ a2 → ((a3 < v4 → Q 0 M) ∧ (¬ a3 < v4 → vp_in a1 20 ∧ ((v4 + (M.2.1 28 a1.toNatClampNeg) ≤ a3 → Q 0 M) ∧ (¬ v4 + (M.2.1 28 a1.toNatClampNeg) ≤ a3 → Q 1 M))))))))
set_option maxHeartbeats 4000000 in
set_option maxRecDepth 100000 in
theorem c_X6_contains_0 (l : Launch) {g : fx_Geo} (hG : fx_Gd g) (a1 : Int32) (a2 : Int32) (a3 : Int32) (M : fx_Mem) (Q : Int32 → fx_Mem → Prop) (h : wp_X6_contains_0 a1 a2 a3 M Q) : Met l yX6_contains (.code yX6_contains cX6_contains 6 (some .boolean) :: fx_U) rm_X6_contains_0 (va_Pc [.ref (fx_a g 0), .int a1, .int a2, .int a3] (fx_At g M)) (va_Qi Q (fx_Pw g) (fx_A g)) 0 0 (fx_A g) := by
  refine Met.ofW (cc := cX6_contains) (maxL := 6) (ret := (some .boolean)) (by decide +kernel) rfl ?_
  intro p e s m args below meth c s₁ B hml hv
  obtain ⟨rfl, hv⟩ := hv
  have hts := atoms_spec (ws := .code yX6_contains cX6_contains 6 (some .boolean) :: fx_U) B.pre
  obtain ⟨C, hH⟩ := fx_body (own := RX6) B hml rfl (fun w hw => hts w (List.mem_cons_of_mem _ hw)) hG hv
  replace hts := fun w hw => hts w (List.mem_cons_of_mem _ hw)
  obtain ⟨hx, hb, hr, -, hown, -, hlocks, hsz, hK, -, hSt⟩ := id C
  have hl := lv_entry ([.ref (fx_a g 0), .int a1, .int a2, .int a3]) (n := 6) (Nat.le_of_ble_eq_true rfl)
  rw [lg_entry_eq]
  generalize (lg_sl ([.ref (fx_a g 0), .int a1, .int a2, .int a3]) ++ List.replicate (6 - (lg_sl ([.ref (fx_a g 0), .int a1, .int a2, .int a3])).length) Slot.unset).toArray = ls at hl ⊢
  have hl : lv_has ls 6 [(0, .ref (fx_a g 0)), (1, .int a1), (2, .int a2), (3, .int a3)] := hl
  obtain ⟨H, eH⟩ : ∃ H : Heap, H = s.heap := ⟨_, rfl⟩
  obtain ⟨locs, elocs⟩ : ∃ q : List Loc, q = [] := ⟨_, rfl⟩
  rw [← eH, ← elocs] at hH
  show W p l e rm_X6_contains_0 s m _ below meth c s.heap [] 0 0 _ _
  rw [← eH, ← elocs]
  unfold wp_X6_contains_0 at h
  refine lv_aload_n hx hb dX6_contains_0 rfl (lv_at hl 0 rfl) ?_
  refine fx_get C hH (fx_w0 g M) rfl in_X6 6 (by decide) u_205 rfl rfl dX6_contains_1 ?_
  refine fx_get C hH (fx_w6 g M) rfl in_X5 1 (by decide) u_151 rfl rfl dX6_contains_4 ?_
  refine lv_iload_n hx hb dX6_contains_7 rfl (lv_at hl 1 rfl) ?_
  obtain ⟨hi1, h⟩ := h
  refine fx_iald (j := a1.toNatClampNeg) C hH 21 (fx_w21 g M) rfl hi1 dX6_contains_8 ?_
  refine lv_topi (fun v2 ev2 => ?_)
  replace h := h v2 ev2
  refine lv_istore (lv' := [(4, .int v2), (0, .ref (fx_a g 0)), (1, .int a1), (2, .int a2), (3, .int a3)]) hx hb dX6_contains_9 hl (by decide) rfl (fun ls hl => ?_)
  refine lv_aload_n hx hb dX6_contains_11 rfl (lv_at hl 1 rfl) ?_
  refine fx_get C hH (fx_w0 g M) rfl in_X6 7 (by decide) u_206 rfl rfl dX6_contains_12 ?_
  refine fx_get C hH (fx_w7 g M) rfl in_X2 3 (by decide) u_185 rfl rfl dX6_contains_15 ?_
  refine lv_iload_n hx hb dX6_contains_18 rfl (lv_at hl 2 rfl) ?_
  obtain ⟨hi3, h⟩ := h
  refine fx_iald (j := a1.toNatClampNeg) C hH 29 (fx_w29 g M) rfl hi3 dX6_contains_19 ?_
  refine lv_topi (fun v4 ev4 => ?_)
  replace h := h v4 ev4
  refine lv_istore (lv' := [(5, .int v4), (4, .int v2), (0, .ref (fx_a g 0)), (1, .int a1), (2, .int a2), (3, .int a3)]) hx hb dX6_contains_20 hl (by decide) rfl (fun ls hl => ?_)
  refine lv_iload_n hx hb dX6_contains_22 rfl (lv_at hl 4 rfl) ?_
  refine lv_iload hx hb dX6_contains_23 (lv_at hl 1 rfl) ?_
  refine lv_icmp_lt (tgt := 70) hx hb dX6_contains_25 (by decide) (fun c5 => ?_) (fun c5 => ?_)
  · replace h := h.1 c5
    refine lv_iconst (v := 0) hx hb dX6_contains_70 (by decide) ?_
    exact fx_zret C hH (by decide) h dX6_contains_71
  · replace h := h.2 c5
    refine lv_iload_n hx hb dX6_contains_28 rfl (lv_at hl 4 rfl) ?_
    refine lv_iload hx hb dX6_contains_29 (lv_at hl 1 rfl) ?_
    refine lv_aload_n hx hb dX6_contains_31 rfl (lv_at hl 2 rfl) ?_
    refine fx_get C hH (fx_w0 g M) rfl in_X6 6 (by decide) u_205 rfl rfl dX6_contains_32 ?_
    refine fx_get C hH (fx_w6 g M) rfl in_X5 0 (by decide) u_149 rfl rfl dX6_contains_35 ?_
    refine lv_iload_n hx hb dX6_contains_38 rfl (lv_at hl 3 rfl) ?_
    obtain ⟨hi6, h⟩ := h
    refine fx_iald (j := a1.toNatClampNeg) C hH 20 (fx_w20 g M) rfl hi6 dX6_contains_39 ?_
    refine lv_iadd hx hb dX6_contains_40 ?_
    refine lv_icmp_ge (tgt := 70) hx hb dX6_contains_41 (by decide) (fun c7 => ?_) (fun c7 => ?_)
    · replace h := h.1 c7
      refine lv_iconst (v := 0) hx hb dX6_contains_70 (by decide) ?_
      exact fx_zret C hH (by decide) h dX6_contains_71
    · replace h := h.2 c7
      refine lv_iload_n hx hb dX6_contains_44 rfl (lv_at hl 5 rfl) ?_
      refine lv_iload hx hb dX6_contains_45 (lv_at hl 0 rfl) ?_
      refine lv_icmp_lt (tgt := 70) hx hb dX6_contains_47 (by decide) (fun c8 => ?_) (fun c8 => ?_)
      · replace h := h.1 c8
        refine lv_iconst (v := 0) hx hb dX6_contains_70 (by decide) ?_
        exact fx_zret C hH (by decide) h dX6_contains_71
      · replace h := h.2 c8
        refine lv_iload_n hx hb dX6_contains_50 rfl (lv_at hl 5 rfl) ?_
        refine lv_iload hx hb dX6_contains_51 (lv_at hl 0 rfl) ?_
        refine lv_aload_n hx hb dX6_contains_53 rfl (lv_at hl 2 rfl) ?_
        refine fx_get C hH (fx_w0 g M) rfl in_X6 7 (by decide) u_206 rfl rfl dX6_contains_54 ?_
        refine fx_get C hH (fx_w7 g M) rfl in_X2 2 (by decide) u_183 rfl rfl dX6_contains_57 ?_
        refine lv_iload_n hx hb dX6_contains_60 rfl (lv_at hl 3 rfl) ?_
        obtain ⟨hi9, h⟩ := h
        refine fx_iald (j := a1.toNatClampNeg) C hH 28 (fx_w28 g M) rfl hi9 dX6_contains_61 ?_
        refine lv_iadd hx hb dX6_contains_62 ?_
        refine lv_icmp_ge (tgt := 70) hx hb dX6_contains_63 (by decide) (fun c10 => ?_) (fun c10 => ?_)
        · replace h := h.1 c10
          refine lv_iconst (v := 0) hx hb dX6_contains_70 (by decide) ?_
          exact fx_zret C hH (by decide) h dX6_contains_71
        · replace h := h.2 c10
          refine lv_iconst (v := 1) hx hb dX6_contains_66 (by decide) ?_
          refine lv_goto (tgt := 71) hx hb dX6_contains_67 (by decide) ?_
          exact fx_zret C hH (by decide) h dX6_contains_71
/-! FlexLayout.itemUnder(II)I (0,) -/
def rm_X6_itemUnder_0 : Room := { frames := 6, cells := 1, slots := 6, locals := 147 }
def wb_X6_itemUnder_0_48 (k48 : Int32 → Int32 → Int32 → fx_Mem → Prop) (k86 : fx_Mem → Prop) (Q : Int32 → fx_Mem → Prop) (X : String → fx_Mem → Prop) (x3 : Int32) (x4 : Int32) (x5 : Int32) (M : fx_Mem) : Prop :=
  ((x5 < 0 → k86  M) ∧ (¬ x5 < 0 → vp_in x5 20 ∧ ∀ v3 : Int32, v3 = M.2.1 18 x5.toNatClampNeg → wp_X6_contains_0 v3 x3 x4 M (fun r5 M4 => ((r5 = 0 → ∀ v7 : Int32, v7 = x5 + (-1) → k48 x3 x4 v7 M4) ∧ (¬ r5 = 0 → Q v3 M4)))))
set_option maxHeartbeats 4000000 in
set_option maxRecDepth 100000 in
theorem tb_X6_itemUnder_0_48 {g : fx_Geo} {p : Program} {l : Launch} {e : Env} {s : State} {m : MethodId} {args : Array Value} {below : List Frame} {meth : Method} {c : Code} (C : fx_Cx g p s m args meth c RX6 cX6_itemUnder 7 (some .int)) (hfl : fx_fl l c) (k48 : Int32 → Int32 → Int32 → fx_Mem → Prop) (k86 : fx_Mem → Prop) (Q : Int32 → fx_Mem → Prop) (X : String → fx_Mem → Prop) (hk48 : ∀ (x3 : Int32) (x4 : Int32) (x5 : Int32) (M : fx_Mem), k48 x3 x4 x5 M → ∀ (H : Heap) (locs : List Loc) (ls : Array Slot), fx_H g s M H locs → lv_has ls 7 [(0, .ref (fx_a g 0)), (3, .int x3), (4, .int x4), (5, .int x5)] → W p l e rm_X6_itemUnder_0 s m args below meth c H locs 0 0 (vx_MQ below (va_Qi Q (fx_Pw g) (fx_A g)) (fx_XC g X) args s 1 6 (fx_A g)) (F0 m 48 ls [])) (hk86 : ∀ (M : fx_Mem), k86 M → ∀ (H : Heap) (locs : List Loc) (ls : Array Slot), fx_H g s M H locs → lv_has ls 7 [] → W p l e rm_X6_itemUnder_0 s m args below meth c H locs 0 0 (vx_MQ below (va_Qi Q (fx_Pw g) (fx_A g)) (fx_XC g X) args s 1 6 (fx_A g)) (F0 m 86 ls [])) (x3 : Int32) (x4 : Int32) (x5 : Int32) (M : fx_Mem) (h : wb_X6_itemUnder_0_48 k48 k86 Q X x3 x4 x5 M) (H : Heap) (locs : List Loc) (ls : Array Slot) (hH : fx_H g s M H locs) (hl : lv_has ls 7 [(0, .ref (fx_a g 0)), (3, .int x3), (4, .int x4), (5, .int x5)]) : W p l e rm_X6_itemUnder_0 s m args below meth c H locs 0 0 (vx_MQ below (va_Qi Q (fx_Pw g) (fx_A g)) (fx_XC g X) args s 1 6 (fx_A g)) (F0 m 48 ls []) := by
  obtain ⟨hx, hb, hr, hml, hown, hts, hlocks, hsz, hK, hG, hSt⟩ := id C
  unfold wb_X6_itemUnder_0_48 at h
  refine lv_iload hx hb dX6_itemUnder_48 (lv_at hl 3 rfl) ?_
  refine lv_if_lt (tgt := 86) hx hb dX6_itemUnder_50 (by decide) (fun c1 => ?_) (fun c1 => ?_)
  · replace h := h.1 c1
    exact hk86  M h  H locs ls hH (lv_sub hl [] rfl)
  · replace h := h.2 c1
    refine lv_aload_n hx hb dX6_itemUnder_53 rfl (lv_at hl 0 rfl) ?_
    refine fx_get C hH (fx_w0 g M) rfl in_X6 5 (by decide) u_204 rfl rfl dX6_itemUnder_54 ?_
    refine fx_get C hH (fx_w5 g M) rfl in_X0 0 (by decide) u_127 rfl rfl dX6_itemUnder_57 ?_
    refine lv_iload hx hb dX6_itemUnder_60 (lv_at hl 3 rfl) ?_
    obtain ⟨hi2, h⟩ := h
    refine fx_iald (j := x5.toNatClampNeg) C hH 18 (fx_w18 g M) rfl hi2 dX6_itemUnder_62 ?_
    refine lv_topi (fun v3 ev3 => ?_)
    replace h := h v3 ev3
    refine lv_istore (lv' := [(6, .int v3), (0, .ref (fx_a g 0)), (3, .int x3), (4, .int x4), (5, .int x5)]) hx hb dX6_itemUnder_63 hl (by decide) rfl (fun ls hl => ?_)
    refine lv_aload_n hx hb dX6_itemUnder_65 rfl (lv_at hl 1 rfl) ?_
    refine lv_iload hx hb dX6_itemUnder_66 (lv_at hl 0 rfl) ?_
    refine lv_iload_n hx hb dX6_itemUnder_68 rfl (lv_at hl 2 rfl) ?_
    refine lv_iload hx hb dX6_itemUnder_69 (lv_at hl 3 rfl) ?_
    refine fx_ci hH (fx_runV (As := [.int v3, .int x3, .int x4]) (rest := []) C hH (c_X6_contains_0 l C.2.2.2.2.2.2.2.2.2.1 v3 x3 x4 M _ h) (fx_cwV 3 hts u_748 u_750 us_22 u_1 u_751 rfl rfl (by decide +kernel) ⟨(Nat.le_of_ble_eq_true rfl), (Nat.le_of_ble_eq_true rfl)⟩) (fx_w0 g M) rfl rfl hl.1 rfl (Nat.le_of_ble_eq_true rfl) dX6_itemUnder_71 ⟨(Nat.le_of_ble_eq_true rfl), (Nat.le_of_ble_eq_true rfl)⟩) (fun r5 M4 H locs h hH => ?_)
    refine lv_if_eq (tgt := 80) hx hb dX6_itemUnder_74 (by decide) (fun c6 => ?_) (fun c6 => ?_)
    · replace h := h.1 c6
      obtain ⟨v7, ev7⟩ : ∃ z : Int32, z = x5 + (-1) := ⟨_, rfl⟩
      refine lv_iinc (v := v7) (lv' := [(5, .int v7), (6, .int v3), (0, .ref (fx_a g 0)), (3, .int x3), (4, .int x4)]) hx hb dX6_itemUnder_80 hl (k := 4) rfl (by rw [ev7]; rfl) (by decide) rfl (fun ls hl => ?_)
      replace h := h v7 ev7
      refine lv_goto (tgt := 48) hx hb dX6_itemUnder_83 (by decide) ?_
      exact hk48 x3 x4 v7 M4 h  H locs ls hH (lv_sub hl [2, 3, 4, 0] rfl)
    · replace h := h.2 c6
      refine lv_iload hx hb dX6_itemUnder_77 (lv_at hl 0 rfl) ?_
      refine vx_ret (W.widen (k := 1) (n := 6) (Nat.le_of_ble_eq_true rfl) (Nat.le_of_ble_eq_true rfl) ?_)
      exact fx_iret C hH h dX6_itemUnder_79
def wl_X6_itemUnder_0_48 (k86 : fx_Mem → Prop) (Q : Int32 → fx_Mem → Prop) (X : String → fx_Mem → Prop) (n : Nat) (x3 : Int32) (x4 : Int32) (x5 : Int32) (M : fx_Mem) : Prop :=
  fx_lp (α := Int32 × Int32 × Int32 × fx_Mem) (fun k a => wb_X6_itemUnder_0_48 (fun x3 x4 x5 M => k (x3, x4, x5, M)) k86 Q X a.1 a.2.1 a.2.2.1 a.2.2.2) n (x3, x4, x5, M)
set_option maxHeartbeats 4000000 in
theorem tl_X6_itemUnder_0_48 {g : fx_Geo} {p : Program} {l : Launch} {e : Env} {s : State} {m : MethodId} {args : Array Value} {below : List Frame} {meth : Method} {c : Code} (C : fx_Cx g p s m args meth c RX6 cX6_itemUnder 7 (some .int)) (hfl : fx_fl l c) (k86 : fx_Mem → Prop) (Q : Int32 → fx_Mem → Prop) (X : String → fx_Mem → Prop) (hk86 : ∀ (M : fx_Mem), k86  M → ∀ (H : Heap) (locs : List Loc) (ls : Array Slot), fx_H g s M H locs → lv_has ls 7 [] → W p l e rm_X6_itemUnder_0 s m args below meth c H locs 0 0 (vx_MQ below (va_Qi Q (fx_Pw g) (fx_A g)) (fx_XC g X) args s 1 6 (fx_A g)) (F0 m 86 ls [])) : ∀ (n : Nat) (x3 : Int32) (x4 : Int32) (x5 : Int32) (M : fx_Mem), wl_X6_itemUnder_0_48 k86 Q X n x3 x4 x5 M → ∀ (H : Heap) (locs : List Loc) (ls : Array Slot), fx_H g s M H locs → lv_has ls 7 [(0, .ref (fx_a g 0)), (3, .int x3), (4, .int x4), (5, .int x5)] → W p l e rm_X6_itemUnder_0 s m args below meth c H locs 0 0 (vx_MQ below (va_Qi Q (fx_Pw g) (fx_A g)) (fx_XC g X) args s 1 6 (fx_A g)) (F0 m 48 ls []) := by
  intro n
  induction n with
  | zero => intro x3 x4 x5 M h; exact False.elim h
  | succ n ih => intro x3 x4 x5 M h  H locs ls hH hl; exact tb_X6_itemUnder_0_48 C hfl (wl_X6_itemUnder_0_48 k86 Q X n) k86 Q X ih hk86 x3 x4 x5 M h  H locs ls hH hl
def wb_X6_itemUnder_0_86 (Q : Int32 → fx_Mem → Prop) (X : String → fx_Mem → Prop) (M : fx_Mem) : Prop :=
  X "java/util/NoSuchElementException" M
set_option maxHeartbeats 4000000 in
set_option maxRecDepth 100000 in
theorem tb_X6_itemUnder_0_86 {g : fx_Geo} {p : Program} {l : Launch} {e : Env} {s : State} {m : MethodId} {args : Array Value} {below : List Frame} {meth : Method} {c : Code} (C : fx_Cx g p s m args meth c RX6 cX6_itemUnder 7 (some .int)) (hfl : fx_fl l c) (Q : Int32 → fx_Mem → Prop) (X : String → fx_Mem → Prop) (M : fx_Mem) (h : wb_X6_itemUnder_0_86 Q X M) (H : Heap) (locs : List Loc) (ls : Array Slot) (hH : fx_H g s M H locs) (hl : lv_has ls 7 []) : W p l e rm_X6_itemUnder_0 s m args below meth c H locs 0 0 (vx_MQ below (va_Qi Q (fx_Pw g) (fx_A g)) (fx_XC g X) args s 1 6 (fx_A g)) (F0 m 86 ls []) := by
  obtain ⟨hx, hb, hr, hml, hown, hts, hlocks, hsz, hK, hG, hSt⟩ := id C
  unfold wb_X6_itemUnder_0_86 at h
  exact fx_throwNS (text := "no item at this point") C hfl hH u_752 u_19 14 rfl at_223 (by decide +kernel) (by decide +kernel) (by decide +kernel) dX6_itemUnder_86 dX6_itemUnder_89 dX6_itemUnder_90 dX6_itemUnder_92 dX6_itemUnder_95 (Nat.le_of_ble_eq_true rfl) (Nat.le_of_ble_eq_true rfl) (Nat.le_of_ble_eq_true rfl) (Nat.le_of_ble_eq_true rfl) hl.1 h (Nat.le_of_ble_eq_true rfl) (Nat.le_of_ble_eq_true rfl)
def wb_X6_itemUnder_0_35 (Q : Int32 → fx_Mem → Prop) (X : String → fx_Mem → Prop) (x3 : Int32) (s0 : Int32) (M : fx_Mem) : Prop :=
  ∀ v1 : Int32, v1 = (M.1 70) - 1 → ∃ n48 : Nat, wl_X6_itemUnder_0_48 (wb_X6_itemUnder_0_86 Q X) Q X n48 x3 s0 v1 M
set_option maxHeartbeats 4000000 in
set_option maxRecDepth 100000 in
theorem tb_X6_itemUnder_0_35 {g : fx_Geo} {p : Program} {l : Launch} {e : Env} {s : State} {m : MethodId} {args : Array Value} {below : List Frame} {meth : Method} {c : Code} (C : fx_Cx g p s m args meth c RX6 cX6_itemUnder 7 (some .int)) (hfl : fx_fl l c) (Q : Int32 → fx_Mem → Prop) (X : String → fx_Mem → Prop) (x3 : Int32) (s0 : Int32) (M : fx_Mem) (h : wb_X6_itemUnder_0_35 Q X x3 s0 M) (H : Heap) (locs : List Loc) (ls : Array Slot) (hH : fx_H g s M H locs) (hl : lv_has ls 7 [(0, .ref (fx_a g 0)), (3, .int x3)]) : W p l e rm_X6_itemUnder_0 s m args below meth c H locs 0 0 (vx_MQ below (va_Qi Q (fx_Pw g) (fx_A g)) (fx_XC g X) args s 1 6 (fx_A g)) (F0 m 35 ls [.int s0]) := by
  obtain ⟨hx, hb, hr, hml, hown, hts, hlocks, hsz, hK, hG, hSt⟩ := id C
  unfold wb_X6_itemUnder_0_35 at h
  refine lv_istore (lv' := [(4, .int s0), (0, .ref (fx_a g 0)), (3, .int x3)]) hx hb dX6_itemUnder_35 hl (by decide) rfl (fun ls hl => ?_)
  refine lv_aload_n hx hb dX6_itemUnder_37 rfl (lv_at hl 1 rfl) ?_
  refine fx_get C hH (fx_w0 g M) rfl in_X6 0 (by decide) u_199 rfl rfl dX6_itemUnder_38 ?_
  refine fx_get C hH (fx_w1 g M) rfl in_X1 6 (by decide) u_62 rfl rfl dX6_itemUnder_41 ?_
  refine lv_iconst (v := 1) hx hb dX6_itemUnder_44 (by decide) ?_
  refine lv_isub hx hb dX6_itemUnder_45 ?_
  refine lv_topi (fun v1 ev1 => ?_)
  replace h := h v1 ev1
  refine lv_istore (lv' := [(5, .int v1), (4, .int s0), (0, .ref (fx_a g 0)), (3, .int x3)]) hx hb dX6_itemUnder_46 hl (by decide) rfl (fun ls hl => ?_)
  obtain ⟨n48, h⟩ := h
  exact tl_X6_itemUnder_0_48 C hfl (wb_X6_itemUnder_0_86 Q X) Q X (tb_X6_itemUnder_0_86 C hfl Q X ) n48 x3 s0 v1 M h  H locs ls hH (lv_sub hl [2, 3, 1, 0] rfl)
def wb_X6_itemUnder_0_19 (Q : Int32 → fx_Mem → Prop) (X : String → fx_Mem → Prop) (x1 : Int32) (x2 : Int32) (s0 : Int32) (M : fx_Mem) : Prop :=
  wp_X1_hasHorizontalMainAxis_1  M (fun r2 M1 => ((r2 = 0 → wb_X6_itemUnder_0_35 Q X s0 x1 M1) ∧ (¬ r2 = 0 → wb_X6_itemUnder_0_35 Q X s0 x2 M1)))
set_option maxHeartbeats 4000000 in
set_option maxRecDepth 100000 in
theorem tb_X6_itemUnder_0_19 {g : fx_Geo} {p : Program} {l : Launch} {e : Env} {s : State} {m : MethodId} {args : Array Value} {below : List Frame} {meth : Method} {c : Code} (C : fx_Cx g p s m args meth c RX6 cX6_itemUnder 7 (some .int)) (hfl : fx_fl l c) (Q : Int32 → fx_Mem → Prop) (X : String → fx_Mem → Prop) (x1 : Int32) (x2 : Int32) (s0 : Int32) (M : fx_Mem) (h : wb_X6_itemUnder_0_19 Q X x1 x2 s0 M) (H : Heap) (locs : List Loc) (ls : Array Slot) (hH : fx_H g s M H locs) (hl : lv_has ls 7 [(0, .ref (fx_a g 0)), (1, .int x1), (2, .int x2)]) : W p l e rm_X6_itemUnder_0 s m args below meth c H locs 0 0 (vx_MQ below (va_Qi Q (fx_Pw g) (fx_A g)) (fx_XC g X) args s 1 6 (fx_A g)) (F0 m 19 ls [.int s0]) := by
  obtain ⟨hx, hb, hr, hml, hown, hts, hlocks, hsz, hK, hG, hSt⟩ := id C
  unfold wb_X6_itemUnder_0_19 at h
  refine lv_istore_n (lv' := [(3, .int s0), (0, .ref (fx_a g 0)), (1, .int x1), (2, .int x2)]) hx hb dX6_itemUnder_19 rfl hl (by decide) rfl (fun ls hl => ?_)
  refine lv_aload_n hx hb dX6_itemUnder_20 rfl (lv_at hl 1 rfl) ?_
  refine fx_get C hH (fx_w0 g M) rfl in_X6 0 (by decide) u_199 rfl rfl dX6_itemUnder_21 ?_
  refine fx_ci hH (fx_runV (As := []) (rest := []) C hH (c_X1_hasHorizontalMainAxis_1 l C.2.2.2.2.2.2.2.2.2.1  M _ h) (fx_cwV 0 hts u_696 u_697 u_698 u_2 u_699 rfl rfl (by decide +kernel) ⟨(Nat.le_of_ble_eq_true rfl), (Nat.le_of_ble_eq_true rfl)⟩) (fx_w1 g M) rfl rfl hl.1 rfl (Nat.le_of_ble_eq_true rfl) dX6_itemUnder_24 ⟨(Nat.le_of_ble_eq_true rfl), (Nat.le_of_ble_eq_true rfl)⟩) (fun r2 M1 H locs h hH => ?_)
  refine lv_if_eq (tgt := 34) hx hb dX6_itemUnder_27 (by decide) (fun c3 => ?_) (fun c3 => ?_)
  · replace h := h.1 c3
    refine lv_iload_n hx hb dX6_itemUnder_34 rfl (lv_at hl 2 rfl) ?_
    exact tb_X6_itemUnder_0_35 C hfl Q X  s0 x1 M1 h  H locs ls hH (lv_sub hl [1, 0] rfl)
  · replace h := h.2 c3
    refine lv_iload_n hx hb dX6_itemUnder_30 rfl (lv_at hl 3 rfl) ?_
    refine lv_goto (tgt := 35) hx hb dX6_itemUnder_31 (by decide) ?_
    exact tb_X6_itemUnder_0_35 C hfl Q X  s0 x2 M1 h  H locs ls hH (lv_sub hl [1, 0] rfl)
def wp_X6_itemUnder_0 (a1 : Int32) (a2 : Int32) (M : fx_Mem) (Q : Int32 → fx_Mem → Prop) (X : String → fx_Mem → Prop) : Prop :=
  wp_X6_layOut_0  M (fun M1 => wp_X1_hasHorizontalMainAxis_1  M1 (fun r3 M2 => ((r3 = 0 → wb_X6_itemUnder_0_19 Q X a1 a2 a2 M2) ∧ (¬ r3 = 0 → wb_X6_itemUnder_0_19 Q X a1 a2 a1 M2))))
set_option maxHeartbeats 4000000 in
set_option maxRecDepth 100000 in
theorem c_X6_itemUnder_0 (l : Launch) {g : fx_Geo} (hG : fx_Gd g) (hfl0 : l.stackTraces = false) (a1 : Int32) (a2 : Int32) (M : fx_Mem) (Q : Int32 → fx_Mem → Prop) (X : String → fx_Mem → Prop) (h : wp_X6_itemUnder_0 a1 a2 M Q X) : vx_Met l yX6_itemUnder (.code yX6_itemUnder cX6_itemUnder 7 (some .int) :: fx_U) rm_X6_itemUnder_0 (va_Pc [.ref (fx_a g 0), .int a1, .int a2] (fx_At g M)) (va_Qi Q (fx_Pw g) (fx_A g)) (fx_XC g X) 1 6 (fx_A g) := by
  refine vx_ofW (cc := cX6_itemUnder) (maxL := 7) (ret := (some .int)) (by decide +kernel) rfl ?_
  intro p e s m args below meth c s₁ B hml hex hv
  have hfl : fx_fl l c := ⟨hfl0, hex⟩
  obtain ⟨rfl, hv⟩ := hv
  have hts := atoms_spec (ws := .code yX6_itemUnder cX6_itemUnder 7 (some .int) :: fx_U) B.pre
  obtain ⟨C, hH⟩ := fx_body (own := RX6) B hml rfl (fun w hw => hts w (List.mem_cons_of_mem _ hw)) hG hv
  replace hts := fun w hw => hts w (List.mem_cons_of_mem _ hw)
  obtain ⟨hx, hb, hr, -, hown, -, hlocks, hsz, hK, -, hSt⟩ := id C
  have hl := lv_entry ([.ref (fx_a g 0), .int a1, .int a2]) (n := 7) (Nat.le_of_ble_eq_true rfl)
  rw [lg_entry_eq]
  generalize (lg_sl ([.ref (fx_a g 0), .int a1, .int a2]) ++ List.replicate (7 - (lg_sl ([.ref (fx_a g 0), .int a1, .int a2])).length) Slot.unset).toArray = ls at hl ⊢
  have hl : lv_has ls 7 [(0, .ref (fx_a g 0)), (1, .int a1), (2, .int a2)] := hl
  obtain ⟨H, eH⟩ : ∃ H : Heap, H = s.heap := ⟨_, rfl⟩
  obtain ⟨locs, elocs⟩ : ∃ q : List Loc, q = [] := ⟨_, rfl⟩
  rw [← eH, ← elocs] at hH
  show W p l e rm_X6_itemUnder_0 s m _ below meth c s.heap [] 0 0 _ _
  rw [← eH, ← elocs]
  unfold wp_X6_itemUnder_0 at h
  refine lv_aload_n hx hb dX6_itemUnder_0 rfl (lv_at hl 0 rfl) ?_
  refine fx_cv hH (fx_runV (As := []) (rest := []) C hH (c_X6_layOut_0 l C.2.2.2.2.2.2.2.2.2.1  M _ h) (fx_cwV 0 hts u_320 u_322 us_7 u_1 u_323 rfl rfl (by decide +kernel) ⟨(Nat.le_of_ble_eq_true rfl), (Nat.le_of_ble_eq_true rfl)⟩) (fx_w0 g M) rfl rfl hl.1 rfl (Nat.le_of_ble_eq_true rfl) dX6_itemUnder_1 ⟨(Nat.le_of_ble_eq_true rfl), (Nat.le_of_ble_eq_true rfl)⟩) (fun M1 H locs h hH => ?_)
  refine lv_aload_n hx hb dX6_itemUnder_4 rfl (lv_at hl 0 rfl) ?_
  refine fx_get C hH (fx_w0 g M1) rfl in_X6 0 (by decide) u_199 rfl rfl dX6_itemUnder_5 ?_
  refine fx_ci hH (fx_runV (As := []) (rest := []) C hH (c_X1_hasHorizontalMainAxis_1 l C.2.2.2.2.2.2.2.2.2.1  M1 _ h) (fx_cwV 0 hts u_696 u_697 u_698 u_2 u_699 rfl rfl (by decide +kernel) ⟨(Nat.le_of_ble_eq_true rfl), (Nat.le_of_ble_eq_true rfl)⟩) (fx_w1 g M1) rfl rfl hl.1 rfl (Nat.le_of_ble_eq_true rfl) dX6_itemUnder_8 ⟨(Nat.le_of_ble_eq_true rfl), (Nat.le_of_ble_eq_true rfl)⟩) (fun r3 M2 H locs h hH => ?_)
  refine lv_if_eq (tgt := 18) hx hb dX6_itemUnder_11 (by decide) (fun c4 => ?_) (fun c4 => ?_)
  · replace h := h.1 c4
    refine lv_iload_n hx hb dX6_itemUnder_18 rfl (lv_at hl 2 rfl) ?_
    exact tb_X6_itemUnder_0_19 C hfl Q X  a1 a2 a2 M2 h  H locs ls hH (lv_sub hl [0, 1, 2] rfl)
  · replace h := h.2 c4
    refine lv_iload_n hx hb dX6_itemUnder_14 rfl (lv_at hl 1 rfl) ?_
    refine lv_goto (tgt := 19) hx hb dX6_itemUnder_15 (by decide) ?_
    exact tb_X6_itemUnder_0_19 C hfl Q X  a1 a2 a1 M2 h  H locs ls hH (lv_sub hl [0, 1, 2] rfl)
/-! FlexLayout.meet([I[III)Z (21, 20) -/
def rm_X6_meet_21_20 : Room := { frames := 1, cells := 0, slots := 0, locals := 21 }
def wp_X6_meet_21_20 (a2 : Int32) (a3 : Int32) (M : fx_Mem) (Q : Int32 → fx_Mem → Prop) : Prop :=
  vp_in a2 20 ∧ vp_in a3 20 ∧ ∀ v3 : Int32, v3 = (if M.2.1 21 a2.toNatClampNeg < M.2.1 21 a3.toNatClampNeg then M.2.1 21 a3.toNatClampNeg else M.2.1 21 a2.toNatClampNeg) → vp_in a2 20 ∧ vp_in a2 20 ∧ vp_in a3 20 ∧ vp_in a3 20 ∧ ∀ v8 : Int32, v8 = (if (M.2.1 21 a3.toNatClampNeg) + (M.2.1 20 a3.toNatClampNeg) < (M.2.1 21 a2.toNatClampNeg) + (M.2.1 20 a2.toNatClampNeg) then (M.2.1 21 a3.toNatClampNeg) + (M.2.1 20 a3.toNatClampNeg) else (M.2.1 21 a2.toNatClampNeg) + (M.2.1 20 a2.toNatClampNeg)) → ((v8 ≤ v3 → Q 0 M) ∧ (¬ v8 ≤ v3 → Q 1 M))
set_option maxHeartbeats 4000000 in
set_option maxRecDepth 100000 in
theorem c_X6_meet_21_20 (l : Launch) {g : fx_Geo} (hG : fx_Gd g) (a2 : Int32) (a3 : Int32) (M : fx_Mem) (Q : Int32 → fx_Mem → Prop) (h : wp_X6_meet_21_20 a2 a3 M Q) : Met l yX6_meet (.code yX6_meet cX6_meet 6 (some .boolean) :: fx_U) rm_X6_meet_21_20 (va_Pc [.ref (fx_a g 21), .ref (fx_a g 20), .int a2, .int a3] (fx_At g M)) (va_Qi Q (fx_Pw g) (fx_A g)) 0 0 (fx_A g) := by
  refine Met.ofW (cc := cX6_meet) (maxL := 6) (ret := (some .boolean)) (by decide +kernel) rfl ?_
  intro p e s m args below meth c s₁ B hml hv
  obtain ⟨rfl, hv⟩ := hv
  have hts := atoms_spec (ws := .code yX6_meet cX6_meet 6 (some .boolean) :: fx_U) B.pre
  obtain ⟨C, hH⟩ := fx_body (own := RX6) B hml rfl (fun w hw => hts w (List.mem_cons_of_mem _ hw)) hG hv
  replace hts := fun w hw => hts w (List.mem_cons_of_mem _ hw)
  obtain ⟨hx, hb, hr, -, hown, -, hlocks, hsz, hK, -, hSt⟩ := id C
  have hl := lv_entry ([.ref (fx_a g 21), .ref (fx_a g 20), .int a2, .int a3]) (n := 6) (Nat.le_of_ble_eq_true rfl)
  rw [lg_entry_eq]
  generalize (lg_sl ([.ref (fx_a g 21), .ref (fx_a g 20), .int a2, .int a3]) ++ List.replicate (6 - (lg_sl ([.ref (fx_a g 21), .ref (fx_a g 20), .int a2, .int a3])).length) Slot.unset).toArray = ls at hl ⊢
  have hl : lv_has ls 6 [(0, .ref (fx_a g 21)), (1, .ref (fx_a g 20)), (2, .int a2), (3, .int a3)] := hl
  obtain ⟨H, eH⟩ : ∃ H : Heap, H = s.heap := ⟨_, rfl⟩
  obtain ⟨locs, elocs⟩ : ∃ q : List Loc, q = [] := ⟨_, rfl⟩
  rw [← eH, ← elocs] at hH
  show W p l e rm_X6_meet_21_20 s m _ below meth c s.heap [] 0 0 _ _
  rw [← eH, ← elocs]
  unfold wp_X6_meet_21_20 at h
  refine lv_aload_n hx hb dX6_meet_0 rfl (lv_at hl 0 rfl) ?_
  refine lv_iload_n hx hb dX6_meet_1 rfl (lv_at hl 2 rfl) ?_
  obtain ⟨hi1, h⟩ := h
  refine fx_iald (j := a2.toNatClampNeg) C hH 21 (fx_w21 g M) rfl hi1 dX6_meet_2 ?_
  refine lv_aload_n hx hb dX6_meet_3 rfl (lv_at hl 0 rfl) ?_
  refine lv_iload_n hx hb dX6_meet_4 rfl (lv_at hl 3 rfl) ?_
  obtain ⟨hi2, h⟩ := h
  refine fx_iald (j := a3.toNatClampNeg) C hH 21 (fx_w21 g M) rfl hi2 dX6_meet_5 ?_
  refine va_mmax hx hb (hml.trans hl.1.symm) hown (hts _ u_382) (hts _ u_273) (hts _ u_17) (hts _ u_274) (Nat.le_of_ble_eq_true rfl) (Nat.le_of_ble_eq_true rfl) (Nat.le_of_ble_eq_true rfl) (Nat.le_of_ble_eq_true rfl) dX6_meet_6 ?_
  refine lv_topi (fun v3 ev3 => ?_)
  replace h := h v3 ev3
  refine lv_istore (lv' := [(4, .int v3), (0, .ref (fx_a g 21)), (1, .ref (fx_a g 20)), (2, .int a2), (3, .int a3)]) hx hb dX6_meet_9 hl (by decide) rfl (fun ls hl => ?_)
  refine lv_aload_n hx hb dX6_meet_11 rfl (lv_at hl 1 rfl) ?_
  refine lv_iload_n hx hb dX6_meet_12 rfl (lv_at hl 3 rfl) ?_
  obtain ⟨hi4, h⟩ := h
  refine fx_iald (j := a2.toNatClampNeg) C hH 21 (fx_w21 g M) rfl hi4 dX6_meet_13 ?_
  refine lv_aload_n hx hb dX6_meet_14 rfl (lv_at hl 2 rfl) ?_
  refine lv_iload_n hx hb dX6_meet_15 rfl (lv_at hl 3 rfl) ?_
  obtain ⟨hi5, h⟩ := h
  refine fx_iald (j := a2.toNatClampNeg) C hH 20 (fx_w20 g M) rfl hi5 dX6_meet_16 ?_
  refine lv_iadd hx hb dX6_meet_17 ?_
  refine lv_aload_n hx hb dX6_meet_18 rfl (lv_at hl 1 rfl) ?_
  refine lv_iload_n hx hb dX6_meet_19 rfl (lv_at hl 4 rfl) ?_
  obtain ⟨hi6, h⟩ := h
  refine fx_iald (j := a3.toNatClampNeg) C hH 21 (fx_w21 g M) rfl hi6 dX6_meet_20 ?_
  refine lv_aload_n hx hb dX6_meet_21 rfl (lv_at hl 2 rfl) ?_
  refine lv_iload_n hx hb dX6_meet_22 rfl (lv_at hl 4 rfl) ?_
  obtain ⟨hi7, h⟩ := h
  refine fx_iald (j := a3.toNatClampNeg) C hH 20 (fx_w20 g M) rfl hi7 dX6_meet_23 ?_
  refine lv_iadd hx hb dX6_meet_24 ?_
  refine va_mmin hx hb (hml.trans hl.1.symm) hown (hts _ u_383) (hts _ u_384) (hts _ u_17) (hts _ u_385) (Nat.le_of_ble_eq_true rfl) (Nat.le_of_ble_eq_true rfl) (Nat.le_of_ble_eq_true rfl) (Nat.le_of_ble_eq_true rfl) dX6_meet_25 ?_
  refine lv_topi (fun v8 ev8 => ?_)
  replace h := h v8 ev8
  refine lv_istore (lv' := [(5, .int v8), (4, .int v3), (0, .ref (fx_a g 21)), (1, .ref (fx_a g 20)), (2, .int a2), (3, .int a3)]) hx hb dX6_meet_28 hl (by decide) rfl (fun ls hl => ?_)
  refine lv_iload hx hb dX6_meet_30 (lv_at hl 1 rfl) ?_
  refine lv_iload hx hb dX6_meet_32 (lv_at hl 0 rfl) ?_
  refine lv_icmp_ge (tgt := 41) hx hb dX6_meet_34 (by decide) (fun c9 => ?_) (fun c9 => ?_)
  · replace h := h.1 c9
    refine lv_iconst (v := 0) hx hb dX6_meet_41 (by decide) ?_
    exact fx_zret C hH (by decide) h dX6_meet_42
  · replace h := h.2 c9
    refine lv_iconst (v := 1) hx hb dX6_meet_37 (by decide) ?_
    refine lv_goto (tgt := 42) hx hb dX6_meet_38 (by decide) ?_
    exact fx_zret C hH (by decide) h dX6_meet_42
/-! FlexLayout.meet([I[III)Z (29, 28) -/
def rm_X6_meet_29_28 : Room := { frames := 1, cells := 0, slots := 0, locals := 21 }
def wp_X6_meet_29_28 (a2 : Int32) (a3 : Int32) (M : fx_Mem) (Q : Int32 → fx_Mem → Prop) : Prop :=
  vp_in a2 20 ∧ vp_in a3 20 ∧ ∀ v3 : Int32, v3 = (if M.2.1 29 a2.toNatClampNeg < M.2.1 29 a3.toNatClampNeg then M.2.1 29 a3.toNatClampNeg else M.2.1 29 a2.toNatClampNeg) → vp_in a2 20 ∧ vp_in a2 20 ∧ vp_in a3 20 ∧ vp_in a3 20 ∧ ∀ v8 : Int32, v8 = (if (M.2.1 29 a3.toNatClampNeg) + (M.2.1 28 a3.toNatClampNeg) < (M.2.1 29 a2.toNatClampNeg) + (M.2.1 28 a2.toNatClampNeg) then (M.2.1 29 a3.toNatClampNeg) + (M.2.1 28 a3.toNatClampNeg) else (M.2.1 29 a2.toNatClampNeg) + (M.2.1 28 a2.toNatClampNeg)) → ((v8 ≤ v3 → Q 0 M) ∧ (¬ v8 ≤ v3 → Q 1 M))
set_option maxHeartbeats 4000000 in
set_option maxRecDepth 100000 in
theorem c_X6_meet_29_28 (l : Launch) {g : fx_Geo} (hG : fx_Gd g) (a2 : Int32) (a3 : Int32) (M : fx_Mem) (Q : Int32 → fx_Mem → Prop) (h : wp_X6_meet_29_28 a2 a3 M Q) : Met l yX6_meet (.code yX6_meet cX6_meet 6 (some .boolean) :: fx_U) rm_X6_meet_29_28 (va_Pc [.ref (fx_a g 29), .ref (fx_a g 28), .int a2, .int a3] (fx_At g M)) (va_Qi Q (fx_Pw g) (fx_A g)) 0 0 (fx_A g) := by
  refine Met.ofW (cc := cX6_meet) (maxL := 6) (ret := (some .boolean)) (by decide +kernel) rfl ?_
  intro p e s m args below meth c s₁ B hml hv
  obtain ⟨rfl, hv⟩ := hv
  have hts := atoms_spec (ws := .code yX6_meet cX6_meet 6 (some .boolean) :: fx_U) B.pre
  obtain ⟨C, hH⟩ := fx_body (own := RX6) B hml rfl (fun w hw => hts w (List.mem_cons_of_mem _ hw)) hG hv
  replace hts := fun w hw => hts w (List.mem_cons_of_mem _ hw)
  obtain ⟨hx, hb, hr, -, hown, -, hlocks, hsz, hK, -, hSt⟩ := id C
  have hl := lv_entry ([.ref (fx_a g 29), .ref (fx_a g 28), .int a2, .int a3]) (n := 6) (Nat.le_of_ble_eq_true rfl)
  rw [lg_entry_eq]
  generalize (lg_sl ([.ref (fx_a g 29), .ref (fx_a g 28), .int a2, .int a3]) ++ List.replicate (6 - (lg_sl ([.ref (fx_a g 29), .ref (fx_a g 28), .int a2, .int a3])).length) Slot.unset).toArray = ls at hl ⊢
  have hl : lv_has ls 6 [(0, .ref (fx_a g 29)), (1, .ref (fx_a g 28)), (2, .int a2), (3, .int a3)] := hl
  obtain ⟨H, eH⟩ : ∃ H : Heap, H = s.heap := ⟨_, rfl⟩
  obtain ⟨locs, elocs⟩ : ∃ q : List Loc, q = [] := ⟨_, rfl⟩
  rw [← eH, ← elocs] at hH
  show W p l e rm_X6_meet_29_28 s m _ below meth c s.heap [] 0 0 _ _
  rw [← eH, ← elocs]
  unfold wp_X6_meet_29_28 at h
  refine lv_aload_n hx hb dX6_meet_0 rfl (lv_at hl 0 rfl) ?_
  refine lv_iload_n hx hb dX6_meet_1 rfl (lv_at hl 2 rfl) ?_
  obtain ⟨hi1, h⟩ := h
  refine fx_iald (j := a2.toNatClampNeg) C hH 29 (fx_w29 g M) rfl hi1 dX6_meet_2 ?_
  refine lv_aload_n hx hb dX6_meet_3 rfl (lv_at hl 0 rfl) ?_
  refine lv_iload_n hx hb dX6_meet_4 rfl (lv_at hl 3 rfl) ?_
  obtain ⟨hi2, h⟩ := h
  refine fx_iald (j := a3.toNatClampNeg) C hH 29 (fx_w29 g M) rfl hi2 dX6_meet_5 ?_
  refine va_mmax hx hb (hml.trans hl.1.symm) hown (hts _ u_382) (hts _ u_273) (hts _ u_17) (hts _ u_274) (Nat.le_of_ble_eq_true rfl) (Nat.le_of_ble_eq_true rfl) (Nat.le_of_ble_eq_true rfl) (Nat.le_of_ble_eq_true rfl) dX6_meet_6 ?_
  refine lv_topi (fun v3 ev3 => ?_)
  replace h := h v3 ev3
  refine lv_istore (lv' := [(4, .int v3), (0, .ref (fx_a g 29)), (1, .ref (fx_a g 28)), (2, .int a2), (3, .int a3)]) hx hb dX6_meet_9 hl (by decide) rfl (fun ls hl => ?_)
  refine lv_aload_n hx hb dX6_meet_11 rfl (lv_at hl 1 rfl) ?_
  refine lv_iload_n hx hb dX6_meet_12 rfl (lv_at hl 3 rfl) ?_
  obtain ⟨hi4, h⟩ := h
  refine fx_iald (j := a2.toNatClampNeg) C hH 29 (fx_w29 g M) rfl hi4 dX6_meet_13 ?_
  refine lv_aload_n hx hb dX6_meet_14 rfl (lv_at hl 2 rfl) ?_
  refine lv_iload_n hx hb dX6_meet_15 rfl (lv_at hl 3 rfl) ?_
  obtain ⟨hi5, h⟩ := h
  refine fx_iald (j := a2.toNatClampNeg) C hH 28 (fx_w28 g M) rfl hi5 dX6_meet_16 ?_
  refine lv_iadd hx hb dX6_meet_17 ?_
  refine lv_aload_n hx hb dX6_meet_18 rfl (lv_at hl 1 rfl) ?_
  refine lv_iload_n hx hb dX6_meet_19 rfl (lv_at hl 4 rfl) ?_
  obtain ⟨hi6, h⟩ := h
  refine fx_iald (j := a3.toNatClampNeg) C hH 29 (fx_w29 g M) rfl hi6 dX6_meet_20 ?_
  refine lv_aload_n hx hb dX6_meet_21 rfl (lv_at hl 2 rfl) ?_
  refine lv_iload_n hx hb dX6_meet_22 rfl (lv_at hl 4 rfl) ?_
  obtain ⟨hi7, h⟩ := h
  refine fx_iald (j := a3.toNatClampNeg) C hH 28 (fx_w28 g M) rfl hi7 dX6_meet_23 ?_
  refine lv_iadd hx hb dX6_meet_24 ?_
  refine va_mmin hx hb (hml.trans hl.1.symm) hown (hts _ u_383) (hts _ u_384) (hts _ u_17) (hts _ u_385) (Nat.le_of_ble_eq_true rfl) (Nat.le_of_ble_eq_true rfl) (Nat.le_of_ble_eq_true rfl) (Nat.le_of_ble_eq_true rfl) dX6_meet_25 ?_
  refine lv_topi (fun v8 ev8 => ?_)
  replace h := h v8 ev8
  refine lv_istore (lv' := [(5, .int v8), (4, .int v3), (0, .ref (fx_a g 29)), (1, .ref (fx_a g 28)), (2, .int a2), (3, .int a3)]) hx hb dX6_meet_28 hl (by decide) rfl (fun ls hl => ?_)
  refine lv_iload hx hb dX6_meet_30 (lv_at hl 1 rfl) ?_
  refine lv_iload hx hb dX6_meet_32 (lv_at hl 0 rfl) ?_
  refine lv_icmp_ge (tgt := 41) hx hb dX6_meet_34 (by decide) (fun c9 => ?_) (fun c9 => ?_)
  · replace h := h.1 c9
    refine lv_iconst (v := 0) hx hb dX6_meet_41 (by decide) ?_
    exact fx_zret C hH (by decide) h dX6_meet_42
  · replace h := h.2 c9
    refine lv_iconst (v := 1) hx hb dX6_meet_37 (by decide) ?_
    refine lv_goto (tgt := 42) hx hb dX6_meet_38 (by decide) ?_
    exact fx_zret C hH (by decide) h dX6_meet_42
/-! FlexLayout.haveCommonPoint(II)Z (0,) -/
def rm_X6_haveCommonPoint_0 : Room := { frames := 2, cells := 0, slots := 0, locals := 46 }
def wp_X6_haveCommonPoint_0 (a1 : Int32) (a2 : Int32) (M : fx_Mem) (Q : Int32 → fx_Mem → Prop) : Prop :=
  wp_X6_meet_21_20 a1 a2 M (fun r2 M1 => ((r2 = 0 → Q 0 M1) ∧ (¬ r2 = 0 → wp_X6_meet_29_28 a1 a2 M1 (fun r5 M4 => ((r5 = 0 → Q 0 M4) ∧ (¬ r5 = 0 → Q 1 M4))))))
set_option maxHeartbeats 4000000 in
set_option maxRecDepth 100000 in
theorem c_X6_haveCommonPoint_0 (l : Launch) {g : fx_Geo} (hG : fx_Gd g) (a1 : Int32) (a2 : Int32) (M : fx_Mem) (Q : Int32 → fx_Mem → Prop) (h : wp_X6_haveCommonPoint_0 a1 a2 M Q) : Met l yX6_haveCommonPoint (.code yX6_haveCommonPoint cX6_haveCommonPoint 3 (some .boolean) :: fx_U) rm_X6_haveCommonPoint_0 (va_Pc [.ref (fx_a g 0), .int a1, .int a2] (fx_At g M)) (va_Qi Q (fx_Pw g) (fx_A g)) 0 0 (fx_A g) := by
  refine Met.ofW (cc := cX6_haveCommonPoint) (maxL := 3) (ret := (some .boolean)) (by decide +kernel) rfl ?_
  intro p e s m args below meth c s₁ B hml hv
  obtain ⟨rfl, hv⟩ := hv
  have hts := atoms_spec (ws := .code yX6_haveCommonPoint cX6_haveCommonPoint 3 (some .boolean) :: fx_U) B.pre
  obtain ⟨C, hH⟩ := fx_body (own := RX6) B hml rfl (fun w hw => hts w (List.mem_cons_of_mem _ hw)) hG hv
  replace hts := fun w hw => hts w (List.mem_cons_of_mem _ hw)
  obtain ⟨hx, hb, hr, -, hown, -, hlocks, hsz, hK, -, hSt⟩ := id C
  have hl := lv_entry ([.ref (fx_a g 0), .int a1, .int a2]) (n := 3) (Nat.le_of_ble_eq_true rfl)
  rw [lg_entry_eq]
  generalize (lg_sl ([.ref (fx_a g 0), .int a1, .int a2]) ++ List.replicate (3 - (lg_sl ([.ref (fx_a g 0), .int a1, .int a2])).length) Slot.unset).toArray = ls at hl ⊢
  have hl : lv_has ls 3 [(0, .ref (fx_a g 0)), (1, .int a1), (2, .int a2)] := hl
  obtain ⟨H, eH⟩ : ∃ H : Heap, H = s.heap := ⟨_, rfl⟩
  obtain ⟨locs, elocs⟩ : ∃ q : List Loc, q = [] := ⟨_, rfl⟩
  rw [← eH, ← elocs] at hH
  show W p l e rm_X6_haveCommonPoint_0 s m _ below meth c s.heap [] 0 0 _ _
  rw [← eH, ← elocs]
  unfold wp_X6_haveCommonPoint_0 at h
  refine lv_aload_n hx hb dX6_haveCommonPoint_0 rfl (lv_at hl 0 rfl) ?_
  refine fx_get C hH (fx_w0 g M) rfl in_X6 6 (by decide) u_205 rfl rfl dX6_haveCommonPoint_1 ?_
  refine fx_get C hH (fx_w6 g M) rfl in_X5 1 (by decide) u_151 rfl rfl dX6_haveCommonPoint_4 ?_
  refine lv_aload_n hx hb dX6_haveCommonPoint_7 rfl (lv_at hl 0 rfl) ?_
  refine fx_get C hH (fx_w0 g M) rfl in_X6 6 (by decide) u_205 rfl rfl dX6_haveCommonPoint_8 ?_
  refine fx_get C hH (fx_w6 g M) rfl in_X5 0 (by decide) u_149 rfl rfl dX6_haveCommonPoint_11 ?_
  refine lv_iload_n hx hb dX6_haveCommonPoint_14 rfl (lv_at hl 1 rfl) ?_
  refine lv_iload_n hx hb dX6_haveCommonPoint_15 rfl (lv_at hl 2 rfl) ?_
  refine fx_ci hH (fx_runS (As := [.ref (fx_a g 21), .ref (fx_a g 20), .int a1, .int a2]) (rest := []) C hH (c_X6_meet_21_20 l C.2.2.2.2.2.2.2.2.2.1 a1 a2 M _ h) (fx_cwS 4 hts u_379 u_380 u_1 u_381 rfl rfl (by decide +kernel) ⟨(Nat.le_of_ble_eq_true rfl), (Nat.le_of_ble_eq_true rfl)⟩) rfl hl.1 rfl (Nat.le_of_ble_eq_true rfl) dX6_haveCommonPoint_16 ⟨(Nat.le_of_ble_eq_true rfl), (Nat.le_of_ble_eq_true rfl)⟩) (fun r2 M1 H locs h hH => ?_)
  refine lv_if_eq (tgt := 48) hx hb dX6_haveCommonPoint_19 (by decide) (fun c3 => ?_) (fun c3 => ?_)
  · replace h := h.1 c3
    refine lv_iconst (v := 0) hx hb dX6_haveCommonPoint_48 (by decide) ?_
    exact fx_zret C hH (by decide) h dX6_haveCommonPoint_49
  · replace h := h.2 c3
    refine lv_aload_n hx hb dX6_haveCommonPoint_22 rfl (lv_at hl 0 rfl) ?_
    refine fx_get C hH (fx_w0 g M1) rfl in_X6 7 (by decide) u_206 rfl rfl dX6_haveCommonPoint_23 ?_
    refine fx_get C hH (fx_w7 g M1) rfl in_X2 3 (by decide) u_185 rfl rfl dX6_haveCommonPoint_26 ?_
    refine lv_aload_n hx hb dX6_haveCommonPoint_29 rfl (lv_at hl 0 rfl) ?_
    refine fx_get C hH (fx_w0 g M1) rfl in_X6 7 (by decide) u_206 rfl rfl dX6_haveCommonPoint_30 ?_
    refine fx_get C hH (fx_w7 g M1) rfl in_X2 2 (by decide) u_183 rfl rfl dX6_haveCommonPoint_33 ?_
    refine lv_iload_n hx hb dX6_haveCommonPoint_36 rfl (lv_at hl 1 rfl) ?_
    refine lv_iload_n hx hb dX6_haveCommonPoint_37 rfl (lv_at hl 2 rfl) ?_
    refine fx_ci hH (fx_runS (As := [.ref (fx_a g 29), .ref (fx_a g 28), .int a1, .int a2]) (rest := []) C hH (c_X6_meet_29_28 l C.2.2.2.2.2.2.2.2.2.1 a1 a2 M1 _ h) (fx_cwS 4 hts u_379 u_380 u_1 u_381 rfl rfl (by decide +kernel) ⟨(Nat.le_of_ble_eq_true rfl), (Nat.le_of_ble_eq_true rfl)⟩) rfl hl.1 rfl (Nat.le_of_ble_eq_true rfl) dX6_haveCommonPoint_38 ⟨(Nat.le_of_ble_eq_true rfl), (Nat.le_of_ble_eq_true rfl)⟩) (fun r5 M4 H locs h hH => ?_)
    refine lv_if_eq (tgt := 48) hx hb dX6_haveCommonPoint_41 (by decide) (fun c6 => ?_) (fun c6 => ?_)
    · replace h := h.1 c6
      refine lv_iconst (v := 0) hx hb dX6_haveCommonPoint_48 (by decide) ?_
      exact fx_zret C hH (by decide) h dX6_haveCommonPoint_49
    · replace h := h.2 c6
      refine lv_iconst (v := 1) hx hb dX6_haveCommonPoint_44 (by decide) ?_
      refine lv_goto (tgt := 49) hx hb dX6_haveCommonPoint_45 (by decide) ?_
      exact fx_zret C hH (by decide) h dX6_haveCommonPoint_49
/-! FlexLayout.overlaps()I (0,) -/
def rm_X6_overlaps_0 : Room := { frames := 6, cells := 0, slots := 0, locals := 147 }
def wb_X6_overlaps_0_38 (k21 : Int32 → Int32 → Int32 → fx_Mem → Prop) (k44 : Int32 → Int32 → fx_Mem → Prop) (Q : Int32 → fx_Mem → Prop) (x1 : Int32) (x2 : Int32) (x3 : Int32) (M : fx_Mem) : Prop :=
  ∀ v1 : Int32, v1 = x3 + 1 → k21 x1 x2 v1 M
set_option maxHeartbeats 4000000 in
set_option maxRecDepth 100000 in
theorem tb_X6_overlaps_0_38 {g : fx_Geo} {p : Program} {l : Launch} {e : Env} {s : State} {m : MethodId} {args : Array Value} {below : List Frame} {meth : Method} {c : Code} (C : fx_Cx g p s m args meth c RX6 cX6_overlaps 4 (some .int)) (k21 : Int32 → Int32 → Int32 → fx_Mem → Prop) (k44 : Int32 → Int32 → fx_Mem → Prop) (Q : Int32 → fx_Mem → Prop) (hk21 : ∀ (x1 : Int32) (x2 : Int32) (x3 : Int32) (M : fx_Mem), k21 x1 x2 x3 M → ∀ (H : Heap) (locs : List Loc) (ls : Array Slot), fx_H g s M H locs → lv_has ls 4 [(0, .ref (fx_a g 0)), (1, .int x1), (2, .int x2), (3, .int x3)] → W p l e rm_X6_overlaps_0 s m args below meth c H locs 0 0 (MQ below (va_Qi Q (fx_Pw g) (fx_A g)) args s 0 0 (fx_A g)) (F0 m 21 ls [])) (hk44 : ∀ (x1 : Int32) (x2 : Int32) (M : fx_Mem), k44 x1 x2 M → ∀ (H : Heap) (locs : List Loc) (ls : Array Slot), fx_H g s M H locs → lv_has ls 4 [(0, .ref (fx_a g 0)), (1, .int x1), (2, .int x2)] → W p l e rm_X6_overlaps_0 s m args below meth c H locs 0 0 (MQ below (va_Qi Q (fx_Pw g) (fx_A g)) args s 0 0 (fx_A g)) (F0 m 44 ls [])) (x1 : Int32) (x2 : Int32) (x3 : Int32) (M : fx_Mem) (h : wb_X6_overlaps_0_38 k21 k44 Q x1 x2 x3 M) (H : Heap) (locs : List Loc) (ls : Array Slot) (hH : fx_H g s M H locs) (hl : lv_has ls 4 [(0, .ref (fx_a g 0)), (1, .int x1), (2, .int x2), (3, .int x3)]) : W p l e rm_X6_overlaps_0 s m args below meth c H locs 0 0 (MQ below (va_Qi Q (fx_Pw g) (fx_A g)) args s 0 0 (fx_A g)) (F0 m 38 ls []) := by
  obtain ⟨hx, hb, hr, hml, hown, hts, hlocks, hsz, hK, hG, hSt⟩ := id C
  unfold wb_X6_overlaps_0_38 at h
  obtain ⟨v1, ev1⟩ : ∃ z : Int32, z = x3 + 1 := ⟨_, rfl⟩
  refine lv_iinc (v := v1) (lv' := [(3, .int v1), (0, .ref (fx_a g 0)), (1, .int x1), (2, .int x2)]) hx hb dX6_overlaps_38 hl (k := 3) rfl (by rw [ev1]; rfl) (by decide) rfl (fun ls hl => ?_)
  replace h := h v1 ev1
  refine lv_goto (tgt := 21) hx hb dX6_overlaps_41 (by decide) ?_
  exact hk21 x1 x2 v1 M h  H locs ls hH (lv_sub hl [1, 2, 3, 0] rfl)
def wb_X6_overlaps_0_21 (k21 : Int32 → Int32 → Int32 → fx_Mem → Prop) (k44 : Int32 → Int32 → fx_Mem → Prop) (Q : Int32 → fx_Mem → Prop) (x1 : Int32) (x2 : Int32) (x3 : Int32) (M : fx_Mem) : Prop :=
  ((x2 ≤ x3 → k44 x1 x2 M) ∧ (¬ x2 ≤ x3 → wp_X6_haveCommonPoint_0 x3 x2 M (fun r3 M2 => ((r3 = 0 → wb_X6_overlaps_0_38 k21 k44 Q x1 x2 x3 M2) ∧ (¬ r3 = 0 → ∀ v5 : Int32, v5 = x1 + 1 → wb_X6_overlaps_0_38 k21 k44 Q v5 x2 x3 M2)))))
set_option maxHeartbeats 4000000 in
set_option maxRecDepth 100000 in
theorem tb_X6_overlaps_0_21 {g : fx_Geo} {p : Program} {l : Launch} {e : Env} {s : State} {m : MethodId} {args : Array Value} {below : List Frame} {meth : Method} {c : Code} (C : fx_Cx g p s m args meth c RX6 cX6_overlaps 4 (some .int)) (k21 : Int32 → Int32 → Int32 → fx_Mem → Prop) (k44 : Int32 → Int32 → fx_Mem → Prop) (Q : Int32 → fx_Mem → Prop) (hk21 : ∀ (x1 : Int32) (x2 : Int32) (x3 : Int32) (M : fx_Mem), k21 x1 x2 x3 M → ∀ (H : Heap) (locs : List Loc) (ls : Array Slot), fx_H g s M H locs → lv_has ls 4 [(0, .ref (fx_a g 0)), (1, .int x1), (2, .int x2), (3, .int x3)] → W p l e rm_X6_overlaps_0 s m args below meth c H locs 0 0 (MQ below (va_Qi Q (fx_Pw g) (fx_A g)) args s 0 0 (fx_A g)) (F0 m 21 ls [])) (hk44 : ∀ (x1 : Int32) (x2 : Int32) (M : fx_Mem), k44 x1 x2 M → ∀ (H : Heap) (locs : List Loc) (ls : Array Slot), fx_H g s M H locs → lv_has ls 4 [(0, .ref (fx_a g 0)), (1, .int x1), (2, .int x2)] → W p l e rm_X6_overlaps_0 s m args below meth c H locs 0 0 (MQ below (va_Qi Q (fx_Pw g) (fx_A g)) args s 0 0 (fx_A g)) (F0 m 44 ls [])) (x1 : Int32) (x2 : Int32) (x3 : Int32) (M : fx_Mem) (h : wb_X6_overlaps_0_21 k21 k44 Q x1 x2 x3 M) (H : Heap) (locs : List Loc) (ls : Array Slot) (hH : fx_H g s M H locs) (hl : lv_has ls 4 [(0, .ref (fx_a g 0)), (1, .int x1), (2, .int x2), (3, .int x3)]) : W p l e rm_X6_overlaps_0 s m args below meth c H locs 0 0 (MQ below (va_Qi Q (fx_Pw g) (fx_A g)) args s 0 0 (fx_A g)) (F0 m 21 ls []) := by
  obtain ⟨hx, hb, hr, hml, hown, hts, hlocks, hsz, hK, hG, hSt⟩ := id C
  unfold wb_X6_overlaps_0_21 at h
  refine lv_iload_n hx hb dX6_overlaps_21 rfl (lv_at hl 3 rfl) ?_
  refine lv_iload_n hx hb dX6_overlaps_22 rfl (lv_at hl 2 rfl) ?_
  refine lv_icmp_ge (tgt := 44) hx hb dX6_overlaps_23 (by decide) (fun c1 => ?_) (fun c1 => ?_)
  · replace h := h.1 c1
    exact hk44 x1 x2 M h  H locs ls hH (lv_sub hl [0, 1, 2] rfl)
  · replace h := h.2 c1
    refine lv_aload_n hx hb dX6_overlaps_26 rfl (lv_at hl 0 rfl) ?_
    refine lv_iload_n hx hb dX6_overlaps_27 rfl (lv_at hl 3 rfl) ?_
    refine lv_iload_n hx hb dX6_overlaps_28 rfl (lv_at hl 2 rfl) ?_
    refine fx_ci hH (fx_runV (As := [.int x3, .int x2]) (rest := []) C hH (c_X6_haveCommonPoint_0 l C.2.2.2.2.2.2.2.2.2.1 x3 x2 M _ h) (fx_cwV 2 hts u_375 u_377 us_16 u_1 u_378 rfl rfl (by decide +kernel) ⟨(Nat.le_of_ble_eq_true rfl), (Nat.le_of_ble_eq_true rfl)⟩) (fx_w0 g M) rfl rfl hl.1 rfl (Nat.le_of_ble_eq_true rfl) dX6_overlaps_29 ⟨(Nat.le_of_ble_eq_true rfl), (Nat.le_of_ble_eq_true rfl)⟩) (fun r3 M2 H locs h hH => ?_)
    refine lv_if_eq (tgt := 38) hx hb dX6_overlaps_32 (by decide) (fun c4 => ?_) (fun c4 => ?_)
    · replace h := h.1 c4
      exact tb_X6_overlaps_0_38 C k21 k44 Q hk21 hk44 x1 x2 x3 M2 h  H locs ls hH (lv_sub hl [0, 1, 2, 3] rfl)
    · replace h := h.2 c4
      obtain ⟨v5, ev5⟩ : ∃ z : Int32, z = x1 + 1 := ⟨_, rfl⟩
      refine lv_iinc (v := v5) (lv' := [(1, .int v5), (0, .ref (fx_a g 0)), (2, .int x2), (3, .int x3)]) hx hb dX6_overlaps_35 hl (k := 1) rfl (by rw [ev5]; rfl) (by decide) rfl (fun ls hl => ?_)
      replace h := h v5 ev5
      exact tb_X6_overlaps_0_38 C k21 k44 Q hk21 hk44 v5 x2 x3 M2 h  H locs ls hH (lv_sub hl [1, 0, 2, 3] rfl)
def wl_X6_overlaps_0_21 (k44 : Int32 → Int32 → fx_Mem → Prop) (Q : Int32 → fx_Mem → Prop) (n : Nat) (x1 : Int32) (x2 : Int32) (x3 : Int32) (M : fx_Mem) : Prop :=
  fx_lp (α := Int32 × Int32 × Int32 × fx_Mem) (fun k a => wb_X6_overlaps_0_21 (fun x1 x2 x3 M => k (x1, x2, x3, M)) k44 Q a.1 a.2.1 a.2.2.1 a.2.2.2) n (x1, x2, x3, M)
set_option maxHeartbeats 4000000 in
theorem tl_X6_overlaps_0_21 {g : fx_Geo} {p : Program} {l : Launch} {e : Env} {s : State} {m : MethodId} {args : Array Value} {below : List Frame} {meth : Method} {c : Code} (C : fx_Cx g p s m args meth c RX6 cX6_overlaps 4 (some .int)) (k44 : Int32 → Int32 → fx_Mem → Prop) (Q : Int32 → fx_Mem → Prop) (hk44 : ∀ (x1 : Int32) (x2 : Int32) (M : fx_Mem), k44 x1 x2 M → ∀ (H : Heap) (locs : List Loc) (ls : Array Slot), fx_H g s M H locs → lv_has ls 4 [(0, .ref (fx_a g 0)), (1, .int x1), (2, .int x2)] → W p l e rm_X6_overlaps_0 s m args below meth c H locs 0 0 (MQ below (va_Qi Q (fx_Pw g) (fx_A g)) args s 0 0 (fx_A g)) (F0 m 44 ls [])) : ∀ (n : Nat) (x1 : Int32) (x2 : Int32) (x3 : Int32) (M : fx_Mem), wl_X6_overlaps_0_21 k44 Q n x1 x2 x3 M → ∀ (H : Heap) (locs : List Loc) (ls : Array Slot), fx_H g s M H locs → lv_has ls 4 [(0, .ref (fx_a g 0)), (1, .int x1), (2, .int x2), (3, .int x3)] → W p l e rm_X6_overlaps_0 s m args below meth c H locs 0 0 (MQ below (va_Qi Q (fx_Pw g) (fx_A g)) args s 0 0 (fx_A g)) (F0 m 21 ls []) := by
  intro n
  induction n with
  | zero => intro x1 x2 x3 M h; exact False.elim h
  | succ n ih => intro x1 x2 x3 M h  H locs ls hH hl; exact tb_X6_overlaps_0_21 C (wl_X6_overlaps_0_21 k44 Q n) k44 Q ih hk44 x1 x2 x3 M h  H locs ls hH hl
def wb_X6_overlaps_0_44 (k8 : Int32 → Int32 → fx_Mem → Prop) (Q : Int32 → fx_Mem → Prop) (x1 : Int32) (x2 : Int32) (M : fx_Mem) : Prop :=
  ∀ v1 : Int32, v1 = x2 + 1 → k8 x1 v1 M
set_option maxHeartbeats 4000000 in
set_option maxRecDepth 100000 in
theorem tb_X6_overlaps_0_44 {g : fx_Geo} {p : Program} {l : Launch} {e : Env} {s : State} {m : MethodId} {args : Array Value} {below : List Frame} {meth : Method} {c : Code} (C : fx_Cx g p s m args meth c RX6 cX6_overlaps 4 (some .int)) (k8 : Int32 → Int32 → fx_Mem → Prop) (Q : Int32 → fx_Mem → Prop) (hk8 : ∀ (x1 : Int32) (x2 : Int32) (M : fx_Mem), k8 x1 x2 M → ∀ (H : Heap) (locs : List Loc) (ls : Array Slot), fx_H g s M H locs → lv_has ls 4 [(0, .ref (fx_a g 0)), (1, .int x1), (2, .int x2)] → W p l e rm_X6_overlaps_0 s m args below meth c H locs 0 0 (MQ below (va_Qi Q (fx_Pw g) (fx_A g)) args s 0 0 (fx_A g)) (F0 m 8 ls [])) (x1 : Int32) (x2 : Int32) (M : fx_Mem) (h : wb_X6_overlaps_0_44 k8 Q x1 x2 M) (H : Heap) (locs : List Loc) (ls : Array Slot) (hH : fx_H g s M H locs) (hl : lv_has ls 4 [(0, .ref (fx_a g 0)), (1, .int x1), (2, .int x2)]) : W p l e rm_X6_overlaps_0 s m args below meth c H locs 0 0 (MQ below (va_Qi Q (fx_Pw g) (fx_A g)) args s 0 0 (fx_A g)) (F0 m 44 ls []) := by
  obtain ⟨hx, hb, hr, hml, hown, hts, hlocks, hsz, hK, hG, hSt⟩ := id C
  unfold wb_X6_overlaps_0_44 at h
  obtain ⟨v1, ev1⟩ : ∃ z : Int32, z = x2 + 1 := ⟨_, rfl⟩
  refine lv_iinc (v := v1) (lv' := [(2, .int v1), (0, .ref (fx_a g 0)), (1, .int x1)]) hx hb dX6_overlaps_44 hl (k := 2) rfl (by rw [ev1]; rfl) (by decide) rfl (fun ls hl => ?_)
  replace h := h v1 ev1
  refine lv_goto (tgt := 8) hx hb dX6_overlaps_47 (by decide) ?_
  exact hk8 x1 v1 M h  H locs ls hH (lv_sub hl [1, 2, 0] rfl)
def wb_X6_overlaps_0_8 (k8 : Int32 → Int32 → fx_Mem → Prop) (Q : Int32 → fx_Mem → Prop) (x1 : Int32) (x2 : Int32) (M : fx_Mem) : Prop :=
  ((M.1 70 ≤ x2 → Q x1 M) ∧ (¬ M.1 70 ≤ x2 → ∃ n21 : Nat, wl_X6_overlaps_0_21 (wb_X6_overlaps_0_44 k8 Q) Q n21 x1 x2 0 M))
set_option maxHeartbeats 4000000 in
set_option maxRecDepth 100000 in
theorem tb_X6_overlaps_0_8 {g : fx_Geo} {p : Program} {l : Launch} {e : Env} {s : State} {m : MethodId} {args : Array Value} {below : List Frame} {meth : Method} {c : Code} (C : fx_Cx g p s m args meth c RX6 cX6_overlaps 4 (some .int)) (k8 : Int32 → Int32 → fx_Mem → Prop) (Q : Int32 → fx_Mem → Prop) (hk8 : ∀ (x1 : Int32) (x2 : Int32) (M : fx_Mem), k8 x1 x2 M → ∀ (H : Heap) (locs : List Loc) (ls : Array Slot), fx_H g s M H locs → lv_has ls 4 [(0, .ref (fx_a g 0)), (1, .int x1), (2, .int x2)] → W p l e rm_X6_overlaps_0 s m args below meth c H locs 0 0 (MQ below (va_Qi Q (fx_Pw g) (fx_A g)) args s 0 0 (fx_A g)) (F0 m 8 ls [])) (x1 : Int32) (x2 : Int32) (M : fx_Mem) (h : wb_X6_overlaps_0_8 k8 Q x1 x2 M) (H : Heap) (locs : List Loc) (ls : Array Slot) (hH : fx_H g s M H locs) (hl : lv_has ls 4 [(0, .ref (fx_a g 0)), (1, .int x1), (2, .int x2)]) : W p l e rm_X6_overlaps_0 s m args below meth c H locs 0 0 (MQ below (va_Qi Q (fx_Pw g) (fx_A g)) args s 0 0 (fx_A g)) (F0 m 8 ls []) := by
  obtain ⟨hx, hb, hr, hml, hown, hts, hlocks, hsz, hK, hG, hSt⟩ := id C
  unfold wb_X6_overlaps_0_8 at h
  refine lv_iload_n hx hb dX6_overlaps_8 rfl (lv_at hl 2 rfl) ?_
  refine lv_aload_n hx hb dX6_overlaps_9 rfl (lv_at hl 0 rfl) ?_
  refine fx_get C hH (fx_w0 g M) rfl in_X6 0 (by decide) u_199 rfl rfl dX6_overlaps_10 ?_
  refine fx_get C hH (fx_w1 g M) rfl in_X1 6 (by decide) u_62 rfl rfl dX6_overlaps_13 ?_
  refine lv_icmp_ge (tgt := 50) hx hb dX6_overlaps_16 (by decide) (fun c1 => ?_) (fun c1 => ?_)
  · replace h := h.1 c1
    refine lv_iload_n hx hb dX6_overlaps_50 rfl (lv_at hl 1 rfl) ?_
    exact fx_iret C hH h dX6_overlaps_51
  · replace h := h.2 c1
    refine lv_iconst (v := 0) hx hb dX6_overlaps_19 (by decide) ?_
    refine lv_istore_n (lv' := [(3, .int 0), (0, .ref (fx_a g 0)), (1, .int x1), (2, .int x2)]) hx hb dX6_overlaps_20 rfl hl (by decide) rfl (fun ls hl => ?_)
    obtain ⟨n21, h⟩ := h
    exact tl_X6_overlaps_0_21 C (wb_X6_overlaps_0_44 k8 Q) Q (tb_X6_overlaps_0_44 C k8 Q hk8) n21 x1 x2 0 M h  H locs ls hH (lv_sub hl [1, 2, 3, 0] rfl)
def wl_X6_overlaps_0_8 (Q : Int32 → fx_Mem → Prop) (n : Nat) (x1 : Int32) (x2 : Int32) (M : fx_Mem) : Prop :=
  fx_lp (α := Int32 × Int32 × fx_Mem) (fun k a => wb_X6_overlaps_0_8 (fun x1 x2 M => k (x1, x2, M)) Q a.1 a.2.1 a.2.2) n (x1, x2, M)
set_option maxHeartbeats 4000000 in
theorem tl_X6_overlaps_0_8 {g : fx_Geo} {p : Program} {l : Launch} {e : Env} {s : State} {m : MethodId} {args : Array Value} {below : List Frame} {meth : Method} {c : Code} (C : fx_Cx g p s m args meth c RX6 cX6_overlaps 4 (some .int)) (Q : Int32 → fx_Mem → Prop) : ∀ (n : Nat) (x1 : Int32) (x2 : Int32) (M : fx_Mem), wl_X6_overlaps_0_8  Q n x1 x2 M → ∀ (H : Heap) (locs : List Loc) (ls : Array Slot), fx_H g s M H locs → lv_has ls 4 [(0, .ref (fx_a g 0)), (1, .int x1), (2, .int x2)] → W p l e rm_X6_overlaps_0 s m args below meth c H locs 0 0 (MQ below (va_Qi Q (fx_Pw g) (fx_A g)) args s 0 0 (fx_A g)) (F0 m 8 ls []) := by
  intro n
  induction n with
  | zero => intro x1 x2 M h; exact False.elim h
  | succ n ih => intro x1 x2 M h  H locs ls hH hl; exact tb_X6_overlaps_0_8 C (wl_X6_overlaps_0_8  Q n) Q ih x1 x2 M h  H locs ls hH hl
def wp_X6_overlaps_0 (M : fx_Mem) (Q : Int32 → fx_Mem → Prop) : Prop :=
  wp_X6_layOut_0  M (fun M1 => ∃ n8 : Nat, wl_X6_overlaps_0_8 Q n8 0 1 M1)
set_option maxHeartbeats 4000000 in
set_option maxRecDepth 100000 in
theorem c_X6_overlaps_0 (l : Launch) {g : fx_Geo} (hG : fx_Gd g) (M : fx_Mem) (Q : Int32 → fx_Mem → Prop) (h : wp_X6_overlaps_0 M Q) : Met l yX6_overlaps (.code yX6_overlaps cX6_overlaps 4 (some .int) :: fx_U) rm_X6_overlaps_0 (va_Pc [.ref (fx_a g 0)] (fx_At g M)) (va_Qi Q (fx_Pw g) (fx_A g)) 0 0 (fx_A g) := by
  refine Met.ofW (cc := cX6_overlaps) (maxL := 4) (ret := (some .int)) (by decide +kernel) rfl ?_
  intro p e s m args below meth c s₁ B hml hv
  obtain ⟨rfl, hv⟩ := hv
  have hts := atoms_spec (ws := .code yX6_overlaps cX6_overlaps 4 (some .int) :: fx_U) B.pre
  obtain ⟨C, hH⟩ := fx_body (own := RX6) B hml rfl (fun w hw => hts w (List.mem_cons_of_mem _ hw)) hG hv
  replace hts := fun w hw => hts w (List.mem_cons_of_mem _ hw)
  obtain ⟨hx, hb, hr, -, hown, -, hlocks, hsz, hK, -, hSt⟩ := id C
  have hl := lv_entry ([.ref (fx_a g 0)]) (n := 4) (Nat.le_of_ble_eq_true rfl)
  rw [lg_entry_eq]
  generalize (lg_sl ([.ref (fx_a g 0)]) ++ List.replicate (4 - (lg_sl ([.ref (fx_a g 0)])).length) Slot.unset).toArray = ls at hl ⊢
  have hl : lv_has ls 4 [(0, .ref (fx_a g 0))] := hl
  obtain ⟨H, eH⟩ : ∃ H : Heap, H = s.heap := ⟨_, rfl⟩
  obtain ⟨locs, elocs⟩ : ∃ q : List Loc, q = [] := ⟨_, rfl⟩
  rw [← eH, ← elocs] at hH
  show W p l e rm_X6_overlaps_0 s m _ below meth c s.heap [] 0 0 _ _
  rw [← eH, ← elocs]
  unfold wp_X6_overlaps_0 at h
  refine lv_aload_n hx hb dX6_overlaps_0 rfl (lv_at hl 0 rfl) ?_
  refine fx_cv hH (fx_runV (As := []) (rest := []) C hH (c_X6_layOut_0 l C.2.2.2.2.2.2.2.2.2.1  M _ h) (fx_cwV 0 hts u_320 u_322 us_7 u_1 u_323 rfl rfl (by decide +kernel) ⟨(Nat.le_of_ble_eq_true rfl), (Nat.le_of_ble_eq_true rfl)⟩) (fx_w0 g M) rfl rfl hl.1 rfl (Nat.le_of_ble_eq_true rfl) dX6_overlaps_1 ⟨(Nat.le_of_ble_eq_true rfl), (Nat.le_of_ble_eq_true rfl)⟩) (fun M1 H locs h hH => ?_)
  refine lv_iconst (v := 0) hx hb dX6_overlaps_4 (by decide) ?_
  refine lv_istore_n (lv' := [(1, .int 0), (0, .ref (fx_a g 0))]) hx hb dX6_overlaps_5 rfl hl (by decide) rfl (fun ls hl => ?_)
  refine lv_iconst (v := 1) hx hb dX6_overlaps_6 (by decide) ?_
  refine lv_istore_n (lv' := [(2, .int 1), (1, .int 0), (0, .ref (fx_a g 0))]) hx hb dX6_overlaps_7 rfl hl (by decide) rfl (fun ls hl => ?_)
  obtain ⟨n8, h⟩ := h
  exact tl_X6_overlaps_0_8 C Q  n8 0 1 M1 h  H locs ls hH (lv_sub hl [2, 1, 0] rfl)
