/-! FlexLayoutModel.lines()I (8,) -/
def rm_X7_lines_8 : Room := { frames := 5, cells := 0, slots := 0, locals := 131 }
def wp_X7_lines_8 (M : fx_Mem) (Q : Int32 → fx_Mem → Prop) : Prop :=
  ∀ M1 : fx_Mem, M1 = fx_si M 512 0 → wp_X7_findLayout_8  M1 (fun M2 => Q (M2.1 542) M2)
set_option maxHeartbeats 4000000 in
set_option maxRecDepth 100000 in
theorem c_X7_lines_8 (l : Launch) {g : fx_Geo} (hG : fx_Gd g) (M : fx_Mem) (Q : Int32 → fx_Mem → Prop) (h : wp_X7_lines_8 M Q) : Met l yX7_lines (.code yX7_lines cX7_lines 1 (some .int) :: fx_U) rm_X7_lines_8 (va_Pc [.ref (fx_a g 8)] (fx_At g M)) (va_Qi Q (fx_Pw g) (fx_A g)) 0 0 (fx_A g) := by
  refine Met.ofW (cc := cX7_lines) (maxL := 1) (ret := (some .int)) (by decide +kernel) rfl ?_
  intro p e s m args below meth c s₁ B hml hv
  obtain ⟨rfl, hv⟩ := hv
  have hts := atoms_spec (ws := .code yX7_lines cX7_lines 1 (some .int) :: fx_U) B.pre
  obtain ⟨C, hH⟩ := fx_body (own := RX7) B hml rfl (fun w hw => hts w (List.mem_cons_of_mem _ hw)) hG hv
  replace hts := fun w hw => hts w (List.mem_cons_of_mem _ hw)
  obtain ⟨hx, hb, hr, -, hown, -, hlocks, hsz, hK, -, hSt⟩ := id C
  have hl := lv_entry ([.ref (fx_a g 8)]) (n := 1) (Nat.le_of_ble_eq_true rfl)
  rw [lg_entry_eq]
  generalize (lg_sl ([.ref (fx_a g 8)]) ++ List.replicate (1 - (lg_sl ([.ref (fx_a g 8)])).length) Slot.unset).toArray = ls at hl ⊢
  have hl : lv_has ls 1 [(0, .ref (fx_a g 8))] := hl
  obtain ⟨H, eH⟩ : ∃ H : Heap, H = s.heap := ⟨_, rfl⟩
  obtain ⟨locs, elocs⟩ : ∃ q : List Loc, q = [] := ⟨_, rfl⟩
  rw [← eH, ← elocs] at hH
  show W p l e rm_X7_lines_8 s m _ below meth c s.heap [] 0 0 _ _
  rw [← eH, ← elocs]
  unfold wp_X7_lines_8 at h
  refine lv_aload_n hx hb dX7_lines_0 rfl (lv_at hl 0 rfl) ?_
  refine lv_iconst (v := 0) hx hb dX7_lines_1 (by decide) ?_
  refine fx_put C hH (fx_w8 g M) rfl in_X7 tyX7 tyX7_ok nmX7 0 (by decide) u_823 rfl rfl (ty := .int) (by decide +kernel) rfl rfl (Nat.le_of_ble_eq_true rfl) (fx_p8_0 g M 0) dX7_lines_2 (fun H locs hH => ?_)
  generalize eM1 : fx_si M 512 0 = M1 at hH
  replace h := h M1 eM1.symm
  refine lv_aload_n hx hb dX7_lines_5 rfl (lv_at hl 0 rfl) ?_
  refine fx_cv hH (fx_runV (As := []) (rest := []) C hH (c_X7_findLayout_8 l C.2.2.2.2.2.2.2.2.2.1  M1 _ h) (fx_cwV 0 hts u_1034 u_1036 us_31 u_8 u_1037 rfl rfl (by decide +kernel) ⟨(Nat.le_of_ble_eq_true rfl), (Nat.le_of_ble_eq_true rfl)⟩) (fx_w8 g M1) rfl rfl hl.1 rfl (Nat.le_of_ble_eq_true rfl) dX7_lines_6 ⟨(Nat.le_of_ble_eq_true rfl), (Nat.le_of_ble_eq_true rfl)⟩) (fun M2 H locs h hH => ?_)
  refine lv_aload_n hx hb dX7_lines_9 rfl (lv_at hl 0 rfl) ?_
  refine fx_get C hH (fx_w8 g M2) rfl in_X7 30 (by decide) u_853 rfl rfl dX7_lines_10 ?_
  exact fx_iret C hH h dX7_lines_13
/-! FlexLayoutModel.lineOf(I)I (8,) -/
def rm_X7_lineOf_8 : Room := { frames := 5, cells := 0, slots := 0, locals := 131 }
def wp_X7_lineOf_8 (a1 : Int32) (M : fx_Mem) (Q : Int32 → fx_Mem → Prop) : Prop :=
  wp_X7_isItem_8 a1 M (fun r2 M1 => ((r2 = 0 → wp_X7_fails_8 1 M1 (fun r9 M8 => Q r9 M8)) ∧ (¬ r2 = 0 → ∀ M4 : fx_Mem, M4 = fx_si M1 512 0 → wp_X7_findLayout_8  M4 (fun M5 => vp_in a1 20 ∧ vp_in (M5.2.1 45 a1.toNatClampNeg) 20 ∧ Q (M5.2.1 41 ((M5.2.1 45 a1.toNatClampNeg).toNatClampNeg)) M5))))
set_option maxHeartbeats 4000000 in
set_option maxRecDepth 100000 in
theorem c_X7_lineOf_8 (l : Launch) {g : fx_Geo} (hG : fx_Gd g) (a1 : Int32) (M : fx_Mem) (Q : Int32 → fx_Mem → Prop) (h : wp_X7_lineOf_8 a1 M Q) : Met l yX7_lineOf (.code yX7_lineOf cX7_lineOf 2 (some .int) :: fx_U) rm_X7_lineOf_8 (va_Pc [.ref (fx_a g 8), .int a1] (fx_At g M)) (va_Qi Q (fx_Pw g) (fx_A g)) 0 0 (fx_A g) := by
  refine Met.ofW (cc := cX7_lineOf) (maxL := 2) (ret := (some .int)) (by decide +kernel) rfl ?_
  intro p e s m args below meth c s₁ B hml hv
  obtain ⟨rfl, hv⟩ := hv
  have hts := atoms_spec (ws := .code yX7_lineOf cX7_lineOf 2 (some .int) :: fx_U) B.pre
  obtain ⟨C, hH⟩ := fx_body (own := RX7) B hml rfl (fun w hw => hts w (List.mem_cons_of_mem _ hw)) hG hv
  replace hts := fun w hw => hts w (List.mem_cons_of_mem _ hw)
  obtain ⟨hx, hb, hr, -, hown, -, hlocks, hsz, hK, -, hSt⟩ := id C
  have hl := lv_entry ([.ref (fx_a g 8), .int a1]) (n := 2) (Nat.le_of_ble_eq_true rfl)
  rw [lg_entry_eq]
  generalize (lg_sl ([.ref (fx_a g 8), .int a1]) ++ List.replicate (2 - (lg_sl ([.ref (fx_a g 8), .int a1])).length) Slot.unset).toArray = ls at hl ⊢
  have hl : lv_has ls 2 [(0, .ref (fx_a g 8)), (1, .int a1)] := hl
  obtain ⟨H, eH⟩ : ∃ H : Heap, H = s.heap := ⟨_, rfl⟩
  obtain ⟨locs, elocs⟩ : ∃ q : List Loc, q = [] := ⟨_, rfl⟩
  rw [← eH, ← elocs] at hH
  show W p l e rm_X7_lineOf_8 s m _ below meth c s.heap [] 0 0 _ _
  rw [← eH, ← elocs]
  unfold wp_X7_lineOf_8 at h
  refine lv_aload_n hx hb dX7_lineOf_0 rfl (lv_at hl 0 rfl) ?_
  refine lv_iload_n hx hb dX7_lineOf_1 rfl (lv_at hl 1 rfl) ?_
  refine fx_ci hH (fx_runV (As := [.int a1]) (rest := []) C hH (c_X7_isItem_8 l C.2.2.2.2.2.2.2.2.2.1 a1 M _ h) (fx_cwV 1 hts u_980 u_982 us_26 u_8 u_983 rfl rfl (by decide +kernel) ⟨(Nat.le_of_ble_eq_true rfl), (Nat.le_of_ble_eq_true rfl)⟩) (fx_w8 g M) rfl rfl hl.1 rfl (Nat.le_of_ble_eq_true rfl) dX7_lineOf_2 ⟨(Nat.le_of_ble_eq_true rfl), (Nat.le_of_ble_eq_true rfl)⟩) (fun r2 M1 H locs h hH => ?_)
  refine lv_if_ne (tgt := 14) hx hb dX7_lineOf_5 (by decide) (fun c3 => ?_) (fun c3 => ?_)
  · replace h := h.2 c3
    refine lv_aload_n hx hb dX7_lineOf_14 rfl (lv_at hl 0 rfl) ?_
    refine lv_iconst (v := 0) hx hb dX7_lineOf_15 (by decide) ?_
    refine fx_put C hH (fx_w8 g M1) rfl in_X7 tyX7 tyX7_ok nmX7 0 (by decide) u_823 rfl rfl (ty := .int) (by decide +kernel) rfl rfl (Nat.le_of_ble_eq_true rfl) (fx_p8_0 g M1 0) dX7_lineOf_16 (fun H locs hH => ?_)
    generalize eM4 : fx_si M1 512 0 = M4 at hH
    replace h := h M4 eM4.symm
    refine lv_aload_n hx hb dX7_lineOf_19 rfl (lv_at hl 0 rfl) ?_
    refine fx_cv hH (fx_runV (As := []) (rest := []) C hH (c_X7_findLayout_8 l C.2.2.2.2.2.2.2.2.2.1  M4 _ h) (fx_cwV 0 hts u_1034 u_1036 us_31 u_8 u_1037 rfl rfl (by decide +kernel) ⟨(Nat.le_of_ble_eq_true rfl), (Nat.le_of_ble_eq_true rfl)⟩) (fx_w8 g M4) rfl rfl hl.1 rfl (Nat.le_of_ble_eq_true rfl) dX7_lineOf_20 ⟨(Nat.le_of_ble_eq_true rfl), (Nat.le_of_ble_eq_true rfl)⟩) (fun M5 H locs h hH => ?_)
    refine lv_aload_n hx hb dX7_lineOf_23 rfl (lv_at hl 0 rfl) ?_
    refine fx_get C hH (fx_w8 g M5) rfl in_X7 16 (by decide) u_839 rfl rfl dX7_lineOf_24 ?_
    refine lv_aload_n hx hb dX7_lineOf_27 rfl (lv_at hl 0 rfl) ?_
    refine fx_get C hH (fx_w8 g M5) rfl in_X7 20 (by decide) u_843 rfl rfl dX7_lineOf_28 ?_
    refine lv_iload_n hx hb dX7_lineOf_31 rfl (lv_at hl 1 rfl) ?_
    obtain ⟨hi6, h⟩ := h
    refine fx_iald (j := a1.toNatClampNeg) C hH 45 (fx_w45 g M5) rfl hi6 dX7_lineOf_32 ?_
    obtain ⟨hi7, h⟩ := h
    refine fx_iald (j := (M5.2.1 45 a1.toNatClampNeg).toNatClampNeg) C hH 41 (fx_w41 g M5) rfl hi7 dX7_lineOf_33 ?_
    exact fx_iret C hH h dX7_lineOf_34
  · replace h := h.1 c3
    refine lv_aload_n hx hb dX7_lineOf_8 rfl (lv_at hl 0 rfl) ?_
    refine lv_iconst (v := 1) hx hb dX7_lineOf_9 (by decide) ?_
    refine fx_ci hH (fx_runV (As := [.int 1]) (rest := []) C hH (c_X7_fails_8 l C.2.2.2.2.2.2.2.2.2.1 1 M1 _ h) (fx_cwV 1 hts u_945 u_947 us_24 u_8 u_948 rfl rfl (by decide +kernel) ⟨(Nat.le_of_ble_eq_true rfl), (Nat.le_of_ble_eq_true rfl)⟩) (fx_w8 g M1) rfl rfl hl.1 rfl (Nat.le_of_ble_eq_true rfl) dX7_lineOf_10 ⟨(Nat.le_of_ble_eq_true rfl), (Nat.le_of_ble_eq_true rfl)⟩) (fun r9 M8 H locs h hH => ?_)
    exact fx_iret C hH h dX7_lineOf_13
/-! FlexLayoutModel.itemAt(I)I (8,) -/
def rm_X7_itemAt_8 : Room := { frames := 2, cells := 0, slots := 0, locals := 44 }
def wp_X7_itemAt_8 (a1 : Int32) (M : fx_Mem) (Q : Int32 → fx_Mem → Prop) : Prop :=
  wp_X7_isItem_8 a1 M (fun r2 M1 => ((r2 = 0 → wp_X7_fails_8 1 M1 (fun r8 M7 => Q r8 M7)) ∧ (¬ r2 = 0 → ∀ M4 : fx_Mem, M4 = fx_si M1 512 0 → wp_X7_findSequence_8  M4 (fun M5 => vp_in a1 20 ∧ Q (M5.2.1 39 a1.toNatClampNeg) M5))))
set_option maxHeartbeats 4000000 in
set_option maxRecDepth 100000 in
theorem c_X7_itemAt_8 (l : Launch) {g : fx_Geo} (hG : fx_Gd g) (a1 : Int32) (M : fx_Mem) (Q : Int32 → fx_Mem → Prop) (h : wp_X7_itemAt_8 a1 M Q) : Met l yX7_itemAt (.code yX7_itemAt cX7_itemAt 2 (some .int) :: fx_U) rm_X7_itemAt_8 (va_Pc [.ref (fx_a g 8), .int a1] (fx_At g M)) (va_Qi Q (fx_Pw g) (fx_A g)) 0 0 (fx_A g) := by
  refine Met.ofW (cc := cX7_itemAt) (maxL := 2) (ret := (some .int)) (by decide +kernel) rfl ?_
  intro p e s m args below meth c s₁ B hml hv
  obtain ⟨rfl, hv⟩ := hv
  have hts := atoms_spec (ws := .code yX7_itemAt cX7_itemAt 2 (some .int) :: fx_U) B.pre
  obtain ⟨C, hH⟩ := fx_body (own := RX7) B hml rfl (fun w hw => hts w (List.mem_cons_of_mem _ hw)) hG hv
  replace hts := fun w hw => hts w (List.mem_cons_of_mem _ hw)
  obtain ⟨hx, hb, hr, -, hown, -, hlocks, hsz, hK, -, hSt⟩ := id C
  have hl := lv_entry ([.ref (fx_a g 8), .int a1]) (n := 2) (Nat.le_of_ble_eq_true rfl)
  rw [lg_entry_eq]
  generalize (lg_sl ([.ref (fx_a g 8), .int a1]) ++ List.replicate (2 - (lg_sl ([.ref (fx_a g 8), .int a1])).length) Slot.unset).toArray = ls at hl ⊢
  have hl : lv_has ls 2 [(0, .ref (fx_a g 8)), (1, .int a1)] := hl
  obtain ⟨H, eH⟩ : ∃ H : Heap, H = s.heap := ⟨_, rfl⟩
  obtain ⟨locs, elocs⟩ : ∃ q : List Loc, q = [] := ⟨_, rfl⟩
  rw [← eH, ← elocs] at hH
  show W p l e rm_X7_itemAt_8 s m _ below meth c s.heap [] 0 0 _ _
  rw [← eH, ← elocs]
  unfold wp_X7_itemAt_8 at h
  refine lv_aload_n hx hb dX7_itemAt_0 rfl (lv_at hl 0 rfl) ?_
  refine lv_iload_n hx hb dX7_itemAt_1 rfl (lv_at hl 1 rfl) ?_
  refine fx_ci hH (fx_runV (As := [.int a1]) (rest := []) C hH (c_X7_isItem_8 l C.2.2.2.2.2.2.2.2.2.1 a1 M _ h) (fx_cwV 1 hts u_980 u_982 us_26 u_8 u_983 rfl rfl (by decide +kernel) ⟨(Nat.le_of_ble_eq_true rfl), (Nat.le_of_ble_eq_true rfl)⟩) (fx_w8 g M) rfl rfl hl.1 rfl (Nat.le_of_ble_eq_true rfl) dX7_itemAt_2 ⟨(Nat.le_of_ble_eq_true rfl), (Nat.le_of_ble_eq_true rfl)⟩) (fun r2 M1 H locs h hH => ?_)
  refine lv_if_ne (tgt := 14) hx hb dX7_itemAt_5 (by decide) (fun c3 => ?_) (fun c3 => ?_)
  · replace h := h.2 c3
    refine lv_aload_n hx hb dX7_itemAt_14 rfl (lv_at hl 0 rfl) ?_
    refine lv_iconst (v := 0) hx hb dX7_itemAt_15 (by decide) ?_
    refine fx_put C hH (fx_w8 g M1) rfl in_X7 tyX7 tyX7_ok nmX7 0 (by decide) u_823 rfl rfl (ty := .int) (by decide +kernel) rfl rfl (Nat.le_of_ble_eq_true rfl) (fx_p8_0 g M1 0) dX7_itemAt_16 (fun H locs hH => ?_)
    generalize eM4 : fx_si M1 512 0 = M4 at hH
    replace h := h M4 eM4.symm
    refine lv_aload_n hx hb dX7_itemAt_19 rfl (lv_at hl 0 rfl) ?_
    refine fx_cv hH (fx_runV (As := []) (rest := []) C hH (c_X7_findSequence_8 l C.2.2.2.2.2.2.2.2.2.1  M4 _ h) (fx_cwV 0 hts u_1038 u_1040 us_32 u_8 u_1041 rfl rfl (by decide +kernel) ⟨(Nat.le_of_ble_eq_true rfl), (Nat.le_of_ble_eq_true rfl)⟩) (fx_w8 g M4) rfl rfl hl.1 rfl (Nat.le_of_ble_eq_true rfl) dX7_itemAt_20 ⟨(Nat.le_of_ble_eq_true rfl), (Nat.le_of_ble_eq_true rfl)⟩) (fun M5 H locs h hH => ?_)
    refine lv_aload_n hx hb dX7_itemAt_23 rfl (lv_at hl 0 rfl) ?_
    refine fx_get C hH (fx_w8 g M5) rfl in_X7 14 (by decide) u_837 rfl rfl dX7_itemAt_24 ?_
    refine lv_iload_n hx hb dX7_itemAt_27 rfl (lv_at hl 1 rfl) ?_
    obtain ⟨hi6, h⟩ := h
    refine fx_iald (j := a1.toNatClampNeg) C hH 39 (fx_w39 g M5) rfl hi6 dX7_itemAt_28 ?_
    exact fx_iret C hH h dX7_itemAt_29
  · replace h := h.1 c3
    refine lv_aload_n hx hb dX7_itemAt_8 rfl (lv_at hl 0 rfl) ?_
    refine lv_iconst (v := 1) hx hb dX7_itemAt_9 (by decide) ?_
    refine fx_ci hH (fx_runV (As := [.int 1]) (rest := []) C hH (c_X7_fails_8 l C.2.2.2.2.2.2.2.2.2.1 1 M1 _ h) (fx_cwV 1 hts u_945 u_947 us_24 u_8 u_948 rfl rfl (by decide +kernel) ⟨(Nat.le_of_ble_eq_true rfl), (Nat.le_of_ble_eq_true rfl)⟩) (fx_w8 g M1) rfl rfl hl.1 rfl (Nat.le_of_ble_eq_true rfl) dX7_itemAt_10 ⟨(Nat.le_of_ble_eq_true rfl), (Nat.le_of_ble_eq_true rfl)⟩) (fun r8 M7 H locs h hH => ?_)
    exact fx_iret C hH h dX7_itemAt_13
/-! FlexLayoutModel.hypotheticalSize(I)I (8,) -/
def rm_X7_hypotheticalSize_8 : Room := { frames := 3, cells := 0, slots := 0, locals := 66 }
def wp_X7_hypotheticalSize_8 (a1 : Int32) (M : fx_Mem) (Q : Int32 → fx_Mem → Prop) : Prop :=
  wp_X7_isItem_8 a1 M (fun r2 M1 => ((r2 = 0 → wp_X7_fails_8 1 M1 (fun r8 M7 => Q r8 M7)) ∧ (¬ r2 = 0 → ∀ M4 : fx_Mem, M4 = fx_si M1 512 0 → wp_X7_hypothetical_8 a1 M4 (fun r6 M5 => Q r6 M5))))
set_option maxHeartbeats 4000000 in
set_option maxRecDepth 100000 in
theorem c_X7_hypotheticalSize_8 (l : Launch) {g : fx_Geo} (hG : fx_Gd g) (a1 : Int32) (M : fx_Mem) (Q : Int32 → fx_Mem → Prop) (h : wp_X7_hypotheticalSize_8 a1 M Q) : Met l yX7_hypotheticalSize (.code yX7_hypotheticalSize cX7_hypotheticalSize 2 (some .int) :: fx_U) rm_X7_hypotheticalSize_8 (va_Pc [.ref (fx_a g 8), .int a1] (fx_At g M)) (va_Qi Q (fx_Pw g) (fx_A g)) 0 0 (fx_A g) := by
  refine Met.ofW (cc := cX7_hypotheticalSize) (maxL := 2) (ret := (some .int)) (by decide +kernel) rfl ?_
  intro p e s m args below meth c s₁ B hml hv
  obtain ⟨rfl, hv⟩ := hv
  have hts := atoms_spec (ws := .code yX7_hypotheticalSize cX7_hypotheticalSize 2 (some .int) :: fx_U) B.pre
  obtain ⟨C, hH⟩ := fx_body (own := RX7) B hml rfl (fun w hw => hts w (List.mem_cons_of_mem _ hw)) hG hv
  replace hts := fun w hw => hts w (List.mem_cons_of_mem _ hw)
  obtain ⟨hx, hb, hr, -, hown, -, hlocks, hsz, hK, -, hSt⟩ := id C
  have hl := lv_entry ([.ref (fx_a g 8), .int a1]) (n := 2) (Nat.le_of_ble_eq_true rfl)
  rw [lg_entry_eq]
  generalize (lg_sl ([.ref (fx_a g 8), .int a1]) ++ List.replicate (2 - (lg_sl ([.ref (fx_a g 8), .int a1])).length) Slot.unset).toArray = ls at hl ⊢
  have hl : lv_has ls 2 [(0, .ref (fx_a g 8)), (1, .int a1)] := hl
  obtain ⟨H, eH⟩ : ∃ H : Heap, H = s.heap := ⟨_, rfl⟩
  obtain ⟨locs, elocs⟩ : ∃ q : List Loc, q = [] := ⟨_, rfl⟩
  rw [← eH, ← elocs] at hH
  show W p l e rm_X7_hypotheticalSize_8 s m _ below meth c s.heap [] 0 0 _ _
  rw [← eH, ← elocs]
  unfold wp_X7_hypotheticalSize_8 at h
  refine lv_aload_n hx hb dX7_hypotheticalSize_0 rfl (lv_at hl 0 rfl) ?_
  refine lv_iload_n hx hb dX7_hypotheticalSize_1 rfl (lv_at hl 1 rfl) ?_
  refine fx_ci hH (fx_runV (As := [.int a1]) (rest := []) C hH (c_X7_isItem_8 l C.2.2.2.2.2.2.2.2.2.1 a1 M _ h) (fx_cwV 1 hts u_980 u_982 us_26 u_8 u_983 rfl rfl (by decide +kernel) ⟨(Nat.le_of_ble_eq_true rfl), (Nat.le_of_ble_eq_true rfl)⟩) (fx_w8 g M) rfl rfl hl.1 rfl (Nat.le_of_ble_eq_true rfl) dX7_hypotheticalSize_2 ⟨(Nat.le_of_ble_eq_true rfl), (Nat.le_of_ble_eq_true rfl)⟩) (fun r2 M1 H locs h hH => ?_)
  refine lv_if_ne (tgt := 14) hx hb dX7_hypotheticalSize_5 (by decide) (fun c3 => ?_) (fun c3 => ?_)
  · replace h := h.2 c3
    refine lv_aload_n hx hb dX7_hypotheticalSize_14 rfl (lv_at hl 0 rfl) ?_
    refine lv_iconst (v := 0) hx hb dX7_hypotheticalSize_15 (by decide) ?_
    refine fx_put C hH (fx_w8 g M1) rfl in_X7 tyX7 tyX7_ok nmX7 0 (by decide) u_823 rfl rfl (ty := .int) (by decide +kernel) rfl rfl (Nat.le_of_ble_eq_true rfl) (fx_p8_0 g M1 0) dX7_hypotheticalSize_16 (fun H locs hH => ?_)
    generalize eM4 : fx_si M1 512 0 = M4 at hH
    replace h := h M4 eM4.symm
    refine lv_aload_n hx hb dX7_hypotheticalSize_19 rfl (lv_at hl 0 rfl) ?_
    refine lv_iload_n hx hb dX7_hypotheticalSize_20 rfl (lv_at hl 1 rfl) ?_
    refine fx_ci hH (fx_runV (As := [.int a1]) (rest := []) C hH (c_X7_hypothetical_8 l C.2.2.2.2.2.2.2.2.2.1 a1 M4 _ h) (fx_cwV 1 hts u_1046 u_1048 us_34 u_8 u_1049 rfl rfl (by decide +kernel) ⟨(Nat.le_of_ble_eq_true rfl), (Nat.le_of_ble_eq_true rfl)⟩) (fx_w8 g M4) rfl rfl hl.1 rfl (Nat.le_of_ble_eq_true rfl) dX7_hypotheticalSize_21 ⟨(Nat.le_of_ble_eq_true rfl), (Nat.le_of_ble_eq_true rfl)⟩) (fun r6 M5 H locs h hH => ?_)
    exact fx_iret C hH h dX7_hypotheticalSize_24
  · replace h := h.1 c3
    refine lv_aload_n hx hb dX7_hypotheticalSize_8 rfl (lv_at hl 0 rfl) ?_
    refine lv_iconst (v := 1) hx hb dX7_hypotheticalSize_9 (by decide) ?_
    refine fx_ci hH (fx_runV (As := [.int 1]) (rest := []) C hH (c_X7_fails_8 l C.2.2.2.2.2.2.2.2.2.1 1 M1 _ h) (fx_cwV 1 hts u_945 u_947 us_24 u_8 u_948 rfl rfl (by decide +kernel) ⟨(Nat.le_of_ble_eq_true rfl), (Nat.le_of_ble_eq_true rfl)⟩) (fx_w8 g M1) rfl rfl hl.1 rfl (Nat.le_of_ble_eq_true rfl) dX7_hypotheticalSize_10 ⟨(Nat.le_of_ble_eq_true rfl), (Nat.le_of_ble_eq_true rfl)⟩) (fun r8 M7 H locs h hH => ?_)
    exact fx_iret C hH h dX7_hypotheticalSize_13
/-! FlexLayoutModel.coordinate(II)I (8,) -/
def rm_X7_coordinate_8 : Room := { frames := 0, cells := 0, slots := 0, locals := 0 }
def wb_X7_coordinate_8_34 (Q : Int32 → fx_Mem → Prop) (x1 : Int32) (x2 : Int32) (s0 : Int32) (M : fx_Mem) : Prop :=
  ((2 ≤ x2 → ((s0 = 0 → vp_in x1 20 ∧ Q (M.2.1 42 x1.toNatClampNeg) M) ∧ (¬ s0 = 0 → vp_in x1 20 ∧ Q (M.2.1 40 x1.toNatClampNeg) M))) ∧ (¬ 2 ≤ x2 → ((s0 = 0 → vp_in x1 20 ∧ Q (M.2.1 44 x1.toNatClampNeg) M) ∧ (¬ s0 = 0 → vp_in x1 20 ∧ Q (M.2.1 43 x1.toNatClampNeg) M))))
set_option maxHeartbeats 4000000 in
set_option maxRecDepth 100000 in
theorem tb_X7_coordinate_8_34 {g : fx_Geo} {p : Program} {l : Launch} {e : Env} {s : State} {m : MethodId} {args : Array Value} {below : List Frame} {meth : Method} {c : Code} (C : fx_Cx g p s m args meth c RX7 cX7_coordinate 4 (some .int)) (Q : Int32 → fx_Mem → Prop) (x1 : Int32) (x2 : Int32) (s0 : Int32) (M : fx_Mem) (h : wb_X7_coordinate_8_34 Q x1 x2 s0 M) (H : Heap) (locs : List Loc) (ls : Array Slot) (hH : fx_H g s M H locs) (hl : lv_has ls 4 [(0, .ref (fx_a g 8)), (1, .int x1), (2, .int x2)]) : W p l e rm_X7_coordinate_8 s m args below meth c H locs 0 0 (MQ below (va_Qi Q (fx_Pw g) (fx_A g)) args s 0 0 (fx_A g)) (F0 m 34 ls [.int s0]) := by
  obtain ⟨hx, hb, hr, hml, hown, hts, hlocks, hsz, hK, hG, hSt⟩ := id C
  unfold wb_X7_coordinate_8_34 at h
  refine lv_istore_n (lv' := [(3, .int s0), (0, .ref (fx_a g 8)), (1, .int x1), (2, .int x2)]) hx hb dX7_coordinate_34 rfl hl (by decide) rfl (fun ls hl => ?_)
  refine lv_iload_n hx hb dX7_coordinate_35 rfl (lv_at hl 3 rfl) ?_
  refine lv_iconst (v := 2) hx hb dX7_coordinate_36 (by decide) ?_
  refine lv_icmp_ge (tgt := 60) hx hb dX7_coordinate_37 (by decide) (fun c1 => ?_) (fun c1 => ?_)
  · replace h := h.1 c1
    refine lv_iload_n hx hb dX7_coordinate_60 rfl (lv_at hl 0 rfl) ?_
    refine lv_if_eq (tgt := 73) hx hb dX7_coordinate_61 (by decide) (fun c2 => ?_) (fun c2 => ?_)
    · replace h := h.1 c2
      refine lv_aload_n hx hb dX7_coordinate_73 rfl (lv_at hl 1 rfl) ?_
      refine fx_get C hH (fx_w8 g M) rfl in_X7 17 (by decide) u_840 rfl rfl dX7_coordinate_74 ?_
      refine lv_iload_n hx hb dX7_coordinate_77 rfl (lv_at hl 2 rfl) ?_
      obtain ⟨hi3, h⟩ := h
      refine fx_iald (j := x1.toNatClampNeg) C hH 42 (fx_w42 g M) rfl hi3 dX7_coordinate_78 ?_
      exact fx_iret C hH h dX7_coordinate_79
    · replace h := h.2 c2
      refine lv_aload_n hx hb dX7_coordinate_64 rfl (lv_at hl 1 rfl) ?_
      refine fx_get C hH (fx_w8 g M) rfl in_X7 15 (by decide) u_838 rfl rfl dX7_coordinate_65 ?_
      refine lv_iload_n hx hb dX7_coordinate_68 rfl (lv_at hl 2 rfl) ?_
      obtain ⟨hi4, h⟩ := h
      refine fx_iald (j := x1.toNatClampNeg) C hH 40 (fx_w40 g M) rfl hi4 dX7_coordinate_69 ?_
      refine lv_goto (tgt := 79) hx hb dX7_coordinate_70 (by decide) ?_
      exact fx_iret C hH h dX7_coordinate_79
  · replace h := h.2 c1
    refine lv_iload_n hx hb dX7_coordinate_40 rfl (lv_at hl 0 rfl) ?_
    refine lv_if_eq (tgt := 53) hx hb dX7_coordinate_41 (by decide) (fun c5 => ?_) (fun c5 => ?_)
    · replace h := h.1 c5
      refine lv_aload_n hx hb dX7_coordinate_53 rfl (lv_at hl 1 rfl) ?_
      refine fx_get C hH (fx_w8 g M) rfl in_X7 19 (by decide) u_842 rfl rfl dX7_coordinate_54 ?_
      refine lv_iload_n hx hb dX7_coordinate_57 rfl (lv_at hl 2 rfl) ?_
      obtain ⟨hi6, h⟩ := h
      refine fx_iald (j := x1.toNatClampNeg) C hH 44 (fx_w44 g M) rfl hi6 dX7_coordinate_58 ?_
      exact fx_iret C hH h dX7_coordinate_59
    · replace h := h.2 c5
      refine lv_aload_n hx hb dX7_coordinate_44 rfl (lv_at hl 1 rfl) ?_
      refine fx_get C hH (fx_w8 g M) rfl in_X7 18 (by decide) u_841 rfl rfl dX7_coordinate_45 ?_
      refine lv_iload_n hx hb dX7_coordinate_48 rfl (lv_at hl 2 rfl) ?_
      obtain ⟨hi7, h⟩ := h
      refine fx_iald (j := x1.toNatClampNeg) C hH 43 (fx_w43 g M) rfl hi7 dX7_coordinate_49 ?_
      refine lv_goto (tgt := 59) hx hb dX7_coordinate_50 (by decide) ?_
      exact fx_iret C hH h dX7_coordinate_59
def wb_X7_coordinate_8_26 (Q : Int32 → fx_Mem → Prop) (x1 : Int32) (x2 : Int32) (s0 : Int32) (s1 : Int32) (M : fx_Mem) : Prop :=
  ((s1 = s0 → wb_X7_coordinate_8_34 Q x1 x2 1 M) ∧ (¬ s1 = s0 → wb_X7_coordinate_8_34 Q x1 x2 0 M))
set_option maxHeartbeats 4000000 in
set_option maxRecDepth 100000 in
theorem tb_X7_coordinate_8_26 {g : fx_Geo} {p : Program} {l : Launch} {e : Env} {s : State} {m : MethodId} {args : Array Value} {below : List Frame} {meth : Method} {c : Code} (C : fx_Cx g p s m args meth c RX7 cX7_coordinate 4 (some .int)) (Q : Int32 → fx_Mem → Prop) (x1 : Int32) (x2 : Int32) (s0 : Int32) (s1 : Int32) (M : fx_Mem) (h : wb_X7_coordinate_8_26 Q x1 x2 s0 s1 M) (H : Heap) (locs : List Loc) (ls : Array Slot) (hH : fx_H g s M H locs) (hl : lv_has ls 4 [(0, .ref (fx_a g 8)), (1, .int x1), (2, .int x2)]) : W p l e rm_X7_coordinate_8 s m args below meth c H locs 0 0 (MQ below (va_Qi Q (fx_Pw g) (fx_A g)) args s 0 0 (fx_A g)) (F0 m 26 ls [.int s0, .int s1]) := by
  obtain ⟨hx, hb, hr, hml, hown, hts, hlocks, hsz, hK, hG, hSt⟩ := id C
  unfold wb_X7_coordinate_8_26 at h
  refine lv_icmp_ne (tgt := 33) hx hb dX7_coordinate_26 (by decide) (fun c1 => ?_) (fun c1 => ?_)
  · replace h := h.2 c1
    refine lv_iconst (v := 0) hx hb dX7_coordinate_33 (by decide) ?_
    exact tb_X7_coordinate_8_34 C Q  x1 x2 0 M h  H locs ls hH (lv_sub hl [0, 1, 2] rfl)
  · replace h := h.1 c1
    refine lv_iconst (v := 1) hx hb dX7_coordinate_29 (by decide) ?_
    refine lv_goto (tgt := 34) hx hb dX7_coordinate_30 (by decide) ?_
    exact tb_X7_coordinate_8_34 C Q  x1 x2 1 M h  H locs ls hH (lv_sub hl [0, 1, 2] rfl)
def wb_X7_coordinate_8_15 (Q : Int32 → fx_Mem → Prop) (x1 : Int32) (x2 : Int32) (s0 : Int32) (M : fx_Mem) : Prop :=
  ((x2 - x2 / 2 * 2 = 0 → wb_X7_coordinate_8_26 Q x1 x2 1 s0 M) ∧ (¬ x2 - x2 / 2 * 2 = 0 → wb_X7_coordinate_8_26 Q x1 x2 0 s0 M))
set_option maxHeartbeats 4000000 in
set_option maxRecDepth 100000 in
theorem tb_X7_coordinate_8_15 {g : fx_Geo} {p : Program} {l : Launch} {e : Env} {s : State} {m : MethodId} {args : Array Value} {below : List Frame} {meth : Method} {c : Code} (C : fx_Cx g p s m args meth c RX7 cX7_coordinate 4 (some .int)) (Q : Int32 → fx_Mem → Prop) (x1 : Int32) (x2 : Int32) (s0 : Int32) (M : fx_Mem) (h : wb_X7_coordinate_8_15 Q x1 x2 s0 M) (H : Heap) (locs : List Loc) (ls : Array Slot) (hH : fx_H g s M H locs) (hl : lv_has ls 4 [(0, .ref (fx_a g 8)), (1, .int x1), (2, .int x2)]) : W p l e rm_X7_coordinate_8 s m args below meth c H locs 0 0 (MQ below (va_Qi Q (fx_Pw g) (fx_A g)) args s 0 0 (fx_A g)) (F0 m 15 ls [.int s0]) := by
  obtain ⟨hx, hb, hr, hml, hown, hts, hlocks, hsz, hK, hG, hSt⟩ := id C
  unfold wb_X7_coordinate_8_15 at h
  refine lv_iload_n hx hb dX7_coordinate_15 rfl (lv_at hl 2 rfl) ?_
  refine lv_iconst (v := 2) hx hb dX7_coordinate_16 (by decide) ?_
  refine lv_irem hx hb dX7_coordinate_17 (by decide) ?_
  refine lv_if_ne (tgt := 25) hx hb dX7_coordinate_18 (by decide) (fun c1 => ?_) (fun c1 => ?_)
  · replace h := h.2 c1
    refine lv_iconst (v := 0) hx hb dX7_coordinate_25 (by decide) ?_
    exact tb_X7_coordinate_8_26 C Q  x1 x2 0 s0 M h  H locs ls hH (lv_sub hl [0, 1, 2] rfl)
  · replace h := h.1 c1
    refine lv_iconst (v := 1) hx hb dX7_coordinate_21 (by decide) ?_
    refine lv_goto (tgt := 26) hx hb dX7_coordinate_22 (by decide) ?_
    exact tb_X7_coordinate_8_26 C Q  x1 x2 1 s0 M h  H locs ls hH (lv_sub hl [0, 1, 2] rfl)
def wp_X7_coordinate_8 (a1 : Int32) (a2 : Int32) (M : fx_Mem) (Q : Int32 → fx_Mem → Prop) : Prop :=
  ((2 ≤ M.2.1 30 4 → wb_X7_coordinate_8_15 Q a1 a2 0 M) ∧ (¬ 2 ≤ M.2.1 30 4 → wb_X7_coordinate_8_15 Q a1 a2 1 M))
set_option maxHeartbeats 4000000 in
set_option maxRecDepth 100000 in
theorem c_X7_coordinate_8 (l : Launch) {g : fx_Geo} (hG : fx_Gd g) (a1 : Int32) (a2 : Int32) (M : fx_Mem) (Q : Int32 → fx_Mem → Prop) (h : wp_X7_coordinate_8 a1 a2 M Q) : Met l yX7_coordinate (.code yX7_coordinate cX7_coordinate 4 (some .int) :: fx_U) rm_X7_coordinate_8 (va_Pc [.ref (fx_a g 8), .int a1, .int a2] (fx_At g M)) (va_Qi Q (fx_Pw g) (fx_A g)) 0 0 (fx_A g) := by
  refine Met.ofW (cc := cX7_coordinate) (maxL := 4) (ret := (some .int)) (by decide +kernel) rfl ?_
  intro p e s m args below meth c s₁ B hml hv
  obtain ⟨rfl, hv⟩ := hv
  have hts := atoms_spec (ws := .code yX7_coordinate cX7_coordinate 4 (some .int) :: fx_U) B.pre
  obtain ⟨C, hH⟩ := fx_body (own := RX7) B hml rfl (fun w hw => hts w (List.mem_cons_of_mem _ hw)) hG hv
  replace hts := fun w hw => hts w (List.mem_cons_of_mem _ hw)
  obtain ⟨hx, hb, hr, -, hown, -, hlocks, hsz, hK, -, hSt⟩ := id C
  have hl := lv_entry ([.ref (fx_a g 8), .int a1, .int a2]) (n := 4) (Nat.le_of_ble_eq_true rfl)
  rw [lg_entry_eq]
  generalize (lg_sl ([.ref (fx_a g 8), .int a1, .int a2]) ++ List.replicate (4 - (lg_sl ([.ref (fx_a g 8), .int a1, .int a2])).length) Slot.unset).toArray = ls at hl ⊢
  have hl : lv_has ls 4 [(0, .ref (fx_a g 8)), (1, .int a1), (2, .int a2)] := hl
  obtain ⟨H, eH⟩ : ∃ H : Heap, H = s.heap := ⟨_, rfl⟩
  obtain ⟨locs, elocs⟩ : ∃ q : List Loc, q = [] := ⟨_, rfl⟩
  rw [← eH, ← elocs] at hH
  show W p l e rm_X7_coordinate_8 s m _ below meth c s.heap [] 0 0 _ _
  rw [← eH, ← elocs]
  unfold wp_X7_coordinate_8 at h
  refine lv_aload_n hx hb dX7_coordinate_0 rfl (lv_at hl 0 rfl) ?_
  refine fx_get C hH (fx_w8 g M) rfl in_X7 1 (by decide) u_824 rfl rfl dX7_coordinate_1 ?_
  refine lv_iconst (v := 4) hx hb dX7_coordinate_4 (by decide) ?_
  refine fx_iald (j := 4) C hH 30 (fx_w30 g M) (by decide) (by unfold vp_in; decide) dX7_coordinate_5 ?_
  refine lv_iconst (v := 2) hx hb dX7_coordinate_6 (by decide) ?_
  refine lv_icmp_ge (tgt := 14) hx hb dX7_coordinate_7 (by decide) (fun c1 => ?_) (fun c1 => ?_)
  · replace h := h.1 c1
    refine lv_iconst (v := 0) hx hb dX7_coordinate_14 (by decide) ?_
    exact tb_X7_coordinate_8_15 C Q  a1 a2 0 M h  H locs ls hH (lv_sub hl [0, 1, 2] rfl)
  · replace h := h.2 c1
    refine lv_iconst (v := 1) hx hb dX7_coordinate_10 (by decide) ?_
    refine lv_goto (tgt := 15) hx hb dX7_coordinate_11 (by decide) ?_
    exact tb_X7_coordinate_8_15 C Q  a1 a2 1 M h  H locs ls hH (lv_sub hl [0, 1, 2] rfl)
/-! FlexLayoutModel.box(II)I (8,) -/
def rm_X7_box_8 : Room := { frames := 5, cells := 0, slots := 0, locals := 131 }
def wb_X7_box_8_20 (Q : Int32 → fx_Mem → Prop) (M : fx_Mem) : Prop :=
  wp_X7_fails_8 1 M (fun r2 M1 => Q r2 M1)
set_option maxHeartbeats 4000000 in
set_option maxRecDepth 100000 in
theorem tb_X7_box_8_20 {g : fx_Geo} {p : Program} {l : Launch} {e : Env} {s : State} {m : MethodId} {args : Array Value} {below : List Frame} {meth : Method} {c : Code} (C : fx_Cx g p s m args meth c RX7 cX7_box 3 (some .int)) (Q : Int32 → fx_Mem → Prop) (M : fx_Mem) (h : wb_X7_box_8_20 Q M) (H : Heap) (locs : List Loc) (ls : Array Slot) (hH : fx_H g s M H locs) (hl : lv_has ls 3 [(0, .ref (fx_a g 8))]) : W p l e rm_X7_box_8 s m args below meth c H locs 0 0 (MQ below (va_Qi Q (fx_Pw g) (fx_A g)) args s 0 0 (fx_A g)) (F0 m 20 ls []) := by
  obtain ⟨hx, hb, hr, hml, hown, hts, hlocks, hsz, hK, hG, hSt⟩ := id C
  unfold wb_X7_box_8_20 at h
  refine lv_aload_n hx hb dX7_box_20 rfl (lv_at hl 0 rfl) ?_
  refine lv_iconst (v := 1) hx hb dX7_box_21 (by decide) ?_
  refine fx_ci hH (fx_runV (As := [.int 1]) (rest := []) C hH (c_X7_fails_8 l C.2.2.2.2.2.2.2.2.2.1 1 M _ h) (fx_cwV 1 hts u_945 u_947 us_24 u_8 u_948 rfl rfl (by decide +kernel) ⟨(Nat.le_of_ble_eq_true rfl), (Nat.le_of_ble_eq_true rfl)⟩) (fx_w8 g M) rfl rfl hl.1 rfl (Nat.le_of_ble_eq_true rfl) dX7_box_22 ⟨(Nat.le_of_ble_eq_true rfl), (Nat.le_of_ble_eq_true rfl)⟩) (fun r2 M1 H locs h hH => ?_)
  exact fx_iret C hH h dX7_box_25
def wp_X7_box_8 (a1 : Int32) (a2 : Int32) (M : fx_Mem) (Q : Int32 → fx_Mem → Prop) : Prop :=
  wp_X7_isItem_8 a1 M (fun r2 M1 => ((r2 = 0 → wb_X7_box_8_20 Q  M1) ∧ (¬ r2 = 0 → wp_X7_isBetween a2.toInt64 0 3 M1 (fun r5 M4 => ((r5 = 0 → wb_X7_box_8_20 Q  M4) ∧ (¬ r5 = 0 → ∀ M7 : fx_Mem, M7 = fx_si M4 512 0 → wp_X7_findLayout_8  M7 (fun M8 => vp_in a1 20 ∧ wp_X7_coordinate_8 (M8.2.1 45 a1.toNatClampNeg) a2 M8 (fun r11 M10 => Q r11 M10))))))))
set_option maxHeartbeats 4000000 in
set_option maxRecDepth 100000 in
theorem c_X7_box_8 (l : Launch) {g : fx_Geo} (hG : fx_Gd g) (a1 : Int32) (a2 : Int32) (M : fx_Mem) (Q : Int32 → fx_Mem → Prop) (h : wp_X7_box_8 a1 a2 M Q) : Met l yX7_box (.code yX7_box cX7_box 3 (some .int) :: fx_U) rm_X7_box_8 (va_Pc [.ref (fx_a g 8), .int a1, .int a2] (fx_At g M)) (va_Qi Q (fx_Pw g) (fx_A g)) 0 0 (fx_A g) := by
  refine Met.ofW (cc := cX7_box) (maxL := 3) (ret := (some .int)) (by decide +kernel) rfl ?_
  intro p e s m args below meth c s₁ B hml hv
  obtain ⟨rfl, hv⟩ := hv
  have hts := atoms_spec (ws := .code yX7_box cX7_box 3 (some .int) :: fx_U) B.pre
  obtain ⟨C, hH⟩ := fx_body (own := RX7) B hml rfl (fun w hw => hts w (List.mem_cons_of_mem _ hw)) hG hv
  replace hts := fun w hw => hts w (List.mem_cons_of_mem _ hw)
  obtain ⟨hx, hb, hr, -, hown, -, hlocks, hsz, hK, -, hSt⟩ := id C
  have hl := lv_entry ([.ref (fx_a g 8), .int a1, .int a2]) (n := 3) (Nat.le_of_ble_eq_true rfl)
  rw [lg_entry_eq]
  generalize (lg_sl ([.ref (fx_a g 8), .int a1, .int a2]) ++ List.replicate (3 - (lg_sl ([.ref (fx_a g 8), .int a1, .int a2])).length) Slot.unset).toArray = ls at hl ⊢
  have hl : lv_has ls 3 [(0, .ref (fx_a g 8)), (1, .int a1), (2, .int a2)] := hl
  obtain ⟨H, eH⟩ : ∃ H : Heap, H = s.heap := ⟨_, rfl⟩
  obtain ⟨locs, elocs⟩ : ∃ q : List Loc, q = [] := ⟨_, rfl⟩
  rw [← eH, ← elocs] at hH
  show W p l e rm_X7_box_8 s m _ below meth c s.heap [] 0 0 _ _
  rw [← eH, ← elocs]
  unfold wp_X7_box_8 at h
  refine lv_aload_n hx hb dX7_box_0 rfl (lv_at hl 0 rfl) ?_
  refine lv_iload_n hx hb dX7_box_1 rfl (lv_at hl 1 rfl) ?_
  refine fx_ci hH (fx_runV (As := [.int a1]) (rest := []) C hH (c_X7_isItem_8 l C.2.2.2.2.2.2.2.2.2.1 a1 M _ h) (fx_cwV 1 hts u_980 u_982 us_26 u_8 u_983 rfl rfl (by decide +kernel) ⟨(Nat.le_of_ble_eq_true rfl), (Nat.le_of_ble_eq_true rfl)⟩) (fx_w8 g M) rfl rfl hl.1 rfl (Nat.le_of_ble_eq_true rfl) dX7_box_2 ⟨(Nat.le_of_ble_eq_true rfl), (Nat.le_of_ble_eq_true rfl)⟩) (fun r2 M1 H locs h hH => ?_)
  refine lv_if_eq (tgt := 20) hx hb dX7_box_5 (by decide) (fun c3 => ?_) (fun c3 => ?_)
  · replace h := h.1 c3
    exact tb_X7_box_8_20 C Q   M1 h  H locs ls hH (lv_sub hl [0] rfl)
  · replace h := h.2 c3
    refine lv_iload_n hx hb dX7_box_8 rfl (lv_at hl 2 rfl) ?_
    refine lv_i2l hx hb dX7_box_9 rfl ?_
    refine lv_lconst (v := 0) hx hb dX7_box_10 (by decide) ?_
    refine lv_ldc2 hx hb hown (hts _ u_1124) dX7_box_11 ?_
    refine fx_ci hH (fx_runS (As := [.long a2.toInt64, .long 0, .long 3]) (rest := []) C hH (c_X7_isBetween l C.2.2.2.2.2.2.2.2.2.1 a2.toInt64 0 3 M1 _ h) (fx_cwS 3 hts u_938 u_939 u_8 u_940 rfl rfl (by decide +kernel) ⟨(Nat.le_of_ble_eq_true rfl), (Nat.le_of_ble_eq_true rfl)⟩) rfl hl.1 rfl (Nat.le_of_ble_eq_true rfl) dX7_box_14 ⟨(Nat.le_of_ble_eq_true rfl), (Nat.le_of_ble_eq_true rfl)⟩) (fun r5 M4 H locs h hH => ?_)
    refine lv_if_ne (tgt := 26) hx hb dX7_box_17 (by decide) (fun c6 => ?_) (fun c6 => ?_)
    · replace h := h.2 c6
      refine lv_aload_n hx hb dX7_box_26 rfl (lv_at hl 0 rfl) ?_
      refine lv_iconst (v := 0) hx hb dX7_box_27 (by decide) ?_
      refine fx_put C hH (fx_w8 g M4) rfl in_X7 tyX7 tyX7_ok nmX7 0 (by decide) u_823 rfl rfl (ty := .int) (by decide +kernel) rfl rfl (Nat.le_of_ble_eq_true rfl) (fx_p8_0 g M4 0) dX7_box_28 (fun H locs hH => ?_)
      generalize eM7 : fx_si M4 512 0 = M7 at hH
      replace h := h M7 eM7.symm
      refine lv_aload_n hx hb dX7_box_31 rfl (lv_at hl 0 rfl) ?_
      refine fx_cv hH (fx_runV (As := []) (rest := []) C hH (c_X7_findLayout_8 l C.2.2.2.2.2.2.2.2.2.1  M7 _ h) (fx_cwV 0 hts u_1034 u_1036 us_31 u_8 u_1037 rfl rfl (by decide +kernel) ⟨(Nat.le_of_ble_eq_true rfl), (Nat.le_of_ble_eq_true rfl)⟩) (fx_w8 g M7) rfl rfl hl.1 rfl (Nat.le_of_ble_eq_true rfl) dX7_box_32 ⟨(Nat.le_of_ble_eq_true rfl), (Nat.le_of_ble_eq_true rfl)⟩) (fun M8 H locs h hH => ?_)
      refine lv_aload_n hx hb dX7_box_35 rfl (lv_at hl 0 rfl) ?_
      refine lv_aload_n hx hb dX7_box_36 rfl (lv_at hl 0 rfl) ?_
      refine fx_get C hH (fx_w8 g M8) rfl in_X7 20 (by decide) u_843 rfl rfl dX7_box_37 ?_
      refine lv_iload_n hx hb dX7_box_40 rfl (lv_at hl 1 rfl) ?_
      obtain ⟨hi9, h⟩ := h
      refine fx_iald (j := a1.toNatClampNeg) C hH 45 (fx_w45 g M8) rfl hi9 dX7_box_41 ?_
      refine lv_iload_n hx hb dX7_box_42 rfl (lv_at hl 2 rfl) ?_
      refine fx_ci hH (fx_runV (As := [.int (M8.2.1 45 a1.toNatClampNeg), .int a2]) (rest := []) C hH (c_X7_coordinate_8 l C.2.2.2.2.2.2.2.2.2.1 (M8.2.1 45 a1.toNatClampNeg) a2 M8 _ h) (fx_cwV 2 hts u_1125 u_1127 us_48 u_8 u_1128 rfl rfl (by decide +kernel) ⟨(Nat.le_of_ble_eq_true rfl), (Nat.le_of_ble_eq_true rfl)⟩) (fx_w8 g M8) rfl rfl hl.1 rfl (Nat.le_of_ble_eq_true rfl) dX7_box_43 ⟨(Nat.le_of_ble_eq_true rfl), (Nat.le_of_ble_eq_true rfl)⟩) (fun r11 M10 H locs h hH => ?_)
      exact fx_iret C hH h dX7_box_46
    · replace h := h.1 c6
      exact tb_X7_box_8_20 C Q   M4 h  H locs ls hH (lv_sub hl [0] rfl)
/-! FlexLayoutModel.isLine(I)Z (8,) -/
def rm_X7_isLine_8 : Room := { frames := 5, cells := 0, slots := 0, locals := 131 }
def wb_X7_isLine_8_22 (Q : Int32 → fx_Mem → Prop) (s0 : Int32) (M : fx_Mem) : Prop :=
  ∀ M1 : fx_Mem, M1 = fx_si M 512 s0 → ((M1.1 512 = 0 → Q 1 M1) ∧ (¬ M1.1 512 = 0 → Q 0 M1))
set_option maxHeartbeats 4000000 in
set_option maxRecDepth 100000 in
theorem tb_X7_isLine_8_22 {g : fx_Geo} {p : Program} {l : Launch} {e : Env} {s : State} {m : MethodId} {args : Array Value} {below : List Frame} {meth : Method} {c : Code} (C : fx_Cx g p s m args meth c RX7 cX7_isLine 2 (some .boolean)) (Q : Int32 → fx_Mem → Prop) (s0 : Int32) (M : fx_Mem) (h : wb_X7_isLine_8_22 Q s0 M) (H : Heap) (locs : List Loc) (ls : Array Slot) (hH : fx_H g s M H locs) (hl : lv_has ls 2 [(0, .ref (fx_a g 8))]) : W p l e rm_X7_isLine_8 s m args below meth c H locs 0 0 (MQ below (va_Qi Q (fx_Pw g) (fx_A g)) args s 0 0 (fx_A g)) (F0 m 22 ls [.int s0, .ref (fx_a g 8)]) := by
  obtain ⟨hx, hb, hr, hml, hown, hts, hlocks, hsz, hK, hG, hSt⟩ := id C
  unfold wb_X7_isLine_8_22 at h
  refine fx_put C hH (fx_w8 g M) rfl in_X7 tyX7 tyX7_ok nmX7 0 (by decide) u_823 rfl rfl (ty := .int) (by decide +kernel) rfl rfl (Nat.le_of_ble_eq_true rfl) (fx_p8_0 g M s0) dX7_isLine_22 (fun H locs hH => ?_)
  generalize eM1 : fx_si M 512 s0 = M1 at hH
  replace h := h M1 eM1.symm
  refine lv_aload_n hx hb dX7_isLine_25 rfl (lv_at hl 0 rfl) ?_
  refine fx_get C hH (fx_w8 g M1) rfl in_X7 0 (by decide) u_823 rfl rfl dX7_isLine_26 ?_
  refine lv_if_ne (tgt := 36) hx hb dX7_isLine_29 (by decide) (fun c2 => ?_) (fun c2 => ?_)
  · replace h := h.2 c2
    refine lv_iconst (v := 0) hx hb dX7_isLine_36 (by decide) ?_
    exact fx_zret C hH (by decide) h dX7_isLine_37
  · replace h := h.1 c2
    refine lv_iconst (v := 1) hx hb dX7_isLine_32 (by decide) ?_
    refine lv_goto (tgt := 37) hx hb dX7_isLine_33 (by decide) ?_
    exact fx_zret C hH (by decide) h dX7_isLine_37
def wb_X7_isLine_8_21 (Q : Int32 → fx_Mem → Prop) (M : fx_Mem) : Prop :=
  wb_X7_isLine_8_22 Q 1 M
set_option maxHeartbeats 4000000 in
set_option maxRecDepth 100000 in
theorem tb_X7_isLine_8_21 {g : fx_Geo} {p : Program} {l : Launch} {e : Env} {s : State} {m : MethodId} {args : Array Value} {below : List Frame} {meth : Method} {c : Code} (C : fx_Cx g p s m args meth c RX7 cX7_isLine 2 (some .boolean)) (Q : Int32 → fx_Mem → Prop) (M : fx_Mem) (h : wb_X7_isLine_8_21 Q M) (H : Heap) (locs : List Loc) (ls : Array Slot) (hH : fx_H g s M H locs) (hl : lv_has ls 2 [(0, .ref (fx_a g 8))]) : W p l e rm_X7_isLine_8 s m args below meth c H locs 0 0 (MQ below (va_Qi Q (fx_Pw g) (fx_A g)) args s 0 0 (fx_A g)) (F0 m 21 ls [.ref (fx_a g 8)]) := by
  obtain ⟨hx, hb, hr, hml, hown, hts, hlocks, hsz, hK, hG, hSt⟩ := id C
  unfold wb_X7_isLine_8_21 at h
  refine lv_iconst (v := 1) hx hb dX7_isLine_21 (by decide) ?_
  exact tb_X7_isLine_8_22 C Q  1 M h  H locs ls hH (lv_sub hl [0] rfl)
def wp_X7_isLine_8 (a1 : Int32) (M : fx_Mem) (Q : Int32 → fx_Mem → Prop) : Prop :=
  wp_X7_findLayout_8  M (fun M1 => ((a1 < 0 → wb_X7_isLine_8_21 Q  M1) ∧ (¬ a1 < 0 → ((M1.1 542 ≤ a1 → wb_X7_isLine_8_21 Q  M1) ∧ (¬ M1.1 542 ≤ a1 → wb_X7_isLine_8_22 Q 0 M1)))))
set_option maxHeartbeats 4000000 in
set_option maxRecDepth 100000 in
theorem c_X7_isLine_8 (l : Launch) {g : fx_Geo} (hG : fx_Gd g) (a1 : Int32) (M : fx_Mem) (Q : Int32 → fx_Mem → Prop) (h : wp_X7_isLine_8 a1 M Q) : Met l yX7_isLine (.code yX7_isLine cX7_isLine 2 (some .boolean) :: fx_U) rm_X7_isLine_8 (va_Pc [.ref (fx_a g 8), .int a1] (fx_At g M)) (va_Qi Q (fx_Pw g) (fx_A g)) 0 0 (fx_A g) := by
  refine Met.ofW (cc := cX7_isLine) (maxL := 2) (ret := (some .boolean)) (by decide +kernel) rfl ?_
  intro p e s m args below meth c s₁ B hml hv
  obtain ⟨rfl, hv⟩ := hv
  have hts := atoms_spec (ws := .code yX7_isLine cX7_isLine 2 (some .boolean) :: fx_U) B.pre
  obtain ⟨C, hH⟩ := fx_body (own := RX7) B hml rfl (fun w hw => hts w (List.mem_cons_of_mem _ hw)) hG hv
  replace hts := fun w hw => hts w (List.mem_cons_of_mem _ hw)
  obtain ⟨hx, hb, hr, -, hown, -, hlocks, hsz, hK, -, hSt⟩ := id C
  have hl := lv_entry ([.ref (fx_a g 8), .int a1]) (n := 2) (Nat.le_of_ble_eq_true rfl)
  rw [lg_entry_eq]
  generalize (lg_sl ([.ref (fx_a g 8), .int a1]) ++ List.replicate (2 - (lg_sl ([.ref (fx_a g 8), .int a1])).length) Slot.unset).toArray = ls at hl ⊢
  have hl : lv_has ls 2 [(0, .ref (fx_a g 8)), (1, .int a1)] := hl
  obtain ⟨H, eH⟩ : ∃ H : Heap, H = s.heap := ⟨_, rfl⟩
  obtain ⟨locs, elocs⟩ : ∃ q : List Loc, q = [] := ⟨_, rfl⟩
  rw [← eH, ← elocs] at hH
  show W p l e rm_X7_isLine_8 s m _ below meth c s.heap [] 0 0 _ _
  rw [← eH, ← elocs]
  unfold wp_X7_isLine_8 at h
  refine lv_aload_n hx hb dX7_isLine_0 rfl (lv_at hl 0 rfl) ?_
  refine fx_cv hH (fx_runV (As := []) (rest := []) C hH (c_X7_findLayout_8 l C.2.2.2.2.2.2.2.2.2.1  M _ h) (fx_cwV 0 hts u_1034 u_1036 us_31 u_8 u_1037 rfl rfl (by decide +kernel) ⟨(Nat.le_of_ble_eq_true rfl), (Nat.le_of_ble_eq_true rfl)⟩) (fx_w8 g M) rfl rfl hl.1 rfl (Nat.le_of_ble_eq_true rfl) dX7_isLine_1 ⟨(Nat.le_of_ble_eq_true rfl), (Nat.le_of_ble_eq_true rfl)⟩) (fun M1 H locs h hH => ?_)
  refine lv_aload_n hx hb dX7_isLine_4 rfl (lv_at hl 0 rfl) ?_
  refine lv_iload_n hx hb dX7_isLine_5 rfl (lv_at hl 1 rfl) ?_
  refine lv_if_lt (tgt := 21) hx hb dX7_isLine_6 (by decide) (fun c2 => ?_) (fun c2 => ?_)
  · replace h := h.1 c2
    exact tb_X7_isLine_8_21 C Q   M1 h  H locs ls hH (lv_sub hl [0] rfl)
  · replace h := h.2 c2
    refine lv_iload_n hx hb dX7_isLine_9 rfl (lv_at hl 1 rfl) ?_
    refine lv_aload_n hx hb dX7_isLine_10 rfl (lv_at hl 0 rfl) ?_
    refine fx_get C hH (fx_w8 g M1) rfl in_X7 30 (by decide) u_853 rfl rfl dX7_isLine_11 ?_
    refine lv_icmp_ge (tgt := 21) hx hb dX7_isLine_14 (by decide) (fun c3 => ?_) (fun c3 => ?_)
    · replace h := h.1 c3
      exact tb_X7_isLine_8_21 C Q   M1 h  H locs ls hH (lv_sub hl [0] rfl)
    · replace h := h.2 c3
      refine lv_iconst (v := 0) hx hb dX7_isLine_17 (by decide) ?_
      refine lv_goto (tgt := 22) hx hb dX7_isLine_18 (by decide) ?_
      exact tb_X7_isLine_8_22 C Q  0 M1 h  H locs ls hH (lv_sub hl [0] rfl)
/-! FlexLayoutModel.rounds(I)I (8,) -/
def rm_X7_rounds_8 : Room := { frames := 6, cells := 0, slots := 0, locals := 152 }
def wp_X7_rounds_8 (a1 : Int32) (M : fx_Mem) (Q : Int32 → fx_Mem → Prop) : Prop :=
  wp_X7_isLine_8 a1 M (fun r2 M1 => ((r2 = 0 → Q 0 M1) ∧ (¬ r2 = 0 → vp_in a1 20 ∧ Q (M1.2.1 49 a1.toNatClampNeg) M1)))
set_option maxHeartbeats 4000000 in
set_option maxRecDepth 100000 in
theorem c_X7_rounds_8 (l : Launch) {g : fx_Geo} (hG : fx_Gd g) (a1 : Int32) (M : fx_Mem) (Q : Int32 → fx_Mem → Prop) (h : wp_X7_rounds_8 a1 M Q) : Met l yX7_rounds (.code yX7_rounds cX7_rounds 2 (some .int) :: fx_U) rm_X7_rounds_8 (va_Pc [.ref (fx_a g 8), .int a1] (fx_At g M)) (va_Qi Q (fx_Pw g) (fx_A g)) 0 0 (fx_A g) := by
  refine Met.ofW (cc := cX7_rounds) (maxL := 2) (ret := (some .int)) (by decide +kernel) rfl ?_
  intro p e s m args below meth c s₁ B hml hv
  obtain ⟨rfl, hv⟩ := hv
  have hts := atoms_spec (ws := .code yX7_rounds cX7_rounds 2 (some .int) :: fx_U) B.pre
  obtain ⟨C, hH⟩ := fx_body (own := RX7) B hml rfl (fun w hw => hts w (List.mem_cons_of_mem _ hw)) hG hv
  replace hts := fun w hw => hts w (List.mem_cons_of_mem _ hw)
  obtain ⟨hx, hb, hr, -, hown, -, hlocks, hsz, hK, -, hSt⟩ := id C
  have hl := lv_entry ([.ref (fx_a g 8), .int a1]) (n := 2) (Nat.le_of_ble_eq_true rfl)
  rw [lg_entry_eq]
  generalize (lg_sl ([.ref (fx_a g 8), .int a1]) ++ List.replicate (2 - (lg_sl ([.ref (fx_a g 8), .int a1])).length) Slot.unset).toArray = ls at hl ⊢
  have hl : lv_has ls 2 [(0, .ref (fx_a g 8)), (1, .int a1)] := hl
  obtain ⟨H, eH⟩ : ∃ H : Heap, H = s.heap := ⟨_, rfl⟩
  obtain ⟨locs, elocs⟩ : ∃ q : List Loc, q = [] := ⟨_, rfl⟩
  rw [← eH, ← elocs] at hH
  show W p l e rm_X7_rounds_8 s m _ below meth c s.heap [] 0 0 _ _
  rw [← eH, ← elocs]
  unfold wp_X7_rounds_8 at h
  refine lv_aload_n hx hb dX7_rounds_0 rfl (lv_at hl 0 rfl) ?_
  refine lv_iload_n hx hb dX7_rounds_1 rfl (lv_at hl 1 rfl) ?_
  refine fx_ci hH (fx_runV (As := [.int a1]) (rest := []) C hH (c_X7_isLine_8 l C.2.2.2.2.2.2.2.2.2.1 a1 M _ h) (fx_cwV 1 hts u_1133 u_1135 us_49 u_8 u_1136 rfl rfl (by decide +kernel) ⟨(Nat.le_of_ble_eq_true rfl), (Nat.le_of_ble_eq_true rfl)⟩) (fx_w8 g M) rfl rfl hl.1 rfl (Nat.le_of_ble_eq_true rfl) dX7_rounds_2 ⟨(Nat.le_of_ble_eq_true rfl), (Nat.le_of_ble_eq_true rfl)⟩) (fun r2 M1 H locs h hH => ?_)
  refine lv_if_eq (tgt := 17) hx hb dX7_rounds_5 (by decide) (fun c3 => ?_) (fun c3 => ?_)
  · replace h := h.1 c3
    refine lv_iconst (v := 0) hx hb dX7_rounds_17 (by decide) ?_
    exact fx_iret C hH h dX7_rounds_18
  · replace h := h.2 c3
    refine lv_aload_n hx hb dX7_rounds_8 rfl (lv_at hl 0 rfl) ?_
    refine fx_get C hH (fx_w8 g M1) rfl in_X7 24 (by decide) u_847 rfl rfl dX7_rounds_9 ?_
    refine lv_iload_n hx hb dX7_rounds_12 rfl (lv_at hl 1 rfl) ?_
    obtain ⟨hi4, h⟩ := h
    refine fx_iald (j := a1.toNatClampNeg) C hH 49 (fx_w49 g M1) rfl hi4 dX7_rounds_13 ?_
    refine lv_goto (tgt := 18) hx hb dX7_rounds_14 (by decide) ?_
    exact fx_iret C hH h dX7_rounds_18
/-! FlexLayoutModel.freeSpace(I)I (8,) -/
def rm_X7_freeSpace_8 : Room := { frames := 6, cells := 0, slots := 0, locals := 152 }
def wp_X7_freeSpace_8 (a1 : Int32) (M : fx_Mem) (Q : Int32 → fx_Mem → Prop) : Prop :=
  wp_X7_isLine_8 a1 M (fun r2 M1 => ((r2 = 0 → Q 0 M1) ∧ (¬ r2 = 0 → vp_in a1 20 ∧ Q (M1.2.1 50 a1.toNatClampNeg) M1)))
set_option maxHeartbeats 4000000 in
set_option maxRecDepth 100000 in
theorem c_X7_freeSpace_8 (l : Launch) {g : fx_Geo} (hG : fx_Gd g) (a1 : Int32) (M : fx_Mem) (Q : Int32 → fx_Mem → Prop) (h : wp_X7_freeSpace_8 a1 M Q) : Met l yX7_freeSpace (.code yX7_freeSpace cX7_freeSpace 2 (some .int) :: fx_U) rm_X7_freeSpace_8 (va_Pc [.ref (fx_a g 8), .int a1] (fx_At g M)) (va_Qi Q (fx_Pw g) (fx_A g)) 0 0 (fx_A g) := by
  refine Met.ofW (cc := cX7_freeSpace) (maxL := 2) (ret := (some .int)) (by decide +kernel) rfl ?_
  intro p e s m args below meth c s₁ B hml hv
  obtain ⟨rfl, hv⟩ := hv
  have hts := atoms_spec (ws := .code yX7_freeSpace cX7_freeSpace 2 (some .int) :: fx_U) B.pre
  obtain ⟨C, hH⟩ := fx_body (own := RX7) B hml rfl (fun w hw => hts w (List.mem_cons_of_mem _ hw)) hG hv
  replace hts := fun w hw => hts w (List.mem_cons_of_mem _ hw)
  obtain ⟨hx, hb, hr, -, hown, -, hlocks, hsz, hK, -, hSt⟩ := id C
  have hl := lv_entry ([.ref (fx_a g 8), .int a1]) (n := 2) (Nat.le_of_ble_eq_true rfl)
  rw [lg_entry_eq]
  generalize (lg_sl ([.ref (fx_a g 8), .int a1]) ++ List.replicate (2 - (lg_sl ([.ref (fx_a g 8), .int a1])).length) Slot.unset).toArray = ls at hl ⊢
  have hl : lv_has ls 2 [(0, .ref (fx_a g 8)), (1, .int a1)] := hl
  obtain ⟨H, eH⟩ : ∃ H : Heap, H = s.heap := ⟨_, rfl⟩
  obtain ⟨locs, elocs⟩ : ∃ q : List Loc, q = [] := ⟨_, rfl⟩
  rw [← eH, ← elocs] at hH
  show W p l e rm_X7_freeSpace_8 s m _ below meth c s.heap [] 0 0 _ _
  rw [← eH, ← elocs]
  unfold wp_X7_freeSpace_8 at h
  refine lv_aload_n hx hb dX7_freeSpace_0 rfl (lv_at hl 0 rfl) ?_
  refine lv_iload_n hx hb dX7_freeSpace_1 rfl (lv_at hl 1 rfl) ?_
  refine fx_ci hH (fx_runV (As := [.int a1]) (rest := []) C hH (c_X7_isLine_8 l C.2.2.2.2.2.2.2.2.2.1 a1 M _ h) (fx_cwV 1 hts u_1133 u_1135 us_49 u_8 u_1136 rfl rfl (by decide +kernel) ⟨(Nat.le_of_ble_eq_true rfl), (Nat.le_of_ble_eq_true rfl)⟩) (fx_w8 g M) rfl rfl hl.1 rfl (Nat.le_of_ble_eq_true rfl) dX7_freeSpace_2 ⟨(Nat.le_of_ble_eq_true rfl), (Nat.le_of_ble_eq_true rfl)⟩) (fun r2 M1 H locs h hH => ?_)
  refine lv_if_eq (tgt := 17) hx hb dX7_freeSpace_5 (by decide) (fun c3 => ?_) (fun c3 => ?_)
  · replace h := h.1 c3
    refine lv_iconst (v := 0) hx hb dX7_freeSpace_17 (by decide) ?_
    exact fx_iret C hH h dX7_freeSpace_18
  · replace h := h.2 c3
    refine lv_aload_n hx hb dX7_freeSpace_8 rfl (lv_at hl 0 rfl) ?_
    refine fx_get C hH (fx_w8 g M1) rfl in_X7 25 (by decide) u_848 rfl rfl dX7_freeSpace_9 ?_
    refine lv_iload_n hx hb dX7_freeSpace_12 rfl (lv_at hl 1 rfl) ?_
    obtain ⟨hi4, h⟩ := h
    refine fx_iald (j := a1.toNatClampNeg) C hH 50 (fx_w50 g M1) rfl hi4 dX7_freeSpace_13 ?_
    refine lv_goto (tgt := 18) hx hb dX7_freeSpace_14 (by decide) ?_
    exact fx_iret C hH h dX7_freeSpace_18
/-! FlexLayoutModel.lineCross(I)I (8,) -/
def rm_X7_lineCross_8 : Room := { frames := 6, cells := 0, slots := 0, locals := 152 }
def wp_X7_lineCross_8 (a1 : Int32) (M : fx_Mem) (Q : Int32 → fx_Mem → Prop) : Prop :=
  wp_X7_isLine_8 a1 M (fun r2 M1 => ((r2 = 0 → Q 0 M1) ∧ (¬ r2 = 0 → vp_in a1 20 ∧ Q (M1.2.1 51 a1.toNatClampNeg) M1)))
set_option maxHeartbeats 4000000 in
set_option maxRecDepth 100000 in
theorem c_X7_lineCross_8 (l : Launch) {g : fx_Geo} (hG : fx_Gd g) (a1 : Int32) (M : fx_Mem) (Q : Int32 → fx_Mem → Prop) (h : wp_X7_lineCross_8 a1 M Q) : Met l yX7_lineCross (.code yX7_lineCross cX7_lineCross 2 (some .int) :: fx_U) rm_X7_lineCross_8 (va_Pc [.ref (fx_a g 8), .int a1] (fx_At g M)) (va_Qi Q (fx_Pw g) (fx_A g)) 0 0 (fx_A g) := by
  refine Met.ofW (cc := cX7_lineCross) (maxL := 2) (ret := (some .int)) (by decide +kernel) rfl ?_
  intro p e s m args below meth c s₁ B hml hv
  obtain ⟨rfl, hv⟩ := hv
  have hts := atoms_spec (ws := .code yX7_lineCross cX7_lineCross 2 (some .int) :: fx_U) B.pre
  obtain ⟨C, hH⟩ := fx_body (own := RX7) B hml rfl (fun w hw => hts w (List.mem_cons_of_mem _ hw)) hG hv
  replace hts := fun w hw => hts w (List.mem_cons_of_mem _ hw)
  obtain ⟨hx, hb, hr, -, hown, -, hlocks, hsz, hK, -, hSt⟩ := id C
  have hl := lv_entry ([.ref (fx_a g 8), .int a1]) (n := 2) (Nat.le_of_ble_eq_true rfl)
  rw [lg_entry_eq]
  generalize (lg_sl ([.ref (fx_a g 8), .int a1]) ++ List.replicate (2 - (lg_sl ([.ref (fx_a g 8), .int a1])).length) Slot.unset).toArray = ls at hl ⊢
  have hl : lv_has ls 2 [(0, .ref (fx_a g 8)), (1, .int a1)] := hl
  obtain ⟨H, eH⟩ : ∃ H : Heap, H = s.heap := ⟨_, rfl⟩
  obtain ⟨locs, elocs⟩ : ∃ q : List Loc, q = [] := ⟨_, rfl⟩
  rw [← eH, ← elocs] at hH
  show W p l e rm_X7_lineCross_8 s m _ below meth c s.heap [] 0 0 _ _
  rw [← eH, ← elocs]
  unfold wp_X7_lineCross_8 at h
  refine lv_aload_n hx hb dX7_lineCross_0 rfl (lv_at hl 0 rfl) ?_
  refine lv_iload_n hx hb dX7_lineCross_1 rfl (lv_at hl 1 rfl) ?_
  refine fx_ci hH (fx_runV (As := [.int a1]) (rest := []) C hH (c_X7_isLine_8 l C.2.2.2.2.2.2.2.2.2.1 a1 M _ h) (fx_cwV 1 hts u_1133 u_1135 us_49 u_8 u_1136 rfl rfl (by decide +kernel) ⟨(Nat.le_of_ble_eq_true rfl), (Nat.le_of_ble_eq_true rfl)⟩) (fx_w8 g M) rfl rfl hl.1 rfl (Nat.le_of_ble_eq_true rfl) dX7_lineCross_2 ⟨(Nat.le_of_ble_eq_true rfl), (Nat.le_of_ble_eq_true rfl)⟩) (fun r2 M1 H locs h hH => ?_)
  refine lv_if_eq (tgt := 17) hx hb dX7_lineCross_5 (by decide) (fun c3 => ?_) (fun c3 => ?_)
  · replace h := h.1 c3
    refine lv_iconst (v := 0) hx hb dX7_lineCross_17 (by decide) ?_
    exact fx_iret C hH h dX7_lineCross_18
  · replace h := h.2 c3
    refine lv_aload_n hx hb dX7_lineCross_8 rfl (lv_at hl 0 rfl) ?_
    refine fx_get C hH (fx_w8 g M1) rfl in_X7 26 (by decide) u_849 rfl rfl dX7_lineCross_9 ?_
    refine lv_iload_n hx hb dX7_lineCross_12 rfl (lv_at hl 1 rfl) ?_
    obtain ⟨hi4, h⟩ := h
    refine fx_iald (j := a1.toNatClampNeg) C hH 51 (fx_w51 g M1) rfl hi4 dX7_lineCross_13 ?_
    refine lv_goto (tgt := 18) hx hb dX7_lineCross_14 (by decide) ?_
    exact fx_iret C hH h dX7_lineCross_18
/-! FlexLayoutModel.lineAscent(I)I (8,) -/
def rm_X7_lineAscent_8 : Room := { frames := 6, cells := 0, slots := 0, locals := 152 }
def wp_X7_lineAscent_8 (a1 : Int32) (M : fx_Mem) (Q : Int32 → fx_Mem → Prop) : Prop :=
  wp_X7_isLine_8 a1 M (fun r2 M1 => ((r2 = 0 → Q 0 M1) ∧ (¬ r2 = 0 → vp_in a1 20 ∧ Q (M1.2.1 52 a1.toNatClampNeg) M1)))
set_option maxHeartbeats 4000000 in
set_option maxRecDepth 100000 in
theorem c_X7_lineAscent_8 (l : Launch) {g : fx_Geo} (hG : fx_Gd g) (a1 : Int32) (M : fx_Mem) (Q : Int32 → fx_Mem → Prop) (h : wp_X7_lineAscent_8 a1 M Q) : Met l yX7_lineAscent (.code yX7_lineAscent cX7_lineAscent 2 (some .int) :: fx_U) rm_X7_lineAscent_8 (va_Pc [.ref (fx_a g 8), .int a1] (fx_At g M)) (va_Qi Q (fx_Pw g) (fx_A g)) 0 0 (fx_A g) := by
  refine Met.ofW (cc := cX7_lineAscent) (maxL := 2) (ret := (some .int)) (by decide +kernel) rfl ?_
  intro p e s m args below meth c s₁ B hml hv
  obtain ⟨rfl, hv⟩ := hv
  have hts := atoms_spec (ws := .code yX7_lineAscent cX7_lineAscent 2 (some .int) :: fx_U) B.pre
  obtain ⟨C, hH⟩ := fx_body (own := RX7) B hml rfl (fun w hw => hts w (List.mem_cons_of_mem _ hw)) hG hv
  replace hts := fun w hw => hts w (List.mem_cons_of_mem _ hw)
  obtain ⟨hx, hb, hr, -, hown, -, hlocks, hsz, hK, -, hSt⟩ := id C
  have hl := lv_entry ([.ref (fx_a g 8), .int a1]) (n := 2) (Nat.le_of_ble_eq_true rfl)
  rw [lg_entry_eq]
  generalize (lg_sl ([.ref (fx_a g 8), .int a1]) ++ List.replicate (2 - (lg_sl ([.ref (fx_a g 8), .int a1])).length) Slot.unset).toArray = ls at hl ⊢
  have hl : lv_has ls 2 [(0, .ref (fx_a g 8)), (1, .int a1)] := hl
  obtain ⟨H, eH⟩ : ∃ H : Heap, H = s.heap := ⟨_, rfl⟩
  obtain ⟨locs, elocs⟩ : ∃ q : List Loc, q = [] := ⟨_, rfl⟩
  rw [← eH, ← elocs] at hH
  show W p l e rm_X7_lineAscent_8 s m _ below meth c s.heap [] 0 0 _ _
  rw [← eH, ← elocs]
  unfold wp_X7_lineAscent_8 at h
  refine lv_aload_n hx hb dX7_lineAscent_0 rfl (lv_at hl 0 rfl) ?_
  refine lv_iload_n hx hb dX7_lineAscent_1 rfl (lv_at hl 1 rfl) ?_
  refine fx_ci hH (fx_runV (As := [.int a1]) (rest := []) C hH (c_X7_isLine_8 l C.2.2.2.2.2.2.2.2.2.1 a1 M _ h) (fx_cwV 1 hts u_1133 u_1135 us_49 u_8 u_1136 rfl rfl (by decide +kernel) ⟨(Nat.le_of_ble_eq_true rfl), (Nat.le_of_ble_eq_true rfl)⟩) (fx_w8 g M) rfl rfl hl.1 rfl (Nat.le_of_ble_eq_true rfl) dX7_lineAscent_2 ⟨(Nat.le_of_ble_eq_true rfl), (Nat.le_of_ble_eq_true rfl)⟩) (fun r2 M1 H locs h hH => ?_)
  refine lv_if_eq (tgt := 17) hx hb dX7_lineAscent_5 (by decide) (fun c3 => ?_) (fun c3 => ?_)
  · replace h := h.1 c3
    refine lv_iconst (v := 0) hx hb dX7_lineAscent_17 (by decide) ?_
    exact fx_iret C hH h dX7_lineAscent_18
  · replace h := h.2 c3
    refine lv_aload_n hx hb dX7_lineAscent_8 rfl (lv_at hl 0 rfl) ?_
    refine fx_get C hH (fx_w8 g M1) rfl in_X7 27 (by decide) u_850 rfl rfl dX7_lineAscent_9 ?_
    refine lv_iload_n hx hb dX7_lineAscent_12 rfl (lv_at hl 1 rfl) ?_
    obtain ⟨hi4, h⟩ := h
    refine fx_iald (j := a1.toNatClampNeg) C hH 52 (fx_w52 g M1) rfl hi4 dX7_lineAscent_13 ?_
    refine lv_goto (tgt := 18) hx hb dX7_lineAscent_14 (by decide) ?_
    exact fx_iret C hH h dX7_lineAscent_18
/-! FlexLayoutModel.crossExtent()I (8,) -/
def rm_X7_crossExtent_8 : Room := { frames := 5, cells := 0, slots := 0, locals := 131 }
def wp_X7_crossExtent_8 (M : fx_Mem) (Q : Int32 → fx_Mem → Prop) : Prop :=
  ∀ M1 : fx_Mem, M1 = fx_si M 512 0 → wp_X7_findLayout_8  M1 (fun M2 => Q (M2.1 543) M2)
set_option maxHeartbeats 4000000 in
set_option maxRecDepth 100000 in
theorem c_X7_crossExtent_8 (l : Launch) {g : fx_Geo} (hG : fx_Gd g) (M : fx_Mem) (Q : Int32 → fx_Mem → Prop) (h : wp_X7_crossExtent_8 M Q) : Met l yX7_crossExtent (.code yX7_crossExtent cX7_crossExtent 1 (some .int) :: fx_U) rm_X7_crossExtent_8 (va_Pc [.ref (fx_a g 8)] (fx_At g M)) (va_Qi Q (fx_Pw g) (fx_A g)) 0 0 (fx_A g) := by
  refine Met.ofW (cc := cX7_crossExtent) (maxL := 1) (ret := (some .int)) (by decide +kernel) rfl ?_
  intro p e s m args below meth c s₁ B hml hv
  obtain ⟨rfl, hv⟩ := hv
  have hts := atoms_spec (ws := .code yX7_crossExtent cX7_crossExtent 1 (some .int) :: fx_U) B.pre
  obtain ⟨C, hH⟩ := fx_body (own := RX7) B hml rfl (fun w hw => hts w (List.mem_cons_of_mem _ hw)) hG hv
  replace hts := fun w hw => hts w (List.mem_cons_of_mem _ hw)
  obtain ⟨hx, hb, hr, -, hown, -, hlocks, hsz, hK, -, hSt⟩ := id C
  have hl := lv_entry ([.ref (fx_a g 8)]) (n := 1) (Nat.le_of_ble_eq_true rfl)
  rw [lg_entry_eq]
  generalize (lg_sl ([.ref (fx_a g 8)]) ++ List.replicate (1 - (lg_sl ([.ref (fx_a g 8)])).length) Slot.unset).toArray = ls at hl ⊢
  have hl : lv_has ls 1 [(0, .ref (fx_a g 8))] := hl
  obtain ⟨H, eH⟩ : ∃ H : Heap, H = s.heap := ⟨_, rfl⟩
  obtain ⟨locs, elocs⟩ : ∃ q : List Loc, q = [] := ⟨_, rfl⟩
  rw [← eH, ← elocs] at hH
  show W p l e rm_X7_crossExtent_8 s m _ below meth c s.heap [] 0 0 _ _
  rw [← eH, ← elocs]
  unfold wp_X7_crossExtent_8 at h
  refine lv_aload_n hx hb dX7_crossExtent_0 rfl (lv_at hl 0 rfl) ?_
  refine lv_iconst (v := 0) hx hb dX7_crossExtent_1 (by decide) ?_
  refine fx_put C hH (fx_w8 g M) rfl in_X7 tyX7 tyX7_ok nmX7 0 (by decide) u_823 rfl rfl (ty := .int) (by decide +kernel) rfl rfl (Nat.le_of_ble_eq_true rfl) (fx_p8_0 g M 0) dX7_crossExtent_2 (fun H locs hH => ?_)
  generalize eM1 : fx_si M 512 0 = M1 at hH
  replace h := h M1 eM1.symm
  refine lv_aload_n hx hb dX7_crossExtent_5 rfl (lv_at hl 0 rfl) ?_
  refine fx_cv hH (fx_runV (As := []) (rest := []) C hH (c_X7_findLayout_8 l C.2.2.2.2.2.2.2.2.2.1  M1 _ h) (fx_cwV 0 hts u_1034 u_1036 us_31 u_8 u_1037 rfl rfl (by decide +kernel) ⟨(Nat.le_of_ble_eq_true rfl), (Nat.le_of_ble_eq_true rfl)⟩) (fx_w8 g M1) rfl rfl hl.1 rfl (Nat.le_of_ble_eq_true rfl) dX7_crossExtent_6 ⟨(Nat.le_of_ble_eq_true rfl), (Nat.le_of_ble_eq_true rfl)⟩) (fun M2 H locs h hH => ?_)
  refine lv_aload_n hx hb dX7_crossExtent_9 rfl (lv_at hl 0 rfl) ?_
  refine fx_get C hH (fx_w8 g M2) rfl in_X7 31 (by decide) u_854 rfl rfl dX7_crossExtent_10 ?_
  exact fx_iret C hH h dX7_crossExtent_13
/-! FlexLayoutModel.overflows(I)Z (8,) -/
def rm_X7_overflows_8 : Room := { frames := 5, cells := 0, slots := 0, locals := 131 }
def wb_X7_overflows_8_97 (Q : Int32 → fx_Mem → Prop) (M : fx_Mem) : Prop :=
  Q 1 M
set_option maxHeartbeats 4000000 in
set_option maxRecDepth 100000 in
theorem tb_X7_overflows_8_97 {g : fx_Geo} {p : Program} {l : Launch} {e : Env} {s : State} {m : MethodId} {args : Array Value} {below : List Frame} {meth : Method} {c : Code} (C : fx_Cx g p s m args meth c RX7 cX7_overflows 3 (some .boolean)) (Q : Int32 → fx_Mem → Prop) (M : fx_Mem) (h : wb_X7_overflows_8_97 Q M) (H : Heap) (locs : List Loc) (ls : Array Slot) (hH : fx_H g s M H locs) (hl : lv_has ls 3 []) : W p l e rm_X7_overflows_8 s m args below meth c H locs 0 0 (MQ below (va_Qi Q (fx_Pw g) (fx_A g)) args s 0 0 (fx_A g)) (F0 m 97 ls []) := by
  obtain ⟨hx, hb, hr, hml, hown, hts, hlocks, hsz, hK, hG, hSt⟩ := id C
  unfold wb_X7_overflows_8_97 at h
  refine lv_iconst (v := 1) hx hb dX7_overflows_97 (by decide) ?_
  refine lv_goto (tgt := 102) hx hb dX7_overflows_98 (by decide) ?_
  exact fx_zret C hH (by decide) h dX7_overflows_102
def wb_X7_overflows_8_14 (Q : Int32 → fx_Mem → Prop) (x1 : Int32) (s0 : Int32) (M : fx_Mem) : Prop :=
  ∀ M1 : fx_Mem, M1 = fx_si M 512 s0 → ((M1.1 512 ≤ 0 → wp_X7_findLayout_8  M1 (fun M3 => vp_in x1 20 ∧ ∀ v5 : Int32, v5 = M3.2.1 45 x1.toNatClampNeg → vp_in v5 20 ∧ ((M3.2.1 43 v5.toNatClampNeg < 0 → wb_X7_overflows_8_97 Q  M3) ∧ (¬ M3.2.1 43 v5.toNatClampNeg < 0 → vp_in v5 20 ∧ vp_in v5 20 ∧ ((M3.2.1 30 0 < (M3.2.1 43 v5.toNatClampNeg) + (M3.2.1 40 v5.toNatClampNeg) → wb_X7_overflows_8_97 Q  M3) ∧ (¬ M3.2.1 30 0 < (M3.2.1 43 v5.toNatClampNeg) + (M3.2.1 40 v5.toNatClampNeg) → vp_in v5 20 ∧ ((M3.2.1 44 v5.toNatClampNeg < 0 → wb_X7_overflows_8_97 Q  M3) ∧ (¬ M3.2.1 44 v5.toNatClampNeg < 0 → vp_in v5 20 ∧ vp_in v5 20 ∧ (((M3.2.1 44 v5.toNatClampNeg) + (M3.2.1 42 v5.toNatClampNeg) ≤ M3.1 543 → Q 0 M3) ∧ (¬ (M3.2.1 44 v5.toNatClampNeg) + (M3.2.1 42 v5.toNatClampNeg) ≤ M3.1 543 → wb_X7_overflows_8_97 Q  M3)))))))))) ∧ (¬ M1.1 512 ≤ 0 → Q 0 M1))
set_option maxHeartbeats 4000000 in
set_option maxRecDepth 100000 in
theorem tb_X7_overflows_8_14 {g : fx_Geo} {p : Program} {l : Launch} {e : Env} {s : State} {m : MethodId} {args : Array Value} {below : List Frame} {meth : Method} {c : Code} (C : fx_Cx g p s m args meth c RX7 cX7_overflows 3 (some .boolean)) (Q : Int32 → fx_Mem → Prop) (x1 : Int32) (s0 : Int32) (M : fx_Mem) (h : wb_X7_overflows_8_14 Q x1 s0 M) (H : Heap) (locs : List Loc) (ls : Array Slot) (hH : fx_H g s M H locs) (hl : lv_has ls 3 [(0, .ref (fx_a g 8)), (1, .int x1)]) : W p l e rm_X7_overflows_8 s m args below meth c H locs 0 0 (MQ below (va_Qi Q (fx_Pw g) (fx_A g)) args s 0 0 (fx_A g)) (F0 m 14 ls [.int s0, .ref (fx_a g 8)]) := by
  obtain ⟨hx, hb, hr, hml, hown, hts, hlocks, hsz, hK, hG, hSt⟩ := id C
  unfold wb_X7_overflows_8_14 at h
  refine fx_put C hH (fx_w8 g M) rfl in_X7 tyX7 tyX7_ok nmX7 0 (by decide) u_823 rfl rfl (ty := .int) (by decide +kernel) rfl rfl (Nat.le_of_ble_eq_true rfl) (fx_p8_0 g M s0) dX7_overflows_14 (fun H locs hH => ?_)
  generalize eM1 : fx_si M 512 s0 = M1 at hH
  replace h := h M1 eM1.symm
  refine lv_aload_n hx hb dX7_overflows_17 rfl (lv_at hl 0 rfl) ?_
  refine fx_get C hH (fx_w8 g M1) rfl in_X7 0 (by decide) u_823 rfl rfl dX7_overflows_18 ?_
  refine lv_if_le (tgt := 26) hx hb dX7_overflows_21 (by decide) (fun c2 => ?_) (fun c2 => ?_)
  · replace h := h.1 c2
    refine lv_aload_n hx hb dX7_overflows_26 rfl (lv_at hl 0 rfl) ?_
    refine fx_cv hH (fx_runV (As := []) (rest := []) C hH (c_X7_findLayout_8 l C.2.2.2.2.2.2.2.2.2.1  M1 _ h) (fx_cwV 0 hts u_1034 u_1036 us_31 u_8 u_1037 rfl rfl (by decide +kernel) ⟨(Nat.le_of_ble_eq_true rfl), (Nat.le_of_ble_eq_true rfl)⟩) (fx_w8 g M1) rfl rfl hl.1 rfl (Nat.le_of_ble_eq_true rfl) dX7_overflows_27 ⟨(Nat.le_of_ble_eq_true rfl), (Nat.le_of_ble_eq_true rfl)⟩) (fun M3 H locs h hH => ?_)
    refine lv_aload_n hx hb dX7_overflows_30 rfl (lv_at hl 0 rfl) ?_
    refine fx_get C hH (fx_w8 g M3) rfl in_X7 20 (by decide) u_843 rfl rfl dX7_overflows_31 ?_
    refine lv_iload_n hx hb dX7_overflows_34 rfl (lv_at hl 1 rfl) ?_
    obtain ⟨hi4, h⟩ := h
    refine fx_iald (j := x1.toNatClampNeg) C hH 45 (fx_w45 g M3) rfl hi4 dX7_overflows_35 ?_
    refine lv_topi (fun v5 ev5 => ?_)
    replace h := h v5 ev5
    refine lv_istore_n (lv' := [(2, .int v5), (0, .ref (fx_a g 8)), (1, .int x1)]) hx hb dX7_overflows_36 rfl hl (by decide) rfl (fun ls hl => ?_)
    refine lv_aload_n hx hb dX7_overflows_37 rfl (lv_at hl 1 rfl) ?_
    refine fx_get C hH (fx_w8 g M3) rfl in_X7 18 (by decide) u_841 rfl rfl dX7_overflows_38 ?_
    refine lv_iload_n hx hb dX7_overflows_41 rfl (lv_at hl 0 rfl) ?_
    obtain ⟨hi6, h⟩ := h
    refine fx_iald (j := v5.toNatClampNeg) C hH 43 (fx_w43 g M3) rfl hi6 dX7_overflows_42 ?_
    refine lv_if_lt (tgt := 97) hx hb dX7_overflows_43 (by decide) (fun c7 => ?_) (fun c7 => ?_)
    · replace h := h.1 c7
      exact tb_X7_overflows_8_97 C Q   M3 h  H locs ls hH (lv_sub hl [] rfl)
    · replace h := h.2 c7
      refine lv_aload_n hx hb dX7_overflows_46 rfl (lv_at hl 1 rfl) ?_
      refine fx_get C hH (fx_w8 g M3) rfl in_X7 18 (by decide) u_841 rfl rfl dX7_overflows_47 ?_
      refine lv_iload_n hx hb dX7_overflows_50 rfl (lv_at hl 0 rfl) ?_
      obtain ⟨hi8, h⟩ := h
      refine fx_iald (j := v5.toNatClampNeg) C hH 43 (fx_w43 g M3) rfl hi8 dX7_overflows_51 ?_
      refine lv_aload_n hx hb dX7_overflows_52 rfl (lv_at hl 1 rfl) ?_
      refine fx_get C hH (fx_w8 g M3) rfl in_X7 15 (by decide) u_838 rfl rfl dX7_overflows_53 ?_
      refine lv_iload_n hx hb dX7_overflows_56 rfl (lv_at hl 0 rfl) ?_
      obtain ⟨hi9, h⟩ := h
      refine fx_iald (j := v5.toNatClampNeg) C hH 40 (fx_w40 g M3) rfl hi9 dX7_overflows_57 ?_
      refine lv_iadd hx hb dX7_overflows_58 ?_
      refine lv_aload_n hx hb dX7_overflows_59 rfl (lv_at hl 1 rfl) ?_
      refine fx_get C hH (fx_w8 g M3) rfl in_X7 1 (by decide) u_824 rfl rfl dX7_overflows_60 ?_
      refine lv_iconst (v := 0) hx hb dX7_overflows_63 (by decide) ?_
      refine fx_iald (j := 0) C hH 30 (fx_w30 g M3) (by decide) (by unfold vp_in; decide) dX7_overflows_64 ?_
      refine lv_icmp_gt (tgt := 97) hx hb dX7_overflows_65 (by decide) (fun c10 => ?_) (fun c10 => ?_)
      · replace h := h.1 c10
        exact tb_X7_overflows_8_97 C Q   M3 h  H locs ls hH (lv_sub hl [] rfl)
      · replace h := h.2 c10
        refine lv_aload_n hx hb dX7_overflows_68 rfl (lv_at hl 1 rfl) ?_
        refine fx_get C hH (fx_w8 g M3) rfl in_X7 19 (by decide) u_842 rfl rfl dX7_overflows_69 ?_
        refine lv_iload_n hx hb dX7_overflows_72 rfl (lv_at hl 0 rfl) ?_
        obtain ⟨hi11, h⟩ := h
        refine fx_iald (j := v5.toNatClampNeg) C hH 44 (fx_w44 g M3) rfl hi11 dX7_overflows_73 ?_
        refine lv_if_lt (tgt := 97) hx hb dX7_overflows_74 (by decide) (fun c12 => ?_) (fun c12 => ?_)
        · replace h := h.1 c12
          exact tb_X7_overflows_8_97 C Q   M3 h  H locs ls hH (lv_sub hl [] rfl)
        · replace h := h.2 c12
          refine lv_aload_n hx hb dX7_overflows_77 rfl (lv_at hl 1 rfl) ?_
          refine fx_get C hH (fx_w8 g M3) rfl in_X7 19 (by decide) u_842 rfl rfl dX7_overflows_78 ?_
          refine lv_iload_n hx hb dX7_overflows_81 rfl (lv_at hl 0 rfl) ?_
          obtain ⟨hi13, h⟩ := h
          refine fx_iald (j := v5.toNatClampNeg) C hH 44 (fx_w44 g M3) rfl hi13 dX7_overflows_82 ?_
          refine lv_aload_n hx hb dX7_overflows_83 rfl (lv_at hl 1 rfl) ?_
          refine fx_get C hH (fx_w8 g M3) rfl in_X7 17 (by decide) u_840 rfl rfl dX7_overflows_84 ?_
          refine lv_iload_n hx hb dX7_overflows_87 rfl (lv_at hl 0 rfl) ?_
          obtain ⟨hi14, h⟩ := h
          refine fx_iald (j := v5.toNatClampNeg) C hH 42 (fx_w42 g M3) rfl hi14 dX7_overflows_88 ?_
          refine lv_iadd hx hb dX7_overflows_89 ?_
          refine lv_aload_n hx hb dX7_overflows_90 rfl (lv_at hl 1 rfl) ?_
          refine fx_get C hH (fx_w8 g M3) rfl in_X7 31 (by decide) u_854 rfl rfl dX7_overflows_91 ?_
          refine lv_icmp_le (tgt := 101) hx hb dX7_overflows_94 (by decide) (fun c15 => ?_) (fun c15 => ?_)
          · replace h := h.1 c15
            refine lv_iconst (v := 0) hx hb dX7_overflows_101 (by decide) ?_
            exact fx_zret C hH (by decide) h dX7_overflows_102
          · replace h := h.2 c15
            exact tb_X7_overflows_8_97 C Q   M3 h  H locs ls hH (lv_sub hl [] rfl)
  · replace h := h.2 c2
    refine lv_iconst (v := 0) hx hb dX7_overflows_24 (by decide) ?_
    exact fx_zret C hH (by decide) h dX7_overflows_25
def wp_X7_overflows_8 (a1 : Int32) (M : fx_Mem) (Q : Int32 → fx_Mem → Prop) : Prop :=
  wp_X7_isItem_8 a1 M (fun r2 M1 => ((r2 = 0 → wb_X7_overflows_8_14 Q a1 1 M1) ∧ (¬ r2 = 0 → wb_X7_overflows_8_14 Q a1 0 M1)))
set_option maxHeartbeats 4000000 in
set_option maxRecDepth 100000 in
theorem c_X7_overflows_8 (l : Launch) {g : fx_Geo} (hG : fx_Gd g) (a1 : Int32) (M : fx_Mem) (Q : Int32 → fx_Mem → Prop) (h : wp_X7_overflows_8 a1 M Q) : Met l yX7_overflows (.code yX7_overflows cX7_overflows 3 (some .boolean) :: fx_U) rm_X7_overflows_8 (va_Pc [.ref (fx_a g 8), .int a1] (fx_At g M)) (va_Qi Q (fx_Pw g) (fx_A g)) 0 0 (fx_A g) := by
  refine Met.ofW (cc := cX7_overflows) (maxL := 3) (ret := (some .boolean)) (by decide +kernel) rfl ?_
  intro p e s m args below meth c s₁ B hml hv
  obtain ⟨rfl, hv⟩ := hv
  have hts := atoms_spec (ws := .code yX7_overflows cX7_overflows 3 (some .boolean) :: fx_U) B.pre
  obtain ⟨C, hH⟩ := fx_body (own := RX7) B hml rfl (fun w hw => hts w (List.mem_cons_of_mem _ hw)) hG hv
  replace hts := fun w hw => hts w (List.mem_cons_of_mem _ hw)
  obtain ⟨hx, hb, hr, -, hown, -, hlocks, hsz, hK, -, hSt⟩ := id C
  have hl := lv_entry ([.ref (fx_a g 8), .int a1]) (n := 3) (Nat.le_of_ble_eq_true rfl)
  rw [lg_entry_eq]
  generalize (lg_sl ([.ref (fx_a g 8), .int a1]) ++ List.replicate (3 - (lg_sl ([.ref (fx_a g 8), .int a1])).length) Slot.unset).toArray = ls at hl ⊢
  have hl : lv_has ls 3 [(0, .ref (fx_a g 8)), (1, .int a1)] := hl
  obtain ⟨H, eH⟩ : ∃ H : Heap, H = s.heap := ⟨_, rfl⟩
  obtain ⟨locs, elocs⟩ : ∃ q : List Loc, q = [] := ⟨_, rfl⟩
  rw [← eH, ← elocs] at hH
  show W p l e rm_X7_overflows_8 s m _ below meth c s.heap [] 0 0 _ _
  rw [← eH, ← elocs]
  unfold wp_X7_overflows_8 at h
  refine lv_aload_n hx hb dX7_overflows_0 rfl (lv_at hl 0 rfl) ?_
  refine lv_aload_n hx hb dX7_overflows_1 rfl (lv_at hl 0 rfl) ?_
  refine lv_iload_n hx hb dX7_overflows_2 rfl (lv_at hl 1 rfl) ?_
  refine fx_ci hH (fx_runV (As := [.int a1]) (rest := [.ref (fx_a g 8)]) C hH (c_X7_isItem_8 l C.2.2.2.2.2.2.2.2.2.1 a1 M _ h) (fx_cwV 1 hts u_980 u_982 us_26 u_8 u_983 rfl rfl (by decide +kernel) ⟨(Nat.le_of_ble_eq_true rfl), (Nat.le_of_ble_eq_true rfl)⟩) (fx_w8 g M) rfl rfl hl.1 rfl (Nat.le_of_ble_eq_true rfl) dX7_overflows_3 ⟨(Nat.le_of_ble_eq_true rfl), (Nat.le_of_ble_eq_true rfl)⟩) (fun r2 M1 H locs h hH => ?_)
  refine lv_if_eq (tgt := 13) hx hb dX7_overflows_6 (by decide) (fun c3 => ?_) (fun c3 => ?_)
  · replace h := h.1 c3
    refine lv_iconst (v := 1) hx hb dX7_overflows_13 (by decide) ?_
    exact tb_X7_overflows_8_14 C Q  a1 1 M1 h  H locs ls hH (lv_sub hl [0, 1] rfl)
  · replace h := h.2 c3
    refine lv_iconst (v := 0) hx hb dX7_overflows_9 (by decide) ?_
    refine lv_goto (tgt := 14) hx hb dX7_overflows_10 (by decide) ?_
    exact tb_X7_overflows_8_14 C Q  a1 0 M1 h  H locs ls hH (lv_sub hl [0, 1] rfl)
/-! FlexLayoutModel.itemUnder(II)I (8,) -/
def rm_X7_itemUnder_8 : Room := { frames := 5, cells := 0, slots := 0, locals := 131 }
def wb_X7_itemUnder_8_82 (Q : Int32 → fx_Mem → Prop) (x3 : Int32) (M : fx_Mem) : Prop :=
  vp_in x3 20 ∧ Q (M.2.1 39 x3.toNatClampNeg) M
set_option maxHeartbeats 4000000 in
set_option maxRecDepth 100000 in
theorem tb_X7_itemUnder_8_82 {g : fx_Geo} {p : Program} {l : Launch} {e : Env} {s : State} {m : MethodId} {args : Array Value} {below : List Frame} {meth : Method} {c : Code} (C : fx_Cx g p s m args meth c RX7 cX7_itemUnder 6 (some .int)) (Q : Int32 → fx_Mem → Prop) (x3 : Int32) (M : fx_Mem) (h : wb_X7_itemUnder_8_82 Q x3 M) (H : Heap) (locs : List Loc) (ls : Array Slot) (hH : fx_H g s M H locs) (hl : lv_has ls 6 [(0, .ref (fx_a g 8)), (3, .int x3)]) : W p l e rm_X7_itemUnder_8 s m args below meth c H locs 0 0 (MQ below (va_Qi Q (fx_Pw g) (fx_A g)) args s 0 0 (fx_A g)) (F0 m 82 ls []) := by
  obtain ⟨hx, hb, hr, hml, hown, hts, hlocks, hsz, hK, hG, hSt⟩ := id C
  unfold wb_X7_itemUnder_8_82 at h
  refine lv_aload_n hx hb dX7_itemUnder_82 rfl (lv_at hl 0 rfl) ?_
  refine fx_get C hH (fx_w8 g M) rfl in_X7 14 (by decide) u_837 rfl rfl dX7_itemUnder_83 ?_
  refine lv_iload_n hx hb dX7_itemUnder_86 rfl (lv_at hl 1 rfl) ?_
  obtain ⟨hi1, h⟩ := h
  refine fx_iald (j := x3.toNatClampNeg) C hH 39 (fx_w39 g M) rfl hi1 dX7_itemUnder_87 ?_
  exact fx_iret C hH h dX7_itemUnder_88
def wb_X7_itemUnder_8_89 (k16 : Int32 → Int32 → Int32 → fx_Mem → Prop) (k82 : Int32 → fx_Mem → Prop) (k95 : fx_Mem → Prop) (Q : Int32 → fx_Mem → Prop) (x1 : Int32) (x2 : Int32) (x3 : Int32) (M : fx_Mem) : Prop :=
  ∀ v1 : Int32, v1 = x3 + (-1) → k16 x1 x2 v1 M
set_option maxHeartbeats 4000000 in
set_option maxRecDepth 100000 in
theorem tb_X7_itemUnder_8_89 {g : fx_Geo} {p : Program} {l : Launch} {e : Env} {s : State} {m : MethodId} {args : Array Value} {below : List Frame} {meth : Method} {c : Code} (C : fx_Cx g p s m args meth c RX7 cX7_itemUnder 6 (some .int)) (k16 : Int32 → Int32 → Int32 → fx_Mem → Prop) (k82 : Int32 → fx_Mem → Prop) (k95 : fx_Mem → Prop) (Q : Int32 → fx_Mem → Prop) (hk16 : ∀ (x1 : Int32) (x2 : Int32) (x3 : Int32) (M : fx_Mem), k16 x1 x2 x3 M → ∀ (H : Heap) (locs : List Loc) (ls : Array Slot), fx_H g s M H locs → lv_has ls 6 [(0, .ref (fx_a g 8)), (1, .int x1), (2, .int x2), (3, .int x3)] → W p l e rm_X7_itemUnder_8 s m args below meth c H locs 0 0 (MQ below (va_Qi Q (fx_Pw g) (fx_A g)) args s 0 0 (fx_A g)) (F0 m 16 ls [])) (hk82 : ∀ (x3 : Int32) (M : fx_Mem), k82 x3 M → ∀ (H : Heap) (locs : List Loc) (ls : Array Slot), fx_H g s M H locs → lv_has ls 6 [(0, .ref (fx_a g 8)), (3, .int x3)] → W p l e rm_X7_itemUnder_8 s m args below meth c H locs 0 0 (MQ below (va_Qi Q (fx_Pw g) (fx_A g)) args s 0 0 (fx_A g)) (F0 m 82 ls [])) (hk95 : ∀ (M : fx_Mem), k95 M → ∀ (H : Heap) (locs : List Loc) (ls : Array Slot), fx_H g s M H locs → lv_has ls 6 [(0, .ref (fx_a g 8))] → W p l e rm_X7_itemUnder_8 s m args below meth c H locs 0 0 (MQ below (va_Qi Q (fx_Pw g) (fx_A g)) args s 0 0 (fx_A g)) (F0 m 95 ls [])) (x1 : Int32) (x2 : Int32) (x3 : Int32) (M : fx_Mem) (h : wb_X7_itemUnder_8_89 k16 k82 k95 Q x1 x2 x3 M) (H : Heap) (locs : List Loc) (ls : Array Slot) (hH : fx_H g s M H locs) (hl : lv_has ls 6 [(0, .ref (fx_a g 8)), (1, .int x1), (2, .int x2), (3, .int x3)]) : W p l e rm_X7_itemUnder_8 s m args below meth c H locs 0 0 (MQ below (va_Qi Q (fx_Pw g) (fx_A g)) args s 0 0 (fx_A g)) (F0 m 89 ls []) := by
  obtain ⟨hx, hb, hr, hml, hown, hts, hlocks, hsz, hK, hG, hSt⟩ := id C
  unfold wb_X7_itemUnder_8_89 at h
  obtain ⟨v1, ev1⟩ : ∃ z : Int32, z = x3 + (-1) := ⟨_, rfl⟩
  refine lv_iinc (v := v1) (lv' := [(3, .int v1), (0, .ref (fx_a g 8)), (1, .int x1), (2, .int x2)]) hx hb dX7_itemUnder_89 hl (k := 3) rfl (by rw [ev1]; rfl) (by decide) rfl (fun ls hl => ?_)
  replace h := h v1 ev1
  refine lv_goto (tgt := 16) hx hb dX7_itemUnder_92 (by decide) ?_
  exact hk16 x1 x2 v1 M h  H locs ls hH (lv_sub hl [1, 2, 3, 0] rfl)
def wb_X7_itemUnder_8_16 (k16 : Int32 → Int32 → Int32 → fx_Mem → Prop) (k82 : Int32 → fx_Mem → Prop) (k95 : fx_Mem → Prop) (Q : Int32 → fx_Mem → Prop) (x1 : Int32) (x2 : Int32) (x3 : Int32) (M : fx_Mem) : Prop :=
  ((x3 < 0 → k95  M) ∧ (¬ x3 < 0 → wp_X7_coordinate_8 x3 0 M (fun r3 M2 => wp_X7_coordinate_8 x3 1 M2 (fun r5 M4 => wp_X7_coordinate_8 x3 2 M4 (fun r7 M6 => wp_X7_isBetween x1.toInt64 r3.toInt64 (((r3 + r7).toInt64) - 1) M6 (fun r9 M8 => ((r9 = 0 → wb_X7_itemUnder_8_89 k16 k82 k95 Q x1 x2 x3 M8) ∧ (¬ r9 = 0 → wp_X7_coordinate_8 x3 3 M8 (fun r12 M11 => wp_X7_isBetween x2.toInt64 r5.toInt64 (((r5 + r12).toInt64) - 1) M11 (fun r14 M13 => ((r14 = 0 → wb_X7_itemUnder_8_89 k16 k82 k95 Q x1 x2 x3 M13) ∧ (¬ r14 = 0 → k82 x3 M13))))))))))))
set_option maxHeartbeats 4000000 in
set_option maxRecDepth 100000 in
theorem tb_X7_itemUnder_8_16 {g : fx_Geo} {p : Program} {l : Launch} {e : Env} {s : State} {m : MethodId} {args : Array Value} {below : List Frame} {meth : Method} {c : Code} (C : fx_Cx g p s m args meth c RX7 cX7_itemUnder 6 (some .int)) (k16 : Int32 → Int32 → Int32 → fx_Mem → Prop) (k82 : Int32 → fx_Mem → Prop) (k95 : fx_Mem → Prop) (Q : Int32 → fx_Mem → Prop) (hk16 : ∀ (x1 : Int32) (x2 : Int32) (x3 : Int32) (M : fx_Mem), k16 x1 x2 x3 M → ∀ (H : Heap) (locs : List Loc) (ls : Array Slot), fx_H g s M H locs → lv_has ls 6 [(0, .ref (fx_a g 8)), (1, .int x1), (2, .int x2), (3, .int x3)] → W p l e rm_X7_itemUnder_8 s m args below meth c H locs 0 0 (MQ below (va_Qi Q (fx_Pw g) (fx_A g)) args s 0 0 (fx_A g)) (F0 m 16 ls [])) (hk82 : ∀ (x3 : Int32) (M : fx_Mem), k82 x3 M → ∀ (H : Heap) (locs : List Loc) (ls : Array Slot), fx_H g s M H locs → lv_has ls 6 [(0, .ref (fx_a g 8)), (3, .int x3)] → W p l e rm_X7_itemUnder_8 s m args below meth c H locs 0 0 (MQ below (va_Qi Q (fx_Pw g) (fx_A g)) args s 0 0 (fx_A g)) (F0 m 82 ls [])) (hk95 : ∀ (M : fx_Mem), k95 M → ∀ (H : Heap) (locs : List Loc) (ls : Array Slot), fx_H g s M H locs → lv_has ls 6 [(0, .ref (fx_a g 8))] → W p l e rm_X7_itemUnder_8 s m args below meth c H locs 0 0 (MQ below (va_Qi Q (fx_Pw g) (fx_A g)) args s 0 0 (fx_A g)) (F0 m 95 ls [])) (x1 : Int32) (x2 : Int32) (x3 : Int32) (M : fx_Mem) (h : wb_X7_itemUnder_8_16 k16 k82 k95 Q x1 x2 x3 M) (H : Heap) (locs : List Loc) (ls : Array Slot) (hH : fx_H g s M H locs) (hl : lv_has ls 6 [(0, .ref (fx_a g 8)), (1, .int x1), (2, .int x2), (3, .int x3)]) : W p l e rm_X7_itemUnder_8 s m args below meth c H locs 0 0 (MQ below (va_Qi Q (fx_Pw g) (fx_A g)) args s 0 0 (fx_A g)) (F0 m 16 ls []) := by
  obtain ⟨hx, hb, hr, hml, hown, hts, hlocks, hsz, hK, hG, hSt⟩ := id C
  unfold wb_X7_itemUnder_8_16 at h
  refine lv_iload_n hx hb dX7_itemUnder_16 rfl (lv_at hl 3 rfl) ?_
  refine lv_if_lt (tgt := 95) hx hb dX7_itemUnder_17 (by decide) (fun c1 => ?_) (fun c1 => ?_)
  · replace h := h.1 c1
    exact hk95  M h  H locs ls hH (lv_sub hl [0] rfl)
  · replace h := h.2 c1
    refine lv_aload_n hx hb dX7_itemUnder_20 rfl (lv_at hl 0 rfl) ?_
    refine lv_iload_n hx hb dX7_itemUnder_21 rfl (lv_at hl 3 rfl) ?_
    refine lv_iconst (v := 0) hx hb dX7_itemUnder_22 (by decide) ?_
    refine fx_ci hH (fx_runV (As := [.int x3, .int 0]) (rest := []) C hH (c_X7_coordinate_8 l C.2.2.2.2.2.2.2.2.2.1 x3 0 M _ h) (fx_cwV 2 hts u_1125 u_1127 us_48 u_8 u_1128 rfl rfl (by decide +kernel) ⟨(Nat.le_of_ble_eq_true rfl), (Nat.le_of_ble_eq_true rfl)⟩) (fx_w8 g M) rfl rfl hl.1 rfl (Nat.le_of_ble_eq_true rfl) dX7_itemUnder_23 ⟨(Nat.le_of_ble_eq_true rfl), (Nat.le_of_ble_eq_true rfl)⟩) (fun r3 M2 H locs h hH => ?_)
    refine lv_istore (lv' := [(4, .int r3), (0, .ref (fx_a g 8)), (1, .int x1), (2, .int x2), (3, .int x3)]) hx hb dX7_itemUnder_26 hl (by decide) rfl (fun ls hl => ?_)
    refine lv_aload_n hx hb dX7_itemUnder_28 rfl (lv_at hl 1 rfl) ?_
    refine lv_iload_n hx hb dX7_itemUnder_29 rfl (lv_at hl 4 rfl) ?_
    refine lv_iconst (v := 1) hx hb dX7_itemUnder_30 (by decide) ?_
    refine fx_ci hH (fx_runV (As := [.int x3, .int 1]) (rest := []) C hH (c_X7_coordinate_8 l C.2.2.2.2.2.2.2.2.2.1 x3 1 M2 _ h) (fx_cwV 2 hts u_1125 u_1127 us_48 u_8 u_1128 rfl rfl (by decide +kernel) ⟨(Nat.le_of_ble_eq_true rfl), (Nat.le_of_ble_eq_true rfl)⟩) (fx_w8 g M2) rfl rfl hl.1 rfl (Nat.le_of_ble_eq_true rfl) dX7_itemUnder_31 ⟨(Nat.le_of_ble_eq_true rfl), (Nat.le_of_ble_eq_true rfl)⟩) (fun r5 M4 H locs h hH => ?_)
    refine lv_istore (lv' := [(5, .int r5), (4, .int r3), (0, .ref (fx_a g 8)), (1, .int x1), (2, .int x2), (3, .int x3)]) hx hb dX7_itemUnder_34 hl (by decide) rfl (fun ls hl => ?_)
    refine lv_iload_n hx hb dX7_itemUnder_36 rfl (lv_at hl 3 rfl) ?_
    refine lv_i2l hx hb dX7_itemUnder_37 rfl ?_
    refine lv_iload hx hb dX7_itemUnder_38 (lv_at hl 1 rfl) ?_
    refine lv_i2l hx hb dX7_itemUnder_40 rfl ?_
    refine lv_iload hx hb dX7_itemUnder_41 (lv_at hl 1 rfl) ?_
    refine lv_aload_n hx hb dX7_itemUnder_43 rfl (lv_at hl 2 rfl) ?_
    refine lv_iload_n hx hb dX7_itemUnder_44 rfl (lv_at hl 5 rfl) ?_
    refine lv_iconst (v := 2) hx hb dX7_itemUnder_45 (by decide) ?_
    refine fx_ci hH (fx_runV (As := [.int x3, .int 2]) (rest := [.int r3, .long r3.toInt64, .long x1.toInt64]) C hH (c_X7_coordinate_8 l C.2.2.2.2.2.2.2.2.2.1 x3 2 M4 _ h) (fx_cwV 2 hts u_1125 u_1127 us_48 u_8 u_1128 rfl rfl (by decide +kernel) ⟨(Nat.le_of_ble_eq_true rfl), (Nat.le_of_ble_eq_true rfl)⟩) (fx_w8 g M4) rfl rfl hl.1 rfl (Nat.le_of_ble_eq_true rfl) dX7_itemUnder_46 ⟨(Nat.le_of_ble_eq_true rfl), (Nat.le_of_ble_eq_true rfl)⟩) (fun r7 M6 H locs h hH => ?_)
    refine lv_iadd hx hb dX7_itemUnder_49 ?_
    refine lv_i2l hx hb dX7_itemUnder_50 rfl ?_
    refine lv_lconst (v := 1) hx hb dX7_itemUnder_51 (by decide) ?_
    refine lv_lsub hx hb dX7_itemUnder_52 ?_
    refine fx_ci hH (fx_runS (As := [.long x1.toInt64, .long r3.toInt64, .long (((r3 + r7).toInt64) - 1)]) (rest := []) C hH (c_X7_isBetween l C.2.2.2.2.2.2.2.2.2.1 x1.toInt64 r3.toInt64 (((r3 + r7).toInt64) - 1) M6 _ h) (fx_cwS 3 hts u_938 u_939 u_8 u_940 rfl rfl (by decide +kernel) ⟨(Nat.le_of_ble_eq_true rfl), (Nat.le_of_ble_eq_true rfl)⟩) rfl hl.1 rfl (Nat.le_of_ble_eq_true rfl) dX7_itemUnder_53 ⟨(Nat.le_of_ble_eq_true rfl), (Nat.le_of_ble_eq_true rfl)⟩) (fun r9 M8 H locs h hH => ?_)
    refine lv_if_eq (tgt := 89) hx hb dX7_itemUnder_56 (by decide) (fun c10 => ?_) (fun c10 => ?_)
    · replace h := h.1 c10
      exact tb_X7_itemUnder_8_89 C k16 k82 k95 Q hk16 hk82 hk95 x1 x2 x3 M8 h  H locs ls hH (lv_sub hl [2, 3, 4, 5] rfl)
    · replace h := h.2 c10
      refine lv_iload_n hx hb dX7_itemUnder_59 rfl (lv_at hl 4 rfl) ?_
      refine lv_i2l hx hb dX7_itemUnder_60 rfl ?_
      refine lv_iload hx hb dX7_itemUnder_61 (lv_at hl 0 rfl) ?_
      refine lv_i2l hx hb dX7_itemUnder_63 rfl ?_
      refine lv_iload hx hb dX7_itemUnder_64 (lv_at hl 0 rfl) ?_
      refine lv_aload_n hx hb dX7_itemUnder_66 rfl (lv_at hl 2 rfl) ?_
      refine lv_iload_n hx hb dX7_itemUnder_67 rfl (lv_at hl 5 rfl) ?_
      refine lv_iconst (v := 3) hx hb dX7_itemUnder_68 (by decide) ?_
      refine fx_ci hH (fx_runV (As := [.int x3, .int 3]) (rest := [.int r5, .long r5.toInt64, .long x2.toInt64]) C hH (c_X7_coordinate_8 l C.2.2.2.2.2.2.2.2.2.1 x3 3 M8 _ h) (fx_cwV 2 hts u_1125 u_1127 us_48 u_8 u_1128 rfl rfl (by decide +kernel) ⟨(Nat.le_of_ble_eq_true rfl), (Nat.le_of_ble_eq_true rfl)⟩) (fx_w8 g M8) rfl rfl hl.1 rfl (Nat.le_of_ble_eq_true rfl) dX7_itemUnder_69 ⟨(Nat.le_of_ble_eq_true rfl), (Nat.le_of_ble_eq_true rfl)⟩) (fun r12 M11 H locs h hH => ?_)
      refine lv_iadd hx hb dX7_itemUnder_72 ?_
      refine lv_i2l hx hb dX7_itemUnder_73 rfl ?_
      refine lv_lconst (v := 1) hx hb dX7_itemUnder_74 (by decide) ?_
      refine lv_lsub hx hb dX7_itemUnder_75 ?_
      refine fx_ci hH (fx_runS (As := [.long x2.toInt64, .long r5.toInt64, .long (((r5 + r12).toInt64) - 1)]) (rest := []) C hH (c_X7_isBetween l C.2.2.2.2.2.2.2.2.2.1 x2.toInt64 r5.toInt64 (((r5 + r12).toInt64) - 1) M11 _ h) (fx_cwS 3 hts u_938 u_939 u_8 u_940 rfl rfl (by decide +kernel) ⟨(Nat.le_of_ble_eq_true rfl), (Nat.le_of_ble_eq_true rfl)⟩) rfl hl.1 rfl (Nat.le_of_ble_eq_true rfl) dX7_itemUnder_76 ⟨(Nat.le_of_ble_eq_true rfl), (Nat.le_of_ble_eq_true rfl)⟩) (fun r14 M13 H locs h hH => ?_)
      refine lv_if_eq (tgt := 89) hx hb dX7_itemUnder_79 (by decide) (fun c15 => ?_) (fun c15 => ?_)
      · replace h := h.1 c15
        exact tb_X7_itemUnder_8_89 C k16 k82 k95 Q hk16 hk82 hk95 x1 x2 x3 M13 h  H locs ls hH (lv_sub hl [2, 3, 4, 5] rfl)
      · replace h := h.2 c15
        exact hk82 x3 M13 h  H locs ls hH (lv_sub hl [2, 5] rfl)
def wl_X7_itemUnder_8_16 (k82 : Int32 → fx_Mem → Prop) (k95 : fx_Mem → Prop) (Q : Int32 → fx_Mem → Prop) (n : Nat) (x1 : Int32) (x2 : Int32) (x3 : Int32) (M : fx_Mem) : Prop :=
  fx_lp (α := Int32 × Int32 × Int32 × fx_Mem) (fun k a => wb_X7_itemUnder_8_16 (fun x1 x2 x3 M => k (x1, x2, x3, M)) k82 k95 Q a.1 a.2.1 a.2.2.1 a.2.2.2) n (x1, x2, x3, M)
set_option maxHeartbeats 4000000 in
theorem tl_X7_itemUnder_8_16 {g : fx_Geo} {p : Program} {l : Launch} {e : Env} {s : State} {m : MethodId} {args : Array Value} {below : List Frame} {meth : Method} {c : Code} (C : fx_Cx g p s m args meth c RX7 cX7_itemUnder 6 (some .int)) (k82 : Int32 → fx_Mem → Prop) (k95 : fx_Mem → Prop) (Q : Int32 → fx_Mem → Prop) (hk82 : ∀ (x3 : Int32) (M : fx_Mem), k82 x3 M → ∀ (H : Heap) (locs : List Loc) (ls : Array Slot), fx_H g s M H locs → lv_has ls 6 [(0, .ref (fx_a g 8)), (3, .int x3)] → W p l e rm_X7_itemUnder_8 s m args below meth c H locs 0 0 (MQ below (va_Qi Q (fx_Pw g) (fx_A g)) args s 0 0 (fx_A g)) (F0 m 82 ls [])) (hk95 : ∀ (M : fx_Mem), k95  M → ∀ (H : Heap) (locs : List Loc) (ls : Array Slot), fx_H g s M H locs → lv_has ls 6 [(0, .ref (fx_a g 8))] → W p l e rm_X7_itemUnder_8 s m args below meth c H locs 0 0 (MQ below (va_Qi Q (fx_Pw g) (fx_A g)) args s 0 0 (fx_A g)) (F0 m 95 ls [])) : ∀ (n : Nat) (x1 : Int32) (x2 : Int32) (x3 : Int32) (M : fx_Mem), wl_X7_itemUnder_8_16 k82 k95 Q n x1 x2 x3 M → ∀ (H : Heap) (locs : List Loc) (ls : Array Slot), fx_H g s M H locs → lv_has ls 6 [(0, .ref (fx_a g 8)), (1, .int x1), (2, .int x2), (3, .int x3)] → W p l e rm_X7_itemUnder_8 s m args below meth c H locs 0 0 (MQ below (va_Qi Q (fx_Pw g) (fx_A g)) args s 0 0 (fx_A g)) (F0 m 16 ls []) := by
  intro n
  induction n with
  | zero => intro x1 x2 x3 M h; exact False.elim h
  | succ n ih => intro x1 x2 x3 M h  H locs ls hH hl; exact tb_X7_itemUnder_8_16 C (wl_X7_itemUnder_8_16 k82 k95 Q n) k82 k95 Q ih hk82 hk95 x1 x2 x3 M h  H locs ls hH hl
def wb_X7_itemUnder_8_95 (Q : Int32 → fx_Mem → Prop) (M : fx_Mem) : Prop :=
  wp_X7_fails_8 1 M (fun r2 M1 => Q r2 M1)
set_option maxHeartbeats 4000000 in
set_option maxRecDepth 100000 in
theorem tb_X7_itemUnder_8_95 {g : fx_Geo} {p : Program} {l : Launch} {e : Env} {s : State} {m : MethodId} {args : Array Value} {below : List Frame} {meth : Method} {c : Code} (C : fx_Cx g p s m args meth c RX7 cX7_itemUnder 6 (some .int)) (Q : Int32 → fx_Mem → Prop) (M : fx_Mem) (h : wb_X7_itemUnder_8_95 Q M) (H : Heap) (locs : List Loc) (ls : Array Slot) (hH : fx_H g s M H locs) (hl : lv_has ls 6 [(0, .ref (fx_a g 8))]) : W p l e rm_X7_itemUnder_8 s m args below meth c H locs 0 0 (MQ below (va_Qi Q (fx_Pw g) (fx_A g)) args s 0 0 (fx_A g)) (F0 m 95 ls []) := by
  obtain ⟨hx, hb, hr, hml, hown, hts, hlocks, hsz, hK, hG, hSt⟩ := id C
  unfold wb_X7_itemUnder_8_95 at h
  refine lv_aload_n hx hb dX7_itemUnder_95 rfl (lv_at hl 0 rfl) ?_
  refine lv_iconst (v := 1) hx hb dX7_itemUnder_96 (by decide) ?_
  refine fx_ci hH (fx_runV (As := [.int 1]) (rest := []) C hH (c_X7_fails_8 l C.2.2.2.2.2.2.2.2.2.1 1 M _ h) (fx_cwV 1 hts u_945 u_947 us_24 u_8 u_948 rfl rfl (by decide +kernel) ⟨(Nat.le_of_ble_eq_true rfl), (Nat.le_of_ble_eq_true rfl)⟩) (fx_w8 g M) rfl rfl hl.1 rfl (Nat.le_of_ble_eq_true rfl) dX7_itemUnder_97 ⟨(Nat.le_of_ble_eq_true rfl), (Nat.le_of_ble_eq_true rfl)⟩) (fun r2 M1 H locs h hH => ?_)
  exact fx_iret C hH h dX7_itemUnder_100
def wp_X7_itemUnder_8 (a1 : Int32) (a2 : Int32) (M : fx_Mem) (Q : Int32 → fx_Mem → Prop) : Prop :=
  ∀ M1 : fx_Mem, M1 = fx_si M 512 0 → wp_X7_findLayout_8  M1 (fun M2 => ∀ v3 : Int32, v3 = (M2.1 515) - 1 → ∃ n16 : Nat, wl_X7_itemUnder_8_16 (wb_X7_itemUnder_8_82 Q) (wb_X7_itemUnder_8_95 Q) Q n16 a1 a2 v3 M2)
set_option maxHeartbeats 4000000 in
set_option maxRecDepth 100000 in
theorem c_X7_itemUnder_8 (l : Launch) {g : fx_Geo} (hG : fx_Gd g) (a1 : Int32) (a2 : Int32) (M : fx_Mem) (Q : Int32 → fx_Mem → Prop) (h : wp_X7_itemUnder_8 a1 a2 M Q) : Met l yX7_itemUnder (.code yX7_itemUnder cX7_itemUnder 6 (some .int) :: fx_U) rm_X7_itemUnder_8 (va_Pc [.ref (fx_a g 8), .int a1, .int a2] (fx_At g M)) (va_Qi Q (fx_Pw g) (fx_A g)) 0 0 (fx_A g) := by
  refine Met.ofW (cc := cX7_itemUnder) (maxL := 6) (ret := (some .int)) (by decide +kernel) rfl ?_
  intro p e s m args below meth c s₁ B hml hv
  obtain ⟨rfl, hv⟩ := hv
  have hts := atoms_spec (ws := .code yX7_itemUnder cX7_itemUnder 6 (some .int) :: fx_U) B.pre
  obtain ⟨C, hH⟩ := fx_body (own := RX7) B hml rfl (fun w hw => hts w (List.mem_cons_of_mem _ hw)) hG hv
  replace hts := fun w hw => hts w (List.mem_cons_of_mem _ hw)
  obtain ⟨hx, hb, hr, -, hown, -, hlocks, hsz, hK, -, hSt⟩ := id C
  have hl := lv_entry ([.ref (fx_a g 8), .int a1, .int a2]) (n := 6) (Nat.le_of_ble_eq_true rfl)
  rw [lg_entry_eq]
  generalize (lg_sl ([.ref (fx_a g 8), .int a1, .int a2]) ++ List.replicate (6 - (lg_sl ([.ref (fx_a g 8), .int a1, .int a2])).length) Slot.unset).toArray = ls at hl ⊢
  have hl : lv_has ls 6 [(0, .ref (fx_a g 8)), (1, .int a1), (2, .int a2)] := hl
  obtain ⟨H, eH⟩ : ∃ H : Heap, H = s.heap := ⟨_, rfl⟩
  obtain ⟨locs, elocs⟩ : ∃ q : List Loc, q = [] := ⟨_, rfl⟩
  rw [← eH, ← elocs] at hH
  show W p l e rm_X7_itemUnder_8 s m _ below meth c s.heap [] 0 0 _ _
  rw [← eH, ← elocs]
  unfold wp_X7_itemUnder_8 at h
  refine lv_aload_n hx hb dX7_itemUnder_0 rfl (lv_at hl 0 rfl) ?_
  refine lv_iconst (v := 0) hx hb dX7_itemUnder_1 (by decide) ?_
  refine fx_put C hH (fx_w8 g M) rfl in_X7 tyX7 tyX7_ok nmX7 0 (by decide) u_823 rfl rfl (ty := .int) (by decide +kernel) rfl rfl (Nat.le_of_ble_eq_true rfl) (fx_p8_0 g M 0) dX7_itemUnder_2 (fun H locs hH => ?_)
  generalize eM1 : fx_si M 512 0 = M1 at hH
  replace h := h M1 eM1.symm
  refine lv_aload_n hx hb dX7_itemUnder_5 rfl (lv_at hl 0 rfl) ?_
  refine fx_cv hH (fx_runV (As := []) (rest := []) C hH (c_X7_findLayout_8 l C.2.2.2.2.2.2.2.2.2.1  M1 _ h) (fx_cwV 0 hts u_1034 u_1036 us_31 u_8 u_1037 rfl rfl (by decide +kernel) ⟨(Nat.le_of_ble_eq_true rfl), (Nat.le_of_ble_eq_true rfl)⟩) (fx_w8 g M1) rfl rfl hl.1 rfl (Nat.le_of_ble_eq_true rfl) dX7_itemUnder_6 ⟨(Nat.le_of_ble_eq_true rfl), (Nat.le_of_ble_eq_true rfl)⟩) (fun M2 H locs h hH => ?_)
  refine lv_aload_n hx hb dX7_itemUnder_9 rfl (lv_at hl 0 rfl) ?_
  refine fx_get C hH (fx_w8 g M2) rfl in_X7 3 (by decide) u_826 rfl rfl dX7_itemUnder_10 ?_
  refine lv_iconst (v := 1) hx hb dX7_itemUnder_13 (by decide) ?_
  refine lv_isub hx hb dX7_itemUnder_14 ?_
  refine lv_topi (fun v3 ev3 => ?_)
  replace h := h v3 ev3
  refine lv_istore_n (lv' := [(3, .int v3), (0, .ref (fx_a g 8)), (1, .int a1), (2, .int a2)]) hx hb dX7_itemUnder_15 rfl hl (by decide) rfl (fun ls hl => ?_)
  obtain ⟨n16, h⟩ := h
  exact tl_X7_itemUnder_8_16 C (wb_X7_itemUnder_8_82 Q) (wb_X7_itemUnder_8_95 Q) Q (tb_X7_itemUnder_8_82 C Q ) (tb_X7_itemUnder_8_95 C Q ) n16 a1 a2 v3 M2 h  H locs ls hH (lv_sub hl [1, 2, 3, 0] rfl)
/-! FlexLayoutModel.meet(III)Z (8,) -/
def rm_X7_meet_8 : Room := { frames := 1, cells := 0, slots := 0, locals := 23 }
def wb_X7_meet_8_30 (Q : Int32 → fx_Mem → Prop) (x1 : Int32) (x2 : Int32) (x3 : Int32) (s0 : Int32) (M : fx_Mem) : Prop :=
  wp_X7_coordinate_8 x1 x3 M (fun r2 M1 => wp_X7_coordinate_8 x1 (2 + x3) M1 (fun r4 M3 => ∀ v5 : Int32, v5 = r2 + r4 → wp_X7_coordinate_8 x2 x3 M3 (fun r7 M6 => wp_X7_coordinate_8 x2 (2 + x3) M6 (fun r9 M8 => ∀ v10 : Int32, v10 = r7 + r9 → ((v5 ≤ s0 → Q 0 M8) ∧ (¬ v5 ≤ s0 → ((v10 ≤ s0 → Q 0 M8) ∧ (¬ v10 ≤ s0 → Q 1 M8))))))))
set_option maxHeartbeats 4000000 in
set_option maxRecDepth 100000 in
theorem tb_X7_meet_8_30 {g : fx_Geo} {p : Program} {l : Launch} {e : Env} {s : State} {m : MethodId} {args : Array Value} {below : List Frame} {meth : Method} {c : Code} (C : fx_Cx g p s m args meth c RX7 cX7_meet 7 (some .boolean)) (Q : Int32 → fx_Mem → Prop) (x1 : Int32) (x2 : Int32) (x3 : Int32) (s0 : Int32) (M : fx_Mem) (h : wb_X7_meet_8_30 Q x1 x2 x3 s0 M) (H : Heap) (locs : List Loc) (ls : Array Slot) (hH : fx_H g s M H locs) (hl : lv_has ls 7 [(0, .ref (fx_a g 8)), (1, .int x1), (2, .int x2), (3, .int x3)]) : W p l e rm_X7_meet_8 s m args below meth c H locs 0 0 (MQ below (va_Qi Q (fx_Pw g) (fx_A g)) args s 0 0 (fx_A g)) (F0 m 30 ls [.int s0]) := by
  obtain ⟨hx, hb, hr, hml, hown, hts, hlocks, hsz, hK, hG, hSt⟩ := id C
  unfold wb_X7_meet_8_30 at h
  refine lv_istore (lv' := [(4, .int s0), (0, .ref (fx_a g 8)), (1, .int x1), (2, .int x2), (3, .int x3)]) hx hb dX7_meet_30 hl (by decide) rfl (fun ls hl => ?_)
  refine lv_aload_n hx hb dX7_meet_32 rfl (lv_at hl 1 rfl) ?_
  refine lv_iload_n hx hb dX7_meet_33 rfl (lv_at hl 2 rfl) ?_
  refine lv_iload_n hx hb dX7_meet_34 rfl (lv_at hl 4 rfl) ?_
  refine fx_ci hH (fx_runV (As := [.int x1, .int x3]) (rest := []) C hH (c_X7_coordinate_8 l C.2.2.2.2.2.2.2.2.2.1 x1 x3 M _ h) (fx_cwV 2 hts u_1125 u_1127 us_48 u_8 u_1128 rfl rfl (by decide +kernel) ⟨(Nat.le_of_ble_eq_true rfl), (Nat.le_of_ble_eq_true rfl)⟩) (fx_w8 g M) rfl rfl hl.1 rfl (Nat.le_of_ble_eq_true rfl) dX7_meet_35 ⟨(Nat.le_of_ble_eq_true rfl), (Nat.le_of_ble_eq_true rfl)⟩) (fun r2 M1 H locs h hH => ?_)
  refine lv_aload_n hx hb dX7_meet_38 rfl (lv_at hl 1 rfl) ?_
  refine lv_iload_n hx hb dX7_meet_39 rfl (lv_at hl 2 rfl) ?_
  refine lv_iconst (v := 2) hx hb dX7_meet_40 (by decide) ?_
  refine lv_iload_n hx hb dX7_meet_41 rfl (lv_at hl 4 rfl) ?_
  refine lv_iadd hx hb dX7_meet_42 ?_
  refine fx_ci hH (fx_runV (As := [.int x1, .int (2 + x3)]) (rest := [.int r2]) C hH (c_X7_coordinate_8 l C.2.2.2.2.2.2.2.2.2.1 x1 (2 + x3) M1 _ h) (fx_cwV 2 hts u_1125 u_1127 us_48 u_8 u_1128 rfl rfl (by decide +kernel) ⟨(Nat.le_of_ble_eq_true rfl), (Nat.le_of_ble_eq_true rfl)⟩) (fx_w8 g M1) rfl rfl hl.1 rfl (Nat.le_of_ble_eq_true rfl) dX7_meet_43 ⟨(Nat.le_of_ble_eq_true rfl), (Nat.le_of_ble_eq_true rfl)⟩) (fun r4 M3 H locs h hH => ?_)
  refine lv_iadd hx hb dX7_meet_46 ?_
  refine lv_topi (fun v5 ev5 => ?_)
  replace h := h v5 ev5
  refine lv_istore (lv' := [(5, .int v5), (4, .int s0), (0, .ref (fx_a g 8)), (1, .int x1), (2, .int x2), (3, .int x3)]) hx hb dX7_meet_47 hl (by decide) rfl (fun ls hl => ?_)
  refine lv_aload_n hx hb dX7_meet_49 rfl (lv_at hl 2 rfl) ?_
  refine lv_iload_n hx hb dX7_meet_50 rfl (lv_at hl 4 rfl) ?_
  refine lv_iload_n hx hb dX7_meet_51 rfl (lv_at hl 5 rfl) ?_
  refine fx_ci hH (fx_runV (As := [.int x2, .int x3]) (rest := []) C hH (c_X7_coordinate_8 l C.2.2.2.2.2.2.2.2.2.1 x2 x3 M3 _ h) (fx_cwV 2 hts u_1125 u_1127 us_48 u_8 u_1128 rfl rfl (by decide +kernel) ⟨(Nat.le_of_ble_eq_true rfl), (Nat.le_of_ble_eq_true rfl)⟩) (fx_w8 g M3) rfl rfl hl.1 rfl (Nat.le_of_ble_eq_true rfl) dX7_meet_52 ⟨(Nat.le_of_ble_eq_true rfl), (Nat.le_of_ble_eq_true rfl)⟩) (fun r7 M6 H locs h hH => ?_)
  refine lv_aload_n hx hb dX7_meet_55 rfl (lv_at hl 2 rfl) ?_
  refine lv_iload_n hx hb dX7_meet_56 rfl (lv_at hl 4 rfl) ?_
  refine lv_iconst (v := 2) hx hb dX7_meet_57 (by decide) ?_
  refine lv_iload_n hx hb dX7_meet_58 rfl (lv_at hl 5 rfl) ?_
  refine lv_iadd hx hb dX7_meet_59 ?_
  refine fx_ci hH (fx_runV (As := [.int x2, .int (2 + x3)]) (rest := [.int r7]) C hH (c_X7_coordinate_8 l C.2.2.2.2.2.2.2.2.2.1 x2 (2 + x3) M6 _ h) (fx_cwV 2 hts u_1125 u_1127 us_48 u_8 u_1128 rfl rfl (by decide +kernel) ⟨(Nat.le_of_ble_eq_true rfl), (Nat.le_of_ble_eq_true rfl)⟩) (fx_w8 g M6) rfl rfl hl.1 rfl (Nat.le_of_ble_eq_true rfl) dX7_meet_60 ⟨(Nat.le_of_ble_eq_true rfl), (Nat.le_of_ble_eq_true rfl)⟩) (fun r9 M8 H locs h hH => ?_)
  refine lv_iadd hx hb dX7_meet_63 ?_
  refine lv_topi (fun v10 ev10 => ?_)
  replace h := h v10 ev10
  refine lv_istore (lv' := [(6, .int v10), (5, .int v5), (4, .int s0), (0, .ref (fx_a g 8)), (1, .int x1), (2, .int x2), (3, .int x3)]) hx hb dX7_meet_64 hl (by decide) rfl (fun ls hl => ?_)
  refine lv_iload hx hb dX7_meet_66 (lv_at hl 2 rfl) ?_
  refine lv_iload hx hb dX7_meet_68 (lv_at hl 1 rfl) ?_
  refine lv_icmp_ge (tgt := 84) hx hb dX7_meet_70 (by decide) (fun c11 => ?_) (fun c11 => ?_)
  · replace h := h.1 c11
    refine lv_iconst (v := 0) hx hb dX7_meet_84 (by decide) ?_
    exact fx_zret C hH (by decide) h dX7_meet_85
  · replace h := h.2 c11
    refine lv_iload hx hb dX7_meet_73 (lv_at hl 2 rfl) ?_
    refine lv_iload hx hb dX7_meet_75 (lv_at hl 0 rfl) ?_
    refine lv_icmp_ge (tgt := 84) hx hb dX7_meet_77 (by decide) (fun c12 => ?_) (fun c12 => ?_)
    · replace h := h.1 c12
      refine lv_iconst (v := 0) hx hb dX7_meet_84 (by decide) ?_
      exact fx_zret C hH (by decide) h dX7_meet_85
    · replace h := h.2 c12
      refine lv_iconst (v := 1) hx hb dX7_meet_80 (by decide) ?_
      refine lv_goto (tgt := 85) hx hb dX7_meet_81 (by decide) ?_
      exact fx_zret C hH (by decide) h dX7_meet_85
def wp_X7_meet_8 (a1 : Int32) (a2 : Int32) (a3 : Int32) (M : fx_Mem) (Q : Int32 → fx_Mem → Prop) : Prop :=
  wp_X7_coordinate_8 a1 a3 M (fun r2 M1 => wp_X7_coordinate_8 a2 a3 M1 (fun r4 M3 => ((r2 ≤ r4 → wp_X7_coordinate_8 a2 a3 M3 (fun r7 M6 => wb_X7_meet_8_30 Q a1 a2 a3 r7 M6)) ∧ (¬ r2 ≤ r4 → wp_X7_coordinate_8 a1 a3 M3 (fun r9 M8 => wb_X7_meet_8_30 Q a1 a2 a3 r9 M8)))))
set_option maxHeartbeats 4000000 in
set_option maxRecDepth 100000 in
theorem c_X7_meet_8 (l : Launch) {g : fx_Geo} (hG : fx_Gd g) (a1 : Int32) (a2 : Int32) (a3 : Int32) (M : fx_Mem) (Q : Int32 → fx_Mem → Prop) (h : wp_X7_meet_8 a1 a2 a3 M Q) : Met l yX7_meet (.code yX7_meet cX7_meet 7 (some .boolean) :: fx_U) rm_X7_meet_8 (va_Pc [.ref (fx_a g 8), .int a1, .int a2, .int a3] (fx_At g M)) (va_Qi Q (fx_Pw g) (fx_A g)) 0 0 (fx_A g) := by
  refine Met.ofW (cc := cX7_meet) (maxL := 7) (ret := (some .boolean)) (by decide +kernel) rfl ?_
  intro p e s m args below meth c s₁ B hml hv
  obtain ⟨rfl, hv⟩ := hv
  have hts := atoms_spec (ws := .code yX7_meet cX7_meet 7 (some .boolean) :: fx_U) B.pre
  obtain ⟨C, hH⟩ := fx_body (own := RX7) B hml rfl (fun w hw => hts w (List.mem_cons_of_mem _ hw)) hG hv
  replace hts := fun w hw => hts w (List.mem_cons_of_mem _ hw)
  obtain ⟨hx, hb, hr, -, hown, -, hlocks, hsz, hK, -, hSt⟩ := id C
  have hl := lv_entry ([.ref (fx_a g 8), .int a1, .int a2, .int a3]) (n := 7) (Nat.le_of_ble_eq_true rfl)
  rw [lg_entry_eq]
  generalize (lg_sl ([.ref (fx_a g 8), .int a1, .int a2, .int a3]) ++ List.replicate (7 - (lg_sl ([.ref (fx_a g 8), .int a1, .int a2, .int a3])).length) Slot.unset).toArray = ls at hl ⊢
  have hl : lv_has ls 7 [(0, .ref (fx_a g 8)), (1, .int a1), (2, .int a2), (3, .int a3)] := hl
  obtain ⟨H, eH⟩ : ∃ H : Heap, H = s.heap := ⟨_, rfl⟩
  obtain ⟨locs, elocs⟩ : ∃ q : List Loc, q = [] := ⟨_, rfl⟩
  rw [← eH, ← elocs] at hH
  show W p l e rm_X7_meet_8 s m _ below meth c s.heap [] 0 0 _ _
  rw [← eH, ← elocs]
  unfold wp_X7_meet_8 at h
  refine lv_aload_n hx hb dX7_meet_0 rfl (lv_at hl 0 rfl) ?_
  refine lv_iload_n hx hb dX7_meet_1 rfl (lv_at hl 1 rfl) ?_
  refine lv_iload_n hx hb dX7_meet_2 rfl (lv_at hl 3 rfl) ?_
  refine fx_ci hH (fx_runV (As := [.int a1, .int a3]) (rest := []) C hH (c_X7_coordinate_8 l C.2.2.2.2.2.2.2.2.2.1 a1 a3 M _ h) (fx_cwV 2 hts u_1125 u_1127 us_48 u_8 u_1128 rfl rfl (by decide +kernel) ⟨(Nat.le_of_ble_eq_true rfl), (Nat.le_of_ble_eq_true rfl)⟩) (fx_w8 g M) rfl rfl hl.1 rfl (Nat.le_of_ble_eq_true rfl) dX7_meet_3 ⟨(Nat.le_of_ble_eq_true rfl), (Nat.le_of_ble_eq_true rfl)⟩) (fun r2 M1 H locs h hH => ?_)
  refine lv_aload_n hx hb dX7_meet_6 rfl (lv_at hl 0 rfl) ?_
  refine lv_iload_n hx hb dX7_meet_7 rfl (lv_at hl 2 rfl) ?_
  refine lv_iload_n hx hb dX7_meet_8 rfl (lv_at hl 3 rfl) ?_
  refine fx_ci hH (fx_runV (As := [.int a2, .int a3]) (rest := [.int r2]) C hH (c_X7_coordinate_8 l C.2.2.2.2.2.2.2.2.2.1 a2 a3 M1 _ h) (fx_cwV 2 hts u_1125 u_1127 us_48 u_8 u_1128 rfl rfl (by decide +kernel) ⟨(Nat.le_of_ble_eq_true rfl), (Nat.le_of_ble_eq_true rfl)⟩) (fx_w8 g M1) rfl rfl hl.1 rfl (Nat.le_of_ble_eq_true rfl) dX7_meet_9 ⟨(Nat.le_of_ble_eq_true rfl), (Nat.le_of_ble_eq_true rfl)⟩) (fun r4 M3 H locs h hH => ?_)
  refine lv_icmp_le (tgt := 24) hx hb dX7_meet_12 (by decide) (fun c5 => ?_) (fun c5 => ?_)
  · replace h := h.1 c5
    refine lv_aload_n hx hb dX7_meet_24 rfl (lv_at hl 0 rfl) ?_
    refine lv_iload_n hx hb dX7_meet_25 rfl (lv_at hl 2 rfl) ?_
    refine lv_iload_n hx hb dX7_meet_26 rfl (lv_at hl 3 rfl) ?_
    refine fx_ci hH (fx_runV (As := [.int a2, .int a3]) (rest := []) C hH (c_X7_coordinate_8 l C.2.2.2.2.2.2.2.2.2.1 a2 a3 M3 _ h) (fx_cwV 2 hts u_1125 u_1127 us_48 u_8 u_1128 rfl rfl (by decide +kernel) ⟨(Nat.le_of_ble_eq_true rfl), (Nat.le_of_ble_eq_true rfl)⟩) (fx_w8 g M3) rfl rfl hl.1 rfl (Nat.le_of_ble_eq_true rfl) dX7_meet_27 ⟨(Nat.le_of_ble_eq_true rfl), (Nat.le_of_ble_eq_true rfl)⟩) (fun r7 M6 H locs h hH => ?_)
    exact tb_X7_meet_8_30 C Q  a1 a2 a3 r7 M6 h  H locs ls hH (lv_sub hl [0, 1, 2, 3] rfl)
  · replace h := h.2 c5
    refine lv_aload_n hx hb dX7_meet_15 rfl (lv_at hl 0 rfl) ?_
    refine lv_iload_n hx hb dX7_meet_16 rfl (lv_at hl 1 rfl) ?_
    refine lv_iload_n hx hb dX7_meet_17 rfl (lv_at hl 3 rfl) ?_
    refine fx_ci hH (fx_runV (As := [.int a1, .int a3]) (rest := []) C hH (c_X7_coordinate_8 l C.2.2.2.2.2.2.2.2.2.1 a1 a3 M3 _ h) (fx_cwV 2 hts u_1125 u_1127 us_48 u_8 u_1128 rfl rfl (by decide +kernel) ⟨(Nat.le_of_ble_eq_true rfl), (Nat.le_of_ble_eq_true rfl)⟩) (fx_w8 g M3) rfl rfl hl.1 rfl (Nat.le_of_ble_eq_true rfl) dX7_meet_18 ⟨(Nat.le_of_ble_eq_true rfl), (Nat.le_of_ble_eq_true rfl)⟩) (fun r9 M8 H locs h hH => ?_)
    refine lv_goto (tgt := 30) hx hb dX7_meet_21 (by decide) ?_
    exact tb_X7_meet_8_30 C Q  a1 a2 a3 r9 M8 h  H locs ls hH (lv_sub hl [0, 1, 2, 3] rfl)
