/-! the law: setMainSize -/
def rm_L_setMainSize_0_9 : Room := { frames := 7, cells := 1, slots := 6, locals := 112 }
def wp_L_setMainSize_0_9 (a1 : Int32) (M : fx_Mem) (Q : Int32 → fx_Mem → Prop) : Prop :=
  wp_X6_setMainSize_0 a1 M (fun r2 M1 => ∀ M3 : fx_Mem, M3 = fx_sl M1 9 0 r2.toInt64 → Q 0 M3) (fun E M9 => (E = "java/lang/IllegalArgumentException" ∧ Q 1 M9))
set_option maxHeartbeats 4000000 in
set_option maxRecDepth 100000 in
theorem c_L_setMainSize_0_9 (l : Launch) {g : fx_Geo} (hG : fx_Gd g) (hfl : l.stackTraces = false) (a1 : Int32) (M : fx_Mem) (Q : Int32 → fx_Mem → Prop) (h : wp_L_setMainSize_0_9 a1 M Q) : Met l yL_setMainSize (.codeWith yL_setMainSize cL_setMainSize 4 (some .int) [(0, 9, 12, 13)] :: fx_U) rm_L_setMainSize_0_9 (va_Pc [.ref (fx_a g 0), .int a1, .ref (fx_a g 9)] (fx_At g M)) (va_Qi Q (fx_Pw g) (fx_A g)) 1 6 (fx_A g) := by
  refine va_MetW (cc := cL_setMainSize) (maxL := 4) (ret := (some .int)) (hh := [(0, 9, 12, 13)]) (by decide +kernel) rfl ?_
  intro p e s m args below meth c s₁ B hml hv
  obtain ⟨rfl, hv⟩ := hv
  have hts := atoms_spec (ws := .codeWith yL_setMainSize cL_setMainSize 4 (some .int) [(0, 9, 12, 13)] :: fx_U) B.pre
  have htab := vx_table (x := yL_setMainSize) B (hts _ List.mem_cons_self)
  obtain ⟨C, hH⟩ := fx_body (own := RL) B hml rfl (fun w hw => hts w (List.mem_cons_of_mem _ hw)) hG hv
  replace hts := fun w hw => hts w (List.mem_cons_of_mem _ hw)
  obtain ⟨hx, hb, hr, -, hown, -, hlocks, hsz, hK, -, hSt⟩ := id C
  have hl := lv_entry ([.ref (fx_a g 0), .int a1, .ref (fx_a g 9)]) (n := 4) (Nat.le_of_ble_eq_true rfl)
  rw [lg_entry_eq]
  generalize (lg_sl ([.ref (fx_a g 0), .int a1, .ref (fx_a g 9)]) ++ List.replicate (4 - (lg_sl ([.ref (fx_a g 0), .int a1, .ref (fx_a g 9)])).length) Slot.unset).toArray = ls at hl ⊢
  have hl : lv_has ls 4 [(0, .ref (fx_a g 0)), (1, .int a1), (2, .ref (fx_a g 9))] := hl
  obtain ⟨H, eH⟩ : ∃ H : Heap, H = s.heap := ⟨_, rfl⟩
  obtain ⟨locs, elocs⟩ : ∃ q : List Loc, q = [] := ⟨_, rfl⟩
  rw [← eH, ← elocs] at hH
  show W p l e rm_L_setMainSize_0_9 s m _ below meth c s.heap [] 0 0 _ _
  rw [← eH, ← elocs]
  unfold wp_L_setMainSize_0_9 at h
  refine lv_aload_n hx hb dL_setMainSize_0 rfl (lv_at hl 2 rfl) ?_
  refine lv_iconst (v := 0) hx hb dL_setMainSize_1 (by decide) ?_
  refine lv_aload_n hx hb dL_setMainSize_2 rfl (lv_at hl 0 rfl) ?_
  refine lv_iload_n hx hb dL_setMainSize_3 rfl (lv_at hl 1 rfl) ?_
  refine fx_xcat (mc := 1) (ms := 6) hH (fx_xrunV (As := [.int a1]) (rest := [.int 0, .ref (fx_a g 9)]) C hH (c_X6_setMainSize_0 l C.2.2.2.2.2.2.2.2.2.1 hfl a1 M _ _ h) (fx_cwV 1 hts u_401 u_402 u_403 u_1 u_404 rfl rfl (by decide +kernel) ⟨(Nat.le_of_ble_eq_true rfl), (Nat.le_of_ble_eq_true rfl)⟩) (fx_w0 g M) rfl rfl hl.1 rfl (Nat.le_of_ble_eq_true rfl) dL_setMainSize_4 ⟨(Nat.le_of_ble_eq_true rfl), (Nat.le_of_ble_eq_true rfl)⟩) (fun E M9 q9 ce H locs h hH hce hcv hcl => ?_) (fun r2 M1 H locs h hH => ?_)
  · rcases h with ⟨rfl, h⟩
    · refine vx_catch hown [] (⟨0, 9, 12, 13⟩ : ExceptionTableEntry) [] (htab.trans rfl) (fun z hz => absurd hz List.not_mem_nil) (by decide) (by decide) (hts _ u_400) (va_Nw.use rfl (hSt.2.2.2.2.2.2.2.1 _ (by decide +kernel))) hce hcv hcl ?_
      refine lv_astore_n (lv' := ((3, .ref q9) :: [(0, .ref (fx_a g 0)), (1, .int a1), (2, .ref (fx_a g 9))])) hx hb dL_setMainSize_12 rfl hl (by decide) rfl (fun ls hl => ?_)
      refine lv_iconst (v := 1) hx hb dL_setMainSize_13 (by decide) ?_
      exact fx_iret C hH h dL_setMainSize_14
  · refine lv_i2l hx hb dL_setMainSize_7 rfl ?_
    refine fx_last (j := 0) (M' := fx_sl M1 9 0 r2.toInt64) C hH 9 (by decide) (fx_w9 g M1) (fx_p9 g M1 _ _) (by unfold vp_in; decide) dL_setMainSize_8 (fun H locs hH => ?_)
    generalize eM3 : fx_sl M1 9 0 r2.toInt64 = M3 at hH
    replace h := h M3 eM3.symm
    refine lv_goto (tgt := 15) hx hb dL_setMainSize_9 (by decide) ?_
    refine lv_iconst (v := 0) hx hb dL_setMainSize_15 (by decide) ?_
    exact fx_iret C hH h dL_setMainSize_16
/-! the law: setCrossSize -/
def rm_L_setCrossSize_0_9 : Room := { frames := 7, cells := 1, slots := 6, locals := 112 }
def wp_L_setCrossSize_0_9 (a1 : Int32) (M : fx_Mem) (Q : Int32 → fx_Mem → Prop) : Prop :=
  wp_X6_setCrossSize_0 a1 M (fun r2 M1 => ∀ M3 : fx_Mem, M3 = fx_sl M1 9 0 r2.toInt64 → Q 0 M3) (fun E M9 => (E = "java/lang/IllegalArgumentException" ∧ Q 1 M9))
set_option maxHeartbeats 4000000 in
set_option maxRecDepth 100000 in
theorem c_L_setCrossSize_0_9 (l : Launch) {g : fx_Geo} (hG : fx_Gd g) (hfl : l.stackTraces = false) (a1 : Int32) (M : fx_Mem) (Q : Int32 → fx_Mem → Prop) (h : wp_L_setCrossSize_0_9 a1 M Q) : Met l yL_setCrossSize (.codeWith yL_setCrossSize cL_setCrossSize 4 (some .int) [(0, 9, 12, 13)] :: fx_U) rm_L_setCrossSize_0_9 (va_Pc [.ref (fx_a g 0), .int a1, .ref (fx_a g 9)] (fx_At g M)) (va_Qi Q (fx_Pw g) (fx_A g)) 1 6 (fx_A g) := by
  refine va_MetW (cc := cL_setCrossSize) (maxL := 4) (ret := (some .int)) (hh := [(0, 9, 12, 13)]) (by decide +kernel) rfl ?_
  intro p e s m args below meth c s₁ B hml hv
  obtain ⟨rfl, hv⟩ := hv
  have hts := atoms_spec (ws := .codeWith yL_setCrossSize cL_setCrossSize 4 (some .int) [(0, 9, 12, 13)] :: fx_U) B.pre
  have htab := vx_table (x := yL_setCrossSize) B (hts _ List.mem_cons_self)
  obtain ⟨C, hH⟩ := fx_body (own := RL) B hml rfl (fun w hw => hts w (List.mem_cons_of_mem _ hw)) hG hv
  replace hts := fun w hw => hts w (List.mem_cons_of_mem _ hw)
  obtain ⟨hx, hb, hr, -, hown, -, hlocks, hsz, hK, -, hSt⟩ := id C
  have hl := lv_entry ([.ref (fx_a g 0), .int a1, .ref (fx_a g 9)]) (n := 4) (Nat.le_of_ble_eq_true rfl)
  rw [lg_entry_eq]
  generalize (lg_sl ([.ref (fx_a g 0), .int a1, .ref (fx_a g 9)]) ++ List.replicate (4 - (lg_sl ([.ref (fx_a g 0), .int a1, .ref (fx_a g 9)])).length) Slot.unset).toArray = ls at hl ⊢
  have hl : lv_has ls 4 [(0, .ref (fx_a g 0)), (1, .int a1), (2, .ref (fx_a g 9))] := hl
  obtain ⟨H, eH⟩ : ∃ H : Heap, H = s.heap := ⟨_, rfl⟩
  obtain ⟨locs, elocs⟩ : ∃ q : List Loc, q = [] := ⟨_, rfl⟩
  rw [← eH, ← elocs] at hH
  show W p l e rm_L_setCrossSize_0_9 s m _ below meth c s.heap [] 0 0 _ _
  rw [← eH, ← elocs]
  unfold wp_L_setCrossSize_0_9 at h
  refine lv_aload_n hx hb dL_setCrossSize_0 rfl (lv_at hl 2 rfl) ?_
  refine lv_iconst (v := 0) hx hb dL_setCrossSize_1 (by decide) ?_
  refine lv_aload_n hx hb dL_setCrossSize_2 rfl (lv_at hl 0 rfl) ?_
  refine lv_iload_n hx hb dL_setCrossSize_3 rfl (lv_at hl 1 rfl) ?_
  refine fx_xcat (mc := 1) (ms := 6) hH (fx_xrunV (As := [.int a1]) (rest := [.int 0, .ref (fx_a g 9)]) C hH (c_X6_setCrossSize_0 l C.2.2.2.2.2.2.2.2.2.1 hfl a1 M _ _ h) (fx_cwV 1 hts u_482 u_483 u_484 u_1 u_485 rfl rfl (by decide +kernel) ⟨(Nat.le_of_ble_eq_true rfl), (Nat.le_of_ble_eq_true rfl)⟩) (fx_w0 g M) rfl rfl hl.1 rfl (Nat.le_of_ble_eq_true rfl) dL_setCrossSize_4 ⟨(Nat.le_of_ble_eq_true rfl), (Nat.le_of_ble_eq_true rfl)⟩) (fun E M9 q9 ce H locs h hH hce hcv hcl => ?_) (fun r2 M1 H locs h hH => ?_)
  · rcases h with ⟨rfl, h⟩
    · refine vx_catch hown [] (⟨0, 9, 12, 13⟩ : ExceptionTableEntry) [] (htab.trans rfl) (fun z hz => absurd hz List.not_mem_nil) (by decide) (by decide) (hts _ u_400) (va_Nw.use rfl (hSt.2.2.2.2.2.2.2.1 _ (by decide +kernel))) hce hcv hcl ?_
      refine lv_astore_n (lv' := ((3, .ref q9) :: [(0, .ref (fx_a g 0)), (1, .int a1), (2, .ref (fx_a g 9))])) hx hb dL_setCrossSize_12 rfl hl (by decide) rfl (fun ls hl => ?_)
      refine lv_iconst (v := 1) hx hb dL_setCrossSize_13 (by decide) ?_
      exact fx_iret C hH h dL_setCrossSize_14
  · refine lv_i2l hx hb dL_setCrossSize_7 rfl ?_
    refine fx_last (j := 0) (M' := fx_sl M1 9 0 r2.toInt64) C hH 9 (by decide) (fx_w9 g M1) (fx_p9 g M1 _ _) (by unfold vp_in; decide) dL_setCrossSize_8 (fun H locs hH => ?_)
    generalize eM3 : fx_sl M1 9 0 r2.toInt64 = M3 at hH
    replace h := h M3 eM3.symm
    refine lv_goto (tgt := 15) hx hb dL_setCrossSize_9 (by decide) ?_
    refine lv_iconst (v := 0) hx hb dL_setCrossSize_15 (by decide) ?_
    exact fx_iret C hH h dL_setCrossSize_16
/-! the law: setGaps -/
def rm_L_setGaps_0_9 : Room := { frames := 7, cells := 1, slots := 6, locals := 113 }
def wp_L_setGaps_0_9 (a1 : Int32) (a2 : Int32) (M : fx_Mem) (Q : Int32 → fx_Mem → Prop) : Prop :=
  wp_X6_setGaps_0 a1 a2 M (fun r2 M1 => ∀ M3 : fx_Mem, M3 = fx_sl M1 9 0 r2.toInt64 → Q 0 M3) (fun E M9 => (E = "java/lang/IllegalArgumentException" ∧ Q 1 M9))
set_option maxHeartbeats 4000000 in
set_option maxRecDepth 100000 in
theorem c_L_setGaps_0_9 (l : Launch) {g : fx_Geo} (hG : fx_Gd g) (hfl : l.stackTraces = false) (a1 : Int32) (a2 : Int32) (M : fx_Mem) (Q : Int32 → fx_Mem → Prop) (h : wp_L_setGaps_0_9 a1 a2 M Q) : Met l yL_setGaps (.codeWith yL_setGaps cL_setGaps 5 (some .int) [(0, 10, 13, 13)] :: fx_U) rm_L_setGaps_0_9 (va_Pc [.ref (fx_a g 0), .int a1, .int a2, .ref (fx_a g 9)] (fx_At g M)) (va_Qi Q (fx_Pw g) (fx_A g)) 1 6 (fx_A g) := by
  refine va_MetW (cc := cL_setGaps) (maxL := 5) (ret := (some .int)) (hh := [(0, 10, 13, 13)]) (by decide +kernel) rfl ?_
  intro p e s m args below meth c s₁ B hml hv
  obtain ⟨rfl, hv⟩ := hv
  have hts := atoms_spec (ws := .codeWith yL_setGaps cL_setGaps 5 (some .int) [(0, 10, 13, 13)] :: fx_U) B.pre
  have htab := vx_table (x := yL_setGaps) B (hts _ List.mem_cons_self)
  obtain ⟨C, hH⟩ := fx_body (own := RL) B hml rfl (fun w hw => hts w (List.mem_cons_of_mem _ hw)) hG hv
  replace hts := fun w hw => hts w (List.mem_cons_of_mem _ hw)
  obtain ⟨hx, hb, hr, -, hown, -, hlocks, hsz, hK, -, hSt⟩ := id C
  have hl := lv_entry ([.ref (fx_a g 0), .int a1, .int a2, .ref (fx_a g 9)]) (n := 5) (Nat.le_of_ble_eq_true rfl)
  rw [lg_entry_eq]
  generalize (lg_sl ([.ref (fx_a g 0), .int a1, .int a2, .ref (fx_a g 9)]) ++ List.replicate (5 - (lg_sl ([.ref (fx_a g 0), .int a1, .int a2, .ref (fx_a g 9)])).length) Slot.unset).toArray = ls at hl ⊢
  have hl : lv_has ls 5 [(0, .ref (fx_a g 0)), (1, .int a1), (2, .int a2), (3, .ref (fx_a g 9))] := hl
  obtain ⟨H, eH⟩ : ∃ H : Heap, H = s.heap := ⟨_, rfl⟩
  obtain ⟨locs, elocs⟩ : ∃ q : List Loc, q = [] := ⟨_, rfl⟩
  rw [← eH, ← elocs] at hH
  show W p l e rm_L_setGaps_0_9 s m _ below meth c s.heap [] 0 0 _ _
  rw [← eH, ← elocs]
  unfold wp_L_setGaps_0_9 at h
  refine lv_aload_n hx hb dL_setGaps_0 rfl (lv_at hl 3 rfl) ?_
  refine lv_iconst (v := 0) hx hb dL_setGaps_1 (by decide) ?_
  refine lv_aload_n hx hb dL_setGaps_2 rfl (lv_at hl 0 rfl) ?_
  refine lv_iload_n hx hb dL_setGaps_3 rfl (lv_at hl 1 rfl) ?_
  refine lv_iload_n hx hb dL_setGaps_4 rfl (lv_at hl 2 rfl) ?_
  refine fx_xcat (mc := 1) (ms := 6) hH (fx_xrunV (As := [.int a1, .int a2]) (rest := [.int 0, .ref (fx_a g 9)]) C hH (c_X6_setGaps_0 l C.2.2.2.2.2.2.2.2.2.1 hfl a1 a2 M _ _ h) (fx_cwV 2 hts u_490 u_491 u_492 u_1 u_493 rfl rfl (by decide +kernel) ⟨(Nat.le_of_ble_eq_true rfl), (Nat.le_of_ble_eq_true rfl)⟩) (fx_w0 g M) rfl rfl hl.1 rfl (Nat.le_of_ble_eq_true rfl) dL_setGaps_5 ⟨(Nat.le_of_ble_eq_true rfl), (Nat.le_of_ble_eq_true rfl)⟩) (fun E M9 q9 ce H locs h hH hce hcv hcl => ?_) (fun r2 M1 H locs h hH => ?_)
  · rcases h with ⟨rfl, h⟩
    · refine vx_catch hown [] (⟨0, 10, 13, 13⟩ : ExceptionTableEntry) [] (htab.trans rfl) (fun z hz => absurd hz List.not_mem_nil) (by decide) (by decide) (hts _ u_400) (va_Nw.use rfl (hSt.2.2.2.2.2.2.2.1 _ (by decide +kernel))) hce hcv hcl ?_
      refine lv_astore (lv' := ((4, .ref q9) :: [(0, .ref (fx_a g 0)), (1, .int a1), (2, .int a2), (3, .ref (fx_a g 9))])) hx hb dL_setGaps_13 hl (by decide) rfl (fun ls hl => ?_)
      refine lv_iconst (v := 1) hx hb dL_setGaps_15 (by decide) ?_
      exact fx_iret C hH h dL_setGaps_16
  · refine lv_i2l hx hb dL_setGaps_8 rfl ?_
    refine fx_last (j := 0) (M' := fx_sl M1 9 0 r2.toInt64) C hH 9 (by decide) (fx_w9 g M1) (fx_p9 g M1 _ _) (by unfold vp_in; decide) dL_setGaps_9 (fun H locs hH => ?_)
    generalize eM3 : fx_sl M1 9 0 r2.toInt64 = M3 at hH
    replace h := h M3 eM3.symm
    refine lv_goto (tgt := 17) hx hb dL_setGaps_10 (by decide) ?_
    refine lv_iconst (v := 0) hx hb dL_setGaps_17 (by decide) ?_
    exact fx_iret C hH h dL_setGaps_18
/-! the law: setSetting -/
def rm_L_setSetting_0_9 : Room := { frames := 7, cells := 1, slots := 6, locals := 113 }
def wp_L_setSetting_0_9 (a1 : Int32) (a2 : Int32) (M : fx_Mem) (Q : Int32 → fx_Mem → Prop) : Prop :=
  wp_X6_setSetting_0 a1 a2 M (fun r2 M1 => ∀ M3 : fx_Mem, M3 = fx_sl M1 9 0 r2.toInt64 → Q 0 M3) (fun E M9 => (E = "java/lang/IndexOutOfBoundsException" ∧ Q 1 M9) ∨ (E = "java/lang/IllegalArgumentException" ∧ Q 2 M9))
set_option maxHeartbeats 4000000 in
set_option maxRecDepth 100000 in
theorem c_L_setSetting_0_9 (l : Launch) {g : fx_Geo} (hG : fx_Gd g) (hfl : l.stackTraces = false) (a1 : Int32) (a2 : Int32) (M : fx_Mem) (Q : Int32 → fx_Mem → Prop) (h : wp_L_setSetting_0_9 a1 a2 M Q) : Met l yL_setSetting (.codeWith yL_setSetting cL_setSetting 5 (some .int) [(0, 10, 13, 25), (0, 10, 17, 13)] :: fx_U) rm_L_setSetting_0_9 (va_Pc [.ref (fx_a g 0), .int a1, .int a2, .ref (fx_a g 9)] (fx_At g M)) (va_Qi Q (fx_Pw g) (fx_A g)) 1 6 (fx_A g) := by
  refine va_MetW (cc := cL_setSetting) (maxL := 5) (ret := (some .int)) (hh := [(0, 10, 13, 25), (0, 10, 17, 13)]) (by decide +kernel) rfl ?_
  intro p e s m args below meth c s₁ B hml hv
  obtain ⟨rfl, hv⟩ := hv
  have hts := atoms_spec (ws := .codeWith yL_setSetting cL_setSetting 5 (some .int) [(0, 10, 13, 25), (0, 10, 17, 13)] :: fx_U) B.pre
  have htab := vx_table (x := yL_setSetting) B (hts _ List.mem_cons_self)
  obtain ⟨C, hH⟩ := fx_body (own := RL) B hml rfl (fun w hw => hts w (List.mem_cons_of_mem _ hw)) hG hv
  replace hts := fun w hw => hts w (List.mem_cons_of_mem _ hw)
  obtain ⟨hx, hb, hr, -, hown, -, hlocks, hsz, hK, -, hSt⟩ := id C
  have hl := lv_entry ([.ref (fx_a g 0), .int a1, .int a2, .ref (fx_a g 9)]) (n := 5) (Nat.le_of_ble_eq_true rfl)
  rw [lg_entry_eq]
  generalize (lg_sl ([.ref (fx_a g 0), .int a1, .int a2, .ref (fx_a g 9)]) ++ List.replicate (5 - (lg_sl ([.ref (fx_a g 0), .int a1, .int a2, .ref (fx_a g 9)])).length) Slot.unset).toArray = ls at hl ⊢
  have hl : lv_has ls 5 [(0, .ref (fx_a g 0)), (1, .int a1), (2, .int a2), (3, .ref (fx_a g 9))] := hl
  obtain ⟨H, eH⟩ : ∃ H : Heap, H = s.heap := ⟨_, rfl⟩
  obtain ⟨locs, elocs⟩ : ∃ q : List Loc, q = [] := ⟨_, rfl⟩
  rw [← eH, ← elocs] at hH
  show W p l e rm_L_setSetting_0_9 s m _ below meth c s.heap [] 0 0 _ _
  rw [← eH, ← elocs]
  unfold wp_L_setSetting_0_9 at h
  refine lv_aload_n hx hb dL_setSetting_0 rfl (lv_at hl 3 rfl) ?_
  refine lv_iconst (v := 0) hx hb dL_setSetting_1 (by decide) ?_
  refine lv_aload_n hx hb dL_setSetting_2 rfl (lv_at hl 0 rfl) ?_
  refine lv_iload_n hx hb dL_setSetting_3 rfl (lv_at hl 1 rfl) ?_
  refine lv_iload_n hx hb dL_setSetting_4 rfl (lv_at hl 2 rfl) ?_
  refine fx_xcat (mc := 1) (ms := 6) hH (fx_xrunV (As := [.int a1, .int a2]) (rest := [.int 0, .ref (fx_a g 9)]) C hH (c_X6_setSetting_0 l C.2.2.2.2.2.2.2.2.2.1 hfl a1 a2 M _ _ h) (fx_cwV 2 hts u_522 u_523 u_524 u_1 u_525 rfl rfl (by decide +kernel) ⟨(Nat.le_of_ble_eq_true rfl), (Nat.le_of_ble_eq_true rfl)⟩) (fx_w0 g M) rfl rfl hl.1 rfl (Nat.le_of_ble_eq_true rfl) dL_setSetting_5 ⟨(Nat.le_of_ble_eq_true rfl), (Nat.le_of_ble_eq_true rfl)⟩) (fun E M9 q9 ce H locs h hH hce hcv hcl => ?_) (fun r2 M1 H locs h hH => ?_)
  · rcases h with ⟨rfl, h⟩ | ⟨rfl, h⟩
    · refine vx_catch hown [] (⟨0, 10, 13, 25⟩ : ExceptionTableEntry) [(⟨0, 10, 17, 13⟩ : ExceptionTableEntry)] (htab.trans rfl) (fun z hz => absurd hz List.not_mem_nil) (by decide) (by decide) (hts _ u_498) (va_Nw.use rfl (hSt.2.2.2.2.2.2.2.1 _ (by decide +kernel))) hce hcv hcl ?_
      refine lv_astore (lv' := ((4, .ref q9) :: [(0, .ref (fx_a g 0)), (1, .int a1), (2, .int a2), (3, .ref (fx_a g 9))])) hx hb dL_setSetting_13 hl (by decide) rfl (fun ls hl => ?_)
      refine lv_iconst (v := 1) hx hb dL_setSetting_15 (by decide) ?_
      exact fx_iret C hH h dL_setSetting_16
    · refine vx_catch hown [(⟨0, 10, 13, 25⟩ : ExceptionTableEntry)] (⟨0, 10, 17, 13⟩ : ExceptionTableEntry) [] (htab.trans rfl) (fun z hz => by rw [List.mem_singleton] at hz; subst hz; exact Or.inr ⟨by decide, "java/lang/IndexOutOfBoundsException", hts _ u_498, hSt.2.2.2.2.2.2.1 _ (by decide +kernel) _ (by decide +kernel) (by decide +kernel)⟩) (by decide) (by decide) (hts _ u_400) (va_Nw.use rfl (hSt.2.2.2.2.2.2.2.1 _ (by decide +kernel))) hce hcv hcl ?_
      refine lv_astore (lv' := ((4, .ref q9) :: [(0, .ref (fx_a g 0)), (1, .int a1), (2, .int a2), (3, .ref (fx_a g 9))])) hx hb dL_setSetting_17 hl (by decide) rfl (fun ls hl => ?_)
      refine lv_iconst (v := 2) hx hb dL_setSetting_19 (by decide) ?_
      exact fx_iret C hH h dL_setSetting_20
  · refine lv_i2l hx hb dL_setSetting_8 rfl ?_
    refine fx_last (j := 0) (M' := fx_sl M1 9 0 r2.toInt64) C hH 9 (by decide) (fx_w9 g M1) (fx_p9 g M1 _ _) (by unfold vp_in; decide) dL_setSetting_9 (fun H locs hH => ?_)
    generalize eM3 : fx_sl M1 9 0 r2.toInt64 = M3 at hH
    replace h := h M3 eM3.symm
    refine lv_goto (tgt := 21) hx hb dL_setSetting_10 (by decide) ?_
    refine lv_iconst (v := 0) hx hb dL_setSetting_21 (by decide) ?_
    exact fx_iret C hH h dL_setSetting_22
/-! the law: addItem -/
def rm_L_addItem_0_9 : Room := { frames := 8, cells := 1, slots := 6, locals := 133 }
def wp_L_addItem_0_9 (a1 : Int32) (a2 : Int32) (M : fx_Mem) (Q : Int32 → fx_Mem → Prop) : Prop :=
  wp_X6_addItem_0 a1 a2 M (fun r2 M1 => ∀ M3 : fx_Mem, M3 = fx_sl M1 9 0 r2.toInt64 → Q 0 M3) (fun E M9 => (E = "java/lang/IllegalArgumentException" ∧ Q 1 M9) ∨ (E = "java/lang/IllegalStateException" ∧ Q 2 M9))
set_option maxHeartbeats 4000000 in
set_option maxRecDepth 100000 in
theorem c_L_addItem_0_9 (l : Launch) {g : fx_Geo} (hG : fx_Gd g) (hfl : l.stackTraces = false) (a1 : Int32) (a2 : Int32) (M : fx_Mem) (Q : Int32 → fx_Mem → Prop) (h : wp_L_addItem_0_9 a1 a2 M Q) : Met l yL_addItem (.codeWith yL_addItem cL_addItem 5 (some .int) [(0, 10, 13, 13), (0, 10, 17, 30)] :: fx_U) rm_L_addItem_0_9 (va_Pc [.ref (fx_a g 0), .int a1, .int a2, .ref (fx_a g 9)] (fx_At g M)) (va_Qi Q (fx_Pw g) (fx_A g)) 1 6 (fx_A g) := by
  refine va_MetW (cc := cL_addItem) (maxL := 5) (ret := (some .int)) (hh := [(0, 10, 13, 13), (0, 10, 17, 30)]) (by decide +kernel) rfl ?_
  intro p e s m args below meth c s₁ B hml hv
  obtain ⟨rfl, hv⟩ := hv
  have hts := atoms_spec (ws := .codeWith yL_addItem cL_addItem 5 (some .int) [(0, 10, 13, 13), (0, 10, 17, 30)] :: fx_U) B.pre
  have htab := vx_table (x := yL_addItem) B (hts _ List.mem_cons_self)
  obtain ⟨C, hH⟩ := fx_body (own := RL) B hml rfl (fun w hw => hts w (List.mem_cons_of_mem _ hw)) hG hv
  replace hts := fun w hw => hts w (List.mem_cons_of_mem _ hw)
  obtain ⟨hx, hb, hr, -, hown, -, hlocks, hsz, hK, -, hSt⟩ := id C
  have hl := lv_entry ([.ref (fx_a g 0), .int a1, .int a2, .ref (fx_a g 9)]) (n := 5) (Nat.le_of_ble_eq_true rfl)
  rw [lg_entry_eq]
  generalize (lg_sl ([.ref (fx_a g 0), .int a1, .int a2, .ref (fx_a g 9)]) ++ List.replicate (5 - (lg_sl ([.ref (fx_a g 0), .int a1, .int a2, .ref (fx_a g 9)])).length) Slot.unset).toArray = ls at hl ⊢
  have hl : lv_has ls 5 [(0, .ref (fx_a g 0)), (1, .int a1), (2, .int a2), (3, .ref (fx_a g 9))] := hl
  obtain ⟨H, eH⟩ : ∃ H : Heap, H = s.heap := ⟨_, rfl⟩
  obtain ⟨locs, elocs⟩ : ∃ q : List Loc, q = [] := ⟨_, rfl⟩
  rw [← eH, ← elocs] at hH
  show W p l e rm_L_addItem_0_9 s m _ below meth c s.heap [] 0 0 _ _
  rw [← eH, ← elocs]
  unfold wp_L_addItem_0_9 at h
  refine lv_aload_n hx hb dL_addItem_0 rfl (lv_at hl 3 rfl) ?_
  refine lv_iconst (v := 0) hx hb dL_addItem_1 (by decide) ?_
  refine lv_aload_n hx hb dL_addItem_2 rfl (lv_at hl 0 rfl) ?_
  refine lv_iload_n hx hb dL_addItem_3 rfl (lv_at hl 1 rfl) ?_
  refine lv_iload_n hx hb dL_addItem_4 rfl (lv_at hl 2 rfl) ?_
  refine fx_xcat (mc := 1) (ms := 6) hH (fx_xrunV (As := [.int a1, .int a2]) (rest := [.int 0, .ref (fx_a g 9)]) C hH (c_X6_addItem_0 l C.2.2.2.2.2.2.2.2.2.1 hfl a1 a2 M _ _ h) (fx_cwV 2 hts u_546 u_547 u_548 u_1 u_549 rfl rfl (by decide +kernel) ⟨(Nat.le_of_ble_eq_true rfl), (Nat.le_of_ble_eq_true rfl)⟩) (fx_w0 g M) rfl rfl hl.1 rfl (Nat.le_of_ble_eq_true rfl) dL_addItem_5 ⟨(Nat.le_of_ble_eq_true rfl), (Nat.le_of_ble_eq_true rfl)⟩) (fun E M9 q9 ce H locs h hH hce hcv hcl => ?_) (fun r2 M1 H locs h hH => ?_)
  · rcases h with ⟨rfl, h⟩ | ⟨rfl, h⟩
    · refine vx_catch hown [] (⟨0, 10, 13, 13⟩ : ExceptionTableEntry) [(⟨0, 10, 17, 30⟩ : ExceptionTableEntry)] (htab.trans rfl) (fun z hz => absurd hz List.not_mem_nil) (by decide) (by decide) (hts _ u_400) (va_Nw.use rfl (hSt.2.2.2.2.2.2.2.1 _ (by decide +kernel))) hce hcv hcl ?_
      refine lv_astore (lv' := ((4, .ref q9) :: [(0, .ref (fx_a g 0)), (1, .int a1), (2, .int a2), (3, .ref (fx_a g 9))])) hx hb dL_addItem_13 hl (by decide) rfl (fun ls hl => ?_)
      refine lv_iconst (v := 1) hx hb dL_addItem_15 (by decide) ?_
      exact fx_iret C hH h dL_addItem_16
    · refine vx_catch hown [(⟨0, 10, 13, 13⟩ : ExceptionTableEntry)] (⟨0, 10, 17, 30⟩ : ExceptionTableEntry) [] (htab.trans rfl) (fun z hz => by rw [List.mem_singleton] at hz; subst hz; exact Or.inr ⟨by decide, "java/lang/IllegalArgumentException", hts _ u_400, hSt.2.2.2.2.2.2.1 _ (by decide +kernel) _ (by decide +kernel) (by decide +kernel)⟩) (by decide) (by decide) (hts _ u_545) (va_Nw.use rfl (hSt.2.2.2.2.2.2.2.1 _ (by decide +kernel))) hce hcv hcl ?_
      refine lv_astore (lv' := ((4, .ref q9) :: [(0, .ref (fx_a g 0)), (1, .int a1), (2, .int a2), (3, .ref (fx_a g 9))])) hx hb dL_addItem_17 hl (by decide) rfl (fun ls hl => ?_)
      refine lv_iconst (v := 2) hx hb dL_addItem_19 (by decide) ?_
      exact fx_iret C hH h dL_addItem_20
  · refine lv_i2l hx hb dL_addItem_8 rfl ?_
    refine fx_last (j := 0) (M' := fx_sl M1 9 0 r2.toInt64) C hH 9 (by decide) (fx_w9 g M1) (fx_p9 g M1 _ _) (by unfold vp_in; decide) dL_addItem_9 (fun H locs hH => ?_)
    generalize eM3 : fx_sl M1 9 0 r2.toInt64 = M3 at hH
    replace h := h M3 eM3.symm
    refine lv_goto (tgt := 21) hx hb dL_addItem_10 (by decide) ?_
    refine lv_iconst (v := 0) hx hb dL_addItem_21 (by decide) ?_
    exact fx_iret C hH h dL_addItem_22
/-! the law: removeItem -/
def rm_L_removeItem_0_9 : Room := { frames := 8, cells := 1, slots := 6, locals := 132 }
def wp_L_removeItem_0_9 (a1 : Int32) (M : fx_Mem) (Q : Int32 → fx_Mem → Prop) : Prop :=
  wp_X6_removeItem_0 a1 M (fun r2 M1 => ∀ M3 : fx_Mem, M3 = fx_sl M1 9 0 r2.toInt64 → Q 0 M3) (fun E M9 => (E = "java/lang/IndexOutOfBoundsException" ∧ Q 1 M9))
set_option maxHeartbeats 4000000 in
set_option maxRecDepth 100000 in
theorem c_L_removeItem_0_9 (l : Launch) {g : fx_Geo} (hG : fx_Gd g) (hfl : l.stackTraces = false) (a1 : Int32) (M : fx_Mem) (Q : Int32 → fx_Mem → Prop) (h : wp_L_removeItem_0_9 a1 M Q) : Met l yL_removeItem (.codeWith yL_removeItem cL_removeItem 4 (some .int) [(0, 9, 12, 25)] :: fx_U) rm_L_removeItem_0_9 (va_Pc [.ref (fx_a g 0), .int a1, .ref (fx_a g 9)] (fx_At g M)) (va_Qi Q (fx_Pw g) (fx_A g)) 1 6 (fx_A g) := by
  refine va_MetW (cc := cL_removeItem) (maxL := 4) (ret := (some .int)) (hh := [(0, 9, 12, 25)]) (by decide +kernel) rfl ?_
  intro p e s m args below meth c s₁ B hml hv
  obtain ⟨rfl, hv⟩ := hv
  have hts := atoms_spec (ws := .codeWith yL_removeItem cL_removeItem 4 (some .int) [(0, 9, 12, 25)] :: fx_U) B.pre
  have htab := vx_table (x := yL_removeItem) B (hts _ List.mem_cons_self)
  obtain ⟨C, hH⟩ := fx_body (own := RL) B hml rfl (fun w hw => hts w (List.mem_cons_of_mem _ hw)) hG hv
  replace hts := fun w hw => hts w (List.mem_cons_of_mem _ hw)
  obtain ⟨hx, hb, hr, -, hown, -, hlocks, hsz, hK, -, hSt⟩ := id C
  have hl := lv_entry ([.ref (fx_a g 0), .int a1, .ref (fx_a g 9)]) (n := 4) (Nat.le_of_ble_eq_true rfl)
  rw [lg_entry_eq]
  generalize (lg_sl ([.ref (fx_a g 0), .int a1, .ref (fx_a g 9)]) ++ List.replicate (4 - (lg_sl ([.ref (fx_a g 0), .int a1, .ref (fx_a g 9)])).length) Slot.unset).toArray = ls at hl ⊢
  have hl : lv_has ls 4 [(0, .ref (fx_a g 0)), (1, .int a1), (2, .ref (fx_a g 9))] := hl
  obtain ⟨H, eH⟩ : ∃ H : Heap, H = s.heap := ⟨_, rfl⟩
  obtain ⟨locs, elocs⟩ : ∃ q : List Loc, q = [] := ⟨_, rfl⟩
  rw [← eH, ← elocs] at hH
  show W p l e rm_L_removeItem_0_9 s m _ below meth c s.heap [] 0 0 _ _
  rw [← eH, ← elocs]
  unfold wp_L_removeItem_0_9 at h
  refine lv_aload_n hx hb dL_removeItem_0 rfl (lv_at hl 2 rfl) ?_
  refine lv_iconst (v := 0) hx hb dL_removeItem_1 (by decide) ?_
  refine lv_aload_n hx hb dL_removeItem_2 rfl (lv_at hl 0 rfl) ?_
  refine lv_iload_n hx hb dL_removeItem_3 rfl (lv_at hl 1 rfl) ?_
  refine fx_xcat (mc := 1) (ms := 6) hH (fx_xrunV (As := [.int a1]) (rest := [.int 0, .ref (fx_a g 9)]) C hH (c_X6_removeItem_0 l C.2.2.2.2.2.2.2.2.2.1 hfl a1 M _ _ h) (fx_cwV 1 hts u_592 u_593 u_594 u_1 u_595 rfl rfl (by decide +kernel) ⟨(Nat.le_of_ble_eq_true rfl), (Nat.le_of_ble_eq_true rfl)⟩) (fx_w0 g M) rfl rfl hl.1 rfl (Nat.le_of_ble_eq_true rfl) dL_removeItem_4 ⟨(Nat.le_of_ble_eq_true rfl), (Nat.le_of_ble_eq_true rfl)⟩) (fun E M9 q9 ce H locs h hH hce hcv hcl => ?_) (fun r2 M1 H locs h hH => ?_)
  · rcases h with ⟨rfl, h⟩
    · refine vx_catch hown [] (⟨0, 9, 12, 25⟩ : ExceptionTableEntry) [] (htab.trans rfl) (fun z hz => absurd hz List.not_mem_nil) (by decide) (by decide) (hts _ u_498) (va_Nw.use rfl (hSt.2.2.2.2.2.2.2.1 _ (by decide +kernel))) hce hcv hcl ?_
      refine lv_astore_n (lv' := ((3, .ref q9) :: [(0, .ref (fx_a g 0)), (1, .int a1), (2, .ref (fx_a g 9))])) hx hb dL_removeItem_12 rfl hl (by decide) rfl (fun ls hl => ?_)
      refine lv_iconst (v := 1) hx hb dL_removeItem_13 (by decide) ?_
      exact fx_iret C hH h dL_removeItem_14
  · refine lv_i2l hx hb dL_removeItem_7 rfl ?_
    refine fx_last (j := 0) (M' := fx_sl M1 9 0 r2.toInt64) C hH 9 (by decide) (fx_w9 g M1) (fx_p9 g M1 _ _) (by unfold vp_in; decide) dL_removeItem_8 (fun H locs hH => ?_)
    generalize eM3 : fx_sl M1 9 0 r2.toInt64 = M3 at hH
    replace h := h M3 eM3.symm
    refine lv_goto (tgt := 15) hx hb dL_removeItem_9 (by decide) ?_
    refine lv_iconst (v := 0) hx hb dL_removeItem_15 (by decide) ?_
    exact fx_iret C hH h dL_removeItem_16
/-! the law: setProperty -/
def rm_L_setProperty_0_9 : Room := { frames := 8, cells := 3, slots := 18, locals := 135 }
def wp_L_setProperty_0_9 (a1 : Int32) (a2 : Int32) (a3 : Int32) (M : fx_Mem) (Q : Int32 → fx_Mem → Prop) : Prop :=
  wp_X6_setProperty_0 a1 a2 a3 M (fun r2 M1 => ∀ M3 : fx_Mem, M3 = fx_sl M1 9 0 r2.toInt64 → Q 0 M3) (fun E M9 => (E = "java/lang/IndexOutOfBoundsException" ∧ Q 1 M9) ∨ (E = "java/lang/IllegalArgumentException" ∧ Q 2 M9))
set_option maxHeartbeats 4000000 in
set_option maxRecDepth 100000 in
theorem c_L_setProperty_0_9 (l : Launch) {g : fx_Geo} (hG : fx_Gd g) (hfl : l.stackTraces = false) (a1 : Int32) (a2 : Int32) (a3 : Int32) (M : fx_Mem) (Q : Int32 → fx_Mem → Prop) (h : wp_L_setProperty_0_9 a1 a2 a3 M Q) : Met l yL_setProperty (.codeWith yL_setProperty cL_setProperty 6 (some .int) [(0, 12, 15, 25), (0, 12, 19, 13)] :: fx_U) rm_L_setProperty_0_9 (va_Pc [.ref (fx_a g 0), .int a1, .int a2, .int a3, .ref (fx_a g 9)] (fx_At g M)) (va_Qi Q (fx_Pw g) (fx_A g)) 3 18 (fx_A g) := by
  refine va_MetW (cc := cL_setProperty) (maxL := 6) (ret := (some .int)) (hh := [(0, 12, 15, 25), (0, 12, 19, 13)]) (by decide +kernel) rfl ?_
  intro p e s m args below meth c s₁ B hml hv
  obtain ⟨rfl, hv⟩ := hv
  have hts := atoms_spec (ws := .codeWith yL_setProperty cL_setProperty 6 (some .int) [(0, 12, 15, 25), (0, 12, 19, 13)] :: fx_U) B.pre
  have htab := vx_table (x := yL_setProperty) B (hts _ List.mem_cons_self)
  obtain ⟨C, hH⟩ := fx_body (own := RL) B hml rfl (fun w hw => hts w (List.mem_cons_of_mem _ hw)) hG hv
  replace hts := fun w hw => hts w (List.mem_cons_of_mem _ hw)
  obtain ⟨hx, hb, hr, -, hown, -, hlocks, hsz, hK, -, hSt⟩ := id C
  have hl := lv_entry ([.ref (fx_a g 0), .int a1, .int a2, .int a3, .ref (fx_a g 9)]) (n := 6) (Nat.le_of_ble_eq_true rfl)
  rw [lg_entry_eq]
  generalize (lg_sl ([.ref (fx_a g 0), .int a1, .int a2, .int a3, .ref (fx_a g 9)]) ++ List.replicate (6 - (lg_sl ([.ref (fx_a g 0), .int a1, .int a2, .int a3, .ref (fx_a g 9)])).length) Slot.unset).toArray = ls at hl ⊢
  have hl : lv_has ls 6 [(0, .ref (fx_a g 0)), (1, .int a1), (2, .int a2), (3, .int a3), (4, .ref (fx_a g 9))] := hl
  obtain ⟨H, eH⟩ : ∃ H : Heap, H = s.heap := ⟨_, rfl⟩
  obtain ⟨locs, elocs⟩ : ∃ q : List Loc, q = [] := ⟨_, rfl⟩
  rw [← eH, ← elocs] at hH
  show W p l e rm_L_setProperty_0_9 s m _ below meth c s.heap [] 0 0 _ _
  rw [← eH, ← elocs]
  unfold wp_L_setProperty_0_9 at h
  refine lv_aload hx hb dL_setProperty_0 (lv_at hl 4 rfl) ?_
  refine lv_iconst (v := 0) hx hb dL_setProperty_2 (by decide) ?_
  refine lv_aload_n hx hb dL_setProperty_3 rfl (lv_at hl 0 rfl) ?_
  refine lv_iload_n hx hb dL_setProperty_4 rfl (lv_at hl 1 rfl) ?_
  refine lv_iload_n hx hb dL_setProperty_5 rfl (lv_at hl 2 rfl) ?_
  refine lv_iload_n hx hb dL_setProperty_6 rfl (lv_at hl 3 rfl) ?_
  refine fx_xcat (mc := 3) (ms := 18) hH (fx_xrunV (As := [.int a1, .int a2, .int a3]) (rest := [.int 0, .ref (fx_a g 9)]) C hH (c_X6_setProperty_0 l C.2.2.2.2.2.2.2.2.2.1 hfl a1 a2 a3 M _ _ h) (fx_cwV 3 hts u_608 u_609 u_610 u_1 u_611 rfl rfl (by decide +kernel) ⟨(Nat.le_of_ble_eq_true rfl), (Nat.le_of_ble_eq_true rfl)⟩) (fx_w0 g M) rfl rfl hl.1 rfl (Nat.le_of_ble_eq_true rfl) dL_setProperty_7 ⟨(Nat.le_of_ble_eq_true rfl), (Nat.le_of_ble_eq_true rfl)⟩) (fun E M9 q9 ce H locs h hH hce hcv hcl => ?_) (fun r2 M1 H locs h hH => ?_)
  · rcases h with ⟨rfl, h⟩ | ⟨rfl, h⟩
    · refine vx_catch hown [] (⟨0, 12, 15, 25⟩ : ExceptionTableEntry) [(⟨0, 12, 19, 13⟩ : ExceptionTableEntry)] (htab.trans rfl) (fun z hz => absurd hz List.not_mem_nil) (by decide) (by decide) (hts _ u_498) (va_Nw.use rfl (hSt.2.2.2.2.2.2.2.1 _ (by decide +kernel))) hce hcv hcl ?_
      refine lv_astore (lv' := ((5, .ref q9) :: [(0, .ref (fx_a g 0)), (1, .int a1), (2, .int a2), (3, .int a3), (4, .ref (fx_a g 9))])) hx hb dL_setProperty_15 hl (by decide) rfl (fun ls hl => ?_)
      refine lv_iconst (v := 1) hx hb dL_setProperty_17 (by decide) ?_
      exact fx_iret C hH h dL_setProperty_18
    · refine vx_catch hown [(⟨0, 12, 15, 25⟩ : ExceptionTableEntry)] (⟨0, 12, 19, 13⟩ : ExceptionTableEntry) [] (htab.trans rfl) (fun z hz => by rw [List.mem_singleton] at hz; subst hz; exact Or.inr ⟨by decide, "java/lang/IndexOutOfBoundsException", hts _ u_498, hSt.2.2.2.2.2.2.1 _ (by decide +kernel) _ (by decide +kernel) (by decide +kernel)⟩) (by decide) (by decide) (hts _ u_400) (va_Nw.use rfl (hSt.2.2.2.2.2.2.2.1 _ (by decide +kernel))) hce hcv hcl ?_
      refine lv_astore (lv' := ((5, .ref q9) :: [(0, .ref (fx_a g 0)), (1, .int a1), (2, .int a2), (3, .int a3), (4, .ref (fx_a g 9))])) hx hb dL_setProperty_19 hl (by decide) rfl (fun ls hl => ?_)
      refine lv_iconst (v := 2) hx hb dL_setProperty_21 (by decide) ?_
      exact fx_iret C hH h dL_setProperty_22
  · refine lv_i2l hx hb dL_setProperty_10 rfl ?_
    refine fx_last (j := 0) (M' := fx_sl M1 9 0 r2.toInt64) C hH 9 (by decide) (fx_w9 g M1) (fx_p9 g M1 _ _) (by unfold vp_in; decide) dL_setProperty_11 (fun H locs hH => ?_)
    generalize eM3 : fx_sl M1 9 0 r2.toInt64 = M3 at hH
    replace h := h M3 eM3.symm
    refine lv_goto (tgt := 23) hx hb dL_setProperty_12 (by decide) ?_
    refine lv_iconst (v := 0) hx hb dL_setProperty_23 (by decide) ?_
    exact fx_iret C hH h dL_setProperty_24
/-! the law: property -/
def rm_L_property_0_9 : Room := { frames := 8, cells := 2, slots := 12, locals := 133 }
def wp_L_property_0_9 (a1 : Int32) (a2 : Int32) (M : fx_Mem) (Q : Int32 → fx_Mem → Prop) : Prop :=
  wp_X6_property_0 a1 a2 M (fun r2 M1 => ∀ M3 : fx_Mem, M3 = fx_sl M1 9 0 r2.toInt64 → Q 0 M3) (fun E M9 => (E = "java/lang/IndexOutOfBoundsException" ∧ Q 1 M9))
set_option maxHeartbeats 4000000 in
set_option maxRecDepth 100000 in
theorem c_L_property_0_9 (l : Launch) {g : fx_Geo} (hG : fx_Gd g) (hfl : l.stackTraces = false) (a1 : Int32) (a2 : Int32) (M : fx_Mem) (Q : Int32 → fx_Mem → Prop) (h : wp_L_property_0_9 a1 a2 M Q) : Met l yL_property (.codeWith yL_property cL_property 5 (some .int) [(0, 10, 13, 25)] :: fx_U) rm_L_property_0_9 (va_Pc [.ref (fx_a g 0), .int a1, .int a2, .ref (fx_a g 9)] (fx_At g M)) (va_Qi Q (fx_Pw g) (fx_A g)) 2 12 (fx_A g) := by
  refine va_MetW (cc := cL_property) (maxL := 5) (ret := (some .int)) (hh := [(0, 10, 13, 25)]) (by decide +kernel) rfl ?_
  intro p e s m args below meth c s₁ B hml hv
  obtain ⟨rfl, hv⟩ := hv
  have hts := atoms_spec (ws := .codeWith yL_property cL_property 5 (some .int) [(0, 10, 13, 25)] :: fx_U) B.pre
  have htab := vx_table (x := yL_property) B (hts _ List.mem_cons_self)
  obtain ⟨C, hH⟩ := fx_body (own := RL) B hml rfl (fun w hw => hts w (List.mem_cons_of_mem _ hw)) hG hv
  replace hts := fun w hw => hts w (List.mem_cons_of_mem _ hw)
  obtain ⟨hx, hb, hr, -, hown, -, hlocks, hsz, hK, -, hSt⟩ := id C
  have hl := lv_entry ([.ref (fx_a g 0), .int a1, .int a2, .ref (fx_a g 9)]) (n := 5) (Nat.le_of_ble_eq_true rfl)
  rw [lg_entry_eq]
  generalize (lg_sl ([.ref (fx_a g 0), .int a1, .int a2, .ref (fx_a g 9)]) ++ List.replicate (5 - (lg_sl ([.ref (fx_a g 0), .int a1, .int a2, .ref (fx_a g 9)])).length) Slot.unset).toArray = ls at hl ⊢
  have hl : lv_has ls 5 [(0, .ref (fx_a g 0)), (1, .int a1), (2, .int a2), (3, .ref (fx_a g 9))] := hl
  obtain ⟨H, eH⟩ : ∃ H : Heap, H = s.heap := ⟨_, rfl⟩
  obtain ⟨locs, elocs⟩ : ∃ q : List Loc, q = [] := ⟨_, rfl⟩
  rw [← eH, ← elocs] at hH
  show W p l e rm_L_property_0_9 s m _ below meth c s.heap [] 0 0 _ _
  rw [← eH, ← elocs]
  unfold wp_L_property_0_9 at h
  refine lv_aload_n hx hb dL_property_0 rfl (lv_at hl 3 rfl) ?_
  refine lv_iconst (v := 0) hx hb dL_property_1 (by decide) ?_
  refine lv_aload_n hx hb dL_property_2 rfl (lv_at hl 0 rfl) ?_
  refine lv_iload_n hx hb dL_property_3 rfl (lv_at hl 1 rfl) ?_
  refine lv_iload_n hx hb dL_property_4 rfl (lv_at hl 2 rfl) ?_
  refine fx_xcat (mc := 2) (ms := 12) hH (fx_xrunV (As := [.int a1, .int a2]) (rest := [.int 0, .ref (fx_a g 9)]) C hH (c_X6_property_0 l C.2.2.2.2.2.2.2.2.2.1 hfl a1 a2 M _ _ h) (fx_cwV 2 hts u_620 u_621 u_622 u_1 u_623 rfl rfl (by decide +kernel) ⟨(Nat.le_of_ble_eq_true rfl), (Nat.le_of_ble_eq_true rfl)⟩) (fx_w0 g M) rfl rfl hl.1 rfl (Nat.le_of_ble_eq_true rfl) dL_property_5 ⟨(Nat.le_of_ble_eq_true rfl), (Nat.le_of_ble_eq_true rfl)⟩) (fun E M9 q9 ce H locs h hH hce hcv hcl => ?_) (fun r2 M1 H locs h hH => ?_)
  · rcases h with ⟨rfl, h⟩
    · refine vx_catch hown [] (⟨0, 10, 13, 25⟩ : ExceptionTableEntry) [] (htab.trans rfl) (fun z hz => absurd hz List.not_mem_nil) (by decide) (by decide) (hts _ u_498) (va_Nw.use rfl (hSt.2.2.2.2.2.2.2.1 _ (by decide +kernel))) hce hcv hcl ?_
      refine lv_astore (lv' := ((4, .ref q9) :: [(0, .ref (fx_a g 0)), (1, .int a1), (2, .int a2), (3, .ref (fx_a g 9))])) hx hb dL_property_13 hl (by decide) rfl (fun ls hl => ?_)
      refine lv_iconst (v := 1) hx hb dL_property_15 (by decide) ?_
      exact fx_iret C hH h dL_property_16
  · refine lv_i2l hx hb dL_property_8 rfl ?_
    refine fx_last (j := 0) (M' := fx_sl M1 9 0 r2.toInt64) C hH 9 (by decide) (fx_w9 g M1) (fx_p9 g M1 _ _) (by unfold vp_in; decide) dL_property_9 (fun H locs hH => ?_)
    generalize eM3 : fx_sl M1 9 0 r2.toInt64 = M3 at hH
    replace h := h M3 eM3.symm
    refine lv_goto (tgt := 17) hx hb dL_property_10 (by decide) ?_
    refine lv_iconst (v := 0) hx hb dL_property_17 (by decide) ?_
    exact fx_iret C hH h dL_property_18
/-! the law: feed -/
def rm_L_feed_0_9 : Room := { frames := 7, cells := 1, slots := 6, locals := 111 }
def wp_L_feed_0_9 (a1 : Int32) (M : fx_Mem) (Q : Int32 → fx_Mem → Prop) : Prop :=
  wp_X6_feed_0 a1 M (fun r2 M1 => ∀ M3 : fx_Mem, M3 = fx_sl M1 9 0 r2.toInt64 → Q 0 M3) (fun E M9 => (E = "java/lang/IllegalStateException" ∧ Q 1 M9))
set_option maxHeartbeats 4000000 in
set_option maxRecDepth 100000 in
theorem c_L_feed_0_9 (l : Launch) {g : fx_Geo} (hG : fx_Gd g) (hfl : l.stackTraces = false) (a1 : Int32) (M : fx_Mem) (Q : Int32 → fx_Mem → Prop) (h : wp_L_feed_0_9 a1 M Q) : Met l yL_feed (.codeWith yL_feed cL_feed 4 (some .int) [(0, 9, 12, 30)] :: fx_U) rm_L_feed_0_9 (va_Pc [.ref (fx_a g 0), .int a1, .ref (fx_a g 9)] (fx_At g M)) (va_Qi Q (fx_Pw g) (fx_A g)) 1 6 (fx_A g) := by
  refine va_MetW (cc := cL_feed) (maxL := 4) (ret := (some .int)) (hh := [(0, 9, 12, 30)]) (by decide +kernel) rfl ?_
  intro p e s m args below meth c s₁ B hml hv
  obtain ⟨rfl, hv⟩ := hv
  have hts := atoms_spec (ws := .codeWith yL_feed cL_feed 4 (some .int) [(0, 9, 12, 30)] :: fx_U) B.pre
  have htab := vx_table (x := yL_feed) B (hts _ List.mem_cons_self)
  obtain ⟨C, hH⟩ := fx_body (own := RL) B hml rfl (fun w hw => hts w (List.mem_cons_of_mem _ hw)) hG hv
  replace hts := fun w hw => hts w (List.mem_cons_of_mem _ hw)
  obtain ⟨hx, hb, hr, -, hown, -, hlocks, hsz, hK, -, hSt⟩ := id C
  have hl := lv_entry ([.ref (fx_a g 0), .int a1, .ref (fx_a g 9)]) (n := 4) (Nat.le_of_ble_eq_true rfl)
  rw [lg_entry_eq]
  generalize (lg_sl ([.ref (fx_a g 0), .int a1, .ref (fx_a g 9)]) ++ List.replicate (4 - (lg_sl ([.ref (fx_a g 0), .int a1, .ref (fx_a g 9)])).length) Slot.unset).toArray = ls at hl ⊢
  have hl : lv_has ls 4 [(0, .ref (fx_a g 0)), (1, .int a1), (2, .ref (fx_a g 9))] := hl
  obtain ⟨H, eH⟩ : ∃ H : Heap, H = s.heap := ⟨_, rfl⟩
  obtain ⟨locs, elocs⟩ : ∃ q : List Loc, q = [] := ⟨_, rfl⟩
  rw [← eH, ← elocs] at hH
  show W p l e rm_L_feed_0_9 s m _ below meth c s.heap [] 0 0 _ _
  rw [← eH, ← elocs]
  unfold wp_L_feed_0_9 at h
  refine lv_aload_n hx hb dL_feed_0 rfl (lv_at hl 2 rfl) ?_
  refine lv_iconst (v := 0) hx hb dL_feed_1 (by decide) ?_
  refine lv_aload_n hx hb dL_feed_2 rfl (lv_at hl 0 rfl) ?_
  refine lv_iload_n hx hb dL_feed_3 rfl (lv_at hl 1 rfl) ?_
  refine fx_xcat (mc := 1) (ms := 6) hH (fx_xrunV (As := [.int a1]) (rest := [.int 0, .ref (fx_a g 9)]) C hH (c_X6_feed_0 l C.2.2.2.2.2.2.2.2.2.1 hfl a1 M _ _ h) (fx_cwV 1 hts u_627 u_628 u_629 u_1 u_630 rfl rfl (by decide +kernel) ⟨(Nat.le_of_ble_eq_true rfl), (Nat.le_of_ble_eq_true rfl)⟩) (fx_w0 g M) rfl rfl hl.1 rfl (Nat.le_of_ble_eq_true rfl) dL_feed_4 ⟨(Nat.le_of_ble_eq_true rfl), (Nat.le_of_ble_eq_true rfl)⟩) (fun E M9 q9 ce H locs h hH hce hcv hcl => ?_) (fun r2 M1 H locs h hH => ?_)
  · rcases h with ⟨rfl, h⟩
    · refine vx_catch hown [] (⟨0, 9, 12, 30⟩ : ExceptionTableEntry) [] (htab.trans rfl) (fun z hz => absurd hz List.not_mem_nil) (by decide) (by decide) (hts _ u_545) (va_Nw.use rfl (hSt.2.2.2.2.2.2.2.1 _ (by decide +kernel))) hce hcv hcl ?_
      refine lv_astore_n (lv' := ((3, .ref q9) :: [(0, .ref (fx_a g 0)), (1, .int a1), (2, .ref (fx_a g 9))])) hx hb dL_feed_12 rfl hl (by decide) rfl (fun ls hl => ?_)
      refine lv_iconst (v := 1) hx hb dL_feed_13 (by decide) ?_
      exact fx_iret C hH h dL_feed_14
  · refine lv_i2l hx hb dL_feed_7 rfl ?_
    refine fx_last (j := 0) (M' := fx_sl M1 9 0 r2.toInt64) C hH 9 (by decide) (fx_w9 g M1) (fx_p9 g M1 _ _) (by unfold vp_in; decide) dL_feed_8 (fun H locs hH => ?_)
    generalize eM3 : fx_sl M1 9 0 r2.toInt64 = M3 at hH
    replace h := h M3 eM3.symm
    refine lv_goto (tgt := 15) hx hb dL_feed_9 (by decide) ?_
    refine lv_iconst (v := 0) hx hb dL_feed_15 (by decide) ?_
    exact fx_iret C hH h dL_feed_16
/-! the law: readItem -/
def rm_L_readItem_0_9 : Room := { frames := 8, cells := 1, slots := 6, locals := 131 }
def wp_L_readItem_0_9 (M : fx_Mem) (Q : Int32 → fx_Mem → Prop) : Prop :=
  wp_X6_readItem_0  M (fun r2 M1 => ∀ M3 : fx_Mem, M3 = fx_sl M1 9 0 r2.toInt64 → Q 0 M3) (fun E M9 => (E = "java/lang/IllegalStateException" ∧ Q 1 M9))
set_option maxHeartbeats 4000000 in
set_option maxRecDepth 100000 in
theorem c_L_readItem_0_9 (l : Launch) {g : fx_Geo} (hG : fx_Gd g) (hfl : l.stackTraces = false) (M : fx_Mem) (Q : Int32 → fx_Mem → Prop) (h : wp_L_readItem_0_9  M Q) : Met l yL_readItem (.codeWith yL_readItem cL_readItem 3 (some .int) [(0, 8, 11, 30)] :: fx_U) rm_L_readItem_0_9 (va_Pc [.ref (fx_a g 0), .ref (fx_a g 9)] (fx_At g M)) (va_Qi Q (fx_Pw g) (fx_A g)) 1 6 (fx_A g) := by
  refine va_MetW (cc := cL_readItem) (maxL := 3) (ret := (some .int)) (hh := [(0, 8, 11, 30)]) (by decide +kernel) rfl ?_
  intro p e s m args below meth c s₁ B hml hv
  obtain ⟨rfl, hv⟩ := hv
  have hts := atoms_spec (ws := .codeWith yL_readItem cL_readItem 3 (some .int) [(0, 8, 11, 30)] :: fx_U) B.pre
  have htab := vx_table (x := yL_readItem) B (hts _ List.mem_cons_self)
  obtain ⟨C, hH⟩ := fx_body (own := RL) B hml rfl (fun w hw => hts w (List.mem_cons_of_mem _ hw)) hG hv
  replace hts := fun w hw => hts w (List.mem_cons_of_mem _ hw)
  obtain ⟨hx, hb, hr, -, hown, -, hlocks, hsz, hK, -, hSt⟩ := id C
  have hl := lv_entry ([.ref (fx_a g 0), .ref (fx_a g 9)]) (n := 3) (Nat.le_of_ble_eq_true rfl)
  rw [lg_entry_eq]
  generalize (lg_sl ([.ref (fx_a g 0), .ref (fx_a g 9)]) ++ List.replicate (3 - (lg_sl ([.ref (fx_a g 0), .ref (fx_a g 9)])).length) Slot.unset).toArray = ls at hl ⊢
  have hl : lv_has ls 3 [(0, .ref (fx_a g 0)), (1, .ref (fx_a g 9))] := hl
  obtain ⟨H, eH⟩ : ∃ H : Heap, H = s.heap := ⟨_, rfl⟩
  obtain ⟨locs, elocs⟩ : ∃ q : List Loc, q = [] := ⟨_, rfl⟩
  rw [← eH, ← elocs] at hH
  show W p l e rm_L_readItem_0_9 s m _ below meth c s.heap [] 0 0 _ _
  rw [← eH, ← elocs]
  unfold wp_L_readItem_0_9 at h
  refine lv_aload_n hx hb dL_readItem_0 rfl (lv_at hl 1 rfl) ?_
  refine lv_iconst (v := 0) hx hb dL_readItem_1 (by decide) ?_
  refine lv_aload_n hx hb dL_readItem_2 rfl (lv_at hl 0 rfl) ?_
  refine fx_xcat (mc := 1) (ms := 6) hH (fx_xrunV (As := []) (rest := [.int 0, .ref (fx_a g 9)]) C hH (c_X6_readItem_0 l C.2.2.2.2.2.2.2.2.2.1 hfl  M _ _ h) (fx_cwV 0 hts u_635 u_636 u_637 u_1 u_638 rfl rfl (by decide +kernel) ⟨(Nat.le_of_ble_eq_true rfl), (Nat.le_of_ble_eq_true rfl)⟩) (fx_w0 g M) rfl rfl hl.1 rfl (Nat.le_of_ble_eq_true rfl) dL_readItem_3 ⟨(Nat.le_of_ble_eq_true rfl), (Nat.le_of_ble_eq_true rfl)⟩) (fun E M9 q9 ce H locs h hH hce hcv hcl => ?_) (fun r2 M1 H locs h hH => ?_)
  · rcases h with ⟨rfl, h⟩
    · refine vx_catch hown [] (⟨0, 8, 11, 30⟩ : ExceptionTableEntry) [] (htab.trans rfl) (fun z hz => absurd hz List.not_mem_nil) (by decide) (by decide) (hts _ u_545) (va_Nw.use rfl (hSt.2.2.2.2.2.2.2.1 _ (by decide +kernel))) hce hcv hcl ?_
      refine lv_astore_n (lv' := ((2, .ref q9) :: [(0, .ref (fx_a g 0)), (1, .ref (fx_a g 9))])) hx hb dL_readItem_11 rfl hl (by decide) rfl (fun ls hl => ?_)
      refine lv_iconst (v := 1) hx hb dL_readItem_12 (by decide) ?_
      exact fx_iret C hH h dL_readItem_13
  · refine lv_i2l hx hb dL_readItem_6 rfl ?_
    refine fx_last (j := 0) (M' := fx_sl M1 9 0 r2.toInt64) C hH 9 (by decide) (fx_w9 g M1) (fx_p9 g M1 _ _) (by unfold vp_in; decide) dL_readItem_7 (fun H locs hH => ?_)
    generalize eM3 : fx_sl M1 9 0 r2.toInt64 = M3 at hH
    replace h := h M3 eM3.symm
    refine lv_goto (tgt := 14) hx hb dL_readItem_8 (by decide) ?_
    refine lv_iconst (v := 0) hx hb dL_readItem_14 (by decide) ?_
    exact fx_iret C hH h dL_readItem_15
/-! the law: lineOf -/
def rm_L_lineOf_0_9 : Room := { frames := 8, cells := 1, slots := 6, locals := 132 }
def wp_L_lineOf_0_9 (a1 : Int32) (M : fx_Mem) (Q : Int32 → fx_Mem → Prop) : Prop :=
  wp_X6_lineOf_0 a1 M (fun r2 M1 => ∀ M3 : fx_Mem, M3 = fx_sl M1 9 0 r2.toInt64 → Q 0 M3) (fun E M9 => (E = "java/lang/IndexOutOfBoundsException" ∧ Q 1 M9))
set_option maxHeartbeats 4000000 in
set_option maxRecDepth 100000 in
theorem c_L_lineOf_0_9 (l : Launch) {g : fx_Geo} (hG : fx_Gd g) (hfl : l.stackTraces = false) (a1 : Int32) (M : fx_Mem) (Q : Int32 → fx_Mem → Prop) (h : wp_L_lineOf_0_9 a1 M Q) : Met l yL_lineOf (.codeWith yL_lineOf cL_lineOf 4 (some .int) [(0, 9, 12, 25)] :: fx_U) rm_L_lineOf_0_9 (va_Pc [.ref (fx_a g 0), .int a1, .ref (fx_a g 9)] (fx_At g M)) (va_Qi Q (fx_Pw g) (fx_A g)) 1 6 (fx_A g) := by
  refine va_MetW (cc := cL_lineOf) (maxL := 4) (ret := (some .int)) (hh := [(0, 9, 12, 25)]) (by decide +kernel) rfl ?_
  intro p e s m args below meth c s₁ B hml hv
  obtain ⟨rfl, hv⟩ := hv
  have hts := atoms_spec (ws := .codeWith yL_lineOf cL_lineOf 4 (some .int) [(0, 9, 12, 25)] :: fx_U) B.pre
  have htab := vx_table (x := yL_lineOf) B (hts _ List.mem_cons_self)
  obtain ⟨C, hH⟩ := fx_body (own := RL) B hml rfl (fun w hw => hts w (List.mem_cons_of_mem _ hw)) hG hv
  replace hts := fun w hw => hts w (List.mem_cons_of_mem _ hw)
  obtain ⟨hx, hb, hr, -, hown, -, hlocks, hsz, hK, -, hSt⟩ := id C
  have hl := lv_entry ([.ref (fx_a g 0), .int a1, .ref (fx_a g 9)]) (n := 4) (Nat.le_of_ble_eq_true rfl)
  rw [lg_entry_eq]
  generalize (lg_sl ([.ref (fx_a g 0), .int a1, .ref (fx_a g 9)]) ++ List.replicate (4 - (lg_sl ([.ref (fx_a g 0), .int a1, .ref (fx_a g 9)])).length) Slot.unset).toArray = ls at hl ⊢
  have hl : lv_has ls 4 [(0, .ref (fx_a g 0)), (1, .int a1), (2, .ref (fx_a g 9))] := hl
  obtain ⟨H, eH⟩ : ∃ H : Heap, H = s.heap := ⟨_, rfl⟩
  obtain ⟨locs, elocs⟩ : ∃ q : List Loc, q = [] := ⟨_, rfl⟩
  rw [← eH, ← elocs] at hH
  show W p l e rm_L_lineOf_0_9 s m _ below meth c s.heap [] 0 0 _ _
  rw [← eH, ← elocs]
  unfold wp_L_lineOf_0_9 at h
  refine lv_aload_n hx hb dL_lineOf_0 rfl (lv_at hl 2 rfl) ?_
  refine lv_iconst (v := 0) hx hb dL_lineOf_1 (by decide) ?_
  refine lv_aload_n hx hb dL_lineOf_2 rfl (lv_at hl 0 rfl) ?_
  refine lv_iload_n hx hb dL_lineOf_3 rfl (lv_at hl 1 rfl) ?_
  refine fx_xcat (mc := 1) (ms := 6) hH (fx_xrunV (As := [.int a1]) (rest := [.int 0, .ref (fx_a g 9)]) C hH (c_X6_lineOf_0 l C.2.2.2.2.2.2.2.2.2.1 hfl a1 M _ _ h) (fx_cwV 1 hts u_663 u_664 u_665 u_1 u_666 rfl rfl (by decide +kernel) ⟨(Nat.le_of_ble_eq_true rfl), (Nat.le_of_ble_eq_true rfl)⟩) (fx_w0 g M) rfl rfl hl.1 rfl (Nat.le_of_ble_eq_true rfl) dL_lineOf_4 ⟨(Nat.le_of_ble_eq_true rfl), (Nat.le_of_ble_eq_true rfl)⟩) (fun E M9 q9 ce H locs h hH hce hcv hcl => ?_) (fun r2 M1 H locs h hH => ?_)
  · rcases h with ⟨rfl, h⟩
    · refine vx_catch hown [] (⟨0, 9, 12, 25⟩ : ExceptionTableEntry) [] (htab.trans rfl) (fun z hz => absurd hz List.not_mem_nil) (by decide) (by decide) (hts _ u_498) (va_Nw.use rfl (hSt.2.2.2.2.2.2.2.1 _ (by decide +kernel))) hce hcv hcl ?_
      refine lv_astore_n (lv' := ((3, .ref q9) :: [(0, .ref (fx_a g 0)), (1, .int a1), (2, .ref (fx_a g 9))])) hx hb dL_lineOf_12 rfl hl (by decide) rfl (fun ls hl => ?_)
      refine lv_iconst (v := 1) hx hb dL_lineOf_13 (by decide) ?_
      exact fx_iret C hH h dL_lineOf_14
  · refine lv_i2l hx hb dL_lineOf_7 rfl ?_
    refine fx_last (j := 0) (M' := fx_sl M1 9 0 r2.toInt64) C hH 9 (by decide) (fx_w9 g M1) (fx_p9 g M1 _ _) (by unfold vp_in; decide) dL_lineOf_8 (fun H locs hH => ?_)
    generalize eM3 : fx_sl M1 9 0 r2.toInt64 = M3 at hH
    replace h := h M3 eM3.symm
    refine lv_goto (tgt := 15) hx hb dL_lineOf_9 (by decide) ?_
    refine lv_iconst (v := 0) hx hb dL_lineOf_15 (by decide) ?_
    exact fx_iret C hH h dL_lineOf_16
/-! the law: itemAt -/
def rm_L_itemAt_0_9 : Room := { frames := 7, cells := 1, slots := 6, locals := 111 }
def wp_L_itemAt_0_9 (a1 : Int32) (M : fx_Mem) (Q : Int32 → fx_Mem → Prop) : Prop :=
  wp_X6_itemAt_0 a1 M (fun r2 M1 => ∀ M3 : fx_Mem, M3 = fx_sl M1 9 0 r2.toInt64 → Q 0 M3) (fun E M9 => (E = "java/lang/IndexOutOfBoundsException" ∧ Q 1 M9))
set_option maxHeartbeats 4000000 in
set_option maxRecDepth 100000 in
theorem c_L_itemAt_0_9 (l : Launch) {g : fx_Geo} (hG : fx_Gd g) (hfl : l.stackTraces = false) (a1 : Int32) (M : fx_Mem) (Q : Int32 → fx_Mem → Prop) (h : wp_L_itemAt_0_9 a1 M Q) : Met l yL_itemAt (.codeWith yL_itemAt cL_itemAt 4 (some .int) [(0, 9, 12, 25)] :: fx_U) rm_L_itemAt_0_9 (va_Pc [.ref (fx_a g 0), .int a1, .ref (fx_a g 9)] (fx_At g M)) (va_Qi Q (fx_Pw g) (fx_A g)) 1 6 (fx_A g) := by
  refine va_MetW (cc := cL_itemAt) (maxL := 4) (ret := (some .int)) (hh := [(0, 9, 12, 25)]) (by decide +kernel) rfl ?_
  intro p e s m args below meth c s₁ B hml hv
  obtain ⟨rfl, hv⟩ := hv
  have hts := atoms_spec (ws := .codeWith yL_itemAt cL_itemAt 4 (some .int) [(0, 9, 12, 25)] :: fx_U) B.pre
  have htab := vx_table (x := yL_itemAt) B (hts _ List.mem_cons_self)
  obtain ⟨C, hH⟩ := fx_body (own := RL) B hml rfl (fun w hw => hts w (List.mem_cons_of_mem _ hw)) hG hv
  replace hts := fun w hw => hts w (List.mem_cons_of_mem _ hw)
  obtain ⟨hx, hb, hr, -, hown, -, hlocks, hsz, hK, -, hSt⟩ := id C
  have hl := lv_entry ([.ref (fx_a g 0), .int a1, .ref (fx_a g 9)]) (n := 4) (Nat.le_of_ble_eq_true rfl)
  rw [lg_entry_eq]
  generalize (lg_sl ([.ref (fx_a g 0), .int a1, .ref (fx_a g 9)]) ++ List.replicate (4 - (lg_sl ([.ref (fx_a g 0), .int a1, .ref (fx_a g 9)])).length) Slot.unset).toArray = ls at hl ⊢
  have hl : lv_has ls 4 [(0, .ref (fx_a g 0)), (1, .int a1), (2, .ref (fx_a g 9))] := hl
  obtain ⟨H, eH⟩ : ∃ H : Heap, H = s.heap := ⟨_, rfl⟩
  obtain ⟨locs, elocs⟩ : ∃ q : List Loc, q = [] := ⟨_, rfl⟩
  rw [← eH, ← elocs] at hH
  show W p l e rm_L_itemAt_0_9 s m _ below meth c s.heap [] 0 0 _ _
  rw [← eH, ← elocs]
  unfold wp_L_itemAt_0_9 at h
  refine lv_aload_n hx hb dL_itemAt_0 rfl (lv_at hl 2 rfl) ?_
  refine lv_iconst (v := 0) hx hb dL_itemAt_1 (by decide) ?_
  refine lv_aload_n hx hb dL_itemAt_2 rfl (lv_at hl 0 rfl) ?_
  refine lv_iload_n hx hb dL_itemAt_3 rfl (lv_at hl 1 rfl) ?_
  refine fx_xcat (mc := 1) (ms := 6) hH (fx_xrunV (As := [.int a1]) (rest := [.int 0, .ref (fx_a g 9)]) C hH (c_X6_itemAt_0 l C.2.2.2.2.2.2.2.2.2.1 hfl a1 M _ _ h) (fx_cwV 1 hts u_674 u_675 u_676 u_1 u_677 rfl rfl (by decide +kernel) ⟨(Nat.le_of_ble_eq_true rfl), (Nat.le_of_ble_eq_true rfl)⟩) (fx_w0 g M) rfl rfl hl.1 rfl (Nat.le_of_ble_eq_true rfl) dL_itemAt_4 ⟨(Nat.le_of_ble_eq_true rfl), (Nat.le_of_ble_eq_true rfl)⟩) (fun E M9 q9 ce H locs h hH hce hcv hcl => ?_) (fun r2 M1 H locs h hH => ?_)
  · rcases h with ⟨rfl, h⟩
    · refine vx_catch hown [] (⟨0, 9, 12, 25⟩ : ExceptionTableEntry) [] (htab.trans rfl) (fun z hz => absurd hz List.not_mem_nil) (by decide) (by decide) (hts _ u_498) (va_Nw.use rfl (hSt.2.2.2.2.2.2.2.1 _ (by decide +kernel))) hce hcv hcl ?_
      refine lv_astore_n (lv' := ((3, .ref q9) :: [(0, .ref (fx_a g 0)), (1, .int a1), (2, .ref (fx_a g 9))])) hx hb dL_itemAt_12 rfl hl (by decide) rfl (fun ls hl => ?_)
      refine lv_iconst (v := 1) hx hb dL_itemAt_13 (by decide) ?_
      exact fx_iret C hH h dL_itemAt_14
  · refine lv_i2l hx hb dL_itemAt_7 rfl ?_
    refine fx_last (j := 0) (M' := fx_sl M1 9 0 r2.toInt64) C hH 9 (by decide) (fx_w9 g M1) (fx_p9 g M1 _ _) (by unfold vp_in; decide) dL_itemAt_8 (fun H locs hH => ?_)
    generalize eM3 : fx_sl M1 9 0 r2.toInt64 = M3 at hH
    replace h := h M3 eM3.symm
    refine lv_goto (tgt := 15) hx hb dL_itemAt_9 (by decide) ?_
    refine lv_iconst (v := 0) hx hb dL_itemAt_15 (by decide) ?_
    exact fx_iret C hH h dL_itemAt_16
/-! the law: hypotheticalSize -/
def rm_L_hypotheticalSize_0_9 : Room := { frames := 8, cells := 1, slots := 6, locals := 132 }
def wp_L_hypotheticalSize_0_9 (a1 : Int32) (M : fx_Mem) (Q : Int32 → fx_Mem → Prop) : Prop :=
  wp_X6_hypotheticalSize_0 a1 M (fun r2 M1 => ∀ M3 : fx_Mem, M3 = fx_sl M1 9 0 r2.toInt64 → Q 0 M3) (fun E M9 => (E = "java/lang/IndexOutOfBoundsException" ∧ Q 1 M9))
set_option maxHeartbeats 4000000 in
set_option maxRecDepth 100000 in
theorem c_L_hypotheticalSize_0_9 (l : Launch) {g : fx_Geo} (hG : fx_Gd g) (hfl : l.stackTraces = false) (a1 : Int32) (M : fx_Mem) (Q : Int32 → fx_Mem → Prop) (h : wp_L_hypotheticalSize_0_9 a1 M Q) : Met l yL_hypotheticalSize (.codeWith yL_hypotheticalSize cL_hypotheticalSize 4 (some .int) [(0, 9, 12, 25)] :: fx_U) rm_L_hypotheticalSize_0_9 (va_Pc [.ref (fx_a g 0), .int a1, .ref (fx_a g 9)] (fx_At g M)) (va_Qi Q (fx_Pw g) (fx_A g)) 1 6 (fx_A g) := by
  refine va_MetW (cc := cL_hypotheticalSize) (maxL := 4) (ret := (some .int)) (hh := [(0, 9, 12, 25)]) (by decide +kernel) rfl ?_
  intro p e s m args below meth c s₁ B hml hv
  obtain ⟨rfl, hv⟩ := hv
  have hts := atoms_spec (ws := .codeWith yL_hypotheticalSize cL_hypotheticalSize 4 (some .int) [(0, 9, 12, 25)] :: fx_U) B.pre
  have htab := vx_table (x := yL_hypotheticalSize) B (hts _ List.mem_cons_self)
  obtain ⟨C, hH⟩ := fx_body (own := RL) B hml rfl (fun w hw => hts w (List.mem_cons_of_mem _ hw)) hG hv
  replace hts := fun w hw => hts w (List.mem_cons_of_mem _ hw)
  obtain ⟨hx, hb, hr, -, hown, -, hlocks, hsz, hK, -, hSt⟩ := id C
  have hl := lv_entry ([.ref (fx_a g 0), .int a1, .ref (fx_a g 9)]) (n := 4) (Nat.le_of_ble_eq_true rfl)
  rw [lg_entry_eq]
  generalize (lg_sl ([.ref (fx_a g 0), .int a1, .ref (fx_a g 9)]) ++ List.replicate (4 - (lg_sl ([.ref (fx_a g 0), .int a1, .ref (fx_a g 9)])).length) Slot.unset).toArray = ls at hl ⊢
  have hl : lv_has ls 4 [(0, .ref (fx_a g 0)), (1, .int a1), (2, .ref (fx_a g 9))] := hl
  obtain ⟨H, eH⟩ : ∃ H : Heap, H = s.heap := ⟨_, rfl⟩
  obtain ⟨locs, elocs⟩ : ∃ q : List Loc, q = [] := ⟨_, rfl⟩
  rw [← eH, ← elocs] at hH
  show W p l e rm_L_hypotheticalSize_0_9 s m _ below meth c s.heap [] 0 0 _ _
  rw [← eH, ← elocs]
  unfold wp_L_hypotheticalSize_0_9 at h
  refine lv_aload_n hx hb dL_hypotheticalSize_0 rfl (lv_at hl 2 rfl) ?_
  refine lv_iconst (v := 0) hx hb dL_hypotheticalSize_1 (by decide) ?_
  refine lv_aload_n hx hb dL_hypotheticalSize_2 rfl (lv_at hl 0 rfl) ?_
  refine lv_iload_n hx hb dL_hypotheticalSize_3 rfl (lv_at hl 1 rfl) ?_
  refine fx_xcat (mc := 1) (ms := 6) hH (fx_xrunV (As := [.int a1]) (rest := [.int 0, .ref (fx_a g 9)]) C hH (c_X6_hypotheticalSize_0 l C.2.2.2.2.2.2.2.2.2.1 hfl a1 M _ _ h) (fx_cwV 1 hts u_683 u_684 u_685 u_1 u_686 rfl rfl (by decide +kernel) ⟨(Nat.le_of_ble_eq_true rfl), (Nat.le_of_ble_eq_true rfl)⟩) (fx_w0 g M) rfl rfl hl.1 rfl (Nat.le_of_ble_eq_true rfl) dL_hypotheticalSize_4 ⟨(Nat.le_of_ble_eq_true rfl), (Nat.le_of_ble_eq_true rfl)⟩) (fun E M9 q9 ce H locs h hH hce hcv hcl => ?_) (fun r2 M1 H locs h hH => ?_)
  · rcases h with ⟨rfl, h⟩
    · refine vx_catch hown [] (⟨0, 9, 12, 25⟩ : ExceptionTableEntry) [] (htab.trans rfl) (fun z hz => absurd hz List.not_mem_nil) (by decide) (by decide) (hts _ u_498) (va_Nw.use rfl (hSt.2.2.2.2.2.2.2.1 _ (by decide +kernel))) hce hcv hcl ?_
      refine lv_astore_n (lv' := ((3, .ref q9) :: [(0, .ref (fx_a g 0)), (1, .int a1), (2, .ref (fx_a g 9))])) hx hb dL_hypotheticalSize_12 rfl hl (by decide) rfl (fun ls hl => ?_)
      refine lv_iconst (v := 1) hx hb dL_hypotheticalSize_13 (by decide) ?_
      exact fx_iret C hH h dL_hypotheticalSize_14
  · refine lv_i2l hx hb dL_hypotheticalSize_7 rfl ?_
    refine fx_last (j := 0) (M' := fx_sl M1 9 0 r2.toInt64) C hH 9 (by decide) (fx_w9 g M1) (fx_p9 g M1 _ _) (by unfold vp_in; decide) dL_hypotheticalSize_8 (fun H locs hH => ?_)
    generalize eM3 : fx_sl M1 9 0 r2.toInt64 = M3 at hH
    replace h := h M3 eM3.symm
    refine lv_goto (tgt := 15) hx hb dL_hypotheticalSize_9 (by decide) ?_
    refine lv_iconst (v := 0) hx hb dL_hypotheticalSize_15 (by decide) ?_
    exact fx_iret C hH h dL_hypotheticalSize_16
/-! the law: box -/
def rm_L_box_0_9 : Room := { frames := 8, cells := 2, slots := 12, locals := 171 }
def wp_L_box_0_9 (a1 : Int32) (a2 : Int32) (M : fx_Mem) (Q : Int32 → fx_Mem → Prop) : Prop :=
  wp_X6_box_0 a1 a2 M (fun r2 M1 => ∀ M3 : fx_Mem, M3 = fx_sl M1 9 0 r2.toInt64 → Q 0 M3) (fun E M9 => (E = "java/lang/IndexOutOfBoundsException" ∧ Q 1 M9))
set_option maxHeartbeats 4000000 in
set_option maxRecDepth 100000 in
theorem c_L_box_0_9 (l : Launch) {g : fx_Geo} (hG : fx_Gd g) (hfl : l.stackTraces = false) (a1 : Int32) (a2 : Int32) (M : fx_Mem) (Q : Int32 → fx_Mem → Prop) (h : wp_L_box_0_9 a1 a2 M Q) : Met l yL_box (.codeWith yL_box cL_box 5 (some .int) [(0, 10, 13, 25)] :: fx_U) rm_L_box_0_9 (va_Pc [.ref (fx_a g 0), .int a1, .int a2, .ref (fx_a g 9)] (fx_At g M)) (va_Qi Q (fx_Pw g) (fx_A g)) 2 12 (fx_A g) := by
  refine va_MetW (cc := cL_box) (maxL := 5) (ret := (some .int)) (hh := [(0, 10, 13, 25)]) (by decide +kernel) rfl ?_
  intro p e s m args below meth c s₁ B hml hv
  obtain ⟨rfl, hv⟩ := hv
  have hts := atoms_spec (ws := .codeWith yL_box cL_box 5 (some .int) [(0, 10, 13, 25)] :: fx_U) B.pre
  have htab := vx_table (x := yL_box) B (hts _ List.mem_cons_self)
  obtain ⟨C, hH⟩ := fx_body (own := RL) B hml rfl (fun w hw => hts w (List.mem_cons_of_mem _ hw)) hG hv
  replace hts := fun w hw => hts w (List.mem_cons_of_mem _ hw)
  obtain ⟨hx, hb, hr, -, hown, -, hlocks, hsz, hK, -, hSt⟩ := id C
  have hl := lv_entry ([.ref (fx_a g 0), .int a1, .int a2, .ref (fx_a g 9)]) (n := 5) (Nat.le_of_ble_eq_true rfl)
  rw [lg_entry_eq]
  generalize (lg_sl ([.ref (fx_a g 0), .int a1, .int a2, .ref (fx_a g 9)]) ++ List.replicate (5 - (lg_sl ([.ref (fx_a g 0), .int a1, .int a2, .ref (fx_a g 9)])).length) Slot.unset).toArray = ls at hl ⊢
  have hl : lv_has ls 5 [(0, .ref (fx_a g 0)), (1, .int a1), (2, .int a2), (3, .ref (fx_a g 9))] := hl
  obtain ⟨H, eH⟩ : ∃ H : Heap, H = s.heap := ⟨_, rfl⟩
  obtain ⟨locs, elocs⟩ : ∃ q : List Loc, q = [] := ⟨_, rfl⟩
  rw [← eH, ← elocs] at hH
  show W p l e rm_L_box_0_9 s m _ below meth c s.heap [] 0 0 _ _
  rw [← eH, ← elocs]
  unfold wp_L_box_0_9 at h
  refine lv_aload_n hx hb dL_box_0 rfl (lv_at hl 3 rfl) ?_
  refine lv_iconst (v := 0) hx hb dL_box_1 (by decide) ?_
  refine lv_aload_n hx hb dL_box_2 rfl (lv_at hl 0 rfl) ?_
  refine lv_iload_n hx hb dL_box_3 rfl (lv_at hl 1 rfl) ?_
  refine lv_iload_n hx hb dL_box_4 rfl (lv_at hl 2 rfl) ?_
  refine fx_xcat (mc := 2) (ms := 12) hH (fx_xrunV (As := [.int a1, .int a2]) (rest := [.int 0, .ref (fx_a g 9)]) C hH (c_X6_box_0 l C.2.2.2.2.2.2.2.2.2.1 hfl a1 a2 M _ _ h) (fx_cwV 2 hts u_691 u_692 u_693 u_1 u_694 rfl rfl (by decide +kernel) ⟨(Nat.le_of_ble_eq_true rfl), (Nat.le_of_ble_eq_true rfl)⟩) (fx_w0 g M) rfl rfl hl.1 rfl (Nat.le_of_ble_eq_true rfl) dL_box_5 ⟨(Nat.le_of_ble_eq_true rfl), (Nat.le_of_ble_eq_true rfl)⟩) (fun E M9 q9 ce H locs h hH hce hcv hcl => ?_) (fun r2 M1 H locs h hH => ?_)
  · rcases h with ⟨rfl, h⟩
    · refine vx_catch hown [] (⟨0, 10, 13, 25⟩ : ExceptionTableEntry) [] (htab.trans rfl) (fun z hz => absurd hz List.not_mem_nil) (by decide) (by decide) (hts _ u_498) (va_Nw.use rfl (hSt.2.2.2.2.2.2.2.1 _ (by decide +kernel))) hce hcv hcl ?_
      refine lv_astore (lv' := ((4, .ref q9) :: [(0, .ref (fx_a g 0)), (1, .int a1), (2, .int a2), (3, .ref (fx_a g 9))])) hx hb dL_box_13 hl (by decide) rfl (fun ls hl => ?_)
      refine lv_iconst (v := 1) hx hb dL_box_15 (by decide) ?_
      exact fx_iret C hH h dL_box_16
  · refine lv_i2l hx hb dL_box_8 rfl ?_
    refine fx_last (j := 0) (M' := fx_sl M1 9 0 r2.toInt64) C hH 9 (by decide) (fx_w9 g M1) (fx_p9 g M1 _ _) (by unfold vp_in; decide) dL_box_9 (fun H locs hH => ?_)
    generalize eM3 : fx_sl M1 9 0 r2.toInt64 = M3 at hH
    replace h := h M3 eM3.symm
    refine lv_goto (tgt := 17) hx hb dL_box_10 (by decide) ?_
    refine lv_iconst (v := 0) hx hb dL_box_17 (by decide) ?_
    exact fx_iret C hH h dL_box_18
/-! the law: rounds -/
def rm_L_rounds_0_9 : Room := { frames := 8, cells := 1, slots := 6, locals := 148 }
def wp_L_rounds_0_9 (a1 : Int32) (M : fx_Mem) (Q : Int32 → fx_Mem → Prop) : Prop :=
  wp_X6_rounds_0 a1 M (fun r2 M1 => ∀ M3 : fx_Mem, M3 = fx_sl M1 9 0 r2.toInt64 → Q 0 M3) (fun E M9 => (E = "java/lang/IndexOutOfBoundsException" ∧ Q 1 M9))
set_option maxHeartbeats 4000000 in
set_option maxRecDepth 100000 in
theorem c_L_rounds_0_9 (l : Launch) {g : fx_Geo} (hG : fx_Gd g) (hfl : l.stackTraces = false) (a1 : Int32) (M : fx_Mem) (Q : Int32 → fx_Mem → Prop) (h : wp_L_rounds_0_9 a1 M Q) : Met l yL_rounds (.codeWith yL_rounds cL_rounds 4 (some .int) [(0, 9, 12, 25)] :: fx_U) rm_L_rounds_0_9 (va_Pc [.ref (fx_a g 0), .int a1, .ref (fx_a g 9)] (fx_At g M)) (va_Qi Q (fx_Pw g) (fx_A g)) 1 6 (fx_A g) := by
  refine va_MetW (cc := cL_rounds) (maxL := 4) (ret := (some .int)) (hh := [(0, 9, 12, 25)]) (by decide +kernel) rfl ?_
  intro p e s m args below meth c s₁ B hml hv
  obtain ⟨rfl, hv⟩ := hv
  have hts := atoms_spec (ws := .codeWith yL_rounds cL_rounds 4 (some .int) [(0, 9, 12, 25)] :: fx_U) B.pre
  have htab := vx_table (x := yL_rounds) B (hts _ List.mem_cons_self)
  obtain ⟨C, hH⟩ := fx_body (own := RL) B hml rfl (fun w hw => hts w (List.mem_cons_of_mem _ hw)) hG hv
  replace hts := fun w hw => hts w (List.mem_cons_of_mem _ hw)
  obtain ⟨hx, hb, hr, -, hown, -, hlocks, hsz, hK, -, hSt⟩ := id C
  have hl := lv_entry ([.ref (fx_a g 0), .int a1, .ref (fx_a g 9)]) (n := 4) (Nat.le_of_ble_eq_true rfl)
  rw [lg_entry_eq]
  generalize (lg_sl ([.ref (fx_a g 0), .int a1, .ref (fx_a g 9)]) ++ List.replicate (4 - (lg_sl ([.ref (fx_a g 0), .int a1, .ref (fx_a g 9)])).length) Slot.unset).toArray = ls at hl ⊢
  have hl : lv_has ls 4 [(0, .ref (fx_a g 0)), (1, .int a1), (2, .ref (fx_a g 9))] := hl
  obtain ⟨H, eH⟩ : ∃ H : Heap, H = s.heap := ⟨_, rfl⟩
  obtain ⟨locs, elocs⟩ : ∃ q : List Loc, q = [] := ⟨_, rfl⟩
  rw [← eH, ← elocs] at hH
  show W p l e rm_L_rounds_0_9 s m _ below meth c s.heap [] 0 0 _ _
  rw [← eH, ← elocs]
  unfold wp_L_rounds_0_9 at h
  refine lv_aload_n hx hb dL_rounds_0 rfl (lv_at hl 2 rfl) ?_
  refine lv_iconst (v := 0) hx hb dL_rounds_1 (by decide) ?_
  refine lv_aload_n hx hb dL_rounds_2 rfl (lv_at hl 0 rfl) ?_
  refine lv_iload_n hx hb dL_rounds_3 rfl (lv_at hl 1 rfl) ?_
  refine fx_xcat (mc := 1) (ms := 6) hH (fx_xrunV (As := [.int a1]) (rest := [.int 0, .ref (fx_a g 9)]) C hH (c_X6_rounds_0 l C.2.2.2.2.2.2.2.2.2.1 hfl a1 M _ _ h) (fx_cwV 1 hts u_703 u_704 u_705 u_1 u_706 rfl rfl (by decide +kernel) ⟨(Nat.le_of_ble_eq_true rfl), (Nat.le_of_ble_eq_true rfl)⟩) (fx_w0 g M) rfl rfl hl.1 rfl (Nat.le_of_ble_eq_true rfl) dL_rounds_4 ⟨(Nat.le_of_ble_eq_true rfl), (Nat.le_of_ble_eq_true rfl)⟩) (fun E M9 q9 ce H locs h hH hce hcv hcl => ?_) (fun r2 M1 H locs h hH => ?_)
  · rcases h with ⟨rfl, h⟩
    · refine vx_catch hown [] (⟨0, 9, 12, 25⟩ : ExceptionTableEntry) [] (htab.trans rfl) (fun z hz => absurd hz List.not_mem_nil) (by decide) (by decide) (hts _ u_498) (va_Nw.use rfl (hSt.2.2.2.2.2.2.2.1 _ (by decide +kernel))) hce hcv hcl ?_
      refine lv_astore_n (lv' := ((3, .ref q9) :: [(0, .ref (fx_a g 0)), (1, .int a1), (2, .ref (fx_a g 9))])) hx hb dL_rounds_12 rfl hl (by decide) rfl (fun ls hl => ?_)
      refine lv_iconst (v := 1) hx hb dL_rounds_13 (by decide) ?_
      exact fx_iret C hH h dL_rounds_14
  · refine lv_i2l hx hb dL_rounds_7 rfl ?_
    refine fx_last (j := 0) (M' := fx_sl M1 9 0 r2.toInt64) C hH 9 (by decide) (fx_w9 g M1) (fx_p9 g M1 _ _) (by unfold vp_in; decide) dL_rounds_8 (fun H locs hH => ?_)
    generalize eM3 : fx_sl M1 9 0 r2.toInt64 = M3 at hH
    replace h := h M3 eM3.symm
    refine lv_goto (tgt := 15) hx hb dL_rounds_9 (by decide) ?_
    refine lv_iconst (v := 0) hx hb dL_rounds_15 (by decide) ?_
    exact fx_iret C hH h dL_rounds_16
/-! the law: freeSpace -/
def rm_L_freeSpace_0_9 : Room := { frames := 8, cells := 1, slots := 6, locals := 148 }
def wp_L_freeSpace_0_9 (a1 : Int32) (M : fx_Mem) (Q : Int32 → fx_Mem → Prop) : Prop :=
  wp_X6_freeSpace_0 a1 M (fun r2 M1 => ∀ M3 : fx_Mem, M3 = fx_sl M1 9 0 r2.toInt64 → Q 0 M3) (fun E M9 => (E = "java/lang/IndexOutOfBoundsException" ∧ Q 1 M9))
set_option maxHeartbeats 4000000 in
set_option maxRecDepth 100000 in
theorem c_L_freeSpace_0_9 (l : Launch) {g : fx_Geo} (hG : fx_Gd g) (hfl : l.stackTraces = false) (a1 : Int32) (M : fx_Mem) (Q : Int32 → fx_Mem → Prop) (h : wp_L_freeSpace_0_9 a1 M Q) : Met l yL_freeSpace (.codeWith yL_freeSpace cL_freeSpace 4 (some .int) [(0, 9, 12, 25)] :: fx_U) rm_L_freeSpace_0_9 (va_Pc [.ref (fx_a g 0), .int a1, .ref (fx_a g 9)] (fx_At g M)) (va_Qi Q (fx_Pw g) (fx_A g)) 1 6 (fx_A g) := by
  refine va_MetW (cc := cL_freeSpace) (maxL := 4) (ret := (some .int)) (hh := [(0, 9, 12, 25)]) (by decide +kernel) rfl ?_
  intro p e s m args below meth c s₁ B hml hv
  obtain ⟨rfl, hv⟩ := hv
  have hts := atoms_spec (ws := .codeWith yL_freeSpace cL_freeSpace 4 (some .int) [(0, 9, 12, 25)] :: fx_U) B.pre
  have htab := vx_table (x := yL_freeSpace) B (hts _ List.mem_cons_self)
  obtain ⟨C, hH⟩ := fx_body (own := RL) B hml rfl (fun w hw => hts w (List.mem_cons_of_mem _ hw)) hG hv
  replace hts := fun w hw => hts w (List.mem_cons_of_mem _ hw)
  obtain ⟨hx, hb, hr, -, hown, -, hlocks, hsz, hK, -, hSt⟩ := id C
  have hl := lv_entry ([.ref (fx_a g 0), .int a1, .ref (fx_a g 9)]) (n := 4) (Nat.le_of_ble_eq_true rfl)
  rw [lg_entry_eq]
  generalize (lg_sl ([.ref (fx_a g 0), .int a1, .ref (fx_a g 9)]) ++ List.replicate (4 - (lg_sl ([.ref (fx_a g 0), .int a1, .ref (fx_a g 9)])).length) Slot.unset).toArray = ls at hl ⊢
  have hl : lv_has ls 4 [(0, .ref (fx_a g 0)), (1, .int a1), (2, .ref (fx_a g 9))] := hl
  obtain ⟨H, eH⟩ : ∃ H : Heap, H = s.heap := ⟨_, rfl⟩
  obtain ⟨locs, elocs⟩ : ∃ q : List Loc, q = [] := ⟨_, rfl⟩
  rw [← eH, ← elocs] at hH
  show W p l e rm_L_freeSpace_0_9 s m _ below meth c s.heap [] 0 0 _ _
  rw [← eH, ← elocs]
  unfold wp_L_freeSpace_0_9 at h
  refine lv_aload_n hx hb dL_freeSpace_0 rfl (lv_at hl 2 rfl) ?_
  refine lv_iconst (v := 0) hx hb dL_freeSpace_1 (by decide) ?_
  refine lv_aload_n hx hb dL_freeSpace_2 rfl (lv_at hl 0 rfl) ?_
  refine lv_iload_n hx hb dL_freeSpace_3 rfl (lv_at hl 1 rfl) ?_
  refine fx_xcat (mc := 1) (ms := 6) hH (fx_xrunV (As := [.int a1]) (rest := [.int 0, .ref (fx_a g 9)]) C hH (c_X6_freeSpace_0 l C.2.2.2.2.2.2.2.2.2.1 hfl a1 M _ _ h) (fx_cwV 1 hts u_715 u_716 u_717 u_1 u_718 rfl rfl (by decide +kernel) ⟨(Nat.le_of_ble_eq_true rfl), (Nat.le_of_ble_eq_true rfl)⟩) (fx_w0 g M) rfl rfl hl.1 rfl (Nat.le_of_ble_eq_true rfl) dL_freeSpace_4 ⟨(Nat.le_of_ble_eq_true rfl), (Nat.le_of_ble_eq_true rfl)⟩) (fun E M9 q9 ce H locs h hH hce hcv hcl => ?_) (fun r2 M1 H locs h hH => ?_)
  · rcases h with ⟨rfl, h⟩
    · refine vx_catch hown [] (⟨0, 9, 12, 25⟩ : ExceptionTableEntry) [] (htab.trans rfl) (fun z hz => absurd hz List.not_mem_nil) (by decide) (by decide) (hts _ u_498) (va_Nw.use rfl (hSt.2.2.2.2.2.2.2.1 _ (by decide +kernel))) hce hcv hcl ?_
      refine lv_astore_n (lv' := ((3, .ref q9) :: [(0, .ref (fx_a g 0)), (1, .int a1), (2, .ref (fx_a g 9))])) hx hb dL_freeSpace_12 rfl hl (by decide) rfl (fun ls hl => ?_)
      refine lv_iconst (v := 1) hx hb dL_freeSpace_13 (by decide) ?_
      exact fx_iret C hH h dL_freeSpace_14
  · refine lv_i2l hx hb dL_freeSpace_7 rfl ?_
    refine fx_last (j := 0) (M' := fx_sl M1 9 0 r2.toInt64) C hH 9 (by decide) (fx_w9 g M1) (fx_p9 g M1 _ _) (by unfold vp_in; decide) dL_freeSpace_8 (fun H locs hH => ?_)
    generalize eM3 : fx_sl M1 9 0 r2.toInt64 = M3 at hH
    replace h := h M3 eM3.symm
    refine lv_goto (tgt := 15) hx hb dL_freeSpace_9 (by decide) ?_
    refine lv_iconst (v := 0) hx hb dL_freeSpace_15 (by decide) ?_
    exact fx_iret C hH h dL_freeSpace_16
/-! the law: lineCross -/
def rm_L_lineCross_0_9 : Room := { frames := 8, cells := 1, slots := 6, locals := 148 }
def wp_L_lineCross_0_9 (a1 : Int32) (M : fx_Mem) (Q : Int32 → fx_Mem → Prop) : Prop :=
  wp_X6_lineCross_0 a1 M (fun r2 M1 => ∀ M3 : fx_Mem, M3 = fx_sl M1 9 0 r2.toInt64 → Q 0 M3) (fun E M9 => (E = "java/lang/IndexOutOfBoundsException" ∧ Q 1 M9))
set_option maxHeartbeats 4000000 in
set_option maxRecDepth 100000 in
theorem c_L_lineCross_0_9 (l : Launch) {g : fx_Geo} (hG : fx_Gd g) (hfl : l.stackTraces = false) (a1 : Int32) (M : fx_Mem) (Q : Int32 → fx_Mem → Prop) (h : wp_L_lineCross_0_9 a1 M Q) : Met l yL_lineCross (.codeWith yL_lineCross cL_lineCross 4 (some .int) [(0, 9, 12, 25)] :: fx_U) rm_L_lineCross_0_9 (va_Pc [.ref (fx_a g 0), .int a1, .ref (fx_a g 9)] (fx_At g M)) (va_Qi Q (fx_Pw g) (fx_A g)) 1 6 (fx_A g) := by
  refine va_MetW (cc := cL_lineCross) (maxL := 4) (ret := (some .int)) (hh := [(0, 9, 12, 25)]) (by decide +kernel) rfl ?_
  intro p e s m args below meth c s₁ B hml hv
  obtain ⟨rfl, hv⟩ := hv
  have hts := atoms_spec (ws := .codeWith yL_lineCross cL_lineCross 4 (some .int) [(0, 9, 12, 25)] :: fx_U) B.pre
  have htab := vx_table (x := yL_lineCross) B (hts _ List.mem_cons_self)
  obtain ⟨C, hH⟩ := fx_body (own := RL) B hml rfl (fun w hw => hts w (List.mem_cons_of_mem _ hw)) hG hv
  replace hts := fun w hw => hts w (List.mem_cons_of_mem _ hw)
  obtain ⟨hx, hb, hr, -, hown, -, hlocks, hsz, hK, -, hSt⟩ := id C
  have hl := lv_entry ([.ref (fx_a g 0), .int a1, .ref (fx_a g 9)]) (n := 4) (Nat.le_of_ble_eq_true rfl)
  rw [lg_entry_eq]
  generalize (lg_sl ([.ref (fx_a g 0), .int a1, .ref (fx_a g 9)]) ++ List.replicate (4 - (lg_sl ([.ref (fx_a g 0), .int a1, .ref (fx_a g 9)])).length) Slot.unset).toArray = ls at hl ⊢
  have hl : lv_has ls 4 [(0, .ref (fx_a g 0)), (1, .int a1), (2, .ref (fx_a g 9))] := hl
  obtain ⟨H, eH⟩ : ∃ H : Heap, H = s.heap := ⟨_, rfl⟩
  obtain ⟨locs, elocs⟩ : ∃ q : List Loc, q = [] := ⟨_, rfl⟩
  rw [← eH, ← elocs] at hH
  show W p l e rm_L_lineCross_0_9 s m _ below meth c s.heap [] 0 0 _ _
  rw [← eH, ← elocs]
  unfold wp_L_lineCross_0_9 at h
  refine lv_aload_n hx hb dL_lineCross_0 rfl (lv_at hl 2 rfl) ?_
  refine lv_iconst (v := 0) hx hb dL_lineCross_1 (by decide) ?_
  refine lv_aload_n hx hb dL_lineCross_2 rfl (lv_at hl 0 rfl) ?_
  refine lv_iload_n hx hb dL_lineCross_3 rfl (lv_at hl 1 rfl) ?_
  refine fx_xcat (mc := 1) (ms := 6) hH (fx_xrunV (As := [.int a1]) (rest := [.int 0, .ref (fx_a g 9)]) C hH (c_X6_lineCross_0 l C.2.2.2.2.2.2.2.2.2.1 hfl a1 M _ _ h) (fx_cwV 1 hts u_722 u_723 u_724 u_1 u_725 rfl rfl (by decide +kernel) ⟨(Nat.le_of_ble_eq_true rfl), (Nat.le_of_ble_eq_true rfl)⟩) (fx_w0 g M) rfl rfl hl.1 rfl (Nat.le_of_ble_eq_true rfl) dL_lineCross_4 ⟨(Nat.le_of_ble_eq_true rfl), (Nat.le_of_ble_eq_true rfl)⟩) (fun E M9 q9 ce H locs h hH hce hcv hcl => ?_) (fun r2 M1 H locs h hH => ?_)
  · rcases h with ⟨rfl, h⟩
    · refine vx_catch hown [] (⟨0, 9, 12, 25⟩ : ExceptionTableEntry) [] (htab.trans rfl) (fun z hz => absurd hz List.not_mem_nil) (by decide) (by decide) (hts _ u_498) (va_Nw.use rfl (hSt.2.2.2.2.2.2.2.1 _ (by decide +kernel))) hce hcv hcl ?_
      refine lv_astore_n (lv' := ((3, .ref q9) :: [(0, .ref (fx_a g 0)), (1, .int a1), (2, .ref (fx_a g 9))])) hx hb dL_lineCross_12 rfl hl (by decide) rfl (fun ls hl => ?_)
      refine lv_iconst (v := 1) hx hb dL_lineCross_13 (by decide) ?_
      exact fx_iret C hH h dL_lineCross_14
  · refine lv_i2l hx hb dL_lineCross_7 rfl ?_
    refine fx_last (j := 0) (M' := fx_sl M1 9 0 r2.toInt64) C hH 9 (by decide) (fx_w9 g M1) (fx_p9 g M1 _ _) (by unfold vp_in; decide) dL_lineCross_8 (fun H locs hH => ?_)
    generalize eM3 : fx_sl M1 9 0 r2.toInt64 = M3 at hH
    replace h := h M3 eM3.symm
    refine lv_goto (tgt := 15) hx hb dL_lineCross_9 (by decide) ?_
    refine lv_iconst (v := 0) hx hb dL_lineCross_15 (by decide) ?_
    exact fx_iret C hH h dL_lineCross_16
/-! the law: lineAscent -/
def rm_L_lineAscent_0_9 : Room := { frames := 8, cells := 1, slots := 6, locals := 148 }
def wp_L_lineAscent_0_9 (a1 : Int32) (M : fx_Mem) (Q : Int32 → fx_Mem → Prop) : Prop :=
  wp_X6_lineAscent_0 a1 M (fun r2 M1 => ∀ M3 : fx_Mem, M3 = fx_sl M1 9 0 r2.toInt64 → Q 0 M3) (fun E M9 => (E = "java/lang/IndexOutOfBoundsException" ∧ Q 1 M9))
set_option maxHeartbeats 4000000 in
set_option maxRecDepth 100000 in
theorem c_L_lineAscent_0_9 (l : Launch) {g : fx_Geo} (hG : fx_Gd g) (hfl : l.stackTraces = false) (a1 : Int32) (M : fx_Mem) (Q : Int32 → fx_Mem → Prop) (h : wp_L_lineAscent_0_9 a1 M Q) : Met l yL_lineAscent (.codeWith yL_lineAscent cL_lineAscent 4 (some .int) [(0, 9, 12, 25)] :: fx_U) rm_L_lineAscent_0_9 (va_Pc [.ref (fx_a g 0), .int a1, .ref (fx_a g 9)] (fx_At g M)) (va_Qi Q (fx_Pw g) (fx_A g)) 1 6 (fx_A g) := by
  refine va_MetW (cc := cL_lineAscent) (maxL := 4) (ret := (some .int)) (hh := [(0, 9, 12, 25)]) (by decide +kernel) rfl ?_
  intro p e s m args below meth c s₁ B hml hv
  obtain ⟨rfl, hv⟩ := hv
  have hts := atoms_spec (ws := .codeWith yL_lineAscent cL_lineAscent 4 (some .int) [(0, 9, 12, 25)] :: fx_U) B.pre
  have htab := vx_table (x := yL_lineAscent) B (hts _ List.mem_cons_self)
  obtain ⟨C, hH⟩ := fx_body (own := RL) B hml rfl (fun w hw => hts w (List.mem_cons_of_mem _ hw)) hG hv
  replace hts := fun w hw => hts w (List.mem_cons_of_mem _ hw)
  obtain ⟨hx, hb, hr, -, hown, -, hlocks, hsz, hK, -, hSt⟩ := id C
  have hl := lv_entry ([.ref (fx_a g 0), .int a1, .ref (fx_a g 9)]) (n := 4) (Nat.le_of_ble_eq_true rfl)
  rw [lg_entry_eq]
  generalize (lg_sl ([.ref (fx_a g 0), .int a1, .ref (fx_a g 9)]) ++ List.replicate (4 - (lg_sl ([.ref (fx_a g 0), .int a1, .ref (fx_a g 9)])).length) Slot.unset).toArray = ls at hl ⊢
  have hl : lv_has ls 4 [(0, .ref (fx_a g 0)), (1, .int a1), (2, .ref (fx_a g 9))] := hl
  obtain ⟨H, eH⟩ : ∃ H : Heap, H = s.heap := ⟨_, rfl⟩
  obtain ⟨locs, elocs⟩ : ∃ q : List Loc, q = [] := ⟨_, rfl⟩
  rw [← eH, ← elocs] at hH
  show W p l e rm_L_lineAscent_0_9 s m _ below meth c s.heap [] 0 0 _ _
  rw [← eH, ← elocs]
  unfold wp_L_lineAscent_0_9 at h
  refine lv_aload_n hx hb dL_lineAscent_0 rfl (lv_at hl 2 rfl) ?_
  refine lv_iconst (v := 0) hx hb dL_lineAscent_1 (by decide) ?_
  refine lv_aload_n hx hb dL_lineAscent_2 rfl (lv_at hl 0 rfl) ?_
  refine lv_iload_n hx hb dL_lineAscent_3 rfl (lv_at hl 1 rfl) ?_
  refine fx_xcat (mc := 1) (ms := 6) hH (fx_xrunV (As := [.int a1]) (rest := [.int 0, .ref (fx_a g 9)]) C hH (c_X6_lineAscent_0 l C.2.2.2.2.2.2.2.2.2.1 hfl a1 M _ _ h) (fx_cwV 1 hts u_729 u_730 u_731 u_1 u_732 rfl rfl (by decide +kernel) ⟨(Nat.le_of_ble_eq_true rfl), (Nat.le_of_ble_eq_true rfl)⟩) (fx_w0 g M) rfl rfl hl.1 rfl (Nat.le_of_ble_eq_true rfl) dL_lineAscent_4 ⟨(Nat.le_of_ble_eq_true rfl), (Nat.le_of_ble_eq_true rfl)⟩) (fun E M9 q9 ce H locs h hH hce hcv hcl => ?_) (fun r2 M1 H locs h hH => ?_)
  · rcases h with ⟨rfl, h⟩
    · refine vx_catch hown [] (⟨0, 9, 12, 25⟩ : ExceptionTableEntry) [] (htab.trans rfl) (fun z hz => absurd hz List.not_mem_nil) (by decide) (by decide) (hts _ u_498) (va_Nw.use rfl (hSt.2.2.2.2.2.2.2.1 _ (by decide +kernel))) hce hcv hcl ?_
      refine lv_astore_n (lv' := ((3, .ref q9) :: [(0, .ref (fx_a g 0)), (1, .int a1), (2, .ref (fx_a g 9))])) hx hb dL_lineAscent_12 rfl hl (by decide) rfl (fun ls hl => ?_)
      refine lv_iconst (v := 1) hx hb dL_lineAscent_13 (by decide) ?_
      exact fx_iret C hH h dL_lineAscent_14
  · refine lv_i2l hx hb dL_lineAscent_7 rfl ?_
    refine fx_last (j := 0) (M' := fx_sl M1 9 0 r2.toInt64) C hH 9 (by decide) (fx_w9 g M1) (fx_p9 g M1 _ _) (by unfold vp_in; decide) dL_lineAscent_8 (fun H locs hH => ?_)
    generalize eM3 : fx_sl M1 9 0 r2.toInt64 = M3 at hH
    replace h := h M3 eM3.symm
    refine lv_goto (tgt := 15) hx hb dL_lineAscent_9 (by decide) ?_
    refine lv_iconst (v := 0) hx hb dL_lineAscent_15 (by decide) ?_
    exact fx_iret C hH h dL_lineAscent_16
/-! the law: overflows -/
def rm_L_overflows_0_9 : Room := { frames := 8, cells := 1, slots := 6, locals := 170 }
def wb_L_overflows_0_9_15 (Q : Int32 → fx_Mem → Prop) (s0 : Int64) (s1 : Int32) (M : fx_Mem) : Prop :=
  vp_in s1 1 ∧ ∀ M2 : fx_Mem, M2 = fx_sl M 9 s1.toNatClampNeg s0 → Q 0 M2
set_option maxHeartbeats 4000000 in
set_option maxRecDepth 100000 in
theorem tb_L_overflows_0_9_15 {g : fx_Geo} {p : Program} {l : Launch} {e : Env} {s : State} {m : MethodId} {args : Array Value} {below : List Frame} {meth : Method} {c : Code} (C : fx_Cx g p s m args meth c RL cL_overflows 4 (some .int)) (Q : Int32 → fx_Mem → Prop) (s0 : Int64) (s1 : Int32) (M : fx_Mem) (h : wb_L_overflows_0_9_15 Q s0 s1 M) (H : Heap) (locs : List Loc) (ls : Array Slot) (hH : fx_H g s M H locs) (hl : lv_has ls 4 []) : W p l e rm_L_overflows_0_9 s m args below meth c H locs 1 6 (MQ below (va_Qi Q (fx_Pw g) (fx_A g)) args s 1 6 (fx_A g)) (F0 m 15 ls [.long s0, .int s1, .ref (fx_a g 9)]) := by
  obtain ⟨hx, hb, hr, hml, hown, hts, hlocks, hsz, hK, hG, hSt⟩ := id C
  unfold wb_L_overflows_0_9_15 at h
  obtain ⟨hi1, h⟩ := h
  refine fx_last (j := s1.toNatClampNeg) (M' := fx_sl M 9 s1.toNatClampNeg s0) C hH 9 rfl (fx_w9 g M) (fx_p9 g M _ _) hi1 dL_overflows_15 (fun H locs hH => ?_)
  generalize eM2 : fx_sl M 9 s1.toNatClampNeg s0 = M2 at hH
  replace h := h M2 eM2.symm
  refine lv_goto (tgt := 22) hx hb dL_overflows_16 (by decide) ?_
  refine lv_iconst (v := 0) hx hb dL_overflows_22 (by decide) ?_
  exact fx_iret C hH h dL_overflows_23
def wp_L_overflows_0_9 (a1 : Int32) (M : fx_Mem) (Q : Int32 → fx_Mem → Prop) : Prop :=
  wp_X6_overflows_0 a1 M (fun r2 M1 => ((r2 = 0 → wb_L_overflows_0_9_15 Q 0 0 M1) ∧ (¬ r2 = 0 → wb_L_overflows_0_9_15 Q 1 0 M1))) (fun E M9 => (E = "java/lang/IndexOutOfBoundsException" ∧ Q 1 M9))
set_option maxHeartbeats 4000000 in
set_option maxRecDepth 100000 in
theorem c_L_overflows_0_9 (l : Launch) {g : fx_Geo} (hG : fx_Gd g) (hfl : l.stackTraces = false) (a1 : Int32) (M : fx_Mem) (Q : Int32 → fx_Mem → Prop) (h : wp_L_overflows_0_9 a1 M Q) : Met l yL_overflows (.codeWith yL_overflows cL_overflows 4 (some .int) [(0, 16, 19, 25)] :: fx_U) rm_L_overflows_0_9 (va_Pc [.ref (fx_a g 0), .int a1, .ref (fx_a g 9)] (fx_At g M)) (va_Qi Q (fx_Pw g) (fx_A g)) 1 6 (fx_A g) := by
  refine va_MetW (cc := cL_overflows) (maxL := 4) (ret := (some .int)) (hh := [(0, 16, 19, 25)]) (by decide +kernel) rfl ?_
  intro p e s m args below meth c s₁ B hml hv
  obtain ⟨rfl, hv⟩ := hv
  have hts := atoms_spec (ws := .codeWith yL_overflows cL_overflows 4 (some .int) [(0, 16, 19, 25)] :: fx_U) B.pre
  have htab := vx_table (x := yL_overflows) B (hts _ List.mem_cons_self)
  obtain ⟨C, hH⟩ := fx_body (own := RL) B hml rfl (fun w hw => hts w (List.mem_cons_of_mem _ hw)) hG hv
  replace hts := fun w hw => hts w (List.mem_cons_of_mem _ hw)
  obtain ⟨hx, hb, hr, -, hown, -, hlocks, hsz, hK, -, hSt⟩ := id C
  have hl := lv_entry ([.ref (fx_a g 0), .int a1, .ref (fx_a g 9)]) (n := 4) (Nat.le_of_ble_eq_true rfl)
  rw [lg_entry_eq]
  generalize (lg_sl ([.ref (fx_a g 0), .int a1, .ref (fx_a g 9)]) ++ List.replicate (4 - (lg_sl ([.ref (fx_a g 0), .int a1, .ref (fx_a g 9)])).length) Slot.unset).toArray = ls at hl ⊢
  have hl : lv_has ls 4 [(0, .ref (fx_a g 0)), (1, .int a1), (2, .ref (fx_a g 9))] := hl
  obtain ⟨H, eH⟩ : ∃ H : Heap, H = s.heap := ⟨_, rfl⟩
  obtain ⟨locs, elocs⟩ : ∃ q : List Loc, q = [] := ⟨_, rfl⟩
  rw [← eH, ← elocs] at hH
  show W p l e rm_L_overflows_0_9 s m _ below meth c s.heap [] 0 0 _ _
  rw [← eH, ← elocs]
  unfold wp_L_overflows_0_9 at h
  refine lv_aload_n hx hb dL_overflows_0 rfl (lv_at hl 2 rfl) ?_
  refine lv_iconst (v := 0) hx hb dL_overflows_1 (by decide) ?_
  refine lv_aload_n hx hb dL_overflows_2 rfl (lv_at hl 0 rfl) ?_
  refine lv_iload_n hx hb dL_overflows_3 rfl (lv_at hl 1 rfl) ?_
  refine fx_xcat (mc := 1) (ms := 6) hH (fx_xrunV (As := [.int a1]) (rest := [.int 0, .ref (fx_a g 9)]) C hH (c_X6_overflows_0 l C.2.2.2.2.2.2.2.2.2.1 hfl a1 M _ _ h) (fx_cwV 1 hts u_736 u_737 u_738 u_1 u_739 rfl rfl (by decide +kernel) ⟨(Nat.le_of_ble_eq_true rfl), (Nat.le_of_ble_eq_true rfl)⟩) (fx_w0 g M) rfl rfl hl.1 rfl (Nat.le_of_ble_eq_true rfl) dL_overflows_4 ⟨(Nat.le_of_ble_eq_true rfl), (Nat.le_of_ble_eq_true rfl)⟩) (fun E M9 q9 ce H locs h hH hce hcv hcl => ?_) (fun r2 M1 H locs h hH => ?_)
  · rcases h with ⟨rfl, h⟩
    · refine vx_catch hown [] (⟨0, 16, 19, 25⟩ : ExceptionTableEntry) [] (htab.trans rfl) (fun z hz => absurd hz List.not_mem_nil) (by decide) (by decide) (hts _ u_498) (va_Nw.use rfl (hSt.2.2.2.2.2.2.2.1 _ (by decide +kernel))) hce hcv hcl ?_
      refine lv_astore_n (lv' := ((3, .ref q9) :: [(0, .ref (fx_a g 0)), (1, .int a1), (2, .ref (fx_a g 9))])) hx hb dL_overflows_19 rfl hl (by decide) rfl (fun ls hl => ?_)
      refine lv_iconst (v := 1) hx hb dL_overflows_20 (by decide) ?_
      exact fx_iret C hH h dL_overflows_21
  · refine lv_if_eq (tgt := 14) hx hb dL_overflows_7 (by decide) (fun c3 => ?_) (fun c3 => ?_)
    · replace h := h.1 c3
      refine lv_lconst (v := 0) hx hb dL_overflows_14 (by decide) ?_
      exact tb_L_overflows_0_9_15 C Q  0 0 M1 h  H locs ls hH (lv_sub hl [] rfl)
    · replace h := h.2 c3
      refine lv_lconst (v := 1) hx hb dL_overflows_10 (by decide) ?_
      refine lv_goto (tgt := 15) hx hb dL_overflows_11 (by decide) ?_
      exact tb_L_overflows_0_9_15 C Q  1 0 M1 h  H locs ls hH (lv_sub hl [] rfl)
/-! the law: itemUnder -/
def rm_L_itemUnder_0_9 : Room := { frames := 7, cells := 1, slots := 6, locals := 173 }
def wp_L_itemUnder_0_9 (a1 : Int32) (a2 : Int32) (M : fx_Mem) (Q : Int32 → fx_Mem → Prop) : Prop :=
  wp_X6_itemUnder_0 a1 a2 M (fun r2 M1 => ∀ M3 : fx_Mem, M3 = fx_sl M1 9 0 r2.toInt64 → Q 0 M3) (fun E M9 => (E = "java/util/NoSuchElementException" ∧ Q 1 M9))
set_option maxHeartbeats 4000000 in
set_option maxRecDepth 100000 in
theorem c_L_itemUnder_0_9 (l : Launch) {g : fx_Geo} (hG : fx_Gd g) (hfl : l.stackTraces = false) (a1 : Int32) (a2 : Int32) (M : fx_Mem) (Q : Int32 → fx_Mem → Prop) (h : wp_L_itemUnder_0_9 a1 a2 M Q) : Met l yL_itemUnder (.codeWith yL_itemUnder cL_itemUnder 5 (some .int) [(0, 10, 13, 81)] :: fx_U) rm_L_itemUnder_0_9 (va_Pc [.ref (fx_a g 0), .int a1, .int a2, .ref (fx_a g 9)] (fx_At g M)) (va_Qi Q (fx_Pw g) (fx_A g)) 1 6 (fx_A g) := by
  refine va_MetW (cc := cL_itemUnder) (maxL := 5) (ret := (some .int)) (hh := [(0, 10, 13, 81)]) (by decide +kernel) rfl ?_
  intro p e s m args below meth c s₁ B hml hv
  obtain ⟨rfl, hv⟩ := hv
  have hts := atoms_spec (ws := .codeWith yL_itemUnder cL_itemUnder 5 (some .int) [(0, 10, 13, 81)] :: fx_U) B.pre
  have htab := vx_table (x := yL_itemUnder) B (hts _ List.mem_cons_self)
  obtain ⟨C, hH⟩ := fx_body (own := RL) B hml rfl (fun w hw => hts w (List.mem_cons_of_mem _ hw)) hG hv
  replace hts := fun w hw => hts w (List.mem_cons_of_mem _ hw)
  obtain ⟨hx, hb, hr, -, hown, -, hlocks, hsz, hK, -, hSt⟩ := id C
  have hl := lv_entry ([.ref (fx_a g 0), .int a1, .int a2, .ref (fx_a g 9)]) (n := 5) (Nat.le_of_ble_eq_true rfl)
  rw [lg_entry_eq]
  generalize (lg_sl ([.ref (fx_a g 0), .int a1, .int a2, .ref (fx_a g 9)]) ++ List.replicate (5 - (lg_sl ([.ref (fx_a g 0), .int a1, .int a2, .ref (fx_a g 9)])).length) Slot.unset).toArray = ls at hl ⊢
  have hl : lv_has ls 5 [(0, .ref (fx_a g 0)), (1, .int a1), (2, .int a2), (3, .ref (fx_a g 9))] := hl
  obtain ⟨H, eH⟩ : ∃ H : Heap, H = s.heap := ⟨_, rfl⟩
  obtain ⟨locs, elocs⟩ : ∃ q : List Loc, q = [] := ⟨_, rfl⟩
  rw [← eH, ← elocs] at hH
  show W p l e rm_L_itemUnder_0_9 s m _ below meth c s.heap [] 0 0 _ _
  rw [← eH, ← elocs]
  unfold wp_L_itemUnder_0_9 at h
  refine lv_aload_n hx hb dL_itemUnder_0 rfl (lv_at hl 3 rfl) ?_
  refine lv_iconst (v := 0) hx hb dL_itemUnder_1 (by decide) ?_
  refine lv_aload_n hx hb dL_itemUnder_2 rfl (lv_at hl 0 rfl) ?_
  refine lv_iload_n hx hb dL_itemUnder_3 rfl (lv_at hl 1 rfl) ?_
  refine lv_iload_n hx hb dL_itemUnder_4 rfl (lv_at hl 2 rfl) ?_
  refine fx_xcat (mc := 1) (ms := 6) hH (fx_xrunV (As := [.int a1, .int a2]) (rest := [.int 0, .ref (fx_a g 9)]) C hH (c_X6_itemUnder_0 l C.2.2.2.2.2.2.2.2.2.1 hfl a1 a2 M _ _ h) (fx_cwV 2 hts u_744 u_745 u_746 u_1 u_747 rfl rfl (by decide +kernel) ⟨(Nat.le_of_ble_eq_true rfl), (Nat.le_of_ble_eq_true rfl)⟩) (fx_w0 g M) rfl rfl hl.1 rfl (Nat.le_of_ble_eq_true rfl) dL_itemUnder_5 ⟨(Nat.le_of_ble_eq_true rfl), (Nat.le_of_ble_eq_true rfl)⟩) (fun E M9 q9 ce H locs h hH hce hcv hcl => ?_) (fun r2 M1 H locs h hH => ?_)
  · rcases h with ⟨rfl, h⟩
    · refine vx_catch hown [] (⟨0, 10, 13, 81⟩ : ExceptionTableEntry) [] (htab.trans rfl) (fun z hz => absurd hz List.not_mem_nil) (by decide) (by decide) (hts _ u_743) (va_Nw.use rfl (hSt.2.2.2.2.2.2.2.1 _ (by decide +kernel))) hce hcv hcl ?_
      refine lv_astore (lv' := ((4, .ref q9) :: [(0, .ref (fx_a g 0)), (1, .int a1), (2, .int a2), (3, .ref (fx_a g 9))])) hx hb dL_itemUnder_13 hl (by decide) rfl (fun ls hl => ?_)
      refine lv_iconst (v := 1) hx hb dL_itemUnder_15 (by decide) ?_
      exact fx_iret C hH h dL_itemUnder_16
  · refine lv_i2l hx hb dL_itemUnder_8 rfl ?_
    refine fx_last (j := 0) (M' := fx_sl M1 9 0 r2.toInt64) C hH 9 (by decide) (fx_w9 g M1) (fx_p9 g M1 _ _) (by unfold vp_in; decide) dL_itemUnder_9 (fun H locs hH => ?_)
    generalize eM3 : fx_sl M1 9 0 r2.toInt64 = M3 at hH
    replace h := h M3 eM3.symm
    refine lv_goto (tgt := 17) hx hb dL_itemUnder_10 (by decide) ?_
    refine lv_iconst (v := 0) hx hb dL_itemUnder_17 (by decide) ?_
    exact fx_iret C hH h dL_itemUnder_18
/-! the law: narrowest -/
def rm_L_narrowest_0_9 : Room := { frames := 7, cells := 1, slots := 6, locals := 115 }
def wp_L_narrowest_0_9 (a1 : Int32) (M : fx_Mem) (Q : Int32 → fx_Mem → Prop) : Prop :=
  wp_X6_narrowest_0 a1 M (fun r2 M1 => ∀ M3 : fx_Mem, M3 = fx_sl M1 9 0 r2.toInt64 → Q 0 M3) (fun E M9 => (E = "java/lang/IllegalArgumentException" ∧ Q 1 M9) ∨ (E = "java/util/NoSuchElementException" ∧ Q 2 M9))
set_option maxHeartbeats 4000000 in
set_option maxRecDepth 100000 in
theorem c_L_narrowest_0_9 (l : Launch) {g : fx_Geo} (hG : fx_Gd g) (hfl : l.stackTraces = false) (a1 : Int32) (M : fx_Mem) (Q : Int32 → fx_Mem → Prop) (h : wp_L_narrowest_0_9 a1 M Q) : Met l yL_narrowest (.codeWith yL_narrowest cL_narrowest 4 (some .int) [(0, 9, 12, 13), (0, 9, 15, 81)] :: fx_U) rm_L_narrowest_0_9 (va_Pc [.ref (fx_a g 0), .int a1, .ref (fx_a g 9)] (fx_At g M)) (va_Qi Q (fx_Pw g) (fx_A g)) 1 6 (fx_A g) := by
  refine va_MetW (cc := cL_narrowest) (maxL := 4) (ret := (some .int)) (hh := [(0, 9, 12, 13), (0, 9, 15, 81)]) (by decide +kernel) rfl ?_
  intro p e s m args below meth c s₁ B hml hv
  obtain ⟨rfl, hv⟩ := hv
  have hts := atoms_spec (ws := .codeWith yL_narrowest cL_narrowest 4 (some .int) [(0, 9, 12, 13), (0, 9, 15, 81)] :: fx_U) B.pre
  have htab := vx_table (x := yL_narrowest) B (hts _ List.mem_cons_self)
  obtain ⟨C, hH⟩ := fx_body (own := RL) B hml rfl (fun w hw => hts w (List.mem_cons_of_mem _ hw)) hG hv
  replace hts := fun w hw => hts w (List.mem_cons_of_mem _ hw)
  obtain ⟨hx, hb, hr, -, hown, -, hlocks, hsz, hK, -, hSt⟩ := id C
  have hl := lv_entry ([.ref (fx_a g 0), .int a1, .ref (fx_a g 9)]) (n := 4) (Nat.le_of_ble_eq_true rfl)
  rw [lg_entry_eq]
  generalize (lg_sl ([.ref (fx_a g 0), .int a1, .ref (fx_a g 9)]) ++ List.replicate (4 - (lg_sl ([.ref (fx_a g 0), .int a1, .ref (fx_a g 9)])).length) Slot.unset).toArray = ls at hl ⊢
  have hl : lv_has ls 4 [(0, .ref (fx_a g 0)), (1, .int a1), (2, .ref (fx_a g 9))] := hl
  obtain ⟨H, eH⟩ : ∃ H : Heap, H = s.heap := ⟨_, rfl⟩
  obtain ⟨locs, elocs⟩ : ∃ q : List Loc, q = [] := ⟨_, rfl⟩
  rw [← eH, ← elocs] at hH
  show W p l e rm_L_narrowest_0_9 s m _ below meth c s.heap [] 0 0 _ _
  rw [← eH, ← elocs]
  unfold wp_L_narrowest_0_9 at h
  refine lv_aload_n hx hb dL_narrowest_0 rfl (lv_at hl 2 rfl) ?_
  refine lv_iconst (v := 0) hx hb dL_narrowest_1 (by decide) ?_
  refine lv_aload_n hx hb dL_narrowest_2 rfl (lv_at hl 0 rfl) ?_
  refine lv_iload_n hx hb dL_narrowest_3 rfl (lv_at hl 1 rfl) ?_
  refine fx_xcat (mc := 1) (ms := 6) hH (fx_xrunV (As := [.int a1]) (rest := [.int 0, .ref (fx_a g 9)]) C hH (c_X6_narrowest_0 l C.2.2.2.2.2.2.2.2.2.1 hfl a1 M _ _ h) (fx_cwV 1 hts u_771 u_772 u_773 u_1 u_774 rfl rfl (by decide +kernel) ⟨(Nat.le_of_ble_eq_true rfl), (Nat.le_of_ble_eq_true rfl)⟩) (fx_w0 g M) rfl rfl hl.1 rfl (Nat.le_of_ble_eq_true rfl) dL_narrowest_4 ⟨(Nat.le_of_ble_eq_true rfl), (Nat.le_of_ble_eq_true rfl)⟩) (fun E M9 q9 ce H locs h hH hce hcv hcl => ?_) (fun r2 M1 H locs h hH => ?_)
  · rcases h with ⟨rfl, h⟩ | ⟨rfl, h⟩
    · refine vx_catch hown [] (⟨0, 9, 12, 13⟩ : ExceptionTableEntry) [(⟨0, 9, 15, 81⟩ : ExceptionTableEntry)] (htab.trans rfl) (fun z hz => absurd hz List.not_mem_nil) (by decide) (by decide) (hts _ u_400) (va_Nw.use rfl (hSt.2.2.2.2.2.2.2.1 _ (by decide +kernel))) hce hcv hcl ?_
      refine lv_astore_n (lv' := ((3, .ref q9) :: [(0, .ref (fx_a g 0)), (1, .int a1), (2, .ref (fx_a g 9))])) hx hb dL_narrowest_12 rfl hl (by decide) rfl (fun ls hl => ?_)
      refine lv_iconst (v := 1) hx hb dL_narrowest_13 (by decide) ?_
      exact fx_iret C hH h dL_narrowest_14
    · refine vx_catch hown [(⟨0, 9, 12, 13⟩ : ExceptionTableEntry)] (⟨0, 9, 15, 81⟩ : ExceptionTableEntry) [] (htab.trans rfl) (fun z hz => by rw [List.mem_singleton] at hz; subst hz; exact Or.inr ⟨by decide, "java/lang/IllegalArgumentException", hts _ u_400, hSt.2.2.2.2.2.2.1 _ (by decide +kernel) _ (by decide +kernel) (by decide +kernel)⟩) (by decide) (by decide) (hts _ u_743) (va_Nw.use rfl (hSt.2.2.2.2.2.2.2.1 _ (by decide +kernel))) hce hcv hcl ?_
      refine lv_astore_n (lv' := ((3, .ref q9) :: [(0, .ref (fx_a g 0)), (1, .int a1), (2, .ref (fx_a g 9))])) hx hb dL_narrowest_15 rfl hl (by decide) rfl (fun ls hl => ?_)
      refine lv_iconst (v := 2) hx hb dL_narrowest_16 (by decide) ?_
      exact fx_iret C hH h dL_narrowest_17
  · refine lv_i2l hx hb dL_narrowest_7 rfl ?_
    refine fx_last (j := 0) (M' := fx_sl M1 9 0 r2.toInt64) C hH 9 (by decide) (fx_w9 g M1) (fx_p9 g M1 _ _) (by unfold vp_in; decide) dL_narrowest_8 (fun H locs hH => ?_)
    generalize eM3 : fx_sl M1 9 0 r2.toInt64 = M3 at hH
    replace h := h M3 eM3.symm
    refine lv_goto (tgt := 18) hx hb dL_narrowest_9 (by decide) ?_
    refine lv_iconst (v := 0) hx hb dL_narrowest_18 (by decide) ?_
    exact fx_iret C hH h dL_narrowest_19
/-! the law: share -/
def rm_L_share_0_9 : Room := { frames := 8, cells := 2, slots := 12, locals := 135 }
def wp_L_share_0_9 (a1 : Int32) (a2 : Int32) (a3 : Int32) (M : fx_Mem) (Q : Int32 → fx_Mem → Prop) : Prop :=
  wp_X6_share_0 a1 a2 a3 M (fun r2 M1 => ∀ M3 : fx_Mem, M3 = fx_sl M1 9 0 r2.toInt64 → Q 0 M3) (fun E M9 => (E = "java/lang/IllegalArgumentException" ∧ Q 1 M9) ∨ (E = "java/lang/IndexOutOfBoundsException" ∧ Q 2 M9) ∨ (E = "java/lang/ArithmeticException" ∧ Q 3 M9))
set_option maxHeartbeats 4000000 in
set_option maxRecDepth 100000 in
theorem c_L_share_0_9 (l : Launch) {g : fx_Geo} (hG : fx_Gd g) (hfl : l.stackTraces = false) (a1 : Int32) (a2 : Int32) (a3 : Int32) (M : fx_Mem) (Q : Int32 → fx_Mem → Prop) (h : wp_L_share_0_9 a1 a2 a3 M Q) : Met l yL_share (.codeWith yL_share cL_share 6 (some .int) [(0, 12, 15, 13), (0, 12, 19, 25), (0, 12, 23, 89)] :: fx_U) rm_L_share_0_9 (va_Pc [.ref (fx_a g 0), .int a1, .int a2, .int a3, .ref (fx_a g 9)] (fx_At g M)) (va_Qi Q (fx_Pw g) (fx_A g)) 2 12 (fx_A g) := by
  refine va_MetW (cc := cL_share) (maxL := 6) (ret := (some .int)) (hh := [(0, 12, 15, 13), (0, 12, 19, 25), (0, 12, 23, 89)]) (by decide +kernel) rfl ?_
  intro p e s m args below meth c s₁ B hml hv
  obtain ⟨rfl, hv⟩ := hv
  have hts := atoms_spec (ws := .codeWith yL_share cL_share 6 (some .int) [(0, 12, 15, 13), (0, 12, 19, 25), (0, 12, 23, 89)] :: fx_U) B.pre
  have htab := vx_table (x := yL_share) B (hts _ List.mem_cons_self)
  obtain ⟨C, hH⟩ := fx_body (own := RL) B hml rfl (fun w hw => hts w (List.mem_cons_of_mem _ hw)) hG hv
  replace hts := fun w hw => hts w (List.mem_cons_of_mem _ hw)
  obtain ⟨hx, hb, hr, -, hown, -, hlocks, hsz, hK, -, hSt⟩ := id C
  have hl := lv_entry ([.ref (fx_a g 0), .int a1, .int a2, .int a3, .ref (fx_a g 9)]) (n := 6) (Nat.le_of_ble_eq_true rfl)
  rw [lg_entry_eq]
  generalize (lg_sl ([.ref (fx_a g 0), .int a1, .int a2, .int a3, .ref (fx_a g 9)]) ++ List.replicate (6 - (lg_sl ([.ref (fx_a g 0), .int a1, .int a2, .int a3, .ref (fx_a g 9)])).length) Slot.unset).toArray = ls at hl ⊢
  have hl : lv_has ls 6 [(0, .ref (fx_a g 0)), (1, .int a1), (2, .int a2), (3, .int a3), (4, .ref (fx_a g 9))] := hl
  obtain ⟨H, eH⟩ : ∃ H : Heap, H = s.heap := ⟨_, rfl⟩
  obtain ⟨locs, elocs⟩ : ∃ q : List Loc, q = [] := ⟨_, rfl⟩
  rw [← eH, ← elocs] at hH
  show W p l e rm_L_share_0_9 s m _ below meth c s.heap [] 0 0 _ _
  rw [← eH, ← elocs]
  unfold wp_L_share_0_9 at h
  refine lv_aload hx hb dL_share_0 (lv_at hl 4 rfl) ?_
  refine lv_iconst (v := 0) hx hb dL_share_2 (by decide) ?_
  refine lv_aload_n hx hb dL_share_3 rfl (lv_at hl 0 rfl) ?_
  refine lv_iload_n hx hb dL_share_4 rfl (lv_at hl 1 rfl) ?_
  refine lv_iload_n hx hb dL_share_5 rfl (lv_at hl 2 rfl) ?_
  refine lv_iload_n hx hb dL_share_6 rfl (lv_at hl 3 rfl) ?_
  refine fx_xcat (mc := 2) (ms := 12) hH (fx_xrunV (As := [.int a1, .int a2, .int a3]) (rest := [.int 0, .ref (fx_a g 9)]) C hH (c_X6_share_0 l C.2.2.2.2.2.2.2.2.2.1 hfl a1 a2 a3 M _ _ h) (fx_cwV 3 hts u_795 u_796 u_797 u_1 u_798 rfl rfl (by decide +kernel) ⟨(Nat.le_of_ble_eq_true rfl), (Nat.le_of_ble_eq_true rfl)⟩) (fx_w0 g M) rfl rfl hl.1 rfl (Nat.le_of_ble_eq_true rfl) dL_share_7 ⟨(Nat.le_of_ble_eq_true rfl), (Nat.le_of_ble_eq_true rfl)⟩) (fun E M9 q9 ce H locs h hH hce hcv hcl => ?_) (fun r2 M1 H locs h hH => ?_)
  · rcases h with ⟨rfl, h⟩ | ⟨rfl, h⟩ | ⟨rfl, h⟩
    · refine vx_catch hown [] (⟨0, 12, 15, 13⟩ : ExceptionTableEntry) [(⟨0, 12, 19, 25⟩ : ExceptionTableEntry), (⟨0, 12, 23, 89⟩ : ExceptionTableEntry)] (htab.trans rfl) (fun z hz => absurd hz List.not_mem_nil) (by decide) (by decide) (hts _ u_400) (va_Nw.use rfl (hSt.2.2.2.2.2.2.2.1 _ (by decide +kernel))) hce hcv hcl ?_
      refine lv_astore (lv' := ((5, .ref q9) :: [(0, .ref (fx_a g 0)), (1, .int a1), (2, .int a2), (3, .int a3), (4, .ref (fx_a g 9))])) hx hb dL_share_15 hl (by decide) rfl (fun ls hl => ?_)
      refine lv_iconst (v := 1) hx hb dL_share_17 (by decide) ?_
      exact fx_iret C hH h dL_share_18
    · refine vx_catch hown [(⟨0, 12, 15, 13⟩ : ExceptionTableEntry)] (⟨0, 12, 19, 25⟩ : ExceptionTableEntry) [(⟨0, 12, 23, 89⟩ : ExceptionTableEntry)] (htab.trans rfl) (fun z hz => by rw [List.mem_singleton] at hz; subst hz; exact Or.inr ⟨by decide, "java/lang/IllegalArgumentException", hts _ u_400, hSt.2.2.2.2.2.2.1 _ (by decide +kernel) _ (by decide +kernel) (by decide +kernel)⟩) (by decide) (by decide) (hts _ u_498) (va_Nw.use rfl (hSt.2.2.2.2.2.2.2.1 _ (by decide +kernel))) hce hcv hcl ?_
      refine lv_astore (lv' := ((5, .ref q9) :: [(0, .ref (fx_a g 0)), (1, .int a1), (2, .int a2), (3, .int a3), (4, .ref (fx_a g 9))])) hx hb dL_share_19 hl (by decide) rfl (fun ls hl => ?_)
      refine lv_iconst (v := 2) hx hb dL_share_21 (by decide) ?_
      exact fx_iret C hH h dL_share_22
    · refine vx_catch hown [(⟨0, 12, 15, 13⟩ : ExceptionTableEntry), (⟨0, 12, 19, 25⟩ : ExceptionTableEntry)] (⟨0, 12, 23, 89⟩ : ExceptionTableEntry) [] (htab.trans rfl) (fun z hz => (List.mem_cons.mp hz).elim (fun e9 => by subst e9; exact Or.inr ⟨by decide, "java/lang/IllegalArgumentException", hts _ u_400, hSt.2.2.2.2.2.2.1 _ (by decide +kernel) _ (by decide +kernel) (by decide +kernel)⟩) (fun hz => by rw [List.mem_singleton] at hz; subst hz; exact Or.inr ⟨by decide, "java/lang/IndexOutOfBoundsException", hts _ u_498, hSt.2.2.2.2.2.2.1 _ (by decide +kernel) _ (by decide +kernel) (by decide +kernel)⟩)) (by decide) (by decide) (hts _ u_781) (va_Nw.use rfl (hSt.2.2.2.2.2.2.2.1 _ (by decide +kernel))) hce hcv hcl ?_
      refine lv_astore (lv' := ((5, .ref q9) :: [(0, .ref (fx_a g 0)), (1, .int a1), (2, .int a2), (3, .int a3), (4, .ref (fx_a g 9))])) hx hb dL_share_23 hl (by decide) rfl (fun ls hl => ?_)
      refine lv_iconst (v := 3) hx hb dL_share_25 (by decide) ?_
      exact fx_iret C hH h dL_share_26
  · refine lv_i2l hx hb dL_share_10 rfl ?_
    refine fx_last (j := 0) (M' := fx_sl M1 9 0 r2.toInt64) C hH 9 (by decide) (fx_w9 g M1) (fx_p9 g M1 _ _) (by unfold vp_in; decide) dL_share_11 (fun H locs hH => ?_)
    generalize eM3 : fx_sl M1 9 0 r2.toInt64 = M3 at hH
    replace h := h M3 eM3.symm
    refine lv_goto (tgt := 27) hx hb dL_share_12 (by decide) ?_
    refine lv_iconst (v := 0) hx hb dL_share_27 (by decide) ?_
    exact fx_iret C hH h dL_share_28
/-! the law: restore -/
def rm_L_restore_0_9 : Room := { frames := 7, cells := 1, slots := 6, locals := 110 }
def wp_L_restore_0_9 (M : fx_Mem) (Q : Int32 → fx_Mem → Prop) : Prop :=
  wp_X6_restore_0  M (fun r2 M1 => ∀ M3 : fx_Mem, M3 = fx_sl M1 9 0 r2.toInt64 → Q 0 M3) (fun E M9 => (E = "java/lang/IllegalStateException" ∧ Q 1 M9))
set_option maxHeartbeats 4000000 in
set_option maxRecDepth 100000 in
theorem c_L_restore_0_9 (l : Launch) {g : fx_Geo} (hG : fx_Gd g) (hfl : l.stackTraces = false) (M : fx_Mem) (Q : Int32 → fx_Mem → Prop) (h : wp_L_restore_0_9  M Q) : Met l yL_restore (.codeWith yL_restore cL_restore 3 (some .int) [(0, 8, 11, 30)] :: fx_U) rm_L_restore_0_9 (va_Pc [.ref (fx_a g 0), .ref (fx_a g 9)] (fx_At g M)) (va_Qi Q (fx_Pw g) (fx_A g)) 1 6 (fx_A g) := by
  refine va_MetW (cc := cL_restore) (maxL := 3) (ret := (some .int)) (hh := [(0, 8, 11, 30)]) (by decide +kernel) rfl ?_
  intro p e s m args below meth c s₁ B hml hv
  obtain ⟨rfl, hv⟩ := hv
  have hts := atoms_spec (ws := .codeWith yL_restore cL_restore 3 (some .int) [(0, 8, 11, 30)] :: fx_U) B.pre
  have htab := vx_table (x := yL_restore) B (hts _ List.mem_cons_self)
  obtain ⟨C, hH⟩ := fx_body (own := RL) B hml rfl (fun w hw => hts w (List.mem_cons_of_mem _ hw)) hG hv
  replace hts := fun w hw => hts w (List.mem_cons_of_mem _ hw)
  obtain ⟨hx, hb, hr, -, hown, -, hlocks, hsz, hK, -, hSt⟩ := id C
  have hl := lv_entry ([.ref (fx_a g 0), .ref (fx_a g 9)]) (n := 3) (Nat.le_of_ble_eq_true rfl)
  rw [lg_entry_eq]
  generalize (lg_sl ([.ref (fx_a g 0), .ref (fx_a g 9)]) ++ List.replicate (3 - (lg_sl ([.ref (fx_a g 0), .ref (fx_a g 9)])).length) Slot.unset).toArray = ls at hl ⊢
  have hl : lv_has ls 3 [(0, .ref (fx_a g 0)), (1, .ref (fx_a g 9))] := hl
  obtain ⟨H, eH⟩ : ∃ H : Heap, H = s.heap := ⟨_, rfl⟩
  obtain ⟨locs, elocs⟩ : ∃ q : List Loc, q = [] := ⟨_, rfl⟩
  rw [← eH, ← elocs] at hH
  show W p l e rm_L_restore_0_9 s m _ below meth c s.heap [] 0 0 _ _
  rw [← eH, ← elocs]
  unfold wp_L_restore_0_9 at h
  refine lv_aload_n hx hb dL_restore_0 rfl (lv_at hl 1 rfl) ?_
  refine lv_iconst (v := 0) hx hb dL_restore_1 (by decide) ?_
  refine lv_aload_n hx hb dL_restore_2 rfl (lv_at hl 0 rfl) ?_
  refine fx_xcat (mc := 1) (ms := 6) hH (fx_xrunV (As := []) (rest := [.int 0, .ref (fx_a g 9)]) C hH (c_X6_restore_0 l C.2.2.2.2.2.2.2.2.2.1 hfl  M _ _ h) (fx_cwV 0 hts u_812 u_813 u_814 u_1 u_815 rfl rfl (by decide +kernel) ⟨(Nat.le_of_ble_eq_true rfl), (Nat.le_of_ble_eq_true rfl)⟩) (fx_w0 g M) rfl rfl hl.1 rfl (Nat.le_of_ble_eq_true rfl) dL_restore_3 ⟨(Nat.le_of_ble_eq_true rfl), (Nat.le_of_ble_eq_true rfl)⟩) (fun E M9 q9 ce H locs h hH hce hcv hcl => ?_) (fun r2 M1 H locs h hH => ?_)
  · rcases h with ⟨rfl, h⟩
    · refine vx_catch hown [] (⟨0, 8, 11, 30⟩ : ExceptionTableEntry) [] (htab.trans rfl) (fun z hz => absurd hz List.not_mem_nil) (by decide) (by decide) (hts _ u_545) (va_Nw.use rfl (hSt.2.2.2.2.2.2.2.1 _ (by decide +kernel))) hce hcv hcl ?_
      refine lv_astore_n (lv' := ((2, .ref q9) :: [(0, .ref (fx_a g 0)), (1, .ref (fx_a g 9))])) hx hb dL_restore_11 rfl hl (by decide) rfl (fun ls hl => ?_)
      refine lv_iconst (v := 1) hx hb dL_restore_12 (by decide) ?_
      exact fx_iret C hH h dL_restore_13
  · refine lv_i2l hx hb dL_restore_6 rfl ?_
    refine fx_last (j := 0) (M' := fx_sl M1 9 0 r2.toInt64) C hH 9 (by decide) (fx_w9 g M1) (fx_p9 g M1 _ _) (by unfold vp_in; decide) dL_restore_7 (fun H locs hH => ?_)
    generalize eM3 : fx_sl M1 9 0 r2.toInt64 = M3 at hH
    replace h := h M3 eM3.symm
    refine lv_goto (tgt := 14) hx hb dL_restore_8 (by decide) ?_
    refine lv_iconst (v := 0) hx hb dL_restore_14 (by decide) ?_
    exact fx_iret C hH h dL_restore_15
