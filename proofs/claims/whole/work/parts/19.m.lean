/-! FlexLayoutModel.setSetting(II)I (8,) -/
def rm_X7_setSetting_8 : Room := { frames := 1, cells := 0, slots := 0, locals := 25 }
def wp_X7_setSetting_8 (a1 : Int32) (a2 : Int32) (M : fx_Mem) (Q : Int32 → fx_Mem → Prop) : Prop :=
  wp_X7_isBetween a1.toInt64 0 4 M (fun r2 M1 => ((r2 = 0 → wp_X7_fails_8 1 M1 (fun r15 M14 => Q r15 M14)) ∧ (¬ r2 = 0 → vp_in a1 5 ∧ wp_X7_isBetween a2.toInt64 0 ((fx_tQS a1.toNatClampNeg).toInt64) M1 (fun r8 M7 => ((r8 = 0 → wp_X7_fails_8 2 M7 (fun r11 M10 => Q r11 M10)) ∧ (¬ r8 = 0 → wp_X7_replaces_8 (4 + a1) a2 M7 (fun r13 M12 => Q r13 M12)))))))
set_option maxHeartbeats 4000000 in
set_option maxRecDepth 100000 in
theorem c_X7_setSetting_8 (l : Launch) {g : fx_Geo} (hG : fx_Gd g) (a1 : Int32) (a2 : Int32) (M : fx_Mem) (Q : Int32 → fx_Mem → Prop) (h : wp_X7_setSetting_8 a1 a2 M Q) : Met l yX7_setSetting (.code yX7_setSetting cX7_setSetting 3 (some .int) :: fx_U) rm_X7_setSetting_8 (va_Pc [.ref (fx_a g 8), .int a1, .int a2] (fx_At g M)) (va_Qi Q (fx_Pw g) (fx_A g)) 0 0 (fx_A g) := by
  refine Met.ofW (cc := cX7_setSetting) (maxL := 3) (ret := (some .int)) (by decide +kernel) rfl ?_
  intro p e s m args below meth c s₁ B hml hv
  obtain ⟨rfl, hv⟩ := hv
  have hts := atoms_spec (ws := .code yX7_setSetting cX7_setSetting 3 (some .int) :: fx_U) B.pre
  obtain ⟨C, hH⟩ := fx_body (own := RX7) B hml rfl (fun w hw => hts w (List.mem_cons_of_mem _ hw)) hG hv
  replace hts := fun w hw => hts w (List.mem_cons_of_mem _ hw)
  obtain ⟨hx, hb, hr, -, hown, -, hlocks, hsz, hK, -, hSt⟩ := id C
  have hl := lv_entry ([.ref (fx_a g 8), .int a1, .int a2]) (n := 3) (Nat.le_of_ble_eq_true rfl)
  rw [lg_entry_eq]
  generalize (lg_sl ([.ref (fx_a g 8), .int a1, .int a2]) ++ List.replicate (3 - (lg_sl ([.ref (fx_a g 8), .int a1, .int a2])).length) Slot.unset).toArray = ls at hl ⊢
  have hl : lv_has ls 3 [(0, .ref (fx_a g 8)), (1, .int a1), (2, .int a2)] := hl
  obtain ⟨H, eH⟩ : ∃ H : Heap, H = s.heap := ⟨_, rfl⟩
  obtain ⟨locs, elocs⟩ : ∃ q : List Loc, q = [] := ⟨_, rfl⟩
  rw [← eH, ← elocs] at hH
  show W p l e rm_X7_setSetting_8 s m _ below meth c s.heap [] 0 0 _ _
  rw [← eH, ← elocs]
  unfold wp_X7_setSetting_8 at h
  refine lv_iload_n hx hb dX7_setSetting_0 rfl (lv_at hl 1 rfl) ?_
  refine lv_i2l hx hb dX7_setSetting_1 rfl ?_
  refine lv_lconst (v := 0) hx hb dX7_setSetting_2 (by decide) ?_
  refine lv_ldc2 hx hb hown (hts _ u_963) dX7_setSetting_3 ?_
  refine fx_ci hH (fx_runS (As := [.long a1.toInt64, .long 0, .long 4]) (rest := []) C hH (c_X7_isBetween l C.2.2.2.2.2.2.2.2.2.1 a1.toInt64 0 4 M _ h) (fx_cwS 3 hts u_938 u_939 u_8 u_940 rfl rfl (by decide +kernel) ⟨(Nat.le_of_ble_eq_true rfl), (Nat.le_of_ble_eq_true rfl)⟩) rfl hl.1 rfl (Nat.le_of_ble_eq_true rfl) dX7_setSetting_6 ⟨(Nat.le_of_ble_eq_true rfl), (Nat.le_of_ble_eq_true rfl)⟩) (fun r2 M1 H locs h hH => ?_)
  refine lv_if_ne (tgt := 18) hx hb dX7_setSetting_9 (by decide) (fun c3 => ?_) (fun c3 => ?_)
  · replace h := h.2 c3
    refine lv_iload_n hx hb dX7_setSetting_18 rfl (lv_at hl 2 rfl) ?_
    refine lv_i2l hx hb dX7_setSetting_19 rfl ?_
    refine lv_lconst (v := 0) hx hb dX7_setSetting_20 (by decide) ?_
    refine fx_gets C hH 5 rfl u_964 dX7_setSetting_21 (fun t4 hT5 => ?_)
    refine lv_iload_n hx hb dX7_setSetting_24 rfl (lv_at hl 1 rfl) ?_
    obtain ⟨hi6, h⟩ := h
    refine fx_ti (j := a1.toNatClampNeg) C hH hT5 rfl hi6 dX7_setSetting_25 ?_
    refine lv_i2l hx hb dX7_setSetting_26 rfl ?_
    refine fx_ci hH (fx_runS (As := [.long a2.toInt64, .long 0, .long ((fx_tQS a1.toNatClampNeg).toInt64)]) (rest := []) C hH (c_X7_isBetween l C.2.2.2.2.2.2.2.2.2.1 a2.toInt64 0 ((fx_tQS a1.toNatClampNeg).toInt64) M1 _ h) (fx_cwS 3 hts u_938 u_939 u_8 u_940 rfl rfl (by decide +kernel) ⟨(Nat.le_of_ble_eq_true rfl), (Nat.le_of_ble_eq_true rfl)⟩) rfl hl.1 rfl (Nat.le_of_ble_eq_true rfl) dX7_setSetting_27 ⟨(Nat.le_of_ble_eq_true rfl), (Nat.le_of_ble_eq_true rfl)⟩) (fun r8 M7 H locs h hH => ?_)
    refine lv_if_eq (tgt := 44) hx hb dX7_setSetting_30 (by decide) (fun c9 => ?_) (fun c9 => ?_)
    · replace h := h.1 c9
      refine lv_aload_n hx hb dX7_setSetting_44 rfl (lv_at hl 0 rfl) ?_
      refine lv_iconst (v := 2) hx hb dX7_setSetting_45 (by decide) ?_
      refine fx_ci hH (fx_runV (As := [.int 2]) (rest := []) C hH (c_X7_fails_8 l C.2.2.2.2.2.2.2.2.2.1 2 M7 _ h) (fx_cwV 1 hts u_945 u_947 us_24 u_8 u_948 rfl rfl (by decide +kernel) ⟨(Nat.le_of_ble_eq_true rfl), (Nat.le_of_ble_eq_true rfl)⟩) (fx_w8 g M7) rfl rfl hl.1 rfl (Nat.le_of_ble_eq_true rfl) dX7_setSetting_46 ⟨(Nat.le_of_ble_eq_true rfl), (Nat.le_of_ble_eq_true rfl)⟩) (fun r11 M10 H locs h hH => ?_)
      exact fx_iret C hH h dX7_setSetting_49
    · replace h := h.2 c9
      refine lv_aload_n hx hb dX7_setSetting_33 rfl (lv_at hl 0 rfl) ?_
      refine lv_iconst (v := 4) hx hb dX7_setSetting_34 (by decide) ?_
      refine lv_iload_n hx hb dX7_setSetting_35 rfl (lv_at hl 1 rfl) ?_
      refine lv_iadd hx hb dX7_setSetting_36 ?_
      refine lv_iload_n hx hb dX7_setSetting_37 rfl (lv_at hl 2 rfl) ?_
      refine fx_ci hH (fx_runV (As := [.int (4 + a1), .int a2]) (rest := []) C hH (c_X7_replaces_8 l C.2.2.2.2.2.2.2.2.2.1 (4 + a1) a2 M7 _ h) (fx_cwV 2 hts u_941 u_943 us_23 u_8 u_944 rfl rfl (by decide +kernel) ⟨(Nat.le_of_ble_eq_true rfl), (Nat.le_of_ble_eq_true rfl)⟩) (fx_w8 g M7) rfl rfl hl.1 rfl (Nat.le_of_ble_eq_true rfl) dX7_setSetting_38 ⟨(Nat.le_of_ble_eq_true rfl), (Nat.le_of_ble_eq_true rfl)⟩) (fun r13 M12 H locs h hH => ?_)
      refine lv_goto (tgt := 49) hx hb dX7_setSetting_41 (by decide) ?_
      exact fx_iret C hH h dX7_setSetting_49
  · replace h := h.1 c3
    refine lv_aload_n hx hb dX7_setSetting_12 rfl (lv_at hl 0 rfl) ?_
    refine lv_iconst (v := 1) hx hb dX7_setSetting_13 (by decide) ?_
    refine fx_ci hH (fx_runV (As := [.int 1]) (rest := []) C hH (c_X7_fails_8 l C.2.2.2.2.2.2.2.2.2.1 1 M1 _ h) (fx_cwV 1 hts u_945 u_947 us_24 u_8 u_948 rfl rfl (by decide +kernel) ⟨(Nat.le_of_ble_eq_true rfl), (Nat.le_of_ble_eq_true rfl)⟩) (fx_w8 g M1) rfl rfl hl.1 rfl (Nat.le_of_ble_eq_true rfl) dX7_setSetting_14 ⟨(Nat.le_of_ble_eq_true rfl), (Nat.le_of_ble_eq_true rfl)⟩) (fun r15 M14 H locs h hH => ?_)
    exact fx_iret C hH h dX7_setSetting_17
/-! FlexLayoutModel.isItem(I)Z (8,) -/
def rm_X7_isItem_8 : Room := { frames := 0, cells := 0, slots := 0, locals := 0 }
def wp_X7_isItem_8 (a1 : Int32) (M : fx_Mem) (Q : Int32 → fx_Mem → Prop) : Prop :=
  ((a1 < 0 → Q 0 M) ∧ (¬ a1 < 0 → ((M.1 515 ≤ a1 → Q 0 M) ∧ (¬ M.1 515 ≤ a1 → Q 1 M))))
set_option maxHeartbeats 4000000 in
set_option maxRecDepth 100000 in
theorem c_X7_isItem_8 (l : Launch) {g : fx_Geo} (hG : fx_Gd g) (a1 : Int32) (M : fx_Mem) (Q : Int32 → fx_Mem → Prop) (h : wp_X7_isItem_8 a1 M Q) : Met l yX7_isItem (.code yX7_isItem cX7_isItem 2 (some .boolean) :: fx_U) rm_X7_isItem_8 (va_Pc [.ref (fx_a g 8), .int a1] (fx_At g M)) (va_Qi Q (fx_Pw g) (fx_A g)) 0 0 (fx_A g) := by
  refine Met.ofW (cc := cX7_isItem) (maxL := 2) (ret := (some .boolean)) (by decide +kernel) rfl ?_
  intro p e s m args below meth c s₁ B hml hv
  obtain ⟨rfl, hv⟩ := hv
  have hts := atoms_spec (ws := .code yX7_isItem cX7_isItem 2 (some .boolean) :: fx_U) B.pre
  obtain ⟨C, hH⟩ := fx_body (own := RX7) B hml rfl (fun w hw => hts w (List.mem_cons_of_mem _ hw)) hG hv
  replace hts := fun w hw => hts w (List.mem_cons_of_mem _ hw)
  obtain ⟨hx, hb, hr, -, hown, -, hlocks, hsz, hK, -, hSt⟩ := id C
  have hl := lv_entry ([.ref (fx_a g 8), .int a1]) (n := 2) (Nat.le_of_ble_eq_true rfl)
  rw [lg_entry_eq]
  generalize (lg_sl ([.ref (fx_a g 8), .int a1]) ++ List.replicate (2 - (lg_sl ([.ref (fx_a g 8), .int a1])).length) Slot.unset).toArray = ls at hl ⊢
  have hl : lv_has ls 2 [(0, .ref (fx_a g 8)), (1, .int a1)] := hl
  obtain ⟨H, eH⟩ : ∃ H : Heap, H = s.heap := ⟨_, rfl⟩
  obtain ⟨locs, elocs⟩ : ∃ q : List Loc, q = [] := ⟨_, rfl⟩
  rw [← eH, ← elocs] at hH
  show W p l e rm_X7_isItem_8 s m _ below meth c s.heap [] 0 0 _ _
  rw [← eH, ← elocs]
  unfold wp_X7_isItem_8 at h
  refine lv_iload_n hx hb dX7_isItem_0 rfl (lv_at hl 1 rfl) ?_
  refine lv_if_lt (tgt := 16) hx hb dX7_isItem_1 (by decide) (fun c1 => ?_) (fun c1 => ?_)
  · replace h := h.1 c1
    refine lv_iconst (v := 0) hx hb dX7_isItem_16 (by decide) ?_
    exact fx_zret C hH (by decide) h dX7_isItem_17
  · replace h := h.2 c1
    refine lv_iload_n hx hb dX7_isItem_4 rfl (lv_at hl 1 rfl) ?_
    refine lv_aload_n hx hb dX7_isItem_5 rfl (lv_at hl 0 rfl) ?_
    refine fx_get C hH (fx_w8 g M) rfl in_X7 3 (by decide) u_826 rfl rfl dX7_isItem_6 ?_
    refine lv_icmp_ge (tgt := 16) hx hb dX7_isItem_9 (by decide) (fun c2 => ?_) (fun c2 => ?_)
    · replace h := h.1 c2
      refine lv_iconst (v := 0) hx hb dX7_isItem_16 (by decide) ?_
      exact fx_zret C hH (by decide) h dX7_isItem_17
    · replace h := h.2 c2
      refine lv_iconst (v := 1) hx hb dX7_isItem_12 (by decide) ?_
      refine lv_goto (tgt := 17) hx hb dX7_isItem_13 (by decide) ?_
      exact fx_zret C hH (by decide) h dX7_isItem_17
/-! FlexLayoutModel.of(II)I (8,) -/
def rm_X7_of_8 : Room := { frames := 0, cells := 0, slots := 0, locals := 0 }
def wp_X7_of_8 (a1 : Int32) (a2 : Int32) (M : fx_Mem) (Q : Int32 → fx_Mem → Prop) : Prop :=
  vp_in ((10 * a1) + a2) 200 ∧ Q (M.2.1 31 (((10 * a1) + a2).toNatClampNeg)) M
set_option maxHeartbeats 4000000 in
set_option maxRecDepth 100000 in
theorem c_X7_of_8 (l : Launch) {g : fx_Geo} (hG : fx_Gd g) (a1 : Int32) (a2 : Int32) (M : fx_Mem) (Q : Int32 → fx_Mem → Prop) (h : wp_X7_of_8 a1 a2 M Q) : Met l yX7_of (.code yX7_of cX7_of 3 (some .int) :: fx_U) rm_X7_of_8 (va_Pc [.ref (fx_a g 8), .int a1, .int a2] (fx_At g M)) (va_Qi Q (fx_Pw g) (fx_A g)) 0 0 (fx_A g) := by
  refine Met.ofW (cc := cX7_of) (maxL := 3) (ret := (some .int)) (by decide +kernel) rfl ?_
  intro p e s m args below meth c s₁ B hml hv
  obtain ⟨rfl, hv⟩ := hv
  have hts := atoms_spec (ws := .code yX7_of cX7_of 3 (some .int) :: fx_U) B.pre
  obtain ⟨C, hH⟩ := fx_body (own := RX7) B hml rfl (fun w hw => hts w (List.mem_cons_of_mem _ hw)) hG hv
  replace hts := fun w hw => hts w (List.mem_cons_of_mem _ hw)
  obtain ⟨hx, hb, hr, -, hown, -, hlocks, hsz, hK, -, hSt⟩ := id C
  have hl := lv_entry ([.ref (fx_a g 8), .int a1, .int a2]) (n := 3) (Nat.le_of_ble_eq_true rfl)
  rw [lg_entry_eq]
  generalize (lg_sl ([.ref (fx_a g 8), .int a1, .int a2]) ++ List.replicate (3 - (lg_sl ([.ref (fx_a g 8), .int a1, .int a2])).length) Slot.unset).toArray = ls at hl ⊢
  have hl : lv_has ls 3 [(0, .ref (fx_a g 8)), (1, .int a1), (2, .int a2)] := hl
  obtain ⟨H, eH⟩ : ∃ H : Heap, H = s.heap := ⟨_, rfl⟩
  obtain ⟨locs, elocs⟩ : ∃ q : List Loc, q = [] := ⟨_, rfl⟩
  rw [← eH, ← elocs] at hH
  show W p l e rm_X7_of_8 s m _ below meth c s.heap [] 0 0 _ _
  rw [← eH, ← elocs]
  unfold wp_X7_of_8 at h
  refine lv_aload_n hx hb dX7_of_0 rfl (lv_at hl 0 rfl) ?_
  refine fx_get C hH (fx_w8 g M) rfl in_X7 2 (by decide) u_825 rfl rfl dX7_of_1 ?_
  refine lv_bipush (v := 10) hx hb dX7_of_4 (by decide) ?_
  refine lv_iload_n hx hb dX7_of_6 rfl (lv_at hl 1 rfl) ?_
  refine lv_imul hx hb dX7_of_7 ?_
  refine lv_iload_n hx hb dX7_of_8 rfl (lv_at hl 2 rfl) ?_
  refine lv_iadd hx hb dX7_of_9 ?_
  obtain ⟨hi1, h⟩ := h
  refine fx_iald (j := ((10 * a1) + a2).toNatClampNeg) C hH 31 (fx_w31 g M) rfl hi1 dX7_of_10 ?_
  exact fx_iret C hH h dX7_of_11
/-! FlexLayoutModel.begins(II)I (8,) -/
def rm_X7_begins_8 : Room := { frames := 0, cells := 0, slots := 0, locals := 0 }
def wb_X7_begins_8_2 (k2 : Int32 → Int32 → Int32 → fx_Mem → Prop) (k33 : Int32 → Int32 → fx_Mem → Prop) (Q : Int32 → fx_Mem → Prop) (x1 : Int32) (x2 : Int32) (x3 : Int32) (M : fx_Mem) : Prop :=
  ((10 ≤ x3 → k33 x1 x2 M) ∧ (¬ 10 ≤ x3 → vp_in x3 10 ∧ vp_in ((10 * (M.1 515)) + x3) 200 ∧ ∀ M6 : fx_Mem, M6 = fx_sa M 31 (((10 * (M.1 515)) + x3).toNatClampNeg) (fx_tQF x3.toNatClampNeg) → ∀ v7 : Int32, v7 = x3 + 1 → k2 x1 x2 v7 M6))
set_option maxHeartbeats 4000000 in
set_option maxRecDepth 100000 in
theorem tb_X7_begins_8_2 {g : fx_Geo} {p : Program} {l : Launch} {e : Env} {s : State} {m : MethodId} {args : Array Value} {below : List Frame} {meth : Method} {c : Code} (C : fx_Cx g p s m args meth c RX7 cX7_begins 4 (some .int)) (k2 : Int32 → Int32 → Int32 → fx_Mem → Prop) (k33 : Int32 → Int32 → fx_Mem → Prop) (Q : Int32 → fx_Mem → Prop) (hk2 : ∀ (x1 : Int32) (x2 : Int32) (x3 : Int32) (M : fx_Mem), k2 x1 x2 x3 M → ∀ (H : Heap) (locs : List Loc) (ls : Array Slot), fx_H g s M H locs → lv_has ls 4 [(0, .ref (fx_a g 8)), (1, .int x1), (2, .int x2), (3, .int x3)] → W p l e rm_X7_begins_8 s m args below meth c H locs 0 0 (MQ below (va_Qi Q (fx_Pw g) (fx_A g)) args s 0 0 (fx_A g)) (F0 m 2 ls [])) (hk33 : ∀ (x1 : Int32) (x2 : Int32) (M : fx_Mem), k33 x1 x2 M → ∀ (H : Heap) (locs : List Loc) (ls : Array Slot), fx_H g s M H locs → lv_has ls 4 [(0, .ref (fx_a g 8)), (1, .int x1), (2, .int x2)] → W p l e rm_X7_begins_8 s m args below meth c H locs 0 0 (MQ below (va_Qi Q (fx_Pw g) (fx_A g)) args s 0 0 (fx_A g)) (F0 m 33 ls [])) (x1 : Int32) (x2 : Int32) (x3 : Int32) (M : fx_Mem) (h : wb_X7_begins_8_2 k2 k33 Q x1 x2 x3 M) (H : Heap) (locs : List Loc) (ls : Array Slot) (hH : fx_H g s M H locs) (hl : lv_has ls 4 [(0, .ref (fx_a g 8)), (1, .int x1), (2, .int x2), (3, .int x3)]) : W p l e rm_X7_begins_8 s m args below meth c H locs 0 0 (MQ below (va_Qi Q (fx_Pw g) (fx_A g)) args s 0 0 (fx_A g)) (F0 m 2 ls []) := by
  obtain ⟨hx, hb, hr, hml, hown, hts, hlocks, hsz, hK, hG, hSt⟩ := id C
  unfold wb_X7_begins_8_2 at h
  refine lv_iload_n hx hb dX7_begins_2 rfl (lv_at hl 3 rfl) ?_
  refine lv_bipush (v := 10) hx hb dX7_begins_3 (by decide) ?_
  refine lv_icmp_ge (tgt := 33) hx hb dX7_begins_5 (by decide) (fun c1 => ?_) (fun c1 => ?_)
  · replace h := h.1 c1
    exact hk33 x1 x2 M h  H locs ls hH (lv_sub hl [0, 1, 2] rfl)
  · replace h := h.2 c1
    refine lv_aload_n hx hb dX7_begins_8 rfl (lv_at hl 0 rfl) ?_
    refine fx_get C hH (fx_w8 g M) rfl in_X7 2 (by decide) u_825 rfl rfl dX7_begins_9 ?_
    refine lv_bipush (v := 10) hx hb dX7_begins_12 (by decide) ?_
    refine lv_aload_n hx hb dX7_begins_14 rfl (lv_at hl 0 rfl) ?_
    refine fx_get C hH (fx_w8 g M) rfl in_X7 3 (by decide) u_826 rfl rfl dX7_begins_15 ?_
    refine lv_imul hx hb dX7_begins_18 ?_
    refine lv_iload_n hx hb dX7_begins_19 rfl (lv_at hl 3 rfl) ?_
    refine lv_iadd hx hb dX7_begins_20 ?_
    refine fx_gets C hH 8 rfl u_974 dX7_begins_21 (fun t2 hT3 => ?_)
    refine lv_iload_n hx hb dX7_begins_24 rfl (lv_at hl 3 rfl) ?_
    obtain ⟨hi4, h⟩ := h
    refine fx_ti (j := x3.toNatClampNeg) C hH hT3 rfl hi4 dX7_begins_25 ?_
    obtain ⟨hi5, h⟩ := h
    refine fx_iast (j := ((10 * (M.1 515)) + x3).toNatClampNeg) (M' := fx_sa M 31 (((10 * (M.1 515)) + x3).toNatClampNeg) (fx_tQF x3.toNatClampNeg)) C hH 31 rfl (fx_w31 g M) (fx_p31 g M _) hi5 dX7_begins_26 (fun H locs hH => ?_)
    generalize eM6 : fx_sa M 31 (((10 * (M.1 515)) + x3).toNatClampNeg) (fx_tQF x3.toNatClampNeg) = M6 at hH
    replace h := h M6 eM6.symm
    obtain ⟨v7, ev7⟩ : ∃ z : Int32, z = x3 + 1 := ⟨_, rfl⟩
    refine lv_iinc (v := v7) (lv' := [(3, .int v7), (0, .ref (fx_a g 8)), (1, .int x1), (2, .int x2)]) hx hb dX7_begins_27 hl (k := 3) rfl (by rw [ev7]; rfl) (by decide) rfl (fun ls hl => ?_)
    replace h := h v7 ev7
    refine lv_goto (tgt := 2) hx hb dX7_begins_30 (by decide) ?_
    exact hk2 x1 x2 v7 M6 h  H locs ls hH (lv_sub hl [1, 2, 3, 0] rfl)
def wl_X7_begins_8_2 (k33 : Int32 → Int32 → fx_Mem → Prop) (Q : Int32 → fx_Mem → Prop) (n : Nat) (x1 : Int32) (x2 : Int32) (x3 : Int32) (M : fx_Mem) : Prop :=
  fx_lp (α := Int32 × Int32 × Int32 × fx_Mem) (fun k a => wb_X7_begins_8_2 (fun x1 x2 x3 M => k (x1, x2, x3, M)) k33 Q a.1 a.2.1 a.2.2.1 a.2.2.2) n (x1, x2, x3, M)
set_option maxHeartbeats 4000000 in
theorem tl_X7_begins_8_2 {g : fx_Geo} {p : Program} {l : Launch} {e : Env} {s : State} {m : MethodId} {args : Array Value} {below : List Frame} {meth : Method} {c : Code} (C : fx_Cx g p s m args meth c RX7 cX7_begins 4 (some .int)) (k33 : Int32 → Int32 → fx_Mem → Prop) (Q : Int32 → fx_Mem → Prop) (hk33 : ∀ (x1 : Int32) (x2 : Int32) (M : fx_Mem), k33 x1 x2 M → ∀ (H : Heap) (locs : List Loc) (ls : Array Slot), fx_H g s M H locs → lv_has ls 4 [(0, .ref (fx_a g 8)), (1, .int x1), (2, .int x2)] → W p l e rm_X7_begins_8 s m args below meth c H locs 0 0 (MQ below (va_Qi Q (fx_Pw g) (fx_A g)) args s 0 0 (fx_A g)) (F0 m 33 ls [])) : ∀ (n : Nat) (x1 : Int32) (x2 : Int32) (x3 : Int32) (M : fx_Mem), wl_X7_begins_8_2 k33 Q n x1 x2 x3 M → ∀ (H : Heap) (locs : List Loc) (ls : Array Slot), fx_H g s M H locs → lv_has ls 4 [(0, .ref (fx_a g 8)), (1, .int x1), (2, .int x2), (3, .int x3)] → W p l e rm_X7_begins_8 s m args below meth c H locs 0 0 (MQ below (va_Qi Q (fx_Pw g) (fx_A g)) args s 0 0 (fx_A g)) (F0 m 2 ls []) := by
  intro n
  induction n with
  | zero => intro x1 x2 x3 M h; exact False.elim h
  | succ n ih => intro x1 x2 x3 M h  H locs ls hH hl; exact tb_X7_begins_8_2 C (wl_X7_begins_8_2 k33 Q n) k33 Q ih hk33 x1 x2 x3 M h  H locs ls hH hl
def wb_X7_begins_8_33 (Q : Int32 → fx_Mem → Prop) (x1 : Int32) (x2 : Int32) (M : fx_Mem) : Prop :=
  vp_in (10 * (M.1 515)) 200 ∧ ∀ M2 : fx_Mem, M2 = fx_sa M 31 ((10 * (M.1 515)).toNatClampNeg) x1 → vp_in ((10 * (M2.1 515)) + 5) 200 ∧ ∀ M4 : fx_Mem, M4 = fx_sa M2 31 (((10 * (M2.1 515)) + 5).toNatClampNeg) x2 → ∀ M5 : fx_Mem, M5 = fx_si M4 515 ((M4.1 515) + 1) → Q ((M5.1 515) - 1) M5
set_option maxHeartbeats 4000000 in
set_option maxRecDepth 100000 in
theorem tb_X7_begins_8_33 {g : fx_Geo} {p : Program} {l : Launch} {e : Env} {s : State} {m : MethodId} {args : Array Value} {below : List Frame} {meth : Method} {c : Code} (C : fx_Cx g p s m args meth c RX7 cX7_begins 4 (some .int)) (Q : Int32 → fx_Mem → Prop) (x1 : Int32) (x2 : Int32) (M : fx_Mem) (h : wb_X7_begins_8_33 Q x1 x2 M) (H : Heap) (locs : List Loc) (ls : Array Slot) (hH : fx_H g s M H locs) (hl : lv_has ls 4 [(0, .ref (fx_a g 8)), (1, .int x1), (2, .int x2)]) : W p l e rm_X7_begins_8 s m args below meth c H locs 0 0 (MQ below (va_Qi Q (fx_Pw g) (fx_A g)) args s 0 0 (fx_A g)) (F0 m 33 ls []) := by
  obtain ⟨hx, hb, hr, hml, hown, hts, hlocks, hsz, hK, hG, hSt⟩ := id C
  unfold wb_X7_begins_8_33 at h
  refine lv_aload_n hx hb dX7_begins_33 rfl (lv_at hl 0 rfl) ?_
  refine fx_get C hH (fx_w8 g M) rfl in_X7 2 (by decide) u_825 rfl rfl dX7_begins_34 ?_
  refine lv_bipush (v := 10) hx hb dX7_begins_37 (by decide) ?_
  refine lv_aload_n hx hb dX7_begins_39 rfl (lv_at hl 0 rfl) ?_
  refine fx_get C hH (fx_w8 g M) rfl in_X7 3 (by decide) u_826 rfl rfl dX7_begins_40 ?_
  refine lv_imul hx hb dX7_begins_43 ?_
  refine lv_iload_n hx hb dX7_begins_44 rfl (lv_at hl 1 rfl) ?_
  obtain ⟨hi1, h⟩ := h
  refine fx_iast (j := (10 * (M.1 515)).toNatClampNeg) (M' := fx_sa M 31 ((10 * (M.1 515)).toNatClampNeg) x1) C hH 31 rfl (fx_w31 g M) (fx_p31 g M _) hi1 dX7_begins_45 (fun H locs hH => ?_)
  generalize eM2 : fx_sa M 31 ((10 * (M.1 515)).toNatClampNeg) x1 = M2 at hH
  replace h := h M2 eM2.symm
  refine lv_aload_n hx hb dX7_begins_46 rfl (lv_at hl 0 rfl) ?_
  refine fx_get C hH (fx_w8 g M2) rfl in_X7 2 (by decide) u_825 rfl rfl dX7_begins_47 ?_
  refine lv_bipush (v := 10) hx hb dX7_begins_50 (by decide) ?_
  refine lv_aload_n hx hb dX7_begins_52 rfl (lv_at hl 0 rfl) ?_
  refine fx_get C hH (fx_w8 g M2) rfl in_X7 3 (by decide) u_826 rfl rfl dX7_begins_53 ?_
  refine lv_imul hx hb dX7_begins_56 ?_
  refine lv_iconst (v := 5) hx hb dX7_begins_57 (by decide) ?_
  refine lv_iadd hx hb dX7_begins_58 ?_
  refine lv_iload_n hx hb dX7_begins_59 rfl (lv_at hl 2 rfl) ?_
  obtain ⟨hi3, h⟩ := h
  refine fx_iast (j := ((10 * (M2.1 515)) + 5).toNatClampNeg) (M' := fx_sa M2 31 (((10 * (M2.1 515)) + 5).toNatClampNeg) x2) C hH 31 rfl (fx_w31 g M2) (fx_p31 g M2 _) hi3 dX7_begins_60 (fun H locs hH => ?_)
  generalize eM4 : fx_sa M2 31 (((10 * (M2.1 515)) + 5).toNatClampNeg) x2 = M4 at hH
  replace h := h M4 eM4.symm
  refine lv_aload_n hx hb dX7_begins_61 rfl (lv_at hl 0 rfl) ?_
  refine lv_dup hx hb dX7_begins_62 rfl ?_
  refine fx_get C hH (fx_w8 g M4) rfl in_X7 3 (by decide) u_826 rfl rfl dX7_begins_63 ?_
  refine lv_iconst (v := 1) hx hb dX7_begins_66 (by decide) ?_
  refine lv_iadd hx hb dX7_begins_67 ?_
  refine fx_put C hH (fx_w8 g M4) rfl in_X7 tyX7 tyX7_ok nmX7 3 (by decide) u_826 rfl rfl (ty := .int) (by decide +kernel) rfl rfl (Nat.le_of_ble_eq_true rfl) (fx_p8_3 g M4 ((M4.1 515) + 1)) dX7_begins_68 (fun H locs hH => ?_)
  generalize eM5 : fx_si M4 515 ((M4.1 515) + 1) = M5 at hH
  replace h := h M5 eM5.symm
  refine lv_aload_n hx hb dX7_begins_71 rfl (lv_at hl 0 rfl) ?_
  refine fx_get C hH (fx_w8 g M5) rfl in_X7 3 (by decide) u_826 rfl rfl dX7_begins_72 ?_
  refine lv_iconst (v := 1) hx hb dX7_begins_75 (by decide) ?_
  refine lv_isub hx hb dX7_begins_76 ?_
  exact fx_iret C hH h dX7_begins_77
def wp_X7_begins_8 (a1 : Int32) (a2 : Int32) (M : fx_Mem) (Q : Int32 → fx_Mem → Prop) : Prop :=
  ∃ n2 : Nat, wl_X7_begins_8_2 (wb_X7_begins_8_33 Q) Q n2 a1 a2 0 M
set_option maxHeartbeats 4000000 in
set_option maxRecDepth 100000 in
theorem c_X7_begins_8 (l : Launch) {g : fx_Geo} (hG : fx_Gd g) (a1 : Int32) (a2 : Int32) (M : fx_Mem) (Q : Int32 → fx_Mem → Prop) (h : wp_X7_begins_8 a1 a2 M Q) : Met l yX7_begins (.code yX7_begins cX7_begins 4 (some .int) :: fx_U) rm_X7_begins_8 (va_Pc [.ref (fx_a g 8), .int a1, .int a2] (fx_At g M)) (va_Qi Q (fx_Pw g) (fx_A g)) 0 0 (fx_A g) := by
  refine Met.ofW (cc := cX7_begins) (maxL := 4) (ret := (some .int)) (by decide +kernel) rfl ?_
  intro p e s m args below meth c s₁ B hml hv
  obtain ⟨rfl, hv⟩ := hv
  have hts := atoms_spec (ws := .code yX7_begins cX7_begins 4 (some .int) :: fx_U) B.pre
  obtain ⟨C, hH⟩ := fx_body (own := RX7) B hml rfl (fun w hw => hts w (List.mem_cons_of_mem _ hw)) hG hv
  replace hts := fun w hw => hts w (List.mem_cons_of_mem _ hw)
  obtain ⟨hx, hb, hr, -, hown, -, hlocks, hsz, hK, -, hSt⟩ := id C
  have hl := lv_entry ([.ref (fx_a g 8), .int a1, .int a2]) (n := 4) (Nat.le_of_ble_eq_true rfl)
  rw [lg_entry_eq]
  generalize (lg_sl ([.ref (fx_a g 8), .int a1, .int a2]) ++ List.replicate (4 - (lg_sl ([.ref (fx_a g 8), .int a1, .int a2])).length) Slot.unset).toArray = ls at hl ⊢
  have hl : lv_has ls 4 [(0, .ref (fx_a g 8)), (1, .int a1), (2, .int a2)] := hl
  obtain ⟨H, eH⟩ : ∃ H : Heap, H = s.heap := ⟨_, rfl⟩
  obtain ⟨locs, elocs⟩ : ∃ q : List Loc, q = [] := ⟨_, rfl⟩
  rw [← eH, ← elocs] at hH
  show W p l e rm_X7_begins_8 s m _ below meth c s.heap [] 0 0 _ _
  rw [← eH, ← elocs]
  unfold wp_X7_begins_8 at h
  refine lv_iconst (v := 0) hx hb dX7_begins_0 (by decide) ?_
  refine lv_istore_n (lv' := [(3, .int 0), (0, .ref (fx_a g 8)), (1, .int a1), (2, .int a2)]) hx hb dX7_begins_1 rfl hl (by decide) rfl (fun ls hl => ?_)
  obtain ⟨n2, h⟩ := h
  exact tl_X7_begins_8_2 C (wb_X7_begins_8_33 Q) Q (tb_X7_begins_8_33 C Q ) n2 a1 a2 0 M h  H locs ls hH (lv_sub hl [1, 2, 3, 0] rfl)
/-! FlexLayoutModel.addItem(II)I (8,) -/
def rm_X7_addItem_8 : Room := { frames := 1, cells := 0, slots := 0, locals := 25 }
def wb_X7_addItem_8_24 (Q : Int32 → fx_Mem → Prop) (M : fx_Mem) : Prop :=
  wp_X7_fails_8 1 M (fun r2 M1 => Q r2 M1)
set_option maxHeartbeats 4000000 in
set_option maxRecDepth 100000 in
theorem tb_X7_addItem_8_24 {g : fx_Geo} {p : Program} {l : Launch} {e : Env} {s : State} {m : MethodId} {args : Array Value} {below : List Frame} {meth : Method} {c : Code} (C : fx_Cx g p s m args meth c RX7 cX7_addItem 3 (some .int)) (Q : Int32 → fx_Mem → Prop) (M : fx_Mem) (h : wb_X7_addItem_8_24 Q M) (H : Heap) (locs : List Loc) (ls : Array Slot) (hH : fx_H g s M H locs) (hl : lv_has ls 3 [(0, .ref (fx_a g 8))]) : W p l e rm_X7_addItem_8 s m args below meth c H locs 0 0 (MQ below (va_Qi Q (fx_Pw g) (fx_A g)) args s 0 0 (fx_A g)) (F0 m 24 ls []) := by
  obtain ⟨hx, hb, hr, hml, hown, hts, hlocks, hsz, hK, hG, hSt⟩ := id C
  unfold wb_X7_addItem_8_24 at h
  refine lv_aload_n hx hb dX7_addItem_24 rfl (lv_at hl 0 rfl) ?_
  refine lv_iconst (v := 1) hx hb dX7_addItem_25 (by decide) ?_
  refine fx_ci hH (fx_runV (As := [.int 1]) (rest := []) C hH (c_X7_fails_8 l C.2.2.2.2.2.2.2.2.2.1 1 M _ h) (fx_cwV 1 hts u_945 u_947 us_24 u_8 u_948 rfl rfl (by decide +kernel) ⟨(Nat.le_of_ble_eq_true rfl), (Nat.le_of_ble_eq_true rfl)⟩) (fx_w8 g M) rfl rfl hl.1 rfl (Nat.le_of_ble_eq_true rfl) dX7_addItem_26 ⟨(Nat.le_of_ble_eq_true rfl), (Nat.le_of_ble_eq_true rfl)⟩) (fun r2 M1 H locs h hH => ?_)
  exact fx_iret C hH h dX7_addItem_29
def wp_X7_addItem_8 (a1 : Int32) (a2 : Int32) (M : fx_Mem) (Q : Int32 → fx_Mem → Prop) : Prop :=
  wp_X7_isBetween a1.toInt64 0 9999 M (fun r2 M1 => ((r2 = 0 → wb_X7_addItem_8_24 Q  M1) ∧ (¬ r2 = 0 → wp_X7_isBetween a2.toInt64 0 9999 M1 (fun r5 M4 => ((r5 = 0 → wb_X7_addItem_8_24 Q  M4) ∧ (¬ r5 = 0 → ((M4.1 515 = 20 → wp_X7_fails_8 2 M4 (fun r12 M11 => Q r12 M11)) ∧ (¬ M4.1 515 = 20 → ∀ M8 : fx_Mem, M8 = fx_si M4 512 0 → wp_X7_begins_8 a1 a2 M8 (fun r10 M9 => Q r10 M9)))))))))
set_option maxHeartbeats 4000000 in
set_option maxRecDepth 100000 in
theorem c_X7_addItem_8 (l : Launch) {g : fx_Geo} (hG : fx_Gd g) (a1 : Int32) (a2 : Int32) (M : fx_Mem) (Q : Int32 → fx_Mem → Prop) (h : wp_X7_addItem_8 a1 a2 M Q) : Met l yX7_addItem (.code yX7_addItem cX7_addItem 3 (some .int) :: fx_U) rm_X7_addItem_8 (va_Pc [.ref (fx_a g 8), .int a1, .int a2] (fx_At g M)) (va_Qi Q (fx_Pw g) (fx_A g)) 0 0 (fx_A g) := by
  refine Met.ofW (cc := cX7_addItem) (maxL := 3) (ret := (some .int)) (by decide +kernel) rfl ?_
  intro p e s m args below meth c s₁ B hml hv
  obtain ⟨rfl, hv⟩ := hv
  have hts := atoms_spec (ws := .code yX7_addItem cX7_addItem 3 (some .int) :: fx_U) B.pre
  obtain ⟨C, hH⟩ := fx_body (own := RX7) B hml rfl (fun w hw => hts w (List.mem_cons_of_mem _ hw)) hG hv
  replace hts := fun w hw => hts w (List.mem_cons_of_mem _ hw)
  obtain ⟨hx, hb, hr, -, hown, -, hlocks, hsz, hK, -, hSt⟩ := id C
  have hl := lv_entry ([.ref (fx_a g 8), .int a1, .int a2]) (n := 3) (Nat.le_of_ble_eq_true rfl)
  rw [lg_entry_eq]
  generalize (lg_sl ([.ref (fx_a g 8), .int a1, .int a2]) ++ List.replicate (3 - (lg_sl ([.ref (fx_a g 8), .int a1, .int a2])).length) Slot.unset).toArray = ls at hl ⊢
  have hl : lv_has ls 3 [(0, .ref (fx_a g 8)), (1, .int a1), (2, .int a2)] := hl
  obtain ⟨H, eH⟩ : ∃ H : Heap, H = s.heap := ⟨_, rfl⟩
  obtain ⟨locs, elocs⟩ : ∃ q : List Loc, q = [] := ⟨_, rfl⟩
  rw [← eH, ← elocs] at hH
  show W p l e rm_X7_addItem_8 s m _ below meth c s.heap [] 0 0 _ _
  rw [← eH, ← elocs]
  unfold wp_X7_addItem_8 at h
  refine lv_iload_n hx hb dX7_addItem_0 rfl (lv_at hl 1 rfl) ?_
  refine lv_i2l hx hb dX7_addItem_1 rfl ?_
  refine lv_lconst (v := 0) hx hb dX7_addItem_2 (by decide) ?_
  refine lv_ldc2 hx hb hown (hts _ u_937) dX7_addItem_3 ?_
  refine fx_ci hH (fx_runS (As := [.long a1.toInt64, .long 0, .long 9999]) (rest := []) C hH (c_X7_isBetween l C.2.2.2.2.2.2.2.2.2.1 a1.toInt64 0 9999 M _ h) (fx_cwS 3 hts u_938 u_939 u_8 u_940 rfl rfl (by decide +kernel) ⟨(Nat.le_of_ble_eq_true rfl), (Nat.le_of_ble_eq_true rfl)⟩) rfl hl.1 rfl (Nat.le_of_ble_eq_true rfl) dX7_addItem_6 ⟨(Nat.le_of_ble_eq_true rfl), (Nat.le_of_ble_eq_true rfl)⟩) (fun r2 M1 H locs h hH => ?_)
  refine lv_if_eq (tgt := 24) hx hb dX7_addItem_9 (by decide) (fun c3 => ?_) (fun c3 => ?_)
  · replace h := h.1 c3
    exact tb_X7_addItem_8_24 C Q   M1 h  H locs ls hH (lv_sub hl [0] rfl)
  · replace h := h.2 c3
    refine lv_iload_n hx hb dX7_addItem_12 rfl (lv_at hl 2 rfl) ?_
    refine lv_i2l hx hb dX7_addItem_13 rfl ?_
    refine lv_lconst (v := 0) hx hb dX7_addItem_14 (by decide) ?_
    refine lv_ldc2 hx hb hown (hts _ u_937) dX7_addItem_15 ?_
    refine fx_ci hH (fx_runS (As := [.long a2.toInt64, .long 0, .long 9999]) (rest := []) C hH (c_X7_isBetween l C.2.2.2.2.2.2.2.2.2.1 a2.toInt64 0 9999 M1 _ h) (fx_cwS 3 hts u_938 u_939 u_8 u_940 rfl rfl (by decide +kernel) ⟨(Nat.le_of_ble_eq_true rfl), (Nat.le_of_ble_eq_true rfl)⟩) rfl hl.1 rfl (Nat.le_of_ble_eq_true rfl) dX7_addItem_18 ⟨(Nat.le_of_ble_eq_true rfl), (Nat.le_of_ble_eq_true rfl)⟩) (fun r5 M4 H locs h hH => ?_)
    refine lv_if_ne (tgt := 30) hx hb dX7_addItem_21 (by decide) (fun c6 => ?_) (fun c6 => ?_)
    · replace h := h.2 c6
      refine lv_aload_n hx hb dX7_addItem_30 rfl (lv_at hl 0 rfl) ?_
      refine fx_get C hH (fx_w8 g M4) rfl in_X7 3 (by decide) u_826 rfl rfl dX7_addItem_31 ?_
      refine lv_bipush (v := 20) hx hb dX7_addItem_34 (by decide) ?_
      refine lv_icmp_ne (tgt := 45) hx hb dX7_addItem_36 (by decide) (fun c7 => ?_) (fun c7 => ?_)
      · replace h := h.2 c7
        refine lv_aload_n hx hb dX7_addItem_45 rfl (lv_at hl 0 rfl) ?_
        refine lv_iconst (v := 0) hx hb dX7_addItem_46 (by decide) ?_
        refine fx_put C hH (fx_w8 g M4) rfl in_X7 tyX7 tyX7_ok nmX7 0 (by decide) u_823 rfl rfl (ty := .int) (by decide +kernel) rfl rfl (Nat.le_of_ble_eq_true rfl) (fx_p8_0 g M4 0) dX7_addItem_47 (fun H locs hH => ?_)
        generalize eM8 : fx_si M4 512 0 = M8 at hH
        replace h := h M8 eM8.symm
        refine lv_aload_n hx hb dX7_addItem_50 rfl (lv_at hl 0 rfl) ?_
        refine lv_iload_n hx hb dX7_addItem_51 rfl (lv_at hl 1 rfl) ?_
        refine lv_iload_n hx hb dX7_addItem_52 rfl (lv_at hl 2 rfl) ?_
        refine fx_ci hH (fx_runV (As := [.int a1, .int a2]) (rest := []) C hH (c_X7_begins_8 l C.2.2.2.2.2.2.2.2.2.1 a1 a2 M8 _ h) (fx_cwV 2 hts u_970 u_972 us_25 u_8 u_973 rfl rfl (by decide +kernel) ⟨(Nat.le_of_ble_eq_true rfl), (Nat.le_of_ble_eq_true rfl)⟩) (fx_w8 g M8) rfl rfl hl.1 rfl (Nat.le_of_ble_eq_true rfl) dX7_addItem_53 ⟨(Nat.le_of_ble_eq_true rfl), (Nat.le_of_ble_eq_true rfl)⟩) (fun r10 M9 H locs h hH => ?_)
        exact fx_iret C hH h dX7_addItem_56
      · replace h := h.1 c7
        refine lv_aload_n hx hb dX7_addItem_39 rfl (lv_at hl 0 rfl) ?_
        refine lv_iconst (v := 2) hx hb dX7_addItem_40 (by decide) ?_
        refine fx_ci hH (fx_runV (As := [.int 2]) (rest := []) C hH (c_X7_fails_8 l C.2.2.2.2.2.2.2.2.2.1 2 M4 _ h) (fx_cwV 1 hts u_945 u_947 us_24 u_8 u_948 rfl rfl (by decide +kernel) ⟨(Nat.le_of_ble_eq_true rfl), (Nat.le_of_ble_eq_true rfl)⟩) (fx_w8 g M4) rfl rfl hl.1 rfl (Nat.le_of_ble_eq_true rfl) dX7_addItem_41 ⟨(Nat.le_of_ble_eq_true rfl), (Nat.le_of_ble_eq_true rfl)⟩) (fun r12 M11 H locs h hH => ?_)
        exact fx_iret C hH h dX7_addItem_44
    · replace h := h.1 c6
      exact tb_X7_addItem_8_24 C Q   M4 h  H locs ls hH (lv_sub hl [0] rfl)
/-! FlexLayoutModel.removeItem(I)I (8,) -/
def rm_X7_removeItem_8 : Room := { frames := 1, cells := 0, slots := 0, locals := 21 }
def wb_X7_removeItem_8_34 (k34 : Int32 → fx_Mem → Prop) (k66 : fx_Mem → Prop) (Q : Int32 → fx_Mem → Prop) (x2 : Int32) (M : fx_Mem) : Prop :=
  ((10 * (M.1 515) ≤ x2 → k66  M) ∧ (¬ 10 * (M.1 515) ≤ x2 → vp_in (x2 + 10) 200 ∧ vp_in x2 200 ∧ ∀ M4 : fx_Mem, M4 = fx_sa M 31 x2.toNatClampNeg (M.2.1 31 ((x2 + 10).toNatClampNeg)) → ∀ v5 : Int32, v5 = x2 + 1 → k34 v5 M4))
set_option maxHeartbeats 4000000 in
set_option maxRecDepth 100000 in
theorem tb_X7_removeItem_8_34 {g : fx_Geo} {p : Program} {l : Launch} {e : Env} {s : State} {m : MethodId} {args : Array Value} {below : List Frame} {meth : Method} {c : Code} (C : fx_Cx g p s m args meth c RX7 cX7_removeItem 3 (some .int)) (k34 : Int32 → fx_Mem → Prop) (k66 : fx_Mem → Prop) (Q : Int32 → fx_Mem → Prop) (hk34 : ∀ (x2 : Int32) (M : fx_Mem), k34 x2 M → ∀ (H : Heap) (locs : List Loc) (ls : Array Slot), fx_H g s M H locs → lv_has ls 3 [(0, .ref (fx_a g 8)), (2, .int x2)] → W p l e rm_X7_removeItem_8 s m args below meth c H locs 0 0 (MQ below (va_Qi Q (fx_Pw g) (fx_A g)) args s 0 0 (fx_A g)) (F0 m 34 ls [])) (hk66 : ∀ (M : fx_Mem), k66 M → ∀ (H : Heap) (locs : List Loc) (ls : Array Slot), fx_H g s M H locs → lv_has ls 3 [(0, .ref (fx_a g 8))] → W p l e rm_X7_removeItem_8 s m args below meth c H locs 0 0 (MQ below (va_Qi Q (fx_Pw g) (fx_A g)) args s 0 0 (fx_A g)) (F0 m 66 ls [])) (x2 : Int32) (M : fx_Mem) (h : wb_X7_removeItem_8_34 k34 k66 Q x2 M) (H : Heap) (locs : List Loc) (ls : Array Slot) (hH : fx_H g s M H locs) (hl : lv_has ls 3 [(0, .ref (fx_a g 8)), (2, .int x2)]) : W p l e rm_X7_removeItem_8 s m args below meth c H locs 0 0 (MQ below (va_Qi Q (fx_Pw g) (fx_A g)) args s 0 0 (fx_A g)) (F0 m 34 ls []) := by
  obtain ⟨hx, hb, hr, hml, hown, hts, hlocks, hsz, hK, hG, hSt⟩ := id C
  unfold wb_X7_removeItem_8_34 at h
  refine lv_iload_n hx hb dX7_removeItem_34 rfl (lv_at hl 1 rfl) ?_
  refine lv_bipush (v := 10) hx hb dX7_removeItem_35 (by decide) ?_
  refine lv_aload_n hx hb dX7_removeItem_37 rfl (lv_at hl 0 rfl) ?_
  refine fx_get C hH (fx_w8 g M) rfl in_X7 3 (by decide) u_826 rfl rfl dX7_removeItem_38 ?_
  refine lv_imul hx hb dX7_removeItem_41 ?_
  refine lv_icmp_ge (tgt := 66) hx hb dX7_removeItem_42 (by decide) (fun c1 => ?_) (fun c1 => ?_)
  · replace h := h.1 c1
    exact hk66  M h  H locs ls hH (lv_sub hl [0] rfl)
  · replace h := h.2 c1
    refine lv_aload_n hx hb dX7_removeItem_45 rfl (lv_at hl 0 rfl) ?_
    refine fx_get C hH (fx_w8 g M) rfl in_X7 2 (by decide) u_825 rfl rfl dX7_removeItem_46 ?_
    refine lv_iload_n hx hb dX7_removeItem_49 rfl (lv_at hl 1 rfl) ?_
    refine lv_aload_n hx hb dX7_removeItem_50 rfl (lv_at hl 0 rfl) ?_
    refine fx_get C hH (fx_w8 g M) rfl in_X7 2 (by decide) u_825 rfl rfl dX7_removeItem_51 ?_
    refine lv_iload_n hx hb dX7_removeItem_54 rfl (lv_at hl 1 rfl) ?_
    refine lv_bipush (v := 10) hx hb dX7_removeItem_55 (by decide) ?_
    refine lv_iadd hx hb dX7_removeItem_57 ?_
    obtain ⟨hi2, h⟩ := h
    refine fx_iald (j := (x2 + 10).toNatClampNeg) C hH 31 (fx_w31 g M) rfl hi2 dX7_removeItem_58 ?_
    obtain ⟨hi3, h⟩ := h
    refine fx_iast (j := x2.toNatClampNeg) (M' := fx_sa M 31 x2.toNatClampNeg (M.2.1 31 ((x2 + 10).toNatClampNeg))) C hH 31 rfl (fx_w31 g M) (fx_p31 g M _) hi3 dX7_removeItem_59 (fun H locs hH => ?_)
    generalize eM4 : fx_sa M 31 x2.toNatClampNeg (M.2.1 31 ((x2 + 10).toNatClampNeg)) = M4 at hH
    replace h := h M4 eM4.symm
    obtain ⟨v5, ev5⟩ : ∃ z : Int32, z = x2 + 1 := ⟨_, rfl⟩
    refine lv_iinc (v := v5) (lv' := [(2, .int v5), (0, .ref (fx_a g 8))]) hx hb dX7_removeItem_60 hl (k := 1) rfl (by rw [ev5]; rfl) (by decide) rfl (fun ls hl => ?_)
    replace h := h v5 ev5
    refine lv_goto (tgt := 34) hx hb dX7_removeItem_63 (by decide) ?_
    exact hk34 v5 M4 h  H locs ls hH (lv_sub hl [1, 0] rfl)
def wl_X7_removeItem_8_34 (k66 : fx_Mem → Prop) (Q : Int32 → fx_Mem → Prop) (n : Nat) (x2 : Int32) (M : fx_Mem) : Prop :=
  fx_lp (α := Int32 × fx_Mem) (fun k a => wb_X7_removeItem_8_34 (fun x2 M => k (x2, M)) k66 Q a.1 a.2) n (x2, M)
set_option maxHeartbeats 4000000 in
theorem tl_X7_removeItem_8_34 {g : fx_Geo} {p : Program} {l : Launch} {e : Env} {s : State} {m : MethodId} {args : Array Value} {below : List Frame} {meth : Method} {c : Code} (C : fx_Cx g p s m args meth c RX7 cX7_removeItem 3 (some .int)) (k66 : fx_Mem → Prop) (Q : Int32 → fx_Mem → Prop) (hk66 : ∀ (M : fx_Mem), k66  M → ∀ (H : Heap) (locs : List Loc) (ls : Array Slot), fx_H g s M H locs → lv_has ls 3 [(0, .ref (fx_a g 8))] → W p l e rm_X7_removeItem_8 s m args below meth c H locs 0 0 (MQ below (va_Qi Q (fx_Pw g) (fx_A g)) args s 0 0 (fx_A g)) (F0 m 66 ls [])) : ∀ (n : Nat) (x2 : Int32) (M : fx_Mem), wl_X7_removeItem_8_34 k66 Q n x2 M → ∀ (H : Heap) (locs : List Loc) (ls : Array Slot), fx_H g s M H locs → lv_has ls 3 [(0, .ref (fx_a g 8)), (2, .int x2)] → W p l e rm_X7_removeItem_8 s m args below meth c H locs 0 0 (MQ below (va_Qi Q (fx_Pw g) (fx_A g)) args s 0 0 (fx_A g)) (F0 m 34 ls []) := by
  intro n
  induction n with
  | zero => intro x2 M h; exact False.elim h
  | succ n ih => intro x2 M h  H locs ls hH hl; exact tb_X7_removeItem_8_34 C (wl_X7_removeItem_8_34 k66 Q n) k66 Q ih hk66 x2 M h  H locs ls hH hl
def wb_X7_removeItem_8_66 (Q : Int32 → fx_Mem → Prop) (M : fx_Mem) : Prop :=
  Q (M.1 515) M
set_option maxHeartbeats 4000000 in
set_option maxRecDepth 100000 in
theorem tb_X7_removeItem_8_66 {g : fx_Geo} {p : Program} {l : Launch} {e : Env} {s : State} {m : MethodId} {args : Array Value} {below : List Frame} {meth : Method} {c : Code} (C : fx_Cx g p s m args meth c RX7 cX7_removeItem 3 (some .int)) (Q : Int32 → fx_Mem → Prop) (M : fx_Mem) (h : wb_X7_removeItem_8_66 Q M) (H : Heap) (locs : List Loc) (ls : Array Slot) (hH : fx_H g s M H locs) (hl : lv_has ls 3 [(0, .ref (fx_a g 8))]) : W p l e rm_X7_removeItem_8 s m args below meth c H locs 0 0 (MQ below (va_Qi Q (fx_Pw g) (fx_A g)) args s 0 0 (fx_A g)) (F0 m 66 ls []) := by
  obtain ⟨hx, hb, hr, hml, hown, hts, hlocks, hsz, hK, hG, hSt⟩ := id C
  unfold wb_X7_removeItem_8_66 at h
  refine lv_aload_n hx hb dX7_removeItem_66 rfl (lv_at hl 0 rfl) ?_
  refine fx_get C hH (fx_w8 g M) rfl in_X7 3 (by decide) u_826 rfl rfl dX7_removeItem_67 ?_
  exact fx_iret C hH h dX7_removeItem_70
def wp_X7_removeItem_8 (a1 : Int32) (M : fx_Mem) (Q : Int32 → fx_Mem → Prop) : Prop :=
  wp_X7_isItem_8 a1 M (fun r2 M1 => ((r2 = 0 → wp_X7_fails_8 1 M1 (fun r8 M7 => Q r8 M7)) ∧ (¬ r2 = 0 → ∀ M4 : fx_Mem, M4 = fx_si M1 512 0 → ∀ M5 : fx_Mem, M5 = fx_si M4 515 ((M4.1 515) - 1) → ∀ v6 : Int32, v6 = 10 * a1 → ∃ n34 : Nat, wl_X7_removeItem_8_34 (wb_X7_removeItem_8_66 Q) Q n34 v6 M5)))
set_option maxHeartbeats 4000000 in
set_option maxRecDepth 100000 in
theorem c_X7_removeItem_8 (l : Launch) {g : fx_Geo} (hG : fx_Gd g) (a1 : Int32) (M : fx_Mem) (Q : Int32 → fx_Mem → Prop) (h : wp_X7_removeItem_8 a1 M Q) : Met l yX7_removeItem (.code yX7_removeItem cX7_removeItem 3 (some .int) :: fx_U) rm_X7_removeItem_8 (va_Pc [.ref (fx_a g 8), .int a1] (fx_At g M)) (va_Qi Q (fx_Pw g) (fx_A g)) 0 0 (fx_A g) := by
  refine Met.ofW (cc := cX7_removeItem) (maxL := 3) (ret := (some .int)) (by decide +kernel) rfl ?_
  intro p e s m args below meth c s₁ B hml hv
  obtain ⟨rfl, hv⟩ := hv
  have hts := atoms_spec (ws := .code yX7_removeItem cX7_removeItem 3 (some .int) :: fx_U) B.pre
  obtain ⟨C, hH⟩ := fx_body (own := RX7) B hml rfl (fun w hw => hts w (List.mem_cons_of_mem _ hw)) hG hv
  replace hts := fun w hw => hts w (List.mem_cons_of_mem _ hw)
  obtain ⟨hx, hb, hr, -, hown, -, hlocks, hsz, hK, -, hSt⟩ := id C
  have hl := lv_entry ([.ref (fx_a g 8), .int a1]) (n := 3) (Nat.le_of_ble_eq_true rfl)
  rw [lg_entry_eq]
  generalize (lg_sl ([.ref (fx_a g 8), .int a1]) ++ List.replicate (3 - (lg_sl ([.ref (fx_a g 8), .int a1])).length) Slot.unset).toArray = ls at hl ⊢
  have hl : lv_has ls 3 [(0, .ref (fx_a g 8)), (1, .int a1)] := hl
  obtain ⟨H, eH⟩ : ∃ H : Heap, H = s.heap := ⟨_, rfl⟩
  obtain ⟨locs, elocs⟩ : ∃ q : List Loc, q = [] := ⟨_, rfl⟩
  rw [← eH, ← elocs] at hH
  show W p l e rm_X7_removeItem_8 s m _ below meth c s.heap [] 0 0 _ _
  rw [← eH, ← elocs]
  unfold wp_X7_removeItem_8 at h
  refine lv_aload_n hx hb dX7_removeItem_0 rfl (lv_at hl 0 rfl) ?_
  refine lv_iload_n hx hb dX7_removeItem_1 rfl (lv_at hl 1 rfl) ?_
  refine fx_ci hH (fx_runV (As := [.int a1]) (rest := []) C hH (c_X7_isItem_8 l C.2.2.2.2.2.2.2.2.2.1 a1 M _ h) (fx_cwV 1 hts u_980 u_982 us_26 u_8 u_983 rfl rfl (by decide +kernel) ⟨(Nat.le_of_ble_eq_true rfl), (Nat.le_of_ble_eq_true rfl)⟩) (fx_w8 g M) rfl rfl hl.1 rfl (Nat.le_of_ble_eq_true rfl) dX7_removeItem_2 ⟨(Nat.le_of_ble_eq_true rfl), (Nat.le_of_ble_eq_true rfl)⟩) (fun r2 M1 H locs h hH => ?_)
  refine lv_if_ne (tgt := 14) hx hb dX7_removeItem_5 (by decide) (fun c3 => ?_) (fun c3 => ?_)
  · replace h := h.2 c3
    refine lv_aload_n hx hb dX7_removeItem_14 rfl (lv_at hl 0 rfl) ?_
    refine lv_iconst (v := 0) hx hb dX7_removeItem_15 (by decide) ?_
    refine fx_put C hH (fx_w8 g M1) rfl in_X7 tyX7 tyX7_ok nmX7 0 (by decide) u_823 rfl rfl (ty := .int) (by decide +kernel) rfl rfl (Nat.le_of_ble_eq_true rfl) (fx_p8_0 g M1 0) dX7_removeItem_16 (fun H locs hH => ?_)
    generalize eM4 : fx_si M1 512 0 = M4 at hH
    replace h := h M4 eM4.symm
    refine lv_aload_n hx hb dX7_removeItem_19 rfl (lv_at hl 0 rfl) ?_
    refine lv_dup hx hb dX7_removeItem_20 rfl ?_
    refine fx_get C hH (fx_w8 g M4) rfl in_X7 3 (by decide) u_826 rfl rfl dX7_removeItem_21 ?_
    refine lv_iconst (v := 1) hx hb dX7_removeItem_24 (by decide) ?_
    refine lv_isub hx hb dX7_removeItem_25 ?_
    refine fx_put C hH (fx_w8 g M4) rfl in_X7 tyX7 tyX7_ok nmX7 3 (by decide) u_826 rfl rfl (ty := .int) (by decide +kernel) rfl rfl (Nat.le_of_ble_eq_true rfl) (fx_p8_3 g M4 ((M4.1 515) - 1)) dX7_removeItem_26 (fun H locs hH => ?_)
    generalize eM5 : fx_si M4 515 ((M4.1 515) - 1) = M5 at hH
    replace h := h M5 eM5.symm
    refine lv_bipush (v := 10) hx hb dX7_removeItem_29 (by decide) ?_
    refine lv_iload_n hx hb dX7_removeItem_31 rfl (lv_at hl 1 rfl) ?_
    refine lv_imul hx hb dX7_removeItem_32 ?_
    refine lv_topi (fun v6 ev6 => ?_)
    replace h := h v6 ev6
    refine lv_istore_n (lv' := [(2, .int v6), (0, .ref (fx_a g 8)), (1, .int a1)]) hx hb dX7_removeItem_33 rfl hl (by decide) rfl (fun ls hl => ?_)
    obtain ⟨n34, h⟩ := h
    exact tl_X7_removeItem_8_34 C (wb_X7_removeItem_8_66 Q) Q (tb_X7_removeItem_8_66 C Q ) n34 v6 M5 h  H locs ls hH (lv_sub hl [1, 0] rfl)
  · replace h := h.1 c3
    refine lv_aload_n hx hb dX7_removeItem_8 rfl (lv_at hl 0 rfl) ?_
    refine lv_iconst (v := 1) hx hb dX7_removeItem_9 (by decide) ?_
    refine fx_ci hH (fx_runV (As := [.int 1]) (rest := []) C hH (c_X7_fails_8 l C.2.2.2.2.2.2.2.2.2.1 1 M1 _ h) (fx_cwV 1 hts u_945 u_947 us_24 u_8 u_948 rfl rfl (by decide +kernel) ⟨(Nat.le_of_ble_eq_true rfl), (Nat.le_of_ble_eq_true rfl)⟩) (fx_w8 g M1) rfl rfl hl.1 rfl (Nat.le_of_ble_eq_true rfl) dX7_removeItem_10 ⟨(Nat.le_of_ble_eq_true rfl), (Nat.le_of_ble_eq_true rfl)⟩) (fun r8 M7 H locs h hH => ?_)
    exact fx_iret C hH h dX7_removeItem_13
/-! FlexLayoutModel.items()I (8,) -/
def rm_X7_items_8 : Room := { frames := 0, cells := 0, slots := 0, locals := 0 }
def wp_X7_items_8 (M : fx_Mem) (Q : Int32 → fx_Mem → Prop) : Prop :=
  ∀ M1 : fx_Mem, M1 = fx_si M 512 0 → Q (M1.1 515) M1
set_option maxHeartbeats 4000000 in
set_option maxRecDepth 100000 in
theorem c_X7_items_8 (l : Launch) {g : fx_Geo} (hG : fx_Gd g) (M : fx_Mem) (Q : Int32 → fx_Mem → Prop) (h : wp_X7_items_8 M Q) : Met l yX7_items (.code yX7_items cX7_items 1 (some .int) :: fx_U) rm_X7_items_8 (va_Pc [.ref (fx_a g 8)] (fx_At g M)) (va_Qi Q (fx_Pw g) (fx_A g)) 0 0 (fx_A g) := by
  refine Met.ofW (cc := cX7_items) (maxL := 1) (ret := (some .int)) (by decide +kernel) rfl ?_
  intro p e s m args below meth c s₁ B hml hv
  obtain ⟨rfl, hv⟩ := hv
  have hts := atoms_spec (ws := .code yX7_items cX7_items 1 (some .int) :: fx_U) B.pre
  obtain ⟨C, hH⟩ := fx_body (own := RX7) B hml rfl (fun w hw => hts w (List.mem_cons_of_mem _ hw)) hG hv
  replace hts := fun w hw => hts w (List.mem_cons_of_mem _ hw)
  obtain ⟨hx, hb, hr, -, hown, -, hlocks, hsz, hK, -, hSt⟩ := id C
  have hl := lv_entry ([.ref (fx_a g 8)]) (n := 1) (Nat.le_of_ble_eq_true rfl)
  rw [lg_entry_eq]
  generalize (lg_sl ([.ref (fx_a g 8)]) ++ List.replicate (1 - (lg_sl ([.ref (fx_a g 8)])).length) Slot.unset).toArray = ls at hl ⊢
  have hl : lv_has ls 1 [(0, .ref (fx_a g 8))] := hl
  obtain ⟨H, eH⟩ : ∃ H : Heap, H = s.heap := ⟨_, rfl⟩
  obtain ⟨locs, elocs⟩ : ∃ q : List Loc, q = [] := ⟨_, rfl⟩
  rw [← eH, ← elocs] at hH
  show W p l e rm_X7_items_8 s m _ below meth c s.heap [] 0 0 _ _
  rw [← eH, ← elocs]
  unfold wp_X7_items_8 at h
  refine lv_aload_n hx hb dX7_items_0 rfl (lv_at hl 0 rfl) ?_
  refine lv_iconst (v := 0) hx hb dX7_items_1 (by decide) ?_
  refine fx_put C hH (fx_w8 g M) rfl in_X7 tyX7 tyX7_ok nmX7 0 (by decide) u_823 rfl rfl (ty := .int) (by decide +kernel) rfl rfl (Nat.le_of_ble_eq_true rfl) (fx_p8_0 g M 0) dX7_items_2 (fun H locs hH => ?_)
  generalize eM1 : fx_si M 512 0 = M1 at hH
  replace h := h M1 eM1.symm
  refine lv_aload_n hx hb dX7_items_5 rfl (lv_at hl 0 rfl) ?_
  refine fx_get C hH (fx_w8 g M1) rfl in_X7 3 (by decide) u_826 rfl rfl dX7_items_6 ?_
  exact fx_iret C hH h dX7_items_9
/-! FlexLayoutModel.setProperty(III)I (8,) -/
def rm_X7_setProperty_8 : Room := { frames := 1, cells := 0, slots := 0, locals := 25 }
def wb_X7_setProperty_8_20 (Q : Int32 → fx_Mem → Prop) (M : fx_Mem) : Prop :=
  wp_X7_fails_8 1 M (fun r2 M1 => Q r2 M1)
set_option maxHeartbeats 4000000 in
set_option maxRecDepth 100000 in
theorem tb_X7_setProperty_8_20 {g : fx_Geo} {p : Program} {l : Launch} {e : Env} {s : State} {m : MethodId} {args : Array Value} {below : List Frame} {meth : Method} {c : Code} (C : fx_Cx g p s m args meth c RX7 cX7_setProperty 5 (some .int)) (Q : Int32 → fx_Mem → Prop) (M : fx_Mem) (h : wb_X7_setProperty_8_20 Q M) (H : Heap) (locs : List Loc) (ls : Array Slot) (hH : fx_H g s M H locs) (hl : lv_has ls 5 [(0, .ref (fx_a g 8))]) : W p l e rm_X7_setProperty_8 s m args below meth c H locs 0 0 (MQ below (va_Qi Q (fx_Pw g) (fx_A g)) args s 0 0 (fx_A g)) (F0 m 20 ls []) := by
  obtain ⟨hx, hb, hr, hml, hown, hts, hlocks, hsz, hK, hG, hSt⟩ := id C
  unfold wb_X7_setProperty_8_20 at h
  refine lv_aload_n hx hb dX7_setProperty_20 rfl (lv_at hl 0 rfl) ?_
  refine lv_iconst (v := 1) hx hb dX7_setProperty_21 (by decide) ?_
  refine fx_ci hH (fx_runV (As := [.int 1]) (rest := []) C hH (c_X7_fails_8 l C.2.2.2.2.2.2.2.2.2.1 1 M _ h) (fx_cwV 1 hts u_945 u_947 us_24 u_8 u_948 rfl rfl (by decide +kernel) ⟨(Nat.le_of_ble_eq_true rfl), (Nat.le_of_ble_eq_true rfl)⟩) (fx_w8 g M) rfl rfl hl.1 rfl (Nat.le_of_ble_eq_true rfl) dX7_setProperty_22 ⟨(Nat.le_of_ble_eq_true rfl), (Nat.le_of_ble_eq_true rfl)⟩) (fun r2 M1 H locs h hH => ?_)
  exact fx_iret C hH h dX7_setProperty_25
def wp_X7_setProperty_8 (a1 : Int32) (a2 : Int32) (a3 : Int32) (M : fx_Mem) (Q : Int32 → fx_Mem → Prop) : Prop :=
  wp_X7_isItem_8 a1 M (fun r2 M1 => ((r2 = 0 → wb_X7_setProperty_8_20 Q  M1) ∧ (¬ r2 = 0 → wp_X7_isBetween a2.toInt64 0 9 M1 (fun r5 M4 => ((r5 = 0 → wb_X7_setProperty_8_20 Q  M4) ∧ (¬ r5 = 0 → vp_in a2 10 ∧ vp_in a2 10 ∧ wp_X7_isBetween a3.toInt64 ((fx_tQL a2.toNatClampNeg).toInt64) ((fx_tQM a2.toNatClampNeg).toInt64) M4 (fun r14 M13 => ((r14 = 0 → wp_X7_fails_8 2 M13 (fun r22 M21 => Q r22 M21)) ∧ (¬ r14 = 0 → ∀ M16 : fx_Mem, M16 = fx_si M13 512 0 → wp_X7_of_8 a1 a2 M16 (fun r18 M17 => vp_in ((10 * a1) + a2) 200 ∧ ∀ M20 : fx_Mem, M20 = fx_sa M17 31 (((10 * a1) + a2).toNatClampNeg) a3 → Q r18 M20))))))))))
set_option maxHeartbeats 4000000 in
set_option maxRecDepth 100000 in
theorem c_X7_setProperty_8 (l : Launch) {g : fx_Geo} (hG : fx_Gd g) (a1 : Int32) (a2 : Int32) (a3 : Int32) (M : fx_Mem) (Q : Int32 → fx_Mem → Prop) (h : wp_X7_setProperty_8 a1 a2 a3 M Q) : Met l yX7_setProperty (.code yX7_setProperty cX7_setProperty 5 (some .int) :: fx_U) rm_X7_setProperty_8 (va_Pc [.ref (fx_a g 8), .int a1, .int a2, .int a3] (fx_At g M)) (va_Qi Q (fx_Pw g) (fx_A g)) 0 0 (fx_A g) := by
  refine Met.ofW (cc := cX7_setProperty) (maxL := 5) (ret := (some .int)) (by decide +kernel) rfl ?_
  intro p e s m args below meth c s₁ B hml hv
  obtain ⟨rfl, hv⟩ := hv
  have hts := atoms_spec (ws := .code yX7_setProperty cX7_setProperty 5 (some .int) :: fx_U) B.pre
  obtain ⟨C, hH⟩ := fx_body (own := RX7) B hml rfl (fun w hw => hts w (List.mem_cons_of_mem _ hw)) hG hv
  replace hts := fun w hw => hts w (List.mem_cons_of_mem _ hw)
  obtain ⟨hx, hb, hr, -, hown, -, hlocks, hsz, hK, -, hSt⟩ := id C
  have hl := lv_entry ([.ref (fx_a g 8), .int a1, .int a2, .int a3]) (n := 5) (Nat.le_of_ble_eq_true rfl)
  rw [lg_entry_eq]
  generalize (lg_sl ([.ref (fx_a g 8), .int a1, .int a2, .int a3]) ++ List.replicate (5 - (lg_sl ([.ref (fx_a g 8), .int a1, .int a2, .int a3])).length) Slot.unset).toArray = ls at hl ⊢
  have hl : lv_has ls 5 [(0, .ref (fx_a g 8)), (1, .int a1), (2, .int a2), (3, .int a3)] := hl
  obtain ⟨H, eH⟩ : ∃ H : Heap, H = s.heap := ⟨_, rfl⟩
  obtain ⟨locs, elocs⟩ : ∃ q : List Loc, q = [] := ⟨_, rfl⟩
  rw [← eH, ← elocs] at hH
  show W p l e rm_X7_setProperty_8 s m _ below meth c s.heap [] 0 0 _ _
  rw [← eH, ← elocs]
  unfold wp_X7_setProperty_8 at h
  refine lv_aload_n hx hb dX7_setProperty_0 rfl (lv_at hl 0 rfl) ?_
  refine lv_iload_n hx hb dX7_setProperty_1 rfl (lv_at hl 1 rfl) ?_
  refine fx_ci hH (fx_runV (As := [.int a1]) (rest := []) C hH (c_X7_isItem_8 l C.2.2.2.2.2.2.2.2.2.1 a1 M _ h) (fx_cwV 1 hts u_980 u_982 us_26 u_8 u_983 rfl rfl (by decide +kernel) ⟨(Nat.le_of_ble_eq_true rfl), (Nat.le_of_ble_eq_true rfl)⟩) (fx_w8 g M) rfl rfl hl.1 rfl (Nat.le_of_ble_eq_true rfl) dX7_setProperty_2 ⟨(Nat.le_of_ble_eq_true rfl), (Nat.le_of_ble_eq_true rfl)⟩) (fun r2 M1 H locs h hH => ?_)
  refine lv_if_eq (tgt := 20) hx hb dX7_setProperty_5 (by decide) (fun c3 => ?_) (fun c3 => ?_)
  · replace h := h.1 c3
    exact tb_X7_setProperty_8_20 C Q   M1 h  H locs ls hH (lv_sub hl [0] rfl)
  · replace h := h.2 c3
    refine lv_iload_n hx hb dX7_setProperty_8 rfl (lv_at hl 2 rfl) ?_
    refine lv_i2l hx hb dX7_setProperty_9 rfl ?_
    refine lv_lconst (v := 0) hx hb dX7_setProperty_10 (by decide) ?_
    refine lv_ldc2 hx hb hown (hts _ u_992) dX7_setProperty_11 ?_
    refine fx_ci hH (fx_runS (As := [.long a2.toInt64, .long 0, .long 9]) (rest := []) C hH (c_X7_isBetween l C.2.2.2.2.2.2.2.2.2.1 a2.toInt64 0 9 M1 _ h) (fx_cwS 3 hts u_938 u_939 u_8 u_940 rfl rfl (by decide +kernel) ⟨(Nat.le_of_ble_eq_true rfl), (Nat.le_of_ble_eq_true rfl)⟩) rfl hl.1 rfl (Nat.le_of_ble_eq_true rfl) dX7_setProperty_14 ⟨(Nat.le_of_ble_eq_true rfl), (Nat.le_of_ble_eq_true rfl)⟩) (fun r5 M4 H locs h hH => ?_)
    refine lv_if_ne (tgt := 26) hx hb dX7_setProperty_17 (by decide) (fun c6 => ?_) (fun c6 => ?_)
    · replace h := h.2 c6
      refine lv_iload_n hx hb dX7_setProperty_26 rfl (lv_at hl 3 rfl) ?_
      refine lv_i2l hx hb dX7_setProperty_27 rfl ?_
      refine fx_gets C hH 6 rfl u_993 dX7_setProperty_28 (fun t7 hT8 => ?_)
      refine lv_iload_n hx hb dX7_setProperty_31 rfl (lv_at hl 2 rfl) ?_
      obtain ⟨hi9, h⟩ := h
      refine fx_ti (j := a2.toNatClampNeg) C hH hT8 rfl hi9 dX7_setProperty_32 ?_
      refine lv_i2l hx hb dX7_setProperty_33 rfl ?_
      refine fx_gets C hH 7 rfl u_995 dX7_setProperty_34 (fun t10 hT11 => ?_)
      refine lv_iload_n hx hb dX7_setProperty_37 rfl (lv_at hl 2 rfl) ?_
      obtain ⟨hi12, h⟩ := h
      refine fx_ti (j := a2.toNatClampNeg) C hH hT11 rfl hi12 dX7_setProperty_38 ?_
      refine lv_i2l hx hb dX7_setProperty_39 rfl ?_
      refine fx_ci hH (fx_runS (As := [.long a3.toInt64, .long ((fx_tQL a2.toNatClampNeg).toInt64), .long ((fx_tQM a2.toNatClampNeg).toInt64)]) (rest := []) C hH (c_X7_isBetween l C.2.2.2.2.2.2.2.2.2.1 a3.toInt64 ((fx_tQL a2.toNatClampNeg).toInt64) ((fx_tQM a2.toNatClampNeg).toInt64) M4 _ h) (fx_cwS 3 hts u_938 u_939 u_8 u_940 rfl rfl (by decide +kernel) ⟨(Nat.le_of_ble_eq_true rfl), (Nat.le_of_ble_eq_true rfl)⟩) rfl hl.1 rfl (Nat.le_of_ble_eq_true rfl) dX7_setProperty_40 ⟨(Nat.le_of_ble_eq_true rfl), (Nat.le_of_ble_eq_true rfl)⟩) (fun r14 M13 H locs h hH => ?_)
      refine lv_if_ne (tgt := 52) hx hb dX7_setProperty_43 (by decide) (fun c15 => ?_) (fun c15 => ?_)
      · replace h := h.2 c15
        refine lv_aload_n hx hb dX7_setProperty_52 rfl (lv_at hl 0 rfl) ?_
        refine lv_iconst (v := 0) hx hb dX7_setProperty_53 (by decide) ?_
        refine fx_put C hH (fx_w8 g M13) rfl in_X7 tyX7 tyX7_ok nmX7 0 (by decide) u_823 rfl rfl (ty := .int) (by decide +kernel) rfl rfl (Nat.le_of_ble_eq_true rfl) (fx_p8_0 g M13 0) dX7_setProperty_54 (fun H locs hH => ?_)
        generalize eM16 : fx_si M13 512 0 = M16 at hH
        replace h := h M16 eM16.symm
        refine lv_aload_n hx hb dX7_setProperty_57 rfl (lv_at hl 0 rfl) ?_
        refine lv_iload_n hx hb dX7_setProperty_58 rfl (lv_at hl 1 rfl) ?_
        refine lv_iload_n hx hb dX7_setProperty_59 rfl (lv_at hl 2 rfl) ?_
        refine fx_ci hH (fx_runV (As := [.int a1, .int a2]) (rest := []) C hH (c_X7_of_8 l C.2.2.2.2.2.2.2.2.2.1 a1 a2 M16 _ h) (fx_cwV 2 hts u_997 u_999 us_27 u_8 u_1000 rfl rfl (by decide +kernel) ⟨(Nat.le_of_ble_eq_true rfl), (Nat.le_of_ble_eq_true rfl)⟩) (fx_w8 g M16) rfl rfl hl.1 rfl (Nat.le_of_ble_eq_true rfl) dX7_setProperty_60 ⟨(Nat.le_of_ble_eq_true rfl), (Nat.le_of_ble_eq_true rfl)⟩) (fun r18 M17 H locs h hH => ?_)
        refine lv_istore (lv' := [(4, .int r18), (0, .ref (fx_a g 8)), (1, .int a1), (2, .int a2), (3, .int a3)]) hx hb dX7_setProperty_63 hl (by decide) rfl (fun ls hl => ?_)
        refine lv_aload_n hx hb dX7_setProperty_65 rfl (lv_at hl 1 rfl) ?_
        refine fx_get C hH (fx_w8 g M17) rfl in_X7 2 (by decide) u_825 rfl rfl dX7_setProperty_66 ?_
        refine lv_bipush (v := 10) hx hb dX7_setProperty_69 (by decide) ?_
        refine lv_iload_n hx hb dX7_setProperty_71 rfl (lv_at hl 2 rfl) ?_
        refine lv_imul hx hb dX7_setProperty_72 ?_
        refine lv_iload_n hx hb dX7_setProperty_73 rfl (lv_at hl 3 rfl) ?_
        refine lv_iadd hx hb dX7_setProperty_74 ?_
        refine lv_iload_n hx hb dX7_setProperty_75 rfl (lv_at hl 4 rfl) ?_
        obtain ⟨hi19, h⟩ := h
        refine fx_iast (j := ((10 * a1) + a2).toNatClampNeg) (M' := fx_sa M17 31 (((10 * a1) + a2).toNatClampNeg) a3) C hH 31 rfl (fx_w31 g M17) (fx_p31 g M17 _) hi19 dX7_setProperty_76 (fun H locs hH => ?_)
        generalize eM20 : fx_sa M17 31 (((10 * a1) + a2).toNatClampNeg) a3 = M20 at hH
        replace h := h M20 eM20.symm
        refine lv_iload hx hb dX7_setProperty_77 (lv_at hl 0 rfl) ?_
        exact fx_iret C hH h dX7_setProperty_79
      · replace h := h.1 c15
        refine lv_aload_n hx hb dX7_setProperty_46 rfl (lv_at hl 0 rfl) ?_
        refine lv_iconst (v := 2) hx hb dX7_setProperty_47 (by decide) ?_
        refine fx_ci hH (fx_runV (As := [.int 2]) (rest := []) C hH (c_X7_fails_8 l C.2.2.2.2.2.2.2.2.2.1 2 M13 _ h) (fx_cwV 1 hts u_945 u_947 us_24 u_8 u_948 rfl rfl (by decide +kernel) ⟨(Nat.le_of_ble_eq_true rfl), (Nat.le_of_ble_eq_true rfl)⟩) (fx_w8 g M13) rfl rfl hl.1 rfl (Nat.le_of_ble_eq_true rfl) dX7_setProperty_48 ⟨(Nat.le_of_ble_eq_true rfl), (Nat.le_of_ble_eq_true rfl)⟩) (fun r22 M21 H locs h hH => ?_)
        exact fx_iret C hH h dX7_setProperty_51
    · replace h := h.1 c6
      exact tb_X7_setProperty_8_20 C Q   M4 h  H locs ls hH (lv_sub hl [0] rfl)
/-! FlexLayoutModel.property(II)I (8,) -/
def rm_X7_property_8 : Room := { frames := 1, cells := 0, slots := 0, locals := 25 }
def wb_X7_property_8_20 (Q : Int32 → fx_Mem → Prop) (M : fx_Mem) : Prop :=
  wp_X7_fails_8 1 M (fun r2 M1 => Q r2 M1)
set_option maxHeartbeats 4000000 in
set_option maxRecDepth 100000 in
theorem tb_X7_property_8_20 {g : fx_Geo} {p : Program} {l : Launch} {e : Env} {s : State} {m : MethodId} {args : Array Value} {below : List Frame} {meth : Method} {c : Code} (C : fx_Cx g p s m args meth c RX7 cX7_property 3 (some .int)) (Q : Int32 → fx_Mem → Prop) (M : fx_Mem) (h : wb_X7_property_8_20 Q M) (H : Heap) (locs : List Loc) (ls : Array Slot) (hH : fx_H g s M H locs) (hl : lv_has ls 3 [(0, .ref (fx_a g 8))]) : W p l e rm_X7_property_8 s m args below meth c H locs 0 0 (MQ below (va_Qi Q (fx_Pw g) (fx_A g)) args s 0 0 (fx_A g)) (F0 m 20 ls []) := by
  obtain ⟨hx, hb, hr, hml, hown, hts, hlocks, hsz, hK, hG, hSt⟩ := id C
  unfold wb_X7_property_8_20 at h
  refine lv_aload_n hx hb dX7_property_20 rfl (lv_at hl 0 rfl) ?_
  refine lv_iconst (v := 1) hx hb dX7_property_21 (by decide) ?_
  refine fx_ci hH (fx_runV (As := [.int 1]) (rest := []) C hH (c_X7_fails_8 l C.2.2.2.2.2.2.2.2.2.1 1 M _ h) (fx_cwV 1 hts u_945 u_947 us_24 u_8 u_948 rfl rfl (by decide +kernel) ⟨(Nat.le_of_ble_eq_true rfl), (Nat.le_of_ble_eq_true rfl)⟩) (fx_w8 g M) rfl rfl hl.1 rfl (Nat.le_of_ble_eq_true rfl) dX7_property_22 ⟨(Nat.le_of_ble_eq_true rfl), (Nat.le_of_ble_eq_true rfl)⟩) (fun r2 M1 H locs h hH => ?_)
  exact fx_iret C hH h dX7_property_25
def wp_X7_property_8 (a1 : Int32) (a2 : Int32) (M : fx_Mem) (Q : Int32 → fx_Mem → Prop) : Prop :=
  wp_X7_isItem_8 a1 M (fun r2 M1 => ((r2 = 0 → wb_X7_property_8_20 Q  M1) ∧ (¬ r2 = 0 → wp_X7_isBetween a2.toInt64 0 9 M1 (fun r5 M4 => ((r5 = 0 → wb_X7_property_8_20 Q  M4) ∧ (¬ r5 = 0 → ∀ M7 : fx_Mem, M7 = fx_si M4 512 0 → wp_X7_of_8 a1 a2 M7 (fun r9 M8 => Q r9 M8)))))))
set_option maxHeartbeats 4000000 in
set_option maxRecDepth 100000 in
theorem c_X7_property_8 (l : Launch) {g : fx_Geo} (hG : fx_Gd g) (a1 : Int32) (a2 : Int32) (M : fx_Mem) (Q : Int32 → fx_Mem → Prop) (h : wp_X7_property_8 a1 a2 M Q) : Met l yX7_property (.code yX7_property cX7_property 3 (some .int) :: fx_U) rm_X7_property_8 (va_Pc [.ref (fx_a g 8), .int a1, .int a2] (fx_At g M)) (va_Qi Q (fx_Pw g) (fx_A g)) 0 0 (fx_A g) := by
  refine Met.ofW (cc := cX7_property) (maxL := 3) (ret := (some .int)) (by decide +kernel) rfl ?_
  intro p e s m args below meth c s₁ B hml hv
  obtain ⟨rfl, hv⟩ := hv
  have hts := atoms_spec (ws := .code yX7_property cX7_property 3 (some .int) :: fx_U) B.pre
  obtain ⟨C, hH⟩ := fx_body (own := RX7) B hml rfl (fun w hw => hts w (List.mem_cons_of_mem _ hw)) hG hv
  replace hts := fun w hw => hts w (List.mem_cons_of_mem _ hw)
  obtain ⟨hx, hb, hr, -, hown, -, hlocks, hsz, hK, -, hSt⟩ := id C
  have hl := lv_entry ([.ref (fx_a g 8), .int a1, .int a2]) (n := 3) (Nat.le_of_ble_eq_true rfl)
  rw [lg_entry_eq]
  generalize (lg_sl ([.ref (fx_a g 8), .int a1, .int a2]) ++ List.replicate (3 - (lg_sl ([.ref (fx_a g 8), .int a1, .int a2])).length) Slot.unset).toArray = ls at hl ⊢
  have hl : lv_has ls 3 [(0, .ref (fx_a g 8)), (1, .int a1), (2, .int a2)] := hl
  obtain ⟨H, eH⟩ : ∃ H : Heap, H = s.heap := ⟨_, rfl⟩
  obtain ⟨locs, elocs⟩ : ∃ q : List Loc, q = [] := ⟨_, rfl⟩
  rw [← eH, ← elocs] at hH
  show W p l e rm_X7_property_8 s m _ below meth c s.heap [] 0 0 _ _
  rw [← eH, ← elocs]
  unfold wp_X7_property_8 at h
  refine lv_aload_n hx hb dX7_property_0 rfl (lv_at hl 0 rfl) ?_
  refine lv_iload_n hx hb dX7_property_1 rfl (lv_at hl 1 rfl) ?_
  refine fx_ci hH (fx_runV (As := [.int a1]) (rest := []) C hH (c_X7_isItem_8 l C.2.2.2.2.2.2.2.2.2.1 a1 M _ h) (fx_cwV 1 hts u_980 u_982 us_26 u_8 u_983 rfl rfl (by decide +kernel) ⟨(Nat.le_of_ble_eq_true rfl), (Nat.le_of_ble_eq_true rfl)⟩) (fx_w8 g M) rfl rfl hl.1 rfl (Nat.le_of_ble_eq_true rfl) dX7_property_2 ⟨(Nat.le_of_ble_eq_true rfl), (Nat.le_of_ble_eq_true rfl)⟩) (fun r2 M1 H locs h hH => ?_)
  refine lv_if_eq (tgt := 20) hx hb dX7_property_5 (by decide) (fun c3 => ?_) (fun c3 => ?_)
  · replace h := h.1 c3
    exact tb_X7_property_8_20 C Q   M1 h  H locs ls hH (lv_sub hl [0] rfl)
  · replace h := h.2 c3
    refine lv_iload_n hx hb dX7_property_8 rfl (lv_at hl 2 rfl) ?_
    refine lv_i2l hx hb dX7_property_9 rfl ?_
    refine lv_lconst (v := 0) hx hb dX7_property_10 (by decide) ?_
    refine lv_ldc2 hx hb hown (hts _ u_992) dX7_property_11 ?_
    refine fx_ci hH (fx_runS (As := [.long a2.toInt64, .long 0, .long 9]) (rest := []) C hH (c_X7_isBetween l C.2.2.2.2.2.2.2.2.2.1 a2.toInt64 0 9 M1 _ h) (fx_cwS 3 hts u_938 u_939 u_8 u_940 rfl rfl (by decide +kernel) ⟨(Nat.le_of_ble_eq_true rfl), (Nat.le_of_ble_eq_true rfl)⟩) rfl hl.1 rfl (Nat.le_of_ble_eq_true rfl) dX7_property_14 ⟨(Nat.le_of_ble_eq_true rfl), (Nat.le_of_ble_eq_true rfl)⟩) (fun r5 M4 H locs h hH => ?_)
    refine lv_if_ne (tgt := 26) hx hb dX7_property_17 (by decide) (fun c6 => ?_) (fun c6 => ?_)
    · replace h := h.2 c6
      refine lv_aload_n hx hb dX7_property_26 rfl (lv_at hl 0 rfl) ?_
      refine lv_iconst (v := 0) hx hb dX7_property_27 (by decide) ?_
      refine fx_put C hH (fx_w8 g M4) rfl in_X7 tyX7 tyX7_ok nmX7 0 (by decide) u_823 rfl rfl (ty := .int) (by decide +kernel) rfl rfl (Nat.le_of_ble_eq_true rfl) (fx_p8_0 g M4 0) dX7_property_28 (fun H locs hH => ?_)
      generalize eM7 : fx_si M4 512 0 = M7 at hH
      replace h := h M7 eM7.symm
      refine lv_aload_n hx hb dX7_property_31 rfl (lv_at hl 0 rfl) ?_
      refine lv_iload_n hx hb dX7_property_32 rfl (lv_at hl 1 rfl) ?_
      refine lv_iload_n hx hb dX7_property_33 rfl (lv_at hl 2 rfl) ?_
      refine fx_ci hH (fx_runV (As := [.int a1, .int a2]) (rest := []) C hH (c_X7_of_8 l C.2.2.2.2.2.2.2.2.2.1 a1 a2 M7 _ h) (fx_cwV 2 hts u_997 u_999 us_27 u_8 u_1000 rfl rfl (by decide +kernel) ⟨(Nat.le_of_ble_eq_true rfl), (Nat.le_of_ble_eq_true rfl)⟩) (fx_w8 g M7) rfl rfl hl.1 rfl (Nat.le_of_ble_eq_true rfl) dX7_property_34 ⟨(Nat.le_of_ble_eq_true rfl), (Nat.le_of_ble_eq_true rfl)⟩) (fun r9 M8 H locs h hH => ?_)
      exact fx_iret C hH h dX7_property_37
    · replace h := h.1 c6
      exact tb_X7_property_8_20 C Q   M4 h  H locs ls hH (lv_sub hl [0] rfl)
/-! FlexLayoutModel.feed(C)I (8,) -/
def rm_X7_feed_8 : Room := { frames := 1, cells := 0, slots := 0, locals := 21 }
def wp_X7_feed_8 (a1 : Int32) (M : fx_Mem) (Q : Int32 → fx_Mem → Prop) : Prop :=
  ((M.1 520 = 80 → wp_X7_fails_8 1 M (fun r7 M6 => Q r7 M6)) ∧ (¬ M.1 520 = 80 → ∀ M2 : fx_Mem, M2 = fx_si M 512 0 → vp_in (M2.1 520) 80 ∧ ∀ M4 : fx_Mem, M4 = fx_sa M2 32 ((M2.1 520).toNatClampNeg) (vp_nar .char a1) → ∀ M5 : fx_Mem, M5 = fx_si M4 520 ((M4.1 520) + 1) → Q (M5.1 520) M5))
set_option maxHeartbeats 4000000 in
set_option maxRecDepth 100000 in
theorem c_X7_feed_8 (l : Launch) {g : fx_Geo} (hG : fx_Gd g) (a1 : Int32) (M : fx_Mem) (Q : Int32 → fx_Mem → Prop) (h : wp_X7_feed_8 a1 M Q) : Met l yX7_feed (.code yX7_feed cX7_feed 2 (some .int) :: fx_U) rm_X7_feed_8 (va_Pc [.ref (fx_a g 8), .int a1] (fx_At g M)) (va_Qi Q (fx_Pw g) (fx_A g)) 0 0 (fx_A g) := by
  refine Met.ofW (cc := cX7_feed) (maxL := 2) (ret := (some .int)) (by decide +kernel) rfl ?_
  intro p e s m args below meth c s₁ B hml hv
  obtain ⟨rfl, hv⟩ := hv
  have hts := atoms_spec (ws := .code yX7_feed cX7_feed 2 (some .int) :: fx_U) B.pre
  obtain ⟨C, hH⟩ := fx_body (own := RX7) B hml rfl (fun w hw => hts w (List.mem_cons_of_mem _ hw)) hG hv
  replace hts := fun w hw => hts w (List.mem_cons_of_mem _ hw)
  obtain ⟨hx, hb, hr, -, hown, -, hlocks, hsz, hK, -, hSt⟩ := id C
  have hl := lv_entry ([.ref (fx_a g 8), .int a1]) (n := 2) (Nat.le_of_ble_eq_true rfl)
  rw [lg_entry_eq]
  generalize (lg_sl ([.ref (fx_a g 8), .int a1]) ++ List.replicate (2 - (lg_sl ([.ref (fx_a g 8), .int a1])).length) Slot.unset).toArray = ls at hl ⊢
  have hl : lv_has ls 2 [(0, .ref (fx_a g 8)), (1, .int a1)] := hl
  obtain ⟨H, eH⟩ : ∃ H : Heap, H = s.heap := ⟨_, rfl⟩
  obtain ⟨locs, elocs⟩ : ∃ q : List Loc, q = [] := ⟨_, rfl⟩
  rw [← eH, ← elocs] at hH
  show W p l e rm_X7_feed_8 s m _ below meth c s.heap [] 0 0 _ _
  rw [← eH, ← elocs]
  unfold wp_X7_feed_8 at h
  refine lv_aload_n hx hb dX7_feed_0 rfl (lv_at hl 0 rfl) ?_
  refine fx_get C hH (fx_w8 g M) rfl in_X7 8 (by decide) u_831 rfl rfl dX7_feed_1 ?_
  refine lv_bipush (v := 80) hx hb dX7_feed_4 (by decide) ?_
  refine lv_icmp_ne (tgt := 15) hx hb dX7_feed_6 (by decide) (fun c1 => ?_) (fun c1 => ?_)
  · replace h := h.2 c1
    refine lv_aload_n hx hb dX7_feed_15 rfl (lv_at hl 0 rfl) ?_
    refine lv_iconst (v := 0) hx hb dX7_feed_16 (by decide) ?_
    refine fx_put C hH (fx_w8 g M) rfl in_X7 tyX7 tyX7_ok nmX7 0 (by decide) u_823 rfl rfl (ty := .int) (by decide +kernel) rfl rfl (Nat.le_of_ble_eq_true rfl) (fx_p8_0 g M 0) dX7_feed_17 (fun H locs hH => ?_)
    generalize eM2 : fx_si M 512 0 = M2 at hH
    replace h := h M2 eM2.symm
    refine lv_aload_n hx hb dX7_feed_20 rfl (lv_at hl 0 rfl) ?_
    refine fx_get C hH (fx_w8 g M2) rfl in_X7 4 (by decide) u_827 rfl rfl dX7_feed_21 ?_
    refine lv_aload_n hx hb dX7_feed_24 rfl (lv_at hl 0 rfl) ?_
    refine fx_get C hH (fx_w8 g M2) rfl in_X7 8 (by decide) u_831 rfl rfl dX7_feed_25 ?_
    refine lv_iload_n hx hb dX7_feed_28 rfl (lv_at hl 1 rfl) ?_
    obtain ⟨hi3, h⟩ := h
    refine fx_cast (j := (M2.1 520).toNatClampNeg) (M' := fx_sa M2 32 ((M2.1 520).toNatClampNeg) (vp_nar .char a1)) C hH 32 rfl (fx_w32 g M2) (fx_p32 g M2 _) hi3 dX7_feed_29 (fun H locs hH => ?_)
    generalize eM4 : fx_sa M2 32 ((M2.1 520).toNatClampNeg) (vp_nar .char a1) = M4 at hH
    replace h := h M4 eM4.symm
    refine lv_aload_n hx hb dX7_feed_30 rfl (lv_at hl 0 rfl) ?_
    refine lv_dup hx hb dX7_feed_31 rfl ?_
    refine fx_get C hH (fx_w8 g M4) rfl in_X7 8 (by decide) u_831 rfl rfl dX7_feed_32 ?_
    refine lv_iconst (v := 1) hx hb dX7_feed_35 (by decide) ?_
    refine lv_iadd hx hb dX7_feed_36 ?_
    refine fx_put C hH (fx_w8 g M4) rfl in_X7 tyX7 tyX7_ok nmX7 8 (by decide) u_831 rfl rfl (ty := .int) (by decide +kernel) rfl rfl (Nat.le_of_ble_eq_true rfl) (fx_p8_8 g M4 ((M4.1 520) + 1)) dX7_feed_37 (fun H locs hH => ?_)
    generalize eM5 : fx_si M4 520 ((M4.1 520) + 1) = M5 at hH
    replace h := h M5 eM5.symm
    refine lv_aload_n hx hb dX7_feed_40 rfl (lv_at hl 0 rfl) ?_
    refine fx_get C hH (fx_w8 g M5) rfl in_X7 8 (by decide) u_831 rfl rfl dX7_feed_41 ?_
    exact fx_iret C hH h dX7_feed_44
  · replace h := h.1 c1
    refine lv_aload_n hx hb dX7_feed_9 rfl (lv_at hl 0 rfl) ?_
    refine lv_iconst (v := 1) hx hb dX7_feed_10 (by decide) ?_
    refine fx_ci hH (fx_runV (As := [.int 1]) (rest := []) C hH (c_X7_fails_8 l C.2.2.2.2.2.2.2.2.2.1 1 M _ h) (fx_cwV 1 hts u_945 u_947 us_24 u_8 u_948 rfl rfl (by decide +kernel) ⟨(Nat.le_of_ble_eq_true rfl), (Nat.le_of_ble_eq_true rfl)⟩) (fx_w8 g M) rfl rfl hl.1 rfl (Nat.le_of_ble_eq_true rfl) dX7_feed_11 ⟨(Nat.le_of_ble_eq_true rfl), (Nat.le_of_ble_eq_true rfl)⟩) (fun r7 M6 H locs h hH => ?_)
    exact fx_iret C hH h dX7_feed_14
/-! FlexLayoutModel.propertyOf(C)I () -/
def rm_X7_propertyOf : Room := { frames := 0, cells := 0, slots := 0, locals := 0 }
def wp_X7_propertyOf (a0 : Int32) (M : fx_Mem) (Q : Int32 → fx_Mem → Prop) : Prop :=
  ((a0 = 97 → Q 6 M) ∧ (a0 = 98 → Q 0 M) ∧ (a0 = 99 → Q 5 M) ∧ (a0 = 100 → Q (-1) M) ∧ (a0 = 101 → Q (-1) M) ∧ (a0 = 102 → Q (-1) M) ∧ (a0 = 103 → Q 1 M) ∧ (a0 = 104 → Q (-1) M) ∧ (a0 = 105 → Q (-1) M) ∧ (a0 = 106 → Q (-1) M) ∧ (a0 = 107 → Q (-1) M) ∧ (a0 = 108 → Q 7 M) ∧ (a0 = 109 → Q 3 M) ∧ (a0 = 110 → Q (-1) M) ∧ (a0 = 111 → Q 8 M) ∧ (a0 = 112 → Q (-1) M) ∧ (a0 = 113 → Q (-1) M) ∧ (a0 = 114 → Q (-1) M) ∧ (a0 = 115 → Q 2 M) ∧ (a0 = 116 → Q 9 M) ∧ (a0 = 117 → Q (-1) M) ∧ (a0 = 118 → Q (-1) M) ∧ (a0 = 119 → Q (-1) M) ∧ (a0 = 120 → Q 4 M) ∧ (¬ a0 = 97 → ¬ a0 = 98 → ¬ a0 = 99 → ¬ a0 = 100 → ¬ a0 = 101 → ¬ a0 = 102 → ¬ a0 = 103 → ¬ a0 = 104 → ¬ a0 = 105 → ¬ a0 = 106 → ¬ a0 = 107 → ¬ a0 = 108 → ¬ a0 = 109 → ¬ a0 = 110 → ¬ a0 = 111 → ¬ a0 = 112 → ¬ a0 = 113 → ¬ a0 = 114 → ¬ a0 = 115 → ¬ a0 = 116 → ¬ a0 = 117 → ¬ a0 = 118 → ¬ a0 = 119 → ¬ a0 = 120 → Q (-1) M))
set_option maxHeartbeats 4000000 in
set_option maxRecDepth 100000 in
theorem c_X7_propertyOf (l : Launch) {g : fx_Geo} (hG : fx_Gd g) (a0 : Int32) (M : fx_Mem) (Q : Int32 → fx_Mem → Prop) (h : wp_X7_propertyOf a0 M Q) : Met l yX7_propertyOf (.code yX7_propertyOf cX7_propertyOf 1 (some .int) :: fx_U) rm_X7_propertyOf (va_Pc [.int a0] (fx_At g M)) (va_Qi Q (fx_Pw g) (fx_A g)) 0 0 (fx_A g) := by
  refine Met.ofW (cc := cX7_propertyOf) (maxL := 1) (ret := (some .int)) (by decide +kernel) rfl ?_
  intro p e s m args below meth c s₁ B hml hv
  obtain ⟨rfl, hv⟩ := hv
  have hts := atoms_spec (ws := .code yX7_propertyOf cX7_propertyOf 1 (some .int) :: fx_U) B.pre
  obtain ⟨C, hH⟩ := fx_body (own := RX7) B hml rfl (fun w hw => hts w (List.mem_cons_of_mem _ hw)) hG hv
  replace hts := fun w hw => hts w (List.mem_cons_of_mem _ hw)
  obtain ⟨hx, hb, hr, -, hown, -, hlocks, hsz, hK, -, hSt⟩ := id C
  have hl := lv_entry ([.int a0]) (n := 1) (Nat.le_of_ble_eq_true rfl)
  rw [lg_entry_eq]
  generalize (lg_sl ([.int a0]) ++ List.replicate (1 - (lg_sl ([.int a0])).length) Slot.unset).toArray = ls at hl ⊢
  have hl : lv_has ls 1 [(0, .int a0)] := hl
  obtain ⟨H, eH⟩ : ∃ H : Heap, H = s.heap := ⟨_, rfl⟩
  obtain ⟨locs, elocs⟩ : ∃ q : List Loc, q = [] := ⟨_, rfl⟩
  rw [← eH, ← elocs] at hH
  show W p l e rm_X7_propertyOf s m _ below meth c s.heap [] 0 0 _ _
  rw [← eH, ← elocs]
  unfold wp_X7_propertyOf at h
  refine lv_iload_n hx hb dX7_propertyOf_0 rfl (lv_at hl 0 rfl) ?_
  by_cases c1 : a0 = 97
  · replace h := h.1 c1
    refine lv_tableIn (off := 123) (tgt := 124) hx hb dX7_propertyOf_1 (by rw [c1]; decide) (by rw [c1]; decide) (by rw [c1]; rfl) (by decide) ?_
    refine lv_bipush (v := 6) hx hb dX7_propertyOf_124 (by decide) ?_
    exact fx_iret C hH h dX7_propertyOf_126
  by_cases c2 : a0 = 98
  · replace h := h.2.1 c2
    refine lv_tableIn (off := 111) (tgt := 112) hx hb dX7_propertyOf_1 (by rw [c2]; decide) (by rw [c2]; decide) (by rw [c2]; rfl) (by decide) ?_
    refine lv_iconst (v := 0) hx hb dX7_propertyOf_112 (by decide) ?_
    exact fx_iret C hH h dX7_propertyOf_113
  by_cases c3 : a0 = 99
  · replace h := h.2.2.1 c3
    refine lv_tableIn (off := 121) (tgt := 122) hx hb dX7_propertyOf_1 (by rw [c3]; decide) (by rw [c3]; decide) (by rw [c3]; rfl) (by decide) ?_
    refine lv_iconst (v := 5) hx hb dX7_propertyOf_122 (by decide) ?_
    exact fx_iret C hH h dX7_propertyOf_123
  by_cases c4 : a0 = 100
  · replace h := h.2.2.2.1 c4
    refine lv_tableIn (off := 135) (tgt := 136) hx hb dX7_propertyOf_1 (by rw [c4]; decide) (by rw [c4]; decide) (by rw [c4]; rfl) (by decide) ?_
    refine lv_iconst (v := -1) hx hb dX7_propertyOf_136 (by decide) ?_
    exact fx_iret C hH h dX7_propertyOf_137
  by_cases c5 : a0 = 101
  · replace h := h.2.2.2.2.1 c5
    refine lv_tableIn (off := 135) (tgt := 136) hx hb dX7_propertyOf_1 (by rw [c5]; decide) (by rw [c5]; decide) (by rw [c5]; rfl) (by decide) ?_
    refine lv_iconst (v := -1) hx hb dX7_propertyOf_136 (by decide) ?_
    exact fx_iret C hH h dX7_propertyOf_137
  by_cases c6 : a0 = 102
  · replace h := h.2.2.2.2.2.1 c6
    refine lv_tableIn (off := 135) (tgt := 136) hx hb dX7_propertyOf_1 (by rw [c6]; decide) (by rw [c6]; decide) (by rw [c6]; rfl) (by decide) ?_
    refine lv_iconst (v := -1) hx hb dX7_propertyOf_136 (by decide) ?_
    exact fx_iret C hH h dX7_propertyOf_137
  by_cases c7 : a0 = 103
  · replace h := h.2.2.2.2.2.2.1 c7
    refine lv_tableIn (off := 113) (tgt := 114) hx hb dX7_propertyOf_1 (by rw [c7]; decide) (by rw [c7]; decide) (by rw [c7]; rfl) (by decide) ?_
    refine lv_iconst (v := 1) hx hb dX7_propertyOf_114 (by decide) ?_
    exact fx_iret C hH h dX7_propertyOf_115
  by_cases c8 : a0 = 104
  · replace h := h.2.2.2.2.2.2.2.1 c8
    refine lv_tableIn (off := 135) (tgt := 136) hx hb dX7_propertyOf_1 (by rw [c8]; decide) (by rw [c8]; decide) (by rw [c8]; rfl) (by decide) ?_
    refine lv_iconst (v := -1) hx hb dX7_propertyOf_136 (by decide) ?_
    exact fx_iret C hH h dX7_propertyOf_137
  by_cases c9 : a0 = 105
  · replace h := h.2.2.2.2.2.2.2.2.1 c9
    refine lv_tableIn (off := 135) (tgt := 136) hx hb dX7_propertyOf_1 (by rw [c9]; decide) (by rw [c9]; decide) (by rw [c9]; rfl) (by decide) ?_
    refine lv_iconst (v := -1) hx hb dX7_propertyOf_136 (by decide) ?_
    exact fx_iret C hH h dX7_propertyOf_137
  by_cases c10 : a0 = 106
  · replace h := h.2.2.2.2.2.2.2.2.2.1 c10
    refine lv_tableIn (off := 135) (tgt := 136) hx hb dX7_propertyOf_1 (by rw [c10]; decide) (by rw [c10]; decide) (by rw [c10]; rfl) (by decide) ?_
    refine lv_iconst (v := -1) hx hb dX7_propertyOf_136 (by decide) ?_
    exact fx_iret C hH h dX7_propertyOf_137
  by_cases c11 : a0 = 107
  · replace h := h.2.2.2.2.2.2.2.2.2.2.1 c11
    refine lv_tableIn (off := 135) (tgt := 136) hx hb dX7_propertyOf_1 (by rw [c11]; decide) (by rw [c11]; decide) (by rw [c11]; rfl) (by decide) ?_
    refine lv_iconst (v := -1) hx hb dX7_propertyOf_136 (by decide) ?_
    exact fx_iret C hH h dX7_propertyOf_137
  by_cases c12 : a0 = 108
  · replace h := h.2.2.2.2.2.2.2.2.2.2.2.1 c12
    refine lv_tableIn (off := 126) (tgt := 127) hx hb dX7_propertyOf_1 (by rw [c12]; decide) (by rw [c12]; decide) (by rw [c12]; rfl) (by decide) ?_
    refine lv_bipush (v := 7) hx hb dX7_propertyOf_127 (by decide) ?_
    exact fx_iret C hH h dX7_propertyOf_129
  by_cases c13 : a0 = 109
  · replace h := h.2.2.2.2.2.2.2.2.2.2.2.2.1 c13
    refine lv_tableIn (off := 117) (tgt := 118) hx hb dX7_propertyOf_1 (by rw [c13]; decide) (by rw [c13]; decide) (by rw [c13]; rfl) (by decide) ?_
    refine lv_iconst (v := 3) hx hb dX7_propertyOf_118 (by decide) ?_
    exact fx_iret C hH h dX7_propertyOf_119
  by_cases c14 : a0 = 110
  · replace h := h.2.2.2.2.2.2.2.2.2.2.2.2.2.1 c14
    refine lv_tableIn (off := 135) (tgt := 136) hx hb dX7_propertyOf_1 (by rw [c14]; decide) (by rw [c14]; decide) (by rw [c14]; rfl) (by decide) ?_
    refine lv_iconst (v := -1) hx hb dX7_propertyOf_136 (by decide) ?_
    exact fx_iret C hH h dX7_propertyOf_137
  by_cases c15 : a0 = 111
  · replace h := h.2.2.2.2.2.2.2.2.2.2.2.2.2.2.1 c15
    refine lv_tableIn (off := 129) (tgt := 130) hx hb dX7_propertyOf_1 (by rw [c15]; decide) (by rw [c15]; decide) (by rw [c15]; rfl) (by decide) ?_
    refine lv_bipush (v := 8) hx hb dX7_propertyOf_130 (by decide) ?_
    exact fx_iret C hH h dX7_propertyOf_132
  by_cases c16 : a0 = 112
  · replace h := h.2.2.2.2.2.2.2.2.2.2.2.2.2.2.2.1 c16
    refine lv_tableIn (off := 135) (tgt := 136) hx hb dX7_propertyOf_1 (by rw [c16]; decide) (by rw [c16]; decide) (by rw [c16]; rfl) (by decide) ?_
    refine lv_iconst (v := -1) hx hb dX7_propertyOf_136 (by decide) ?_
    exact fx_iret C hH h dX7_propertyOf_137
  by_cases c17 : a0 = 113
  · replace h := h.2.2.2.2.2.2.2.2.2.2.2.2.2.2.2.2.1 c17
    refine lv_tableIn (off := 135) (tgt := 136) hx hb dX7_propertyOf_1 (by rw [c17]; decide) (by rw [c17]; decide) (by rw [c17]; rfl) (by decide) ?_
    refine lv_iconst (v := -1) hx hb dX7_propertyOf_136 (by decide) ?_
    exact fx_iret C hH h dX7_propertyOf_137
  by_cases c18 : a0 = 114
  · replace h := h.2.2.2.2.2.2.2.2.2.2.2.2.2.2.2.2.2.1 c18
    refine lv_tableIn (off := 135) (tgt := 136) hx hb dX7_propertyOf_1 (by rw [c18]; decide) (by rw [c18]; decide) (by rw [c18]; rfl) (by decide) ?_
    refine lv_iconst (v := -1) hx hb dX7_propertyOf_136 (by decide) ?_
    exact fx_iret C hH h dX7_propertyOf_137
  by_cases c19 : a0 = 115
  · replace h := h.2.2.2.2.2.2.2.2.2.2.2.2.2.2.2.2.2.2.1 c19
    refine lv_tableIn (off := 115) (tgt := 116) hx hb dX7_propertyOf_1 (by rw [c19]; decide) (by rw [c19]; decide) (by rw [c19]; rfl) (by decide) ?_
    refine lv_iconst (v := 2) hx hb dX7_propertyOf_116 (by decide) ?_
    exact fx_iret C hH h dX7_propertyOf_117
  by_cases c20 : a0 = 116
  · replace h := h.2.2.2.2.2.2.2.2.2.2.2.2.2.2.2.2.2.2.2.1 c20
    refine lv_tableIn (off := 132) (tgt := 133) hx hb dX7_propertyOf_1 (by rw [c20]; decide) (by rw [c20]; decide) (by rw [c20]; rfl) (by decide) ?_
    refine lv_bipush (v := 9) hx hb dX7_propertyOf_133 (by decide) ?_
    exact fx_iret C hH h dX7_propertyOf_135
  by_cases c21 : a0 = 117
  · replace h := h.2.2.2.2.2.2.2.2.2.2.2.2.2.2.2.2.2.2.2.2.1 c21
    refine lv_tableIn (off := 135) (tgt := 136) hx hb dX7_propertyOf_1 (by rw [c21]; decide) (by rw [c21]; decide) (by rw [c21]; rfl) (by decide) ?_
    refine lv_iconst (v := -1) hx hb dX7_propertyOf_136 (by decide) ?_
    exact fx_iret C hH h dX7_propertyOf_137
  by_cases c22 : a0 = 118
  · replace h := h.2.2.2.2.2.2.2.2.2.2.2.2.2.2.2.2.2.2.2.2.2.1 c22
    refine lv_tableIn (off := 135) (tgt := 136) hx hb dX7_propertyOf_1 (by rw [c22]; decide) (by rw [c22]; decide) (by rw [c22]; rfl) (by decide) ?_
    refine lv_iconst (v := -1) hx hb dX7_propertyOf_136 (by decide) ?_
    exact fx_iret C hH h dX7_propertyOf_137
  by_cases c23 : a0 = 119
  · replace h := h.2.2.2.2.2.2.2.2.2.2.2.2.2.2.2.2.2.2.2.2.2.2.1 c23
    refine lv_tableIn (off := 135) (tgt := 136) hx hb dX7_propertyOf_1 (by rw [c23]; decide) (by rw [c23]; decide) (by rw [c23]; rfl) (by decide) ?_
    refine lv_iconst (v := -1) hx hb dX7_propertyOf_136 (by decide) ?_
    exact fx_iret C hH h dX7_propertyOf_137
  by_cases c24 : a0 = 120
  · replace h := h.2.2.2.2.2.2.2.2.2.2.2.2.2.2.2.2.2.2.2.2.2.2.2.1 c24
    refine lv_tableIn (off := 119) (tgt := 120) hx hb dX7_propertyOf_1 (by rw [c24]; decide) (by rw [c24]; decide) (by rw [c24]; rfl) (by decide) ?_
    refine lv_iconst (v := 4) hx hb dX7_propertyOf_120 (by decide) ?_
    exact fx_iret C hH h dX7_propertyOf_121
  replace h := h.2.2.2.2.2.2.2.2.2.2.2.2.2.2.2.2.2.2.2.2.2.2.2.2 c1 c2 c3 c4 c5 c6 c7 c8 c9 c10 c11 c12 c13 c14 c15 c16 c17 c18 c19 c20 c21 c22 c23 c24
  refine lv_tableOut (tgt := 136) hx hb dX7_propertyOf_1 (by have t0 := lv_neT (a := 97) c1 (by decide); have t1 := lv_neT (a := 98) c2 (by decide); have t2 := lv_neT (a := 99) c3 (by decide); have t3 := lv_neT (a := 100) c4 (by decide); have t4 := lv_neT (a := 101) c5 (by decide); have t5 := lv_neT (a := 102) c6 (by decide); have t6 := lv_neT (a := 103) c7 (by decide); have t7 := lv_neT (a := 104) c8 (by decide); have t8 := lv_neT (a := 105) c9 (by decide); have t9 := lv_neT (a := 106) c10 (by decide); have t10 := lv_neT (a := 107) c11 (by decide); have t11 := lv_neT (a := 108) c12 (by decide); have t12 := lv_neT (a := 109) c13 (by decide); have t13 := lv_neT (a := 110) c14 (by decide); have t14 := lv_neT (a := 111) c15 (by decide); have t15 := lv_neT (a := 112) c16 (by decide); have t16 := lv_neT (a := 113) c17 (by decide); have t17 := lv_neT (a := 114) c18 (by decide); have t18 := lv_neT (a := 115) c19 (by decide); have t19 := lv_neT (a := 116) c20 (by decide); have t20 := lv_neT (a := 117) c21 (by decide); have t21 := lv_neT (a := 118) c22 (by decide); have t22 := lv_neT (a := 119) c23 (by decide); have t23 := lv_neT (a := 120) c24 (by decide); omega) (by decide) ?_
  refine lv_iconst (v := -1) hx hb dX7_propertyOf_136 (by decide) ?_
  exact fx_iret C hH h dX7_propertyOf_137
/-! FlexLayoutModel.isDigit()Z (8,) -/
def rm_X7_isDigit_8 : Room := { frames := 1, cells := 0, slots := 0, locals := 25 }
def wp_X7_isDigit_8 (M : fx_Mem) (Q : Int32 → fx_Mem → Prop) : Prop :=
  ((M.1 520 ≤ M.1 521 → Q 0 M) ∧ (¬ M.1 520 ≤ M.1 521 → vp_in (M.1 521) 80 ∧ wp_X7_isBetween ((M.2.1 32 ((M.1 521).toNatClampNeg)).toInt64) 48 57 M (fun r4 M3 => ((r4 = 0 → Q 0 M3) ∧ (¬ r4 = 0 → Q 1 M3)))))
set_option maxHeartbeats 4000000 in
set_option maxRecDepth 100000 in
theorem c_X7_isDigit_8 (l : Launch) {g : fx_Geo} (hG : fx_Gd g) (M : fx_Mem) (Q : Int32 → fx_Mem → Prop) (h : wp_X7_isDigit_8 M Q) : Met l yX7_isDigit (.code yX7_isDigit cX7_isDigit 1 (some .boolean) :: fx_U) rm_X7_isDigit_8 (va_Pc [.ref (fx_a g 8)] (fx_At g M)) (va_Qi Q (fx_Pw g) (fx_A g)) 0 0 (fx_A g) := by
  refine Met.ofW (cc := cX7_isDigit) (maxL := 1) (ret := (some .boolean)) (by decide +kernel) rfl ?_
  intro p e s m args below meth c s₁ B hml hv
  obtain ⟨rfl, hv⟩ := hv
  have hts := atoms_spec (ws := .code yX7_isDigit cX7_isDigit 1 (some .boolean) :: fx_U) B.pre
  obtain ⟨C, hH⟩ := fx_body (own := RX7) B hml rfl (fun w hw => hts w (List.mem_cons_of_mem _ hw)) hG hv
  replace hts := fun w hw => hts w (List.mem_cons_of_mem _ hw)
  obtain ⟨hx, hb, hr, -, hown, -, hlocks, hsz, hK, -, hSt⟩ := id C
  have hl := lv_entry ([.ref (fx_a g 8)]) (n := 1) (Nat.le_of_ble_eq_true rfl)
  rw [lg_entry_eq]
  generalize (lg_sl ([.ref (fx_a g 8)]) ++ List.replicate (1 - (lg_sl ([.ref (fx_a g 8)])).length) Slot.unset).toArray = ls at hl ⊢
  have hl : lv_has ls 1 [(0, .ref (fx_a g 8))] := hl
  obtain ⟨H, eH⟩ : ∃ H : Heap, H = s.heap := ⟨_, rfl⟩
  obtain ⟨locs, elocs⟩ : ∃ q : List Loc, q = [] := ⟨_, rfl⟩
  rw [← eH, ← elocs] at hH
  show W p l e rm_X7_isDigit_8 s m _ below meth c s.heap [] 0 0 _ _
  rw [← eH, ← elocs]
  unfold wp_X7_isDigit_8 at h
  refine lv_aload_n hx hb dX7_isDigit_0 rfl (lv_at hl 0 rfl) ?_
  refine fx_get C hH (fx_w8 g M) rfl in_X7 9 (by decide) u_832 rfl rfl dX7_isDigit_1 ?_
  refine lv_aload_n hx hb dX7_isDigit_4 rfl (lv_at hl 0 rfl) ?_
  refine fx_get C hH (fx_w8 g M) rfl in_X7 8 (by decide) u_831 rfl rfl dX7_isDigit_5 ?_
  refine lv_icmp_ge (tgt := 37) hx hb dX7_isDigit_8 (by decide) (fun c1 => ?_) (fun c1 => ?_)
  · replace h := h.1 c1
    refine lv_iconst (v := 0) hx hb dX7_isDigit_37 (by decide) ?_
    exact fx_zret C hH (by decide) h dX7_isDigit_38
  · replace h := h.2 c1
    refine lv_aload_n hx hb dX7_isDigit_11 rfl (lv_at hl 0 rfl) ?_
    refine fx_get C hH (fx_w8 g M) rfl in_X7 4 (by decide) u_827 rfl rfl dX7_isDigit_12 ?_
    refine lv_aload_n hx hb dX7_isDigit_15 rfl (lv_at hl 0 rfl) ?_
    refine fx_get C hH (fx_w8 g M) rfl in_X7 9 (by decide) u_832 rfl rfl dX7_isDigit_16 ?_
    obtain ⟨hi2, h⟩ := h
    refine fx_cald (j := (M.1 521).toNatClampNeg) C hH 32 (fx_w32 g M) rfl hi2 dX7_isDigit_19 ?_
    refine lv_i2l hx hb dX7_isDigit_20 rfl ?_
    refine lv_ldc2 hx hb hown (hts _ u_1028) dX7_isDigit_21 ?_
    refine lv_ldc2 hx hb hown (hts _ u_1029) dX7_isDigit_24 ?_
    refine fx_ci hH (fx_runS (As := [.long ((M.2.1 32 ((M.1 521).toNatClampNeg)).toInt64), .long 48, .long 57]) (rest := []) C hH (c_X7_isBetween l C.2.2.2.2.2.2.2.2.2.1 ((M.2.1 32 ((M.1 521).toNatClampNeg)).toInt64) 48 57 M _ h) (fx_cwS 3 hts u_938 u_939 u_8 u_940 rfl rfl (by decide +kernel) ⟨(Nat.le_of_ble_eq_true rfl), (Nat.le_of_ble_eq_true rfl)⟩) rfl hl.1 rfl (Nat.le_of_ble_eq_true rfl) dX7_isDigit_27 ⟨(Nat.le_of_ble_eq_true rfl), (Nat.le_of_ble_eq_true rfl)⟩) (fun r4 M3 H locs h hH => ?_)
    refine lv_if_eq (tgt := 37) hx hb dX7_isDigit_30 (by decide) (fun c5 => ?_) (fun c5 => ?_)
    · replace h := h.1 c5
      refine lv_iconst (v := 0) hx hb dX7_isDigit_37 (by decide) ?_
      exact fx_zret C hH (by decide) h dX7_isDigit_38
    · replace h := h.2 c5
      refine lv_iconst (v := 1) hx hb dX7_isDigit_33 (by decide) ?_
      refine lv_goto (tgt := 38) hx hb dX7_isDigit_34 (by decide) ?_
      exact fx_zret C hH (by decide) h dX7_isDigit_38
/-! FlexLayoutModel.takesSetting()Z (8,) -/
def rm_X7_takesSetting_8 : Room := { frames := 2, cells := 0, slots := 0, locals := 45 }
def wb_X7_takesSetting_8_134 (k134 : Int32 → Int32 → Int32 → fx_Mem → Prop) (k180 : Int32 → Int32 → fx_Mem → Prop) (Q : Int32 → fx_Mem → Prop) (x1 : Int32) (x2 : Int32) (x3 : Int32) (M : fx_Mem) : Prop :=
  ((4 ≤ x3 → k180 x1 x2 M) ∧ (¬ 4 ≤ x3 → wp_X7_isDigit_8  M (fun r3 M2 => ((r3 = 0 → k180 x1 x2 M2) ∧ (¬ r3 = 0 → vp_in (M2.1 521) 80 ∧ ∀ v6 : Int32, v6 = ((10 * x2) + (M2.2.1 32 ((M2.1 521).toNatClampNeg))) - 48 → ∀ M7 : fx_Mem, M7 = fx_si M2 521 ((M2.1 521) + 1) → ∀ v8 : Int32, v8 = x3 + 1 → k134 x1 v6 v8 M7)))))
set_option maxHeartbeats 4000000 in
set_option maxRecDepth 100000 in
theorem tb_X7_takesSetting_8_134 {g : fx_Geo} {p : Program} {l : Launch} {e : Env} {s : State} {m : MethodId} {args : Array Value} {below : List Frame} {meth : Method} {c : Code} (C : fx_Cx g p s m args meth c RX7 cX7_takesSetting 4 (some .boolean)) (k134 : Int32 → Int32 → Int32 → fx_Mem → Prop) (k180 : Int32 → Int32 → fx_Mem → Prop) (Q : Int32 → fx_Mem → Prop) (hk134 : ∀ (x1 : Int32) (x2 : Int32) (x3 : Int32) (M : fx_Mem), k134 x1 x2 x3 M → ∀ (H : Heap) (locs : List Loc) (ls : Array Slot), fx_H g s M H locs → lv_has ls 4 [(0, .ref (fx_a g 8)), (1, .int x1), (2, .int x2), (3, .int x3)] → W p l e rm_X7_takesSetting_8 s m args below meth c H locs 0 0 (MQ below (va_Qi Q (fx_Pw g) (fx_A g)) args s 0 0 (fx_A g)) (F0 m 134 ls [])) (hk180 : ∀ (x1 : Int32) (x2 : Int32) (M : fx_Mem), k180 x1 x2 M → ∀ (H : Heap) (locs : List Loc) (ls : Array Slot), fx_H g s M H locs → lv_has ls 4 [(0, .ref (fx_a g 8)), (1, .int x1), (2, .int x2)] → W p l e rm_X7_takesSetting_8 s m args below meth c H locs 0 0 (MQ below (va_Qi Q (fx_Pw g) (fx_A g)) args s 0 0 (fx_A g)) (F0 m 180 ls [])) (x1 : Int32) (x2 : Int32) (x3 : Int32) (M : fx_Mem) (h : wb_X7_takesSetting_8_134 k134 k180 Q x1 x2 x3 M) (H : Heap) (locs : List Loc) (ls : Array Slot) (hH : fx_H g s M H locs) (hl : lv_has ls 4 [(0, .ref (fx_a g 8)), (1, .int x1), (2, .int x2), (3, .int x3)]) : W p l e rm_X7_takesSetting_8 s m args below meth c H locs 0 0 (MQ below (va_Qi Q (fx_Pw g) (fx_A g)) args s 0 0 (fx_A g)) (F0 m 134 ls []) := by
  obtain ⟨hx, hb, hr, hml, hown, hts, hlocks, hsz, hK, hG, hSt⟩ := id C
  unfold wb_X7_takesSetting_8_134 at h
  refine lv_iload_n hx hb dX7_takesSetting_134 rfl (lv_at hl 3 rfl) ?_
  refine lv_iconst (v := 4) hx hb dX7_takesSetting_135 (by decide) ?_
  refine lv_icmp_ge (tgt := 180) hx hb dX7_takesSetting_136 (by decide) (fun c1 => ?_) (fun c1 => ?_)
  · replace h := h.1 c1
    exact hk180 x1 x2 M h  H locs ls hH (lv_sub hl [0, 1, 2] rfl)
  · replace h := h.2 c1
    refine lv_aload_n hx hb dX7_takesSetting_139 rfl (lv_at hl 0 rfl) ?_
    refine fx_ci hH (fx_runV (As := []) (rest := []) C hH (c_X7_isDigit_8 l C.2.2.2.2.2.2.2.2.2.1  M _ h) (fx_cwV 0 hts u_1024 u_1026 us_30 u_8 u_1027 rfl rfl (by decide +kernel) ⟨(Nat.le_of_ble_eq_true rfl), (Nat.le_of_ble_eq_true rfl)⟩) (fx_w8 g M) rfl rfl hl.1 rfl (Nat.le_of_ble_eq_true rfl) dX7_takesSetting_140 ⟨(Nat.le_of_ble_eq_true rfl), (Nat.le_of_ble_eq_true rfl)⟩) (fun r3 M2 H locs h hH => ?_)
    refine lv_if_eq (tgt := 180) hx hb dX7_takesSetting_143 (by decide) (fun c4 => ?_) (fun c4 => ?_)
    · replace h := h.1 c4
      exact hk180 x1 x2 M2 h  H locs ls hH (lv_sub hl [0, 1, 2] rfl)
    · replace h := h.2 c4
      refine lv_bipush (v := 10) hx hb dX7_takesSetting_146 (by decide) ?_
      refine lv_iload_n hx hb dX7_takesSetting_148 rfl (lv_at hl 2 rfl) ?_
      refine lv_imul hx hb dX7_takesSetting_149 ?_
      refine lv_aload_n hx hb dX7_takesSetting_150 rfl (lv_at hl 0 rfl) ?_
      refine fx_get C hH (fx_w8 g M2) rfl in_X7 4 (by decide) u_827 rfl rfl dX7_takesSetting_151 ?_
      refine lv_aload_n hx hb dX7_takesSetting_154 rfl (lv_at hl 0 rfl) ?_
      refine fx_get C hH (fx_w8 g M2) rfl in_X7 9 (by decide) u_832 rfl rfl dX7_takesSetting_155 ?_
      obtain ⟨hi5, h⟩ := h
      refine fx_cald (j := (M2.1 521).toNatClampNeg) C hH 32 (fx_w32 g M2) rfl hi5 dX7_takesSetting_158 ?_
      refine lv_iadd hx hb dX7_takesSetting_159 ?_
      refine lv_bipush (v := 48) hx hb dX7_takesSetting_160 (by decide) ?_
      refine lv_isub hx hb dX7_takesSetting_162 ?_
      refine lv_topi (fun v6 ev6 => ?_)
      replace h := h v6 ev6
      refine lv_istore_n (lv' := [(2, .int v6), (0, .ref (fx_a g 8)), (1, .int x1), (3, .int x3)]) hx hb dX7_takesSetting_163 rfl hl (by decide) rfl (fun ls hl => ?_)
      refine lv_aload_n hx hb dX7_takesSetting_164 rfl (lv_at hl 1 rfl) ?_
      refine lv_dup hx hb dX7_takesSetting_165 rfl ?_
      refine fx_get C hH (fx_w8 g M2) rfl in_X7 9 (by decide) u_832 rfl rfl dX7_takesSetting_166 ?_
      refine lv_iconst (v := 1) hx hb dX7_takesSetting_169 (by decide) ?_
      refine lv_iadd hx hb dX7_takesSetting_170 ?_
      refine fx_put C hH (fx_w8 g M2) rfl in_X7 tyX7 tyX7_ok nmX7 9 (by decide) u_832 rfl rfl (ty := .int) (by decide +kernel) rfl rfl (Nat.le_of_ble_eq_true rfl) (fx_p8_9 g M2 ((M2.1 521) + 1)) dX7_takesSetting_171 (fun H locs hH => ?_)
      generalize eM7 : fx_si M2 521 ((M2.1 521) + 1) = M7 at hH
      replace h := h M7 eM7.symm
      obtain ⟨v8, ev8⟩ : ∃ z : Int32, z = x3 + 1 := ⟨_, rfl⟩
      refine lv_iinc (v := v8) (lv' := [(3, .int v8), (2, .int v6), (0, .ref (fx_a g 8)), (1, .int x1)]) hx hb dX7_takesSetting_174 hl (k := 3) rfl (by rw [ev8]; rfl) (by decide) rfl (fun ls hl => ?_)
      replace h := h v8 ev8
      refine lv_goto (tgt := 134) hx hb dX7_takesSetting_177 (by decide) ?_
      exact hk134 x1 v6 v8 M7 h  H locs ls hH (lv_sub hl [2, 3, 1, 0] rfl)
def wl_X7_takesSetting_8_134 (k180 : Int32 → Int32 → fx_Mem → Prop) (Q : Int32 → fx_Mem → Prop) (n : Nat) (x1 : Int32) (x2 : Int32) (x3 : Int32) (M : fx_Mem) : Prop :=
  fx_lp (α := Int32 × Int32 × Int32 × fx_Mem) (fun k a => wb_X7_takesSetting_8_134 (fun x1 x2 x3 M => k (x1, x2, x3, M)) k180 Q a.1 a.2.1 a.2.2.1 a.2.2.2) n (x1, x2, x3, M)
set_option maxHeartbeats 4000000 in
theorem tl_X7_takesSetting_8_134 {g : fx_Geo} {p : Program} {l : Launch} {e : Env} {s : State} {m : MethodId} {args : Array Value} {below : List Frame} {meth : Method} {c : Code} (C : fx_Cx g p s m args meth c RX7 cX7_takesSetting 4 (some .boolean)) (k180 : Int32 → Int32 → fx_Mem → Prop) (Q : Int32 → fx_Mem → Prop) (hk180 : ∀ (x1 : Int32) (x2 : Int32) (M : fx_Mem), k180 x1 x2 M → ∀ (H : Heap) (locs : List Loc) (ls : Array Slot), fx_H g s M H locs → lv_has ls 4 [(0, .ref (fx_a g 8)), (1, .int x1), (2, .int x2)] → W p l e rm_X7_takesSetting_8 s m args below meth c H locs 0 0 (MQ below (va_Qi Q (fx_Pw g) (fx_A g)) args s 0 0 (fx_A g)) (F0 m 180 ls [])) : ∀ (n : Nat) (x1 : Int32) (x2 : Int32) (x3 : Int32) (M : fx_Mem), wl_X7_takesSetting_8_134 k180 Q n x1 x2 x3 M → ∀ (H : Heap) (locs : List Loc) (ls : Array Slot), fx_H g s M H locs → lv_has ls 4 [(0, .ref (fx_a g 8)), (1, .int x1), (2, .int x2), (3, .int x3)] → W p l e rm_X7_takesSetting_8 s m args below meth c H locs 0 0 (MQ below (va_Qi Q (fx_Pw g) (fx_A g)) args s 0 0 (fx_A g)) (F0 m 134 ls []) := by
  intro n
  induction n with
  | zero => intro x1 x2 x3 M h; exact False.elim h
  | succ n ih => intro x1 x2 x3 M h  H locs ls hH hl; exact tb_X7_takesSetting_8_134 C (wl_X7_takesSetting_8_134 k180 Q n) k180 Q ih hk180 x1 x2 x3 M h  H locs ls hH hl
def wb_X7_takesSetting_8_198 (Q : Int32 → fx_Mem → Prop) (s0 : Int32) (s1 : Int32) (M : fx_Mem) : Prop :=
  vp_in s1 40 ∧ ∀ M2 : fx_Mem, M2 = fx_sa M 34 s1.toNatClampNeg s0 → ∀ M3 : fx_Mem, M3 = fx_si M2 522 ((M2.1 522) + 1) → Q 1 M3
set_option maxHeartbeats 4000000 in
set_option maxRecDepth 100000 in
theorem tb_X7_takesSetting_8_198 {g : fx_Geo} {p : Program} {l : Launch} {e : Env} {s : State} {m : MethodId} {args : Array Value} {below : List Frame} {meth : Method} {c : Code} (C : fx_Cx g p s m args meth c RX7 cX7_takesSetting 4 (some .boolean)) (Q : Int32 → fx_Mem → Prop) (s0 : Int32) (s1 : Int32) (M : fx_Mem) (h : wb_X7_takesSetting_8_198 Q s0 s1 M) (H : Heap) (locs : List Loc) (ls : Array Slot) (hH : fx_H g s M H locs) (hl : lv_has ls 4 [(0, .ref (fx_a g 8))]) : W p l e rm_X7_takesSetting_8 s m args below meth c H locs 0 0 (MQ below (va_Qi Q (fx_Pw g) (fx_A g)) args s 0 0 (fx_A g)) (F0 m 198 ls [.int s0, .int s1, .ref (fx_a g 34)]) := by
  obtain ⟨hx, hb, hr, hml, hown, hts, hlocks, hsz, hK, hG, hSt⟩ := id C
  unfold wb_X7_takesSetting_8_198 at h
  obtain ⟨hi1, h⟩ := h
  refine fx_iast (j := s1.toNatClampNeg) (M' := fx_sa M 34 s1.toNatClampNeg s0) C hH 34 rfl (fx_w34 g M) (fx_p34 g M _) hi1 dX7_takesSetting_198 (fun H locs hH => ?_)
  generalize eM2 : fx_sa M 34 s1.toNatClampNeg s0 = M2 at hH
  replace h := h M2 eM2.symm
  refine lv_aload_n hx hb dX7_takesSetting_199 rfl (lv_at hl 0 rfl) ?_
  refine lv_dup hx hb dX7_takesSetting_200 rfl ?_
  refine fx_get C hH (fx_w8 g M2) rfl in_X7 10 (by decide) u_833 rfl rfl dX7_takesSetting_201 ?_
  refine lv_iconst (v := 1) hx hb dX7_takesSetting_204 (by decide) ?_
  refine lv_iadd hx hb dX7_takesSetting_205 ?_
  refine fx_put C hH (fx_w8 g M2) rfl in_X7 tyX7 tyX7_ok nmX7 10 (by decide) u_833 rfl rfl (ty := .int) (by decide +kernel) rfl rfl (Nat.le_of_ble_eq_true rfl) (fx_p8_10 g M2 ((M2.1 522) + 1)) dX7_takesSetting_206 (fun H locs hH => ?_)
  generalize eM3 : fx_si M2 522 ((M2.1 522) + 1) = M3 at hH
  replace h := h M3 eM3.symm
  refine lv_iconst (v := 1) hx hb dX7_takesSetting_209 (by decide) ?_
  exact fx_zret C hH (by decide) h dX7_takesSetting_210
def wb_X7_takesSetting_8_180 (Q : Int32 → fx_Mem → Prop) (x1 : Int32) (x2 : Int32) (M : fx_Mem) : Prop :=
  ((x1 = 0 → wb_X7_takesSetting_8_198 Q x2 (M.1 522) M) ∧ (¬ x1 = 0 → wb_X7_takesSetting_8_198 Q (-x2) (M.1 522) M))
set_option maxHeartbeats 4000000 in
set_option maxRecDepth 100000 in
theorem tb_X7_takesSetting_8_180 {g : fx_Geo} {p : Program} {l : Launch} {e : Env} {s : State} {m : MethodId} {args : Array Value} {below : List Frame} {meth : Method} {c : Code} (C : fx_Cx g p s m args meth c RX7 cX7_takesSetting 4 (some .boolean)) (Q : Int32 → fx_Mem → Prop) (x1 : Int32) (x2 : Int32) (M : fx_Mem) (h : wb_X7_takesSetting_8_180 Q x1 x2 M) (H : Heap) (locs : List Loc) (ls : Array Slot) (hH : fx_H g s M H locs) (hl : lv_has ls 4 [(0, .ref (fx_a g 8)), (1, .int x1), (2, .int x2)]) : W p l e rm_X7_takesSetting_8 s m args below meth c H locs 0 0 (MQ below (va_Qi Q (fx_Pw g) (fx_A g)) args s 0 0 (fx_A g)) (F0 m 180 ls []) := by
  obtain ⟨hx, hb, hr, hml, hown, hts, hlocks, hsz, hK, hG, hSt⟩ := id C
  unfold wb_X7_takesSetting_8_180 at h
  refine lv_aload_n hx hb dX7_takesSetting_180 rfl (lv_at hl 0 rfl) ?_
  refine fx_get C hH (fx_w8 g M) rfl in_X7 6 (by decide) u_829 rfl rfl dX7_takesSetting_181 ?_
  refine lv_aload_n hx hb dX7_takesSetting_184 rfl (lv_at hl 0 rfl) ?_
  refine fx_get C hH (fx_w8 g M) rfl in_X7 10 (by decide) u_833 rfl rfl dX7_takesSetting_185 ?_
  refine lv_iload_n hx hb dX7_takesSetting_188 rfl (lv_at hl 1 rfl) ?_
  refine lv_if_eq (tgt := 197) hx hb dX7_takesSetting_189 (by decide) (fun c1 => ?_) (fun c1 => ?_)
  · replace h := h.1 c1
    refine lv_iload_n hx hb dX7_takesSetting_197 rfl (lv_at hl 2 rfl) ?_
    exact tb_X7_takesSetting_8_198 C Q  x2 (M.1 522) M h  H locs ls hH (lv_sub hl [0] rfl)
  · replace h := h.2 c1
    refine lv_iload_n hx hb dX7_takesSetting_192 rfl (lv_at hl 2 rfl) ?_
    refine lv_ineg hx hb dX7_takesSetting_193 ?_
    refine lv_goto (tgt := 198) hx hb dX7_takesSetting_194 (by decide) ?_
    exact tb_X7_takesSetting_8_198 C Q  (-x2) (M.1 522) M h  H locs ls hH (lv_sub hl [0] rfl)
def wb_X7_takesSetting_8_117 (Q : Int32 → fx_Mem → Prop) (x1 : Int32) (s0 : Int32) (s1 : Int32) (M : fx_Mem) : Prop :=
  ∀ M1 : fx_Mem, M1 = fx_si M 521 (s1 + s0) → wp_X7_isDigit_8  M1 (fun r3 M2 => ((r3 = 0 → Q 0 M2) ∧ (¬ r3 = 0 → ∃ n134 : Nat, wl_X7_takesSetting_8_134 (wb_X7_takesSetting_8_180 Q) Q n134 x1 0 0 M2)))
set_option maxHeartbeats 4000000 in
set_option maxRecDepth 100000 in
theorem tb_X7_takesSetting_8_117 {g : fx_Geo} {p : Program} {l : Launch} {e : Env} {s : State} {m : MethodId} {args : Array Value} {below : List Frame} {meth : Method} {c : Code} (C : fx_Cx g p s m args meth c RX7 cX7_takesSetting 4 (some .boolean)) (Q : Int32 → fx_Mem → Prop) (x1 : Int32) (s0 : Int32) (s1 : Int32) (M : fx_Mem) (h : wb_X7_takesSetting_8_117 Q x1 s0 s1 M) (H : Heap) (locs : List Loc) (ls : Array Slot) (hH : fx_H g s M H locs) (hl : lv_has ls 4 [(0, .ref (fx_a g 8)), (1, .int x1)]) : W p l e rm_X7_takesSetting_8 s m args below meth c H locs 0 0 (MQ below (va_Qi Q (fx_Pw g) (fx_A g)) args s 0 0 (fx_A g)) (F0 m 117 ls [.int s0, .int s1, .ref (fx_a g 8)]) := by
  obtain ⟨hx, hb, hr, hml, hown, hts, hlocks, hsz, hK, hG, hSt⟩ := id C
  unfold wb_X7_takesSetting_8_117 at h
  refine lv_iadd hx hb dX7_takesSetting_117 ?_
  refine fx_put C hH (fx_w8 g M) rfl in_X7 tyX7 tyX7_ok nmX7 9 (by decide) u_832 rfl rfl (ty := .int) (by decide +kernel) rfl rfl (Nat.le_of_ble_eq_true rfl) (fx_p8_9 g M (s1 + s0)) dX7_takesSetting_118 (fun H locs hH => ?_)
  generalize eM1 : fx_si M 521 (s1 + s0) = M1 at hH
  replace h := h M1 eM1.symm
  refine lv_aload_n hx hb dX7_takesSetting_121 rfl (lv_at hl 0 rfl) ?_
  refine fx_ci hH (fx_runV (As := []) (rest := []) C hH (c_X7_isDigit_8 l C.2.2.2.2.2.2.2.2.2.1  M1 _ h) (fx_cwV 0 hts u_1024 u_1026 us_30 u_8 u_1027 rfl rfl (by decide +kernel) ⟨(Nat.le_of_ble_eq_true rfl), (Nat.le_of_ble_eq_true rfl)⟩) (fx_w8 g M1) rfl rfl hl.1 rfl (Nat.le_of_ble_eq_true rfl) dX7_takesSetting_122 ⟨(Nat.le_of_ble_eq_true rfl), (Nat.le_of_ble_eq_true rfl)⟩) (fun r3 M2 H locs h hH => ?_)
  refine lv_if_ne (tgt := 130) hx hb dX7_takesSetting_125 (by decide) (fun c4 => ?_) (fun c4 => ?_)
  · replace h := h.2 c4
    refine lv_iconst (v := 0) hx hb dX7_takesSetting_130 (by decide) ?_
    refine lv_istore_n (lv' := [(2, .int 0), (0, .ref (fx_a g 8)), (1, .int x1)]) hx hb dX7_takesSetting_131 rfl hl (by decide) rfl (fun ls hl => ?_)
    refine lv_iconst (v := 0) hx hb dX7_takesSetting_132 (by decide) ?_
    refine lv_istore_n (lv' := [(3, .int 0), (2, .int 0), (0, .ref (fx_a g 8)), (1, .int x1)]) hx hb dX7_takesSetting_133 rfl hl (by decide) rfl (fun ls hl => ?_)
    obtain ⟨n134, h⟩ := h
    exact tl_X7_takesSetting_8_134 C (wb_X7_takesSetting_8_180 Q) Q (tb_X7_takesSetting_8_180 C Q ) n134 x1 0 0 M2 h  H locs ls hH (lv_sub hl [2, 3, 1, 0] rfl)
  · replace h := h.1 c4
    refine lv_iconst (v := 0) hx hb dX7_takesSetting_128 (by decide) ?_
    exact fx_zret C hH (by decide) h dX7_takesSetting_129
def wb_X7_takesSetting_8_102 (Q : Int32 → fx_Mem → Prop) (s0 : Int32) (M : fx_Mem) : Prop :=
  ((s0 = 0 → wb_X7_takesSetting_8_117 Q s0 0 (M.1 521) M) ∧ (¬ s0 = 0 → wb_X7_takesSetting_8_117 Q s0 1 (M.1 521) M))
set_option maxHeartbeats 4000000 in
set_option maxRecDepth 100000 in
theorem tb_X7_takesSetting_8_102 {g : fx_Geo} {p : Program} {l : Launch} {e : Env} {s : State} {m : MethodId} {args : Array Value} {below : List Frame} {meth : Method} {c : Code} (C : fx_Cx g p s m args meth c RX7 cX7_takesSetting 4 (some .boolean)) (Q : Int32 → fx_Mem → Prop) (s0 : Int32) (M : fx_Mem) (h : wb_X7_takesSetting_8_102 Q s0 M) (H : Heap) (locs : List Loc) (ls : Array Slot) (hH : fx_H g s M H locs) (hl : lv_has ls 4 [(0, .ref (fx_a g 8))]) : W p l e rm_X7_takesSetting_8 s m args below meth c H locs 0 0 (MQ below (va_Qi Q (fx_Pw g) (fx_A g)) args s 0 0 (fx_A g)) (F0 m 102 ls [.int s0]) := by
  obtain ⟨hx, hb, hr, hml, hown, hts, hlocks, hsz, hK, hG, hSt⟩ := id C
  unfold wb_X7_takesSetting_8_102 at h
  refine lv_istore_n (lv' := [(1, .int s0), (0, .ref (fx_a g 8))]) hx hb dX7_takesSetting_102 rfl hl (by decide) rfl (fun ls hl => ?_)
  refine lv_aload_n hx hb dX7_takesSetting_103 rfl (lv_at hl 1 rfl) ?_
  refine lv_dup hx hb dX7_takesSetting_104 rfl ?_
  refine fx_get C hH (fx_w8 g M) rfl in_X7 9 (by decide) u_832 rfl rfl dX7_takesSetting_105 ?_
  refine lv_iload_n hx hb dX7_takesSetting_108 rfl (lv_at hl 0 rfl) ?_
  refine lv_if_eq (tgt := 116) hx hb dX7_takesSetting_109 (by decide) (fun c1 => ?_) (fun c1 => ?_)
  · replace h := h.1 c1
    refine lv_iconst (v := 0) hx hb dX7_takesSetting_116 (by decide) ?_
    exact tb_X7_takesSetting_8_117 C Q  s0 0 (M.1 521) M h  H locs ls hH (lv_sub hl [1, 0] rfl)
  · replace h := h.2 c1
    refine lv_iconst (v := 1) hx hb dX7_takesSetting_112 (by decide) ?_
    refine lv_goto (tgt := 117) hx hb dX7_takesSetting_113 (by decide) ?_
    exact tb_X7_takesSetting_8_117 C Q  s0 1 (M.1 521) M h  H locs ls hH (lv_sub hl [1, 0] rfl)
def wb_X7_takesSetting_8_101 (Q : Int32 → fx_Mem → Prop) (M : fx_Mem) : Prop :=
  wb_X7_takesSetting_8_102 Q 0 M
set_option maxHeartbeats 4000000 in
set_option maxRecDepth 100000 in
theorem tb_X7_takesSetting_8_101 {g : fx_Geo} {p : Program} {l : Launch} {e : Env} {s : State} {m : MethodId} {args : Array Value} {below : List Frame} {meth : Method} {c : Code} (C : fx_Cx g p s m args meth c RX7 cX7_takesSetting 4 (some .boolean)) (Q : Int32 → fx_Mem → Prop) (M : fx_Mem) (h : wb_X7_takesSetting_8_101 Q M) (H : Heap) (locs : List Loc) (ls : Array Slot) (hH : fx_H g s M H locs) (hl : lv_has ls 4 [(0, .ref (fx_a g 8))]) : W p l e rm_X7_takesSetting_8 s m args below meth c H locs 0 0 (MQ below (va_Qi Q (fx_Pw g) (fx_A g)) args s 0 0 (fx_A g)) (F0 m 101 ls []) := by
  obtain ⟨hx, hb, hr, hml, hown, hts, hlocks, hsz, hK, hG, hSt⟩ := id C
  unfold wb_X7_takesSetting_8_101 at h
  refine lv_iconst (v := 0) hx hb dX7_takesSetting_101 (by decide) ?_
  exact tb_X7_takesSetting_8_102 C Q  0 M h  H locs ls hH (lv_sub hl [0] rfl)
def wp_X7_takesSetting_8 (M : fx_Mem) (Q : Int32 → fx_Mem → Prop) : Prop :=
  ((M.1 521 = M.1 520 → Q 0 M) ∧ (¬ M.1 521 = M.1 520 → vp_in (M.1 521) 80 ∧ wp_X7_propertyOf (M.2.1 32 ((M.1 521).toNatClampNeg)) M (fun r4 M3 => ((0 ≤ r4 → vp_in (M3.1 521) 80 ∧ wp_X7_propertyOf (M3.2.1 32 ((M3.1 521).toNatClampNeg)) M3 (fun r8 M7 => vp_in (M3.1 522) 40 ∧ ∀ M10 : fx_Mem, M10 = fx_sa M7 33 ((M3.1 522).toNatClampNeg) r8 → vp_in (M10.1 522) 40 ∧ ∀ M12 : fx_Mem, M12 = fx_sa M10 35 ((M10.1 522).toNatClampNeg) (M10.1 521) → ∀ M13 : fx_Mem, M13 = fx_si M12 521 ((M12.1 521) + 1) → ((M13.1 520 ≤ M13.1 521 → wb_X7_takesSetting_8_101 Q  M13) ∧ (¬ M13.1 520 ≤ M13.1 521 → vp_in (M13.1 521) 80 ∧ ((M13.2.1 32 ((M13.1 521).toNatClampNeg) = 45 → wb_X7_takesSetting_8_102 Q 1 M13) ∧ (¬ M13.2.1 32 ((M13.1 521).toNatClampNeg) = 45 → wb_X7_takesSetting_8_101 Q  M13)))))) ∧ (¬ 0 ≤ r4 → Q 0 M3)))))
set_option maxHeartbeats 4000000 in
set_option maxRecDepth 100000 in
theorem c_X7_takesSetting_8 (l : Launch) {g : fx_Geo} (hG : fx_Gd g) (M : fx_Mem) (Q : Int32 → fx_Mem → Prop) (h : wp_X7_takesSetting_8 M Q) : Met l yX7_takesSetting (.code yX7_takesSetting cX7_takesSetting 4 (some .boolean) :: fx_U) rm_X7_takesSetting_8 (va_Pc [.ref (fx_a g 8)] (fx_At g M)) (va_Qi Q (fx_Pw g) (fx_A g)) 0 0 (fx_A g) := by
  refine Met.ofW (cc := cX7_takesSetting) (maxL := 4) (ret := (some .boolean)) (by decide +kernel) rfl ?_
  intro p e s m args below meth c s₁ B hml hv
  obtain ⟨rfl, hv⟩ := hv
  have hts := atoms_spec (ws := .code yX7_takesSetting cX7_takesSetting 4 (some .boolean) :: fx_U) B.pre
  obtain ⟨C, hH⟩ := fx_body (own := RX7) B hml rfl (fun w hw => hts w (List.mem_cons_of_mem _ hw)) hG hv
  replace hts := fun w hw => hts w (List.mem_cons_of_mem _ hw)
  obtain ⟨hx, hb, hr, -, hown, -, hlocks, hsz, hK, -, hSt⟩ := id C
  have hl := lv_entry ([.ref (fx_a g 8)]) (n := 4) (Nat.le_of_ble_eq_true rfl)
  rw [lg_entry_eq]
  generalize (lg_sl ([.ref (fx_a g 8)]) ++ List.replicate (4 - (lg_sl ([.ref (fx_a g 8)])).length) Slot.unset).toArray = ls at hl ⊢
  have hl : lv_has ls 4 [(0, .ref (fx_a g 8))] := hl
  obtain ⟨H, eH⟩ : ∃ H : Heap, H = s.heap := ⟨_, rfl⟩
  obtain ⟨locs, elocs⟩ : ∃ q : List Loc, q = [] := ⟨_, rfl⟩
  rw [← eH, ← elocs] at hH
  show W p l e rm_X7_takesSetting_8 s m _ below meth c s.heap [] 0 0 _ _
  rw [← eH, ← elocs]
  unfold wp_X7_takesSetting_8 at h
  refine lv_aload_n hx hb dX7_takesSetting_0 rfl (lv_at hl 0 rfl) ?_
  refine fx_get C hH (fx_w8 g M) rfl in_X7 9 (by decide) u_832 rfl rfl dX7_takesSetting_1 ?_
  refine lv_aload_n hx hb dX7_takesSetting_4 rfl (lv_at hl 0 rfl) ?_
  refine fx_get C hH (fx_w8 g M) rfl in_X7 8 (by decide) u_831 rfl rfl dX7_takesSetting_5 ?_
  refine lv_icmp_eq (tgt := 26) hx hb dX7_takesSetting_8 (by decide) (fun c1 => ?_) (fun c1 => ?_)
  · replace h := h.1 c1
    refine lv_iconst (v := 0) hx hb dX7_takesSetting_26 (by decide) ?_
    exact fx_zret C hH (by decide) h dX7_takesSetting_27
  · replace h := h.2 c1
    refine lv_aload_n hx hb dX7_takesSetting_11 rfl (lv_at hl 0 rfl) ?_
    refine fx_get C hH (fx_w8 g M) rfl in_X7 4 (by decide) u_827 rfl rfl dX7_takesSetting_12 ?_
    refine lv_aload_n hx hb dX7_takesSetting_15 rfl (lv_at hl 0 rfl) ?_
    refine fx_get C hH (fx_w8 g M) rfl in_X7 9 (by decide) u_832 rfl rfl dX7_takesSetting_16 ?_
    obtain ⟨hi2, h⟩ := h
    refine fx_cald (j := (M.1 521).toNatClampNeg) C hH 32 (fx_w32 g M) rfl hi2 dX7_takesSetting_19 ?_
    refine fx_ci hH (fx_runS (As := [.int (M.2.1 32 ((M.1 521).toNatClampNeg))]) (rest := []) C hH (c_X7_propertyOf l C.2.2.2.2.2.2.2.2.2.1 (M.2.1 32 ((M.1 521).toNatClampNeg)) M _ h) (fx_cwS 1 hts u_1021 u_1022 u_8 u_1023 rfl rfl (by decide +kernel) ⟨(Nat.le_of_ble_eq_true rfl), (Nat.le_of_ble_eq_true rfl)⟩) rfl hl.1 rfl (Nat.le_of_ble_eq_true rfl) dX7_takesSetting_20 ⟨(Nat.le_of_ble_eq_true rfl), (Nat.le_of_ble_eq_true rfl)⟩) (fun r4 M3 H locs h hH => ?_)
    refine lv_if_ge (tgt := 28) hx hb dX7_takesSetting_23 (by decide) (fun c5 => ?_) (fun c5 => ?_)
    · replace h := h.1 c5
      refine lv_aload_n hx hb dX7_takesSetting_28 rfl (lv_at hl 0 rfl) ?_
      refine fx_get C hH (fx_w8 g M3) rfl in_X7 5 (by decide) u_828 rfl rfl dX7_takesSetting_29 ?_
      refine lv_aload_n hx hb dX7_takesSetting_32 rfl (lv_at hl 0 rfl) ?_
      refine fx_get C hH (fx_w8 g M3) rfl in_X7 10 (by decide) u_833 rfl rfl dX7_takesSetting_33 ?_
      refine lv_aload_n hx hb dX7_takesSetting_36 rfl (lv_at hl 0 rfl) ?_
      refine fx_get C hH (fx_w8 g M3) rfl in_X7 4 (by decide) u_827 rfl rfl dX7_takesSetting_37 ?_
      refine lv_aload_n hx hb dX7_takesSetting_40 rfl (lv_at hl 0 rfl) ?_
      refine fx_get C hH (fx_w8 g M3) rfl in_X7 9 (by decide) u_832 rfl rfl dX7_takesSetting_41 ?_
      obtain ⟨hi6, h⟩ := h
      refine fx_cald (j := (M3.1 521).toNatClampNeg) C hH 32 (fx_w32 g M3) rfl hi6 dX7_takesSetting_44 ?_
      refine fx_ci hH (fx_runS (As := [.int (M3.2.1 32 ((M3.1 521).toNatClampNeg))]) (rest := [.int (M3.1 522), .ref (fx_a g 33)]) C hH (c_X7_propertyOf l C.2.2.2.2.2.2.2.2.2.1 (M3.2.1 32 ((M3.1 521).toNatClampNeg)) M3 _ h) (fx_cwS 1 hts u_1021 u_1022 u_8 u_1023 rfl rfl (by decide +kernel) ⟨(Nat.le_of_ble_eq_true rfl), (Nat.le_of_ble_eq_true rfl)⟩) rfl hl.1 rfl (Nat.le_of_ble_eq_true rfl) dX7_takesSetting_45 ⟨(Nat.le_of_ble_eq_true rfl), (Nat.le_of_ble_eq_true rfl)⟩) (fun r8 M7 H locs h hH => ?_)
      obtain ⟨hi9, h⟩ := h
      refine fx_iast (j := (M3.1 522).toNatClampNeg) (M' := fx_sa M7 33 ((M3.1 522).toNatClampNeg) r8) C hH 33 rfl (fx_w33 g M7) (fx_p33 g M7 _) hi9 dX7_takesSetting_48 (fun H locs hH => ?_)
      generalize eM10 : fx_sa M7 33 ((M3.1 522).toNatClampNeg) r8 = M10 at hH
      replace h := h M10 eM10.symm
      refine lv_aload_n hx hb dX7_takesSetting_49 rfl (lv_at hl 0 rfl) ?_
      refine fx_get C hH (fx_w8 g M10) rfl in_X7 7 (by decide) u_830 rfl rfl dX7_takesSetting_50 ?_
      refine lv_aload_n hx hb dX7_takesSetting_53 rfl (lv_at hl 0 rfl) ?_
      refine fx_get C hH (fx_w8 g M10) rfl in_X7 10 (by decide) u_833 rfl rfl dX7_takesSetting_54 ?_
      refine lv_aload_n hx hb dX7_takesSetting_57 rfl (lv_at hl 0 rfl) ?_
      refine fx_get C hH (fx_w8 g M10) rfl in_X7 9 (by decide) u_832 rfl rfl dX7_takesSetting_58 ?_
      obtain ⟨hi11, h⟩ := h
      refine fx_iast (j := (M10.1 522).toNatClampNeg) (M' := fx_sa M10 35 ((M10.1 522).toNatClampNeg) (M10.1 521)) C hH 35 rfl (fx_w35 g M10) (fx_p35 g M10 _) hi11 dX7_takesSetting_61 (fun H locs hH => ?_)
      generalize eM12 : fx_sa M10 35 ((M10.1 522).toNatClampNeg) (M10.1 521) = M12 at hH
      replace h := h M12 eM12.symm
      refine lv_aload_n hx hb dX7_takesSetting_62 rfl (lv_at hl 0 rfl) ?_
      refine lv_dup hx hb dX7_takesSetting_63 rfl ?_
      refine fx_get C hH (fx_w8 g M12) rfl in_X7 9 (by decide) u_832 rfl rfl dX7_takesSetting_64 ?_
      refine lv_iconst (v := 1) hx hb dX7_takesSetting_67 (by decide) ?_
      refine lv_iadd hx hb dX7_takesSetting_68 ?_
      refine fx_put C hH (fx_w8 g M12) rfl in_X7 tyX7 tyX7_ok nmX7 9 (by decide) u_832 rfl rfl (ty := .int) (by decide +kernel) rfl rfl (Nat.le_of_ble_eq_true rfl) (fx_p8_9 g M12 ((M12.1 521) + 1)) dX7_takesSetting_69 (fun H locs hH => ?_)
      generalize eM13 : fx_si M12 521 ((M12.1 521) + 1) = M13 at hH
      replace h := h M13 eM13.symm
      refine lv_aload_n hx hb dX7_takesSetting_72 rfl (lv_at hl 0 rfl) ?_
      refine fx_get C hH (fx_w8 g M13) rfl in_X7 9 (by decide) u_832 rfl rfl dX7_takesSetting_73 ?_
      refine lv_aload_n hx hb dX7_takesSetting_76 rfl (lv_at hl 0 rfl) ?_
      refine fx_get C hH (fx_w8 g M13) rfl in_X7 8 (by decide) u_831 rfl rfl dX7_takesSetting_77 ?_
      refine lv_icmp_ge (tgt := 101) hx hb dX7_takesSetting_80 (by decide) (fun c14 => ?_) (fun c14 => ?_)
      · replace h := h.1 c14
        exact tb_X7_takesSetting_8_101 C Q   M13 h  H locs ls hH (lv_sub hl [0] rfl)
      · replace h := h.2 c14
        refine lv_aload_n hx hb dX7_takesSetting_83 rfl (lv_at hl 0 rfl) ?_
        refine fx_get C hH (fx_w8 g M13) rfl in_X7 4 (by decide) u_827 rfl rfl dX7_takesSetting_84 ?_
        refine lv_aload_n hx hb dX7_takesSetting_87 rfl (lv_at hl 0 rfl) ?_
        refine fx_get C hH (fx_w8 g M13) rfl in_X7 9 (by decide) u_832 rfl rfl dX7_takesSetting_88 ?_
        obtain ⟨hi15, h⟩ := h
        refine fx_cald (j := (M13.1 521).toNatClampNeg) C hH 32 (fx_w32 g M13) rfl hi15 dX7_takesSetting_91 ?_
        refine lv_bipush (v := 45) hx hb dX7_takesSetting_92 (by decide) ?_
        refine lv_icmp_ne (tgt := 101) hx hb dX7_takesSetting_94 (by decide) (fun c16 => ?_) (fun c16 => ?_)
        · replace h := h.2 c16
          exact tb_X7_takesSetting_8_101 C Q   M13 h  H locs ls hH (lv_sub hl [0] rfl)
        · replace h := h.1 c16
          refine lv_iconst (v := 1) hx hb dX7_takesSetting_97 (by decide) ?_
          refine lv_goto (tgt := 102) hx hb dX7_takesSetting_98 (by decide) ?_
          exact tb_X7_takesSetting_8_102 C Q  1 M13 h  H locs ls hH (lv_sub hl [0] rfl)
    · replace h := h.2 c5
      refine lv_iconst (v := 0) hx hb dX7_takesSetting_26 (by decide) ?_
      exact fx_zret C hH (by decide) h dX7_takesSetting_27
