/-! FlexLayout.isWithin(III)Z () -/
def rm_X6_isWithin : Room := { frames := 0, cells := 0, slots := 0, locals := 0 }
def wp_X6_isWithin (a0 : Int32) (a1 : Int32) (a2 : Int32) (M : fx_Mem) (Q : Int32 → fx_Mem → Prop) : Prop :=
  ((a0 < a1 → Q 0 M) ∧ (¬ a0 < a1 → ((a2 < a0 → Q 0 M) ∧ (¬ a2 < a0 → Q 1 M))))
set_option maxHeartbeats 4000000 in
set_option maxRecDepth 100000 in
theorem c_X6_isWithin (l : Launch) {g : fx_Geo} (hG : fx_Gd g) (a0 : Int32) (a1 : Int32) (a2 : Int32) (M : fx_Mem) (Q : Int32 → fx_Mem → Prop) (h : wp_X6_isWithin a0 a1 a2 M Q) : Met l yX6_isWithin (.code yX6_isWithin cX6_isWithin 3 (some .boolean) :: fx_U) rm_X6_isWithin (va_Pc [.int a0, .int a1, .int a2] (fx_At g M)) (va_Qi Q (fx_Pw g) (fx_A g)) 0 0 (fx_A g) := by
  refine Met.ofW (cc := cX6_isWithin) (maxL := 3) (ret := (some .boolean)) (by decide +kernel) rfl ?_
  intro p e s m args below meth c s₁ B hml hv
  obtain ⟨rfl, hv⟩ := hv
  have hts := atoms_spec (ws := .code yX6_isWithin cX6_isWithin 3 (some .boolean) :: fx_U) B.pre
  obtain ⟨C, hH⟩ := fx_body (own := RX6) B hml rfl (fun w hw => hts w (List.mem_cons_of_mem _ hw)) hG hv
  replace hts := fun w hw => hts w (List.mem_cons_of_mem _ hw)
  obtain ⟨hx, hb, hr, -, hown, -, hlocks, hsz, hK, -, hSt⟩ := id C
  have hl := lv_entry ([.int a0, .int a1, .int a2]) (n := 3) (Nat.le_of_ble_eq_true rfl)
  rw [lg_entry_eq]
  generalize (lg_sl ([.int a0, .int a1, .int a2]) ++ List.replicate (3 - (lg_sl ([.int a0, .int a1, .int a2])).length) Slot.unset).toArray = ls at hl ⊢
  have hl : lv_has ls 3 [(0, .int a0), (1, .int a1), (2, .int a2)] := hl
  obtain ⟨H, eH⟩ : ∃ H : Heap, H = s.heap := ⟨_, rfl⟩
  obtain ⟨locs, elocs⟩ : ∃ q : List Loc, q = [] := ⟨_, rfl⟩
  rw [← eH, ← elocs] at hH
  show W p l e rm_X6_isWithin s m _ below meth c s.heap [] 0 0 _ _
  rw [← eH, ← elocs]
  unfold wp_X6_isWithin at h
  refine lv_iload_n hx hb dX6_isWithin_0 rfl (lv_at hl 0 rfl) ?_
  refine lv_iload_n hx hb dX6_isWithin_1 rfl (lv_at hl 1 rfl) ?_
  refine lv_icmp_lt (tgt := 14) hx hb dX6_isWithin_2 (by decide) (fun c1 => ?_) (fun c1 => ?_)
  · replace h := h.1 c1
    refine lv_iconst (v := 0) hx hb dX6_isWithin_14 (by decide) ?_
    exact fx_zret C hH (by decide) h dX6_isWithin_15
  · replace h := h.2 c1
    refine lv_iload_n hx hb dX6_isWithin_5 rfl (lv_at hl 0 rfl) ?_
    refine lv_iload_n hx hb dX6_isWithin_6 rfl (lv_at hl 2 rfl) ?_
    refine lv_icmp_gt (tgt := 14) hx hb dX6_isWithin_7 (by decide) (fun c2 => ?_) (fun c2 => ?_)
    · replace h := h.1 c2
      refine lv_iconst (v := 0) hx hb dX6_isWithin_14 (by decide) ?_
      exact fx_zret C hH (by decide) h dX6_isWithin_15
    · replace h := h.2 c2
      refine lv_iconst (v := 1) hx hb dX6_isWithin_10 (by decide) ?_
      refine lv_goto (tgt := 15) hx hb dX6_isWithin_11 (by decide) ?_
      exact fx_zret C hH (by decide) h dX6_isWithin_15
/-! FlexLayout.setMainSize(I)I (0,) -/
def rm_X6_setMainSize_0 : Room := { frames := 6, cells := 1, slots := 6, locals := 90 }
def wp_X6_setMainSize_0 (a1 : Int32) (M : fx_Mem) (Q : Int32 → fx_Mem → Prop) (X : String → fx_Mem → Prop) : Prop :=
  wp_X6_isWithin a1 0 9999 M (fun r2 M1 => ((r2 = 0 → X "java/lang/IllegalArgumentException" M1) ∧ (¬ r2 = 0 → ∀ v4 : Int32, v4 = M1.1 64 → ∀ M5 : fx_Mem, M5 = fx_si M1 64 a1 → Q v4 M5)))
set_option maxHeartbeats 4000000 in
set_option maxRecDepth 100000 in
theorem c_X6_setMainSize_0 (l : Launch) {g : fx_Geo} (hG : fx_Gd g) (hfl0 : l.stackTraces = false) (a1 : Int32) (M : fx_Mem) (Q : Int32 → fx_Mem → Prop) (X : String → fx_Mem → Prop) (h : wp_X6_setMainSize_0 a1 M Q X) : vx_Met l yX6_setMainSize (.code yX6_setMainSize cX6_setMainSize 3 (some .int) :: fx_U) rm_X6_setMainSize_0 (va_Pc [.ref (fx_a g 0), .int a1] (fx_At g M)) (va_Qi Q (fx_Pw g) (fx_A g)) (fx_XC g X) 1 6 (fx_A g) := by
  refine vx_ofW (cc := cX6_setMainSize) (maxL := 3) (ret := (some .int)) (by decide +kernel) rfl ?_
  intro p e s m args below meth c s₁ B hml hex hv
  have hfl : fx_fl l c := ⟨hfl0, hex⟩
  obtain ⟨rfl, hv⟩ := hv
  have hts := atoms_spec (ws := .code yX6_setMainSize cX6_setMainSize 3 (some .int) :: fx_U) B.pre
  obtain ⟨C, hH⟩ := fx_body (own := RX6) B hml rfl (fun w hw => hts w (List.mem_cons_of_mem _ hw)) hG hv
  replace hts := fun w hw => hts w (List.mem_cons_of_mem _ hw)
  obtain ⟨hx, hb, hr, -, hown, -, hlocks, hsz, hK, -, hSt⟩ := id C
  have hl := lv_entry ([.ref (fx_a g 0), .int a1]) (n := 3) (Nat.le_of_ble_eq_true rfl)
  rw [lg_entry_eq]
  generalize (lg_sl ([.ref (fx_a g 0), .int a1]) ++ List.replicate (3 - (lg_sl ([.ref (fx_a g 0), .int a1])).length) Slot.unset).toArray = ls at hl ⊢
  have hl : lv_has ls 3 [(0, .ref (fx_a g 0)), (1, .int a1)] := hl
  obtain ⟨H, eH⟩ : ∃ H : Heap, H = s.heap := ⟨_, rfl⟩
  obtain ⟨locs, elocs⟩ : ∃ q : List Loc, q = [] := ⟨_, rfl⟩
  rw [← eH, ← elocs] at hH
  show W p l e rm_X6_setMainSize_0 s m _ below meth c s.heap [] 0 0 _ _
  rw [← eH, ← elocs]
  unfold wp_X6_setMainSize_0 at h
  refine lv_iload_n hx hb dX6_setMainSize_0 rfl (lv_at hl 1 rfl) ?_
  refine lv_iconst (v := 0) hx hb dX6_setMainSize_1 (by decide) ?_
  refine lv_sipush (v := 9999) hx hb dX6_setMainSize_2 (by decide) ?_
  refine fx_ci hH (fx_runS (As := [.int a1, .int 0, .int 9999]) (rest := []) C hH (c_X6_isWithin l C.2.2.2.2.2.2.2.2.2.1 a1 0 9999 M _ h) (fx_cwS 3 hts u_405 u_406 u_1 u_407 rfl rfl (by decide +kernel) ⟨(Nat.le_of_ble_eq_true rfl), (Nat.le_of_ble_eq_true rfl)⟩) rfl hl.1 rfl (Nat.le_of_ble_eq_true rfl) dX6_setMainSize_5 ⟨(Nat.le_of_ble_eq_true rfl), (Nat.le_of_ble_eq_true rfl)⟩) (fun r2 M1 H locs h hH => ?_)
  refine lv_if_ne (tgt := 21) hx hb dX6_setMainSize_8 (by decide) (fun c3 => ?_) (fun c3 => ?_)
  · replace h := h.2 c3
    refine lv_aload_n hx hb dX6_setMainSize_21 rfl (lv_at hl 0 rfl) ?_
    refine fx_get C hH (fx_w0 g M1) rfl in_X6 0 (by decide) u_199 rfl rfl dX6_setMainSize_22 ?_
    refine fx_get C hH (fx_w1 g M1) rfl in_X1 0 (by decide) u_39 rfl rfl dX6_setMainSize_25 ?_
    refine lv_topi (fun v4 ev4 => ?_)
    replace h := h v4 ev4
    refine lv_istore_n (lv' := [(2, .int v4), (0, .ref (fx_a g 0)), (1, .int a1)]) hx hb dX6_setMainSize_28 rfl hl (by decide) rfl (fun ls hl => ?_)
    refine lv_aload_n hx hb dX6_setMainSize_29 rfl (lv_at hl 1 rfl) ?_
    refine fx_get C hH (fx_w0 g M1) rfl in_X6 0 (by decide) u_199 rfl rfl dX6_setMainSize_30 ?_
    refine lv_iload_n hx hb dX6_setMainSize_33 rfl (lv_at hl 2 rfl) ?_
    refine fx_put C hH (fx_w1 g M1) rfl in_X1 tyX1 tyX1_ok nmX1 0 (by decide) u_39 rfl rfl (ty := .int) (by decide +kernel) rfl rfl (Nat.le_of_ble_eq_true rfl) (fx_p1_0 g M1 a1) dX6_setMainSize_34 (fun H locs hH => ?_)
    generalize eM5 : fx_si M1 64 a1 = M5 at hH
    replace h := h M5 eM5.symm
    refine lv_iload_n hx hb dX6_setMainSize_37 rfl (lv_at hl 0 rfl) ?_
    refine vx_ret (W.widen (k := 1) (n := 6) (Nat.le_of_ble_eq_true rfl) (Nat.le_of_ble_eq_true rfl) ?_)
    exact fx_iret C hH h dX6_setMainSize_38
  · replace h := h.1 c3
    exact fx_throwS (text := "no such main size") C hfl hH u_408 u_12 0 rfl at_66 (by decide +kernel) (by decide +kernel) (by decide +kernel) dX6_setMainSize_11 dX6_setMainSize_14 dX6_setMainSize_15 dX6_setMainSize_17 dX6_setMainSize_20 (Nat.le_of_ble_eq_true rfl) (Nat.le_of_ble_eq_true rfl) (Nat.le_of_ble_eq_true rfl) (Nat.le_of_ble_eq_true rfl) hl.1 h (Nat.le_of_ble_eq_true rfl) (Nat.le_of_ble_eq_true rfl)
/-! FlexLayout.setCrossSize(I)I (0,) -/
def rm_X6_setCrossSize_0 : Room := { frames := 6, cells := 1, slots := 6, locals := 90 }
def wb_X6_setCrossSize_0_26 (Q : Int32 → fx_Mem → Prop) (X : String → fx_Mem → Prop) (x1 : Int32) (M : fx_Mem) : Prop :=
  ∀ v1 : Int32, v1 = M.1 65 → ∀ M2 : fx_Mem, M2 = fx_si M 65 x1 → Q v1 M2
set_option maxHeartbeats 4000000 in
set_option maxRecDepth 100000 in
theorem tb_X6_setCrossSize_0_26 {g : fx_Geo} {p : Program} {l : Launch} {e : Env} {s : State} {m : MethodId} {args : Array Value} {below : List Frame} {meth : Method} {c : Code} (C : fx_Cx g p s m args meth c RX6 cX6_setCrossSize 3 (some .int)) (hfl : fx_fl l c) (Q : Int32 → fx_Mem → Prop) (X : String → fx_Mem → Prop) (x1 : Int32) (M : fx_Mem) (h : wb_X6_setCrossSize_0_26 Q X x1 M) (H : Heap) (locs : List Loc) (ls : Array Slot) (hH : fx_H g s M H locs) (hl : lv_has ls 3 [(0, .ref (fx_a g 0)), (1, .int x1)]) : W p l e rm_X6_setCrossSize_0 s m args below meth c H locs 0 0 (vx_MQ below (va_Qi Q (fx_Pw g) (fx_A g)) (fx_XC g X) args s 1 6 (fx_A g)) (F0 m 26 ls []) := by
  obtain ⟨hx, hb, hr, hml, hown, hts, hlocks, hsz, hK, hG, hSt⟩ := id C
  unfold wb_X6_setCrossSize_0_26 at h
  refine lv_aload_n hx hb dX6_setCrossSize_26 rfl (lv_at hl 0 rfl) ?_
  refine fx_get C hH (fx_w0 g M) rfl in_X6 0 (by decide) u_199 rfl rfl dX6_setCrossSize_27 ?_
  refine fx_get C hH (fx_w1 g M) rfl in_X1 1 (by decide) u_43 rfl rfl dX6_setCrossSize_30 ?_
  refine lv_topi (fun v1 ev1 => ?_)
  replace h := h v1 ev1
  refine lv_istore_n (lv' := [(2, .int v1), (0, .ref (fx_a g 0)), (1, .int x1)]) hx hb dX6_setCrossSize_33 rfl hl (by decide) rfl (fun ls hl => ?_)
  refine lv_aload_n hx hb dX6_setCrossSize_34 rfl (lv_at hl 1 rfl) ?_
  refine fx_get C hH (fx_w0 g M) rfl in_X6 0 (by decide) u_199 rfl rfl dX6_setCrossSize_35 ?_
  refine lv_iload_n hx hb dX6_setCrossSize_38 rfl (lv_at hl 2 rfl) ?_
  refine fx_put C hH (fx_w1 g M) rfl in_X1 tyX1 tyX1_ok nmX1 1 (by decide) u_43 rfl rfl (ty := .int) (by decide +kernel) rfl rfl (Nat.le_of_ble_eq_true rfl) (fx_p1_1 g M x1) dX6_setCrossSize_39 (fun H locs hH => ?_)
  generalize eM2 : fx_si M 65 x1 = M2 at hH
  replace h := h M2 eM2.symm
  refine lv_iload_n hx hb dX6_setCrossSize_42 rfl (lv_at hl 0 rfl) ?_
  refine vx_ret (W.widen (k := 1) (n := 6) (Nat.le_of_ble_eq_true rfl) (Nat.le_of_ble_eq_true rfl) ?_)
  exact fx_iret C hH h dX6_setCrossSize_43
def wp_X6_setCrossSize_0 (a1 : Int32) (M : fx_Mem) (Q : Int32 → fx_Mem → Prop) (X : String → fx_Mem → Prop) : Prop :=
  ((a1 = (-1) → wb_X6_setCrossSize_0_26 Q X a1 M) ∧ (¬ a1 = (-1) → wp_X6_isWithin a1 0 9999 M (fun r3 M2 => ((r3 = 0 → X "java/lang/IllegalArgumentException" M2) ∧ (¬ r3 = 0 → wb_X6_setCrossSize_0_26 Q X a1 M2)))))
set_option maxHeartbeats 4000000 in
set_option maxRecDepth 100000 in
theorem c_X6_setCrossSize_0 (l : Launch) {g : fx_Geo} (hG : fx_Gd g) (hfl0 : l.stackTraces = false) (a1 : Int32) (M : fx_Mem) (Q : Int32 → fx_Mem → Prop) (X : String → fx_Mem → Prop) (h : wp_X6_setCrossSize_0 a1 M Q X) : vx_Met l yX6_setCrossSize (.code yX6_setCrossSize cX6_setCrossSize 3 (some .int) :: fx_U) rm_X6_setCrossSize_0 (va_Pc [.ref (fx_a g 0), .int a1] (fx_At g M)) (va_Qi Q (fx_Pw g) (fx_A g)) (fx_XC g X) 1 6 (fx_A g) := by
  refine vx_ofW (cc := cX6_setCrossSize) (maxL := 3) (ret := (some .int)) (by decide +kernel) rfl ?_
  intro p e s m args below meth c s₁ B hml hex hv
  have hfl : fx_fl l c := ⟨hfl0, hex⟩
  obtain ⟨rfl, hv⟩ := hv
  have hts := atoms_spec (ws := .code yX6_setCrossSize cX6_setCrossSize 3 (some .int) :: fx_U) B.pre
  obtain ⟨C, hH⟩ := fx_body (own := RX6) B hml rfl (fun w hw => hts w (List.mem_cons_of_mem _ hw)) hG hv
  replace hts := fun w hw => hts w (List.mem_cons_of_mem _ hw)
  obtain ⟨hx, hb, hr, -, hown, -, hlocks, hsz, hK, -, hSt⟩ := id C
  have hl := lv_entry ([.ref (fx_a g 0), .int a1]) (n := 3) (Nat.le_of_ble_eq_true rfl)
  rw [lg_entry_eq]
  generalize (lg_sl ([.ref (fx_a g 0), .int a1]) ++ List.replicate (3 - (lg_sl ([.ref (fx_a g 0), .int a1])).length) Slot.unset).toArray = ls at hl ⊢
  have hl : lv_has ls 3 [(0, .ref (fx_a g 0)), (1, .int a1)] := hl
  obtain ⟨H, eH⟩ : ∃ H : Heap, H = s.heap := ⟨_, rfl⟩
  obtain ⟨locs, elocs⟩ : ∃ q : List Loc, q = [] := ⟨_, rfl⟩
  rw [← eH, ← elocs] at hH
  show W p l e rm_X6_setCrossSize_0 s m _ below meth c s.heap [] 0 0 _ _
  rw [← eH, ← elocs]
  unfold wp_X6_setCrossSize_0 at h
  refine lv_iload_n hx hb dX6_setCrossSize_0 rfl (lv_at hl 1 rfl) ?_
  refine lv_iconst (v := -1) hx hb dX6_setCrossSize_1 (by decide) ?_
  refine lv_icmp_eq (tgt := 26) hx hb dX6_setCrossSize_2 (by decide) (fun c1 => ?_) (fun c1 => ?_)
  · replace h := h.1 c1
    exact tb_X6_setCrossSize_0_26 C hfl Q X  a1 M h  H locs ls hH (lv_sub hl [0, 1] rfl)
  · replace h := h.2 c1
    refine lv_iload_n hx hb dX6_setCrossSize_5 rfl (lv_at hl 1 rfl) ?_
    refine lv_iconst (v := 0) hx hb dX6_setCrossSize_6 (by decide) ?_
    refine lv_sipush (v := 9999) hx hb dX6_setCrossSize_7 (by decide) ?_
    refine fx_ci hH (fx_runS (As := [.int a1, .int 0, .int 9999]) (rest := []) C hH (c_X6_isWithin l C.2.2.2.2.2.2.2.2.2.1 a1 0 9999 M _ h) (fx_cwS 3 hts u_405 u_406 u_1 u_407 rfl rfl (by decide +kernel) ⟨(Nat.le_of_ble_eq_true rfl), (Nat.le_of_ble_eq_true rfl)⟩) rfl hl.1 rfl (Nat.le_of_ble_eq_true rfl) dX6_setCrossSize_10 ⟨(Nat.le_of_ble_eq_true rfl), (Nat.le_of_ble_eq_true rfl)⟩) (fun r3 M2 H locs h hH => ?_)
    refine lv_if_ne (tgt := 26) hx hb dX6_setCrossSize_13 (by decide) (fun c4 => ?_) (fun c4 => ?_)
    · replace h := h.2 c4
      exact tb_X6_setCrossSize_0_26 C hfl Q X  a1 M2 h  H locs ls hH (lv_sub hl [0, 1] rfl)
    · replace h := h.1 c4
      exact fx_throwS (text := "no such cross size") C hfl hH u_408 u_12 1 rfl at_66 (by decide +kernel) (by decide +kernel) (by decide +kernel) dX6_setCrossSize_16 dX6_setCrossSize_19 dX6_setCrossSize_20 dX6_setCrossSize_22 dX6_setCrossSize_25 (Nat.le_of_ble_eq_true rfl) (Nat.le_of_ble_eq_true rfl) (Nat.le_of_ble_eq_true rfl) (Nat.le_of_ble_eq_true rfl) hl.1 h (Nat.le_of_ble_eq_true rfl) (Nat.le_of_ble_eq_true rfl)
/-! FlexLayout.setGaps(II)I (0,) -/
def rm_X6_setGaps_0 : Room := { frames := 6, cells := 1, slots := 6, locals := 90 }
def wb_X6_setGaps_0_20 (Q : Int32 → fx_Mem → Prop) (X : String → fx_Mem → Prop) (M : fx_Mem) : Prop :=
  X "java/lang/IllegalArgumentException" M
set_option maxHeartbeats 4000000 in
set_option maxRecDepth 100000 in
theorem tb_X6_setGaps_0_20 {g : fx_Geo} {p : Program} {l : Launch} {e : Env} {s : State} {m : MethodId} {args : Array Value} {below : List Frame} {meth : Method} {c : Code} (C : fx_Cx g p s m args meth c RX6 cX6_setGaps 4 (some .int)) (hfl : fx_fl l c) (Q : Int32 → fx_Mem → Prop) (X : String → fx_Mem → Prop) (M : fx_Mem) (h : wb_X6_setGaps_0_20 Q X M) (H : Heap) (locs : List Loc) (ls : Array Slot) (hH : fx_H g s M H locs) (hl : lv_has ls 4 []) : W p l e rm_X6_setGaps_0 s m args below meth c H locs 0 0 (vx_MQ below (va_Qi Q (fx_Pw g) (fx_A g)) (fx_XC g X) args s 1 6 (fx_A g)) (F0 m 20 ls []) := by
  obtain ⟨hx, hb, hr, hml, hown, hts, hlocks, hsz, hK, hG, hSt⟩ := id C
  unfold wb_X6_setGaps_0_20 at h
  exact fx_throwS (text := "no such gap") C hfl hH u_408 u_12 2 rfl at_66 (by decide +kernel) (by decide +kernel) (by decide +kernel) dX6_setGaps_20 dX6_setGaps_23 dX6_setGaps_24 dX6_setGaps_26 dX6_setGaps_29 (Nat.le_of_ble_eq_true rfl) (Nat.le_of_ble_eq_true rfl) (Nat.le_of_ble_eq_true rfl) (Nat.le_of_ble_eq_true rfl) hl.1 h (Nat.le_of_ble_eq_true rfl) (Nat.le_of_ble_eq_true rfl)
def wp_X6_setGaps_0 (a1 : Int32) (a2 : Int32) (M : fx_Mem) (Q : Int32 → fx_Mem → Prop) (X : String → fx_Mem → Prop) : Prop :=
  wp_X6_isWithin a1 0 99 M (fun r2 M1 => ((r2 = 0 → wb_X6_setGaps_0_20 Q X  M1) ∧ (¬ r2 = 0 → wp_X6_isWithin a2 0 99 M1 (fun r5 M4 => ((r5 = 0 → wb_X6_setGaps_0_20 Q X  M4) ∧ (¬ r5 = 0 → ∀ v7 : Int32, v7 = (100 * (M4.1 66)) + (M4.1 67) → ∀ M8 : fx_Mem, M8 = fx_si M4 66 a1 → ∀ M9 : fx_Mem, M9 = fx_si M8 67 a2 → Q v7 M9))))))
set_option maxHeartbeats 4000000 in
set_option maxRecDepth 100000 in
theorem c_X6_setGaps_0 (l : Launch) {g : fx_Geo} (hG : fx_Gd g) (hfl0 : l.stackTraces = false) (a1 : Int32) (a2 : Int32) (M : fx_Mem) (Q : Int32 → fx_Mem → Prop) (X : String → fx_Mem → Prop) (h : wp_X6_setGaps_0 a1 a2 M Q X) : vx_Met l yX6_setGaps (.code yX6_setGaps cX6_setGaps 4 (some .int) :: fx_U) rm_X6_setGaps_0 (va_Pc [.ref (fx_a g 0), .int a1, .int a2] (fx_At g M)) (va_Qi Q (fx_Pw g) (fx_A g)) (fx_XC g X) 1 6 (fx_A g) := by
  refine vx_ofW (cc := cX6_setGaps) (maxL := 4) (ret := (some .int)) (by decide +kernel) rfl ?_
  intro p e s m args below meth c s₁ B hml hex hv
  have hfl : fx_fl l c := ⟨hfl0, hex⟩
  obtain ⟨rfl, hv⟩ := hv
  have hts := atoms_spec (ws := .code yX6_setGaps cX6_setGaps 4 (some .int) :: fx_U) B.pre
  obtain ⟨C, hH⟩ := fx_body (own := RX6) B hml rfl (fun w hw => hts w (List.mem_cons_of_mem _ hw)) hG hv
  replace hts := fun w hw => hts w (List.mem_cons_of_mem _ hw)
  obtain ⟨hx, hb, hr, -, hown, -, hlocks, hsz, hK, -, hSt⟩ := id C
  have hl := lv_entry ([.ref (fx_a g 0), .int a1, .int a2]) (n := 4) (Nat.le_of_ble_eq_true rfl)
  rw [lg_entry_eq]
  generalize (lg_sl ([.ref (fx_a g 0), .int a1, .int a2]) ++ List.replicate (4 - (lg_sl ([.ref (fx_a g 0), .int a1, .int a2])).length) Slot.unset).toArray = ls at hl ⊢
  have hl : lv_has ls 4 [(0, .ref (fx_a g 0)), (1, .int a1), (2, .int a2)] := hl
  obtain ⟨H, eH⟩ : ∃ H : Heap, H = s.heap := ⟨_, rfl⟩
  obtain ⟨locs, elocs⟩ : ∃ q : List Loc, q = [] := ⟨_, rfl⟩
  rw [← eH, ← elocs] at hH
  show W p l e rm_X6_setGaps_0 s m _ below meth c s.heap [] 0 0 _ _
  rw [← eH, ← elocs]
  unfold wp_X6_setGaps_0 at h
  refine lv_iload_n hx hb dX6_setGaps_0 rfl (lv_at hl 1 rfl) ?_
  refine lv_iconst (v := 0) hx hb dX6_setGaps_1 (by decide) ?_
  refine lv_bipush (v := 99) hx hb dX6_setGaps_2 (by decide) ?_
  refine fx_ci hH (fx_runS (As := [.int a1, .int 0, .int 99]) (rest := []) C hH (c_X6_isWithin l C.2.2.2.2.2.2.2.2.2.1 a1 0 99 M _ h) (fx_cwS 3 hts u_405 u_406 u_1 u_407 rfl rfl (by decide +kernel) ⟨(Nat.le_of_ble_eq_true rfl), (Nat.le_of_ble_eq_true rfl)⟩) rfl hl.1 rfl (Nat.le_of_ble_eq_true rfl) dX6_setGaps_4 ⟨(Nat.le_of_ble_eq_true rfl), (Nat.le_of_ble_eq_true rfl)⟩) (fun r2 M1 H locs h hH => ?_)
  refine lv_if_eq (tgt := 20) hx hb dX6_setGaps_7 (by decide) (fun c3 => ?_) (fun c3 => ?_)
  · replace h := h.1 c3
    exact tb_X6_setGaps_0_20 C hfl Q X   M1 h  H locs ls hH (lv_sub hl [] rfl)
  · replace h := h.2 c3
    refine lv_iload_n hx hb dX6_setGaps_10 rfl (lv_at hl 2 rfl) ?_
    refine lv_iconst (v := 0) hx hb dX6_setGaps_11 (by decide) ?_
    refine lv_bipush (v := 99) hx hb dX6_setGaps_12 (by decide) ?_
    refine fx_ci hH (fx_runS (As := [.int a2, .int 0, .int 99]) (rest := []) C hH (c_X6_isWithin l C.2.2.2.2.2.2.2.2.2.1 a2 0 99 M1 _ h) (fx_cwS 3 hts u_405 u_406 u_1 u_407 rfl rfl (by decide +kernel) ⟨(Nat.le_of_ble_eq_true rfl), (Nat.le_of_ble_eq_true rfl)⟩) rfl hl.1 rfl (Nat.le_of_ble_eq_true rfl) dX6_setGaps_14 ⟨(Nat.le_of_ble_eq_true rfl), (Nat.le_of_ble_eq_true rfl)⟩) (fun r5 M4 H locs h hH => ?_)
    refine lv_if_ne (tgt := 30) hx hb dX6_setGaps_17 (by decide) (fun c6 => ?_) (fun c6 => ?_)
    · replace h := h.2 c6
      refine lv_bipush (v := 100) hx hb dX6_setGaps_30 (by decide) ?_
      refine lv_aload_n hx hb dX6_setGaps_32 rfl (lv_at hl 0 rfl) ?_
      refine fx_get C hH (fx_w0 g M4) rfl in_X6 0 (by decide) u_199 rfl rfl dX6_setGaps_33 ?_
      refine fx_get C hH (fx_w1 g M4) rfl in_X1 2 (by decide) u_46 rfl rfl dX6_setGaps_36 ?_
      refine lv_imul hx hb dX6_setGaps_39 ?_
      refine lv_aload_n hx hb dX6_setGaps_40 rfl (lv_at hl 0 rfl) ?_
      refine fx_get C hH (fx_w0 g M4) rfl in_X6 0 (by decide) u_199 rfl rfl dX6_setGaps_41 ?_
      refine fx_get C hH (fx_w1 g M4) rfl in_X1 3 (by decide) u_49 rfl rfl dX6_setGaps_44 ?_
      refine lv_iadd hx hb dX6_setGaps_47 ?_
      refine lv_topi (fun v7 ev7 => ?_)
      replace h := h v7 ev7
      refine lv_istore_n (lv' := [(3, .int v7), (0, .ref (fx_a g 0)), (1, .int a1), (2, .int a2)]) hx hb dX6_setGaps_48 rfl hl (by decide) rfl (fun ls hl => ?_)
      refine lv_aload_n hx hb dX6_setGaps_49 rfl (lv_at hl 1 rfl) ?_
      refine fx_get C hH (fx_w0 g M4) rfl in_X6 0 (by decide) u_199 rfl rfl dX6_setGaps_50 ?_
      refine lv_iload_n hx hb dX6_setGaps_53 rfl (lv_at hl 2 rfl) ?_
      refine fx_put C hH (fx_w1 g M4) rfl in_X1 tyX1 tyX1_ok nmX1 2 (by decide) u_46 rfl rfl (ty := .int) (by decide +kernel) rfl rfl (Nat.le_of_ble_eq_true rfl) (fx_p1_2 g M4 a1) dX6_setGaps_54 (fun H locs hH => ?_)
      generalize eM8 : fx_si M4 66 a1 = M8 at hH
      replace h := h M8 eM8.symm
      refine lv_aload_n hx hb dX6_setGaps_57 rfl (lv_at hl 1 rfl) ?_
      refine fx_get C hH (fx_w0 g M8) rfl in_X6 0 (by decide) u_199 rfl rfl dX6_setGaps_58 ?_
      refine lv_iload_n hx hb dX6_setGaps_61 rfl (lv_at hl 3 rfl) ?_
      refine fx_put C hH (fx_w1 g M8) rfl in_X1 tyX1 tyX1_ok nmX1 3 (by decide) u_49 rfl rfl (ty := .int) (by decide +kernel) rfl rfl (Nat.le_of_ble_eq_true rfl) (fx_p1_3 g M8 a2) dX6_setGaps_62 (fun H locs hH => ?_)
      generalize eM9 : fx_si M8 67 a2 = M9 at hH
      replace h := h M9 eM9.symm
      refine lv_iload_n hx hb dX6_setGaps_65 rfl (lv_at hl 0 rfl) ?_
      refine vx_ret (W.widen (k := 1) (n := 6) (Nat.le_of_ble_eq_true rfl) (Nat.le_of_ble_eq_true rfl) ?_)
      exact fx_iret C hH h dX6_setGaps_66
    · replace h := h.1 c6
      exact tb_X6_setGaps_0_20 C hfl Q X   M4 h  H locs ls hH (lv_sub hl [] rfl)
/-! FlexLayout.setSetting(II)I (0,) -/
def rm_X6_setSetting_0 : Room := { frames := 6, cells := 1, slots := 6, locals := 90 }
def wp_X6_setSetting_0 (a1 : Int32) (a2 : Int32) (M : fx_Mem) (Q : Int32 → fx_Mem → Prop) (X : String → fx_Mem → Prop) : Prop :=
  wp_X6_isWithin a1 0 4 M (fun r2 M1 => ((r2 = 0 → X "java/lang/IndexOutOfBoundsException" M1) ∧ (¬ r2 = 0 → vp_in a1 5 ∧ wp_X6_isWithin a2 0 (fx_tHS a1.toNatClampNeg) M1 (fun r8 M7 => ((r8 = 0 → X "java/lang/IllegalArgumentException" M7) ∧ (¬ r8 = 0 → vp_in a1 5 ∧ ∀ v11 : Int32, v11 = M7.2.1 10 a1.toNatClampNeg → vp_in a1 5 ∧ ∀ M13 : fx_Mem, M13 = fx_sa M7 10 a1.toNatClampNeg a2 → Q v11 M13))))))
set_option maxHeartbeats 4000000 in
set_option maxRecDepth 100000 in
theorem c_X6_setSetting_0 (l : Launch) {g : fx_Geo} (hG : fx_Gd g) (hfl0 : l.stackTraces = false) (a1 : Int32) (a2 : Int32) (M : fx_Mem) (Q : Int32 → fx_Mem → Prop) (X : String → fx_Mem → Prop) (h : wp_X6_setSetting_0 a1 a2 M Q X) : vx_Met l yX6_setSetting (.code yX6_setSetting cX6_setSetting 4 (some .int) :: fx_U) rm_X6_setSetting_0 (va_Pc [.ref (fx_a g 0), .int a1, .int a2] (fx_At g M)) (va_Qi Q (fx_Pw g) (fx_A g)) (fx_XC g X) 1 6 (fx_A g) := by
  refine vx_ofW (cc := cX6_setSetting) (maxL := 4) (ret := (some .int)) (by decide +kernel) rfl ?_
  intro p e s m args below meth c s₁ B hml hex hv
  have hfl : fx_fl l c := ⟨hfl0, hex⟩
  obtain ⟨rfl, hv⟩ := hv
  have hts := atoms_spec (ws := .code yX6_setSetting cX6_setSetting 4 (some .int) :: fx_U) B.pre
  obtain ⟨C, hH⟩ := fx_body (own := RX6) B hml rfl (fun w hw => hts w (List.mem_cons_of_mem _ hw)) hG hv
  replace hts := fun w hw => hts w (List.mem_cons_of_mem _ hw)
  obtain ⟨hx, hb, hr, -, hown, -, hlocks, hsz, hK, -, hSt⟩ := id C
  have hl := lv_entry ([.ref (fx_a g 0), .int a1, .int a2]) (n := 4) (Nat.le_of_ble_eq_true rfl)
  rw [lg_entry_eq]
  generalize (lg_sl ([.ref (fx_a g 0), .int a1, .int a2]) ++ List.replicate (4 - (lg_sl ([.ref (fx_a g 0), .int a1, .int a2])).length) Slot.unset).toArray = ls at hl ⊢
  have hl : lv_has ls 4 [(0, .ref (fx_a g 0)), (1, .int a1), (2, .int a2)] := hl
  obtain ⟨H, eH⟩ : ∃ H : Heap, H = s.heap := ⟨_, rfl⟩
  obtain ⟨locs, elocs⟩ : ∃ q : List Loc, q = [] := ⟨_, rfl⟩
  rw [← eH, ← elocs] at hH
  show W p l e rm_X6_setSetting_0 s m _ below meth c s.heap [] 0 0 _ _
  rw [← eH, ← elocs]
  unfold wp_X6_setSetting_0 at h
  refine lv_iload_n hx hb dX6_setSetting_0 rfl (lv_at hl 1 rfl) ?_
  refine lv_iconst (v := 0) hx hb dX6_setSetting_1 (by decide) ?_
  refine lv_iconst (v := 4) hx hb dX6_setSetting_2 (by decide) ?_
  refine fx_ci hH (fx_runS (As := [.int a1, .int 0, .int 4]) (rest := []) C hH (c_X6_isWithin l C.2.2.2.2.2.2.2.2.2.1 a1 0 4 M _ h) (fx_cwS 3 hts u_405 u_406 u_1 u_407 rfl rfl (by decide +kernel) ⟨(Nat.le_of_ble_eq_true rfl), (Nat.le_of_ble_eq_true rfl)⟩) rfl hl.1 rfl (Nat.le_of_ble_eq_true rfl) dX6_setSetting_3 ⟨(Nat.le_of_ble_eq_true rfl), (Nat.le_of_ble_eq_true rfl)⟩) (fun r2 M1 H locs h hH => ?_)
  refine lv_if_ne (tgt := 19) hx hb dX6_setSetting_6 (by decide) (fun c3 => ?_) (fun c3 => ?_)
  · replace h := h.2 c3
    refine lv_iload_n hx hb dX6_setSetting_19 rfl (lv_at hl 2 rfl) ?_
    refine lv_iconst (v := 0) hx hb dX6_setSetting_20 (by decide) ?_
    refine fx_gets C hH 0 rfl u_539 dX6_setSetting_21 (fun t4 hT5 => ?_)
    refine lv_iload_n hx hb dX6_setSetting_24 rfl (lv_at hl 1 rfl) ?_
    obtain ⟨hi6, h⟩ := h
    refine fx_ti (j := a1.toNatClampNeg) C hH hT5 rfl hi6 dX6_setSetting_25 ?_
    refine fx_ci hH (fx_runS (As := [.int a2, .int 0, .int (fx_tHS a1.toNatClampNeg)]) (rest := []) C hH (c_X6_isWithin l C.2.2.2.2.2.2.2.2.2.1 a2 0 (fx_tHS a1.toNatClampNeg) M1 _ h) (fx_cwS 3 hts u_405 u_406 u_1 u_407 rfl rfl (by decide +kernel) ⟨(Nat.le_of_ble_eq_true rfl), (Nat.le_of_ble_eq_true rfl)⟩) rfl hl.1 rfl (Nat.le_of_ble_eq_true rfl) dX6_setSetting_26 ⟨(Nat.le_of_ble_eq_true rfl), (Nat.le_of_ble_eq_true rfl)⟩) (fun r8 M7 H locs h hH => ?_)
    refine lv_if_ne (tgt := 42) hx hb dX6_setSetting_29 (by decide) (fun c9 => ?_) (fun c9 => ?_)
    · replace h := h.2 c9
      refine lv_aload_n hx hb dX6_setSetting_42 rfl (lv_at hl 0 rfl) ?_
      refine fx_get C hH (fx_w0 g M7) rfl in_X6 0 (by decide) u_199 rfl rfl dX6_setSetting_43 ?_
      refine fx_get C hH (fx_w1 g M7) rfl in_X1 4 (by decide) u_53 rfl rfl dX6_setSetting_46 ?_
      refine lv_iload_n hx hb dX6_setSetting_49 rfl (lv_at hl 1 rfl) ?_
      obtain ⟨hi10, h⟩ := h
      refine fx_iald (j := a1.toNatClampNeg) C hH 10 (fx_w10 g M7) rfl hi10 dX6_setSetting_50 ?_
      refine lv_topi (fun v11 ev11 => ?_)
      replace h := h v11 ev11
      refine lv_istore_n (lv' := [(3, .int v11), (0, .ref (fx_a g 0)), (1, .int a1), (2, .int a2)]) hx hb dX6_setSetting_51 rfl hl (by decide) rfl (fun ls hl => ?_)
      refine lv_aload_n hx hb dX6_setSetting_52 rfl (lv_at hl 1 rfl) ?_
      refine fx_get C hH (fx_w0 g M7) rfl in_X6 0 (by decide) u_199 rfl rfl dX6_setSetting_53 ?_
      refine fx_get C hH (fx_w1 g M7) rfl in_X1 4 (by decide) u_53 rfl rfl dX6_setSetting_56 ?_
      refine lv_iload_n hx hb dX6_setSetting_59 rfl (lv_at hl 2 rfl) ?_
      refine lv_iload_n hx hb dX6_setSetting_60 rfl (lv_at hl 3 rfl) ?_
      obtain ⟨hi12, h⟩ := h
      refine fx_iast (j := a1.toNatClampNeg) (M' := fx_sa M7 10 a1.toNatClampNeg a2) C hH 10 rfl (fx_w10 g M7) (fx_p10 g M7 _) hi12 dX6_setSetting_61 (fun H locs hH => ?_)
      generalize eM13 : fx_sa M7 10 a1.toNatClampNeg a2 = M13 at hH
      replace h := h M13 eM13.symm
      refine lv_iload_n hx hb dX6_setSetting_62 rfl (lv_at hl 0 rfl) ?_
      refine vx_ret (W.widen (k := 1) (n := 6) (Nat.le_of_ble_eq_true rfl) (Nat.le_of_ble_eq_true rfl) ?_)
      exact fx_iret C hH h dX6_setSetting_63
    · replace h := h.1 c9
      exact fx_throwS (text := "no such value of the setting") C hfl hH u_408 u_12 4 rfl at_66 (by decide +kernel) (by decide +kernel) (by decide +kernel) dX6_setSetting_32 dX6_setSetting_35 dX6_setSetting_36 dX6_setSetting_38 dX6_setSetting_41 (Nat.le_of_ble_eq_true rfl) (Nat.le_of_ble_eq_true rfl) (Nat.le_of_ble_eq_true rfl) (Nat.le_of_ble_eq_true rfl) hl.1 h (Nat.le_of_ble_eq_true rfl) (Nat.le_of_ble_eq_true rfl)
  · replace h := h.1 c3
    exact fx_throwS (text := "no such setting") C hfl hH u_526 u_13 3 rfl at_90 (by decide +kernel) (by decide +kernel) (by decide +kernel) dX6_setSetting_9 dX6_setSetting_12 dX6_setSetting_13 dX6_setSetting_15 dX6_setSetting_18 (Nat.le_of_ble_eq_true rfl) (Nat.le_of_ble_eq_true rfl) (Nat.le_of_ble_eq_true rfl) (Nat.le_of_ble_eq_true rfl) hl.1 h (Nat.le_of_ble_eq_true rfl) (Nat.le_of_ble_eq_true rfl)
/-! FlexLayout.canHave(II)Z () -/
def rm_X6_canHave : Room := { frames := 1, cells := 0, slots := 0, locals := 22 }
def wp_X6_canHave (a0 : Int32) (a1 : Int32) (M : fx_Mem) (Q : Int32 → fx_Mem → Prop) : Prop :=
  wp_X6_isWithin a0 0 9 M (fun r2 M1 => ((r2 = 0 → Q 0 M1) ∧ (¬ r2 = 0 → vp_in a0 10 ∧ vp_in a0 10 ∧ wp_X6_isWithin a1 (fx_tLO a0.toNatClampNeg) (fx_tHI a0.toNatClampNeg) M1 (fun r11 M10 => ((r11 = 0 → Q 0 M10) ∧ (¬ r11 = 0 → Q 1 M10))))))
set_option maxHeartbeats 4000000 in
set_option maxRecDepth 100000 in
theorem c_X6_canHave (l : Launch) {g : fx_Geo} (hG : fx_Gd g) (a0 : Int32) (a1 : Int32) (M : fx_Mem) (Q : Int32 → fx_Mem → Prop) (h : wp_X6_canHave a0 a1 M Q) : Met l yX6_canHave (.code yX6_canHave cX6_canHave 2 (some .boolean) :: fx_U) rm_X6_canHave (va_Pc [.int a0, .int a1] (fx_At g M)) (va_Qi Q (fx_Pw g) (fx_A g)) 0 0 (fx_A g) := by
  refine Met.ofW (cc := cX6_canHave) (maxL := 2) (ret := (some .boolean)) (by decide +kernel) rfl ?_
  intro p e s m args below meth c s₁ B hml hv
  obtain ⟨rfl, hv⟩ := hv
  have hts := atoms_spec (ws := .code yX6_canHave cX6_canHave 2 (some .boolean) :: fx_U) B.pre
  obtain ⟨C, hH⟩ := fx_body (own := RX6) B hml rfl (fun w hw => hts w (List.mem_cons_of_mem _ hw)) hG hv
  replace hts := fun w hw => hts w (List.mem_cons_of_mem _ hw)
  obtain ⟨hx, hb, hr, -, hown, -, hlocks, hsz, hK, -, hSt⟩ := id C
  have hl := lv_entry ([.int a0, .int a1]) (n := 2) (Nat.le_of_ble_eq_true rfl)
  rw [lg_entry_eq]
  generalize (lg_sl ([.int a0, .int a1]) ++ List.replicate (2 - (lg_sl ([.int a0, .int a1])).length) Slot.unset).toArray = ls at hl ⊢
  have hl : lv_has ls 2 [(0, .int a0), (1, .int a1)] := hl
  obtain ⟨H, eH⟩ : ∃ H : Heap, H = s.heap := ⟨_, rfl⟩
  obtain ⟨locs, elocs⟩ : ∃ q : List Loc, q = [] := ⟨_, rfl⟩
  rw [← eH, ← elocs] at hH
  show W p l e rm_X6_canHave s m _ below meth c s.heap [] 0 0 _ _
  rw [← eH, ← elocs]
  unfold wp_X6_canHave at h
  refine lv_iload_n hx hb dX6_canHave_0 rfl (lv_at hl 0 rfl) ?_
  refine lv_iconst (v := 0) hx hb dX6_canHave_1 (by decide) ?_
  refine lv_bipush (v := 9) hx hb dX6_canHave_2 (by decide) ?_
  refine fx_ci hH (fx_runS (As := [.int a0, .int 0, .int 9]) (rest := []) C hH (c_X6_isWithin l C.2.2.2.2.2.2.2.2.2.1 a0 0 9 M _ h) (fx_cwS 3 hts u_405 u_406 u_1 u_407 rfl rfl (by decide +kernel) ⟨(Nat.le_of_ble_eq_true rfl), (Nat.le_of_ble_eq_true rfl)⟩) rfl hl.1 rfl (Nat.le_of_ble_eq_true rfl) dX6_canHave_4 ⟨(Nat.le_of_ble_eq_true rfl), (Nat.le_of_ble_eq_true rfl)⟩) (fun r2 M1 H locs h hH => ?_)
  refine lv_if_eq (tgt := 31) hx hb dX6_canHave_7 (by decide) (fun c3 => ?_) (fun c3 => ?_)
  · replace h := h.1 c3
    refine lv_iconst (v := 0) hx hb dX6_canHave_31 (by decide) ?_
    exact fx_zret C hH (by decide) h dX6_canHave_32
  · replace h := h.2 c3
    refine lv_iload_n hx hb dX6_canHave_10 rfl (lv_at hl 1 rfl) ?_
    refine fx_gets C hH 1 rfl u_553 dX6_canHave_11 (fun t4 hT5 => ?_)
    refine lv_iload_n hx hb dX6_canHave_14 rfl (lv_at hl 0 rfl) ?_
    obtain ⟨hi6, h⟩ := h
    refine fx_ti (j := a0.toNatClampNeg) C hH hT5 rfl hi6 dX6_canHave_15 ?_
    refine fx_gets C hH 2 rfl u_555 dX6_canHave_16 (fun t7 hT8 => ?_)
    refine lv_iload_n hx hb dX6_canHave_19 rfl (lv_at hl 0 rfl) ?_
    obtain ⟨hi9, h⟩ := h
    refine fx_ti (j := a0.toNatClampNeg) C hH hT8 rfl hi9 dX6_canHave_20 ?_
    refine fx_ci hH (fx_runS (As := [.int a1, .int (fx_tLO a0.toNatClampNeg), .int (fx_tHI a0.toNatClampNeg)]) (rest := []) C hH (c_X6_isWithin l C.2.2.2.2.2.2.2.2.2.1 a1 (fx_tLO a0.toNatClampNeg) (fx_tHI a0.toNatClampNeg) M1 _ h) (fx_cwS 3 hts u_405 u_406 u_1 u_407 rfl rfl (by decide +kernel) ⟨(Nat.le_of_ble_eq_true rfl), (Nat.le_of_ble_eq_true rfl)⟩) rfl hl.1 rfl (Nat.le_of_ble_eq_true rfl) dX6_canHave_21 ⟨(Nat.le_of_ble_eq_true rfl), (Nat.le_of_ble_eq_true rfl)⟩) (fun r11 M10 H locs h hH => ?_)
    refine lv_if_eq (tgt := 31) hx hb dX6_canHave_24 (by decide) (fun c12 => ?_) (fun c12 => ?_)
    · replace h := h.1 c12
      refine lv_iconst (v := 0) hx hb dX6_canHave_31 (by decide) ?_
      exact fx_zret C hH (by decide) h dX6_canHave_32
    · replace h := h.2 c12
      refine lv_iconst (v := 1) hx hb dX6_canHave_27 (by decide) ?_
      refine lv_goto (tgt := 32) hx hb dX6_canHave_28 (by decide) ?_
      exact fx_zret C hH (by decide) h dX6_canHave_32
/-! FlexLayout.requireRoom()V (0,) -/
def rm_X6_requireRoom_0 : Room := { frames := 6, cells := 1, slots := 6, locals := 90 }
def wp_X6_requireRoom_0 (M : fx_Mem) (Q : fx_Mem → Prop) (X : String → fx_Mem → Prop) : Prop :=
  ((M.1 70 < 20 → Q M) ∧ (¬ M.1 70 < 20 → X "java/lang/IllegalStateException" M))
set_option maxHeartbeats 4000000 in
set_option maxRecDepth 100000 in
theorem c_X6_requireRoom_0 (l : Launch) {g : fx_Geo} (hG : fx_Gd g) (hfl0 : l.stackTraces = false) (M : fx_Mem) (Q : fx_Mem → Prop) (X : String → fx_Mem → Prop) (h : wp_X6_requireRoom_0 M Q X) : vx_Met l yX6_requireRoom (.code yX6_requireRoom cX6_requireRoom 1 none :: fx_U) rm_X6_requireRoom_0 (va_Pc [.ref (fx_a g 0)] (fx_At g M)) (va_Qv Q (fx_Pw g) (fx_A g)) (fx_XC g X) 1 6 (fx_A g) := by
  refine vx_ofW (cc := cX6_requireRoom) (maxL := 1) (ret := none) (by decide +kernel) rfl ?_
  intro p e s m args below meth c s₁ B hml hex hv
  have hfl : fx_fl l c := ⟨hfl0, hex⟩
  obtain ⟨rfl, hv⟩ := hv
  have hts := atoms_spec (ws := .code yX6_requireRoom cX6_requireRoom 1 none :: fx_U) B.pre
  obtain ⟨C, hH⟩ := fx_body (own := RX6) B hml rfl (fun w hw => hts w (List.mem_cons_of_mem _ hw)) hG hv
  replace hts := fun w hw => hts w (List.mem_cons_of_mem _ hw)
  obtain ⟨hx, hb, hr, -, hown, -, hlocks, hsz, hK, -, hSt⟩ := id C
  have hl := lv_entry ([.ref (fx_a g 0)]) (n := 1) (Nat.le_of_ble_eq_true rfl)
  rw [lg_entry_eq]
  generalize (lg_sl ([.ref (fx_a g 0)]) ++ List.replicate (1 - (lg_sl ([.ref (fx_a g 0)])).length) Slot.unset).toArray = ls at hl ⊢
  have hl : lv_has ls 1 [(0, .ref (fx_a g 0))] := hl
  obtain ⟨H, eH⟩ : ∃ H : Heap, H = s.heap := ⟨_, rfl⟩
  obtain ⟨locs, elocs⟩ : ∃ q : List Loc, q = [] := ⟨_, rfl⟩
  rw [← eH, ← elocs] at hH
  show W p l e rm_X6_requireRoom_0 s m _ below meth c s.heap [] 0 0 _ _
  rw [← eH, ← elocs]
  unfold wp_X6_requireRoom_0 at h
  refine lv_aload_n hx hb dX6_requireRoom_0 rfl (lv_at hl 0 rfl) ?_
  refine fx_get C hH (fx_w0 g M) rfl in_X6 0 (by decide) u_199 rfl rfl dX6_requireRoom_1 ?_
  refine fx_get C hH (fx_w1 g M) rfl in_X1 6 (by decide) u_62 rfl rfl dX6_requireRoom_4 ?_
  refine lv_bipush (v := 20) hx hb dX6_requireRoom_7 (by decide) ?_
  refine lv_icmp_lt (tgt := 23) hx hb dX6_requireRoom_9 (by decide) (fun c1 => ?_) (fun c1 => ?_)
  · replace h := h.1 c1
    refine vx_ret (W.widen (k := 1) (n := 6) (Nat.le_of_ble_eq_true rfl) (Nat.le_of_ble_eq_true rfl) ?_)
    exact fx_vret C hH h dX6_requireRoom_23
  · replace h := h.2 c1
    exact fx_throwSW (text := "there are 20 items") C hfl hH u_562 u_16 6 rfl at_143 (by decide +kernel) (by decide +kernel) (by decide +kernel) dX6_requireRoom_12 dX6_requireRoom_15 dX6_requireRoom_16 dX6_requireRoom_19 dX6_requireRoom_22 (Nat.le_of_ble_eq_true rfl) (Nat.le_of_ble_eq_true rfl) (Nat.le_of_ble_eq_true rfl) (Nat.le_of_ble_eq_true rfl) hl.1 h (Nat.le_of_ble_eq_true rfl) (Nat.le_of_ble_eq_true rfl)
/-! FlexLayout$Container.freshRow()[I (1,) -/
def rm_X1_freshRow_1 : Room := { frames := 1, cells := 0, slots := 0, locals := 64 }
def wp_X1_freshRow_1 (M : fx_Mem) (Q : Nat → fx_Mem → Prop) : Prop :=
  vp_in (if 19 < M.1 70 then 19 else M.1 70) 20 ∧ ∀ M5 : fx_Mem, M5 = fx_sA M (57 + ((if 19 < M.1 70 then 19 else M.1 70).toNatClampNeg)) (va_cpy fx_tFI (M.2.1 (57 + ((if 19 < M.1 70 then 19 else M.1 70).toNatClampNeg))) 0 0 10) → Q ((if 19 < M.1 70 then 19 else M.1 70).toNatClampNeg) M5
set_option maxHeartbeats 4000000 in
set_option maxRecDepth 100000 in
theorem c_X1_freshRow_1 (l : Launch) {g : fx_Geo} (hG : fx_Gd g) (M : fx_Mem) (Q : Nat → fx_Mem → Prop) (h : wp_X1_freshRow_1 M Q) : Met l yX1_freshRow (.code yX1_freshRow cX1_freshRow 2 (some (.array .int)) :: fx_U) rm_X1_freshRow_1 (va_Pc [.ref (fx_a g 1)] (fx_At g M)) (fx_Qr g Q) 0 0 (fx_A g) := by
  refine Met.ofW (cc := cX1_freshRow) (maxL := 2) (ret := (some (.array .int))) (by decide +kernel) rfl ?_
  intro p e s m args below meth c s₁ B hml hv
  obtain ⟨rfl, hv⟩ := hv
  have hts := atoms_spec (ws := .code yX1_freshRow cX1_freshRow 2 (some (.array .int)) :: fx_U) B.pre
  obtain ⟨C, hH⟩ := fx_body (own := RX1) B hml rfl (fun w hw => hts w (List.mem_cons_of_mem _ hw)) hG hv
  replace hts := fun w hw => hts w (List.mem_cons_of_mem _ hw)
  obtain ⟨hx, hb, hr, -, hown, -, hlocks, hsz, hK, -, hSt⟩ := id C
  have hl := lv_entry ([.ref (fx_a g 1)]) (n := 2) (Nat.le_of_ble_eq_true rfl)
  rw [lg_entry_eq]
  generalize (lg_sl ([.ref (fx_a g 1)]) ++ List.replicate (2 - (lg_sl ([.ref (fx_a g 1)])).length) Slot.unset).toArray = ls at hl ⊢
  have hl : lv_has ls 2 [(0, .ref (fx_a g 1))] := hl
  obtain ⟨H, eH⟩ : ∃ H : Heap, H = s.heap := ⟨_, rfl⟩
  obtain ⟨locs, elocs⟩ : ∃ q : List Loc, q = [] := ⟨_, rfl⟩
  rw [← eH, ← elocs] at hH
  show W p l e rm_X1_freshRow_1 s m _ below meth c s.heap [] 0 0 _ _
  rw [← eH, ← elocs]
  unfold wp_X1_freshRow_1 at h
  refine lv_aload_n hx hb dX1_freshRow_0 rfl (lv_at hl 0 rfl) ?_
  refine fx_get C hH (fx_w1 g M) rfl in_X1 5 (by decide) u_55 rfl rfl dX1_freshRow_1 ?_
  refine lv_aload_n hx hb dX1_freshRow_4 rfl (lv_at hl 0 rfl) ?_
  refine fx_get C hH (fx_w1 g M) rfl in_X1 6 (by decide) u_60 rfl rfl dX1_freshRow_5 ?_
  refine lv_bipush (v := 19) hx hb dX1_freshRow_8 (by decide) ?_
  refine va_mmin hx hb (hml.trans hl.1.symm) hown (hts _ u_582) (hts _ u_384) (hts _ u_17) (hts _ u_385) (Nat.le_of_ble_eq_true rfl) (Nat.le_of_ble_eq_true rfl) (Nat.le_of_ble_eq_true rfl) (Nat.le_of_ble_eq_true rfl) dX1_freshRow_10 ?_
  obtain ⟨hi1, h⟩ := h
  have hj2 : (if 19 < M.1 70 then 19 else M.1 70).toNatClampNeg < 20 := Nat.not_le.mp fun q => hi1 (Or.inr q)
  refine fx_aald C hH 11 (fx_w11 g M) hi1 dX1_freshRow_13 ?_
  refine lv_astore_n (lv' := [(1, .ref (fx_a g (57 + ((if 19 < M.1 70 then 19 else M.1 70).toNatClampNeg)))), (0, .ref (fx_a g 1))]) hx hb dX1_freshRow_14 rfl hl (by decide) rfl (fun ls hl => ?_)
  refine fx_getsN C hH 3 rfl (host := "FlexLayout") (by decide +kernel) dX1_freshRow_15 (fun t3 hT4 => ?_)
  refine lv_iconst (v := 0) hx hb dX1_freshRow_18 (by decide) ?_
  refine lv_aload_n hx hb dX1_freshRow_19 rfl (lv_at hl 0 rfl) ?_
  refine lv_iconst (v := 0) hx hb dX1_freshRow_20 (by decide) ?_
  refine lv_bipush (v := 10) hx hb dX1_freshRow_21 (by decide) ?_
  refine fx_copyT (M' := fx_sA M (57 + ((if 19 < M.1 70 then 19 else M.1 70).toNatClampNeg)) (va_cpy fx_tFI (M.2.1 (57 + ((if 19 < M.1 70 then 19 else M.1 70).toNatClampNeg))) 0 0 10)) C hH (hts _ u_394) (hts _ u_396) (hts _ u_395) (hts _ u_18) hl.1 hT4 (57 + ((if 19 < M.1 70 then 19 else M.1 70).toNatClampNeg)) (fx_r1 g M ((if 19 < M.1 70 then 19 else M.1 70).toNatClampNeg) hj2) (fx_q1 g M _ ((if 19 < M.1 70 then 19 else M.1 70).toNatClampNeg) hj2) (n := 10) (k := 10) (by decide) (by decide) (Nat.le_of_ble_eq_true rfl) (Nat.le_of_ble_eq_true rfl) (Nat.le_of_ble_eq_true rfl) (Nat.le_of_ble_eq_true rfl) dX1_freshRow_23 (fun H locs hH => ?_)
  generalize eM5 : fx_sA M (57 + ((if 19 < M.1 70 then 19 else M.1 70).toNatClampNeg)) (va_cpy fx_tFI (M.2.1 (57 + ((if 19 < M.1 70 then 19 else M.1 70).toNatClampNeg))) 0 0 10) = M5 at hH
  replace h := h M5 eM5.symm
  refine lv_aload_n hx hb dX1_freshRow_26 rfl (lv_at hl 0 rfl) ?_
  exact fx_aret C hH h hj2 dX1_freshRow_27
/-! FlexLayout$Container.takeFreshRow()I (1,) -/
def rm_X1_takeFreshRow_1 : Room := { frames := 0, cells := 0, slots := 0, locals := 0 }
def wp_X1_takeFreshRow_1 (M : fx_Mem) (Q : Int32 → fx_Mem → Prop) : Prop :=
  ∀ M1 : fx_Mem, M1 = fx_si M 70 ((M.1 70) + 1) → Q ((M1.1 70) - 1) M1
set_option maxHeartbeats 4000000 in
set_option maxRecDepth 100000 in
theorem c_X1_takeFreshRow_1 (l : Launch) {g : fx_Geo} (hG : fx_Gd g) (M : fx_Mem) (Q : Int32 → fx_Mem → Prop) (h : wp_X1_takeFreshRow_1 M Q) : Met l yX1_takeFreshRow (.code yX1_takeFreshRow cX1_takeFreshRow 1 (some .int) :: fx_U) rm_X1_takeFreshRow_1 (va_Pc [.ref (fx_a g 1)] (fx_At g M)) (va_Qi Q (fx_Pw g) (fx_A g)) 0 0 (fx_A g) := by
  refine Met.ofW (cc := cX1_takeFreshRow) (maxL := 1) (ret := (some .int)) (by decide +kernel) rfl ?_
  intro p e s m args below meth c s₁ B hml hv
  obtain ⟨rfl, hv⟩ := hv
  have hts := atoms_spec (ws := .code yX1_takeFreshRow cX1_takeFreshRow 1 (some .int) :: fx_U) B.pre
  obtain ⟨C, hH⟩ := fx_body (own := RX1) B hml rfl (fun w hw => hts w (List.mem_cons_of_mem _ hw)) hG hv
  replace hts := fun w hw => hts w (List.mem_cons_of_mem _ hw)
  obtain ⟨hx, hb, hr, -, hown, -, hlocks, hsz, hK, -, hSt⟩ := id C
  have hl := lv_entry ([.ref (fx_a g 1)]) (n := 1) (Nat.le_of_ble_eq_true rfl)
  rw [lg_entry_eq]
  generalize (lg_sl ([.ref (fx_a g 1)]) ++ List.replicate (1 - (lg_sl ([.ref (fx_a g 1)])).length) Slot.unset).toArray = ls at hl ⊢
  have hl : lv_has ls 1 [(0, .ref (fx_a g 1))] := hl
  obtain ⟨H, eH⟩ : ∃ H : Heap, H = s.heap := ⟨_, rfl⟩
  obtain ⟨locs, elocs⟩ : ∃ q : List Loc, q = [] := ⟨_, rfl⟩
  rw [← eH, ← elocs] at hH
  show W p l e rm_X1_takeFreshRow_1 s m _ below meth c s.heap [] 0 0 _ _
  rw [← eH, ← elocs]
  unfold wp_X1_takeFreshRow_1 at h
  refine lv_aload_n hx hb dX1_takeFreshRow_0 rfl (lv_at hl 0 rfl) ?_
  refine lv_dup hx hb dX1_takeFreshRow_1 rfl ?_
  refine fx_get C hH (fx_w1 g M) rfl in_X1 6 (by decide) u_60 rfl rfl dX1_takeFreshRow_2 ?_
  refine lv_iconst (v := 1) hx hb dX1_takeFreshRow_5 (by decide) ?_
  refine lv_iadd hx hb dX1_takeFreshRow_6 ?_
  refine fx_put C hH (fx_w1 g M) rfl in_X1 tyX1 tyX1_ok nmX1 6 (by decide) u_60 rfl rfl (ty := .int) (by decide +kernel) rfl rfl (Nat.le_of_ble_eq_true rfl) (fx_p1_6 g M ((M.1 70) + 1)) dX1_takeFreshRow_7 (fun H locs hH => ?_)
  generalize eM1 : fx_si M 70 ((M.1 70) + 1) = M1 at hH
  replace h := h M1 eM1.symm
  refine lv_aload_n hx hb dX1_takeFreshRow_10 rfl (lv_at hl 0 rfl) ?_
  refine fx_get C hH (fx_w1 g M1) rfl in_X1 6 (by decide) u_60 rfl rfl dX1_takeFreshRow_11 ?_
  refine lv_iconst (v := 1) hx hb dX1_takeFreshRow_14 (by decide) ?_
  refine lv_isub hx hb dX1_takeFreshRow_15 ?_
  exact fx_iret C hH h dX1_takeFreshRow_16
/-! FlexLayout.addItem(II)I (0,) -/
def rm_X6_addItem_0 : Room := { frames := 7, cells := 1, slots := 6, locals := 110 }
def wb_X6_addItem_0_16 (Q : Int32 → fx_Mem → Prop) (X : String → fx_Mem → Prop) (M : fx_Mem) : Prop :=
  X "java/lang/IllegalArgumentException" M
set_option maxHeartbeats 4000000 in
set_option maxRecDepth 100000 in
theorem tb_X6_addItem_0_16 {g : fx_Geo} {p : Program} {l : Launch} {e : Env} {s : State} {m : MethodId} {args : Array Value} {below : List Frame} {meth : Method} {c : Code} (C : fx_Cx g p s m args meth c RX6 cX6_addItem 4 (some .int)) (hfl : fx_fl l c) (Q : Int32 → fx_Mem → Prop) (X : String → fx_Mem → Prop) (M : fx_Mem) (h : wb_X6_addItem_0_16 Q X M) (H : Heap) (locs : List Loc) (ls : Array Slot) (hH : fx_H g s M H locs) (hl : lv_has ls 4 []) : W p l e rm_X6_addItem_0 s m args below meth c H locs 0 0 (vx_MQ below (va_Qi Q (fx_Pw g) (fx_A g)) (fx_XC g X) args s 1 6 (fx_A g)) (F0 m 16 ls []) := by
  obtain ⟨hx, hb, hr, hml, hown, hts, hlocks, hsz, hK, hG, hSt⟩ := id C
  unfold wb_X6_addItem_0_16 at h
  exact fx_throwS (text := "no such size") C hfl hH u_408 u_12 5 rfl at_66 (by decide +kernel) (by decide +kernel) (by decide +kernel) dX6_addItem_16 dX6_addItem_19 dX6_addItem_20 dX6_addItem_22 dX6_addItem_25 (Nat.le_of_ble_eq_true rfl) (Nat.le_of_ble_eq_true rfl) (Nat.le_of_ble_eq_true rfl) (Nat.le_of_ble_eq_true rfl) hl.1 h (Nat.le_of_ble_eq_true rfl) (Nat.le_of_ble_eq_true rfl)
def wp_X6_addItem_0 (a1 : Int32) (a2 : Int32) (M : fx_Mem) (Q : Int32 → fx_Mem → Prop) (X : String → fx_Mem → Prop) : Prop :=
  wp_X6_canHave 0 a1 M (fun r2 M1 => ((r2 = 0 → wb_X6_addItem_0_16 Q X  M1) ∧ (¬ r2 = 0 → wp_X6_canHave 5 a2 M1 (fun r5 M4 => ((r5 = 0 → wb_X6_addItem_0_16 Q X  M4) ∧ (¬ r5 = 0 → wp_X6_requireRoom_0  M4 (fun M7 => wp_X1_freshRow_1  M7 (fun jr9 M8 => ∀ M10 : fx_Mem, M10 = fx_sa M8 (57 + jr9) 0 a1 → ∀ M11 : fx_Mem, M11 = fx_sa M10 (57 + jr9) 5 a2 → wp_X1_takeFreshRow_1  M11 (fun r13 M12 => Q r13 M12))) X))))))
set_option maxHeartbeats 4000000 in
set_option maxRecDepth 100000 in
theorem c_X6_addItem_0 (l : Launch) {g : fx_Geo} (hG : fx_Gd g) (hfl0 : l.stackTraces = false) (a1 : Int32) (a2 : Int32) (M : fx_Mem) (Q : Int32 → fx_Mem → Prop) (X : String → fx_Mem → Prop) (h : wp_X6_addItem_0 a1 a2 M Q X) : vx_Met l yX6_addItem (.code yX6_addItem cX6_addItem 4 (some .int) :: fx_U) rm_X6_addItem_0 (va_Pc [.ref (fx_a g 0), .int a1, .int a2] (fx_At g M)) (va_Qi Q (fx_Pw g) (fx_A g)) (fx_XC g X) 1 6 (fx_A g) := by
  refine vx_ofW (cc := cX6_addItem) (maxL := 4) (ret := (some .int)) (by decide +kernel) rfl ?_
  intro p e s m args below meth c s₁ B hml hex hv
  have hfl : fx_fl l c := ⟨hfl0, hex⟩
  obtain ⟨rfl, hv⟩ := hv
  have hts := atoms_spec (ws := .code yX6_addItem cX6_addItem 4 (some .int) :: fx_U) B.pre
  obtain ⟨C, hH⟩ := fx_body (own := RX6) B hml rfl (fun w hw => hts w (List.mem_cons_of_mem _ hw)) hG hv
  replace hts := fun w hw => hts w (List.mem_cons_of_mem _ hw)
  obtain ⟨hx, hb, hr, -, hown, -, hlocks, hsz, hK, -, hSt⟩ := id C
  have hl := lv_entry ([.ref (fx_a g 0), .int a1, .int a2]) (n := 4) (Nat.le_of_ble_eq_true rfl)
  rw [lg_entry_eq]
  generalize (lg_sl ([.ref (fx_a g 0), .int a1, .int a2]) ++ List.replicate (4 - (lg_sl ([.ref (fx_a g 0), .int a1, .int a2])).length) Slot.unset).toArray = ls at hl ⊢
  have hl : lv_has ls 4 [(0, .ref (fx_a g 0)), (1, .int a1), (2, .int a2)] := hl
  obtain ⟨H, eH⟩ : ∃ H : Heap, H = s.heap := ⟨_, rfl⟩
  obtain ⟨locs, elocs⟩ : ∃ q : List Loc, q = [] := ⟨_, rfl⟩
  rw [← eH, ← elocs] at hH
  show W p l e rm_X6_addItem_0 s m _ below meth c s.heap [] 0 0 _ _
  rw [← eH, ← elocs]
  unfold wp_X6_addItem_0 at h
  refine lv_iconst (v := 0) hx hb dX6_addItem_0 (by decide) ?_
  refine lv_iload_n hx hb dX6_addItem_1 rfl (lv_at hl 1 rfl) ?_
  refine fx_ci hH (fx_runS (As := [.int 0, .int a1]) (rest := []) C hH (c_X6_canHave l C.2.2.2.2.2.2.2.2.2.1 0 a1 M _ h) (fx_cwS 2 hts u_550 u_551 u_1 u_552 rfl rfl (by decide +kernel) ⟨(Nat.le_of_ble_eq_true rfl), (Nat.le_of_ble_eq_true rfl)⟩) rfl hl.1 rfl (Nat.le_of_ble_eq_true rfl) dX6_addItem_2 ⟨(Nat.le_of_ble_eq_true rfl), (Nat.le_of_ble_eq_true rfl)⟩) (fun r2 M1 H locs h hH => ?_)
  refine lv_if_eq (tgt := 16) hx hb dX6_addItem_5 (by decide) (fun c3 => ?_) (fun c3 => ?_)
  · replace h := h.1 c3
    exact tb_X6_addItem_0_16 C hfl Q X   M1 h  H locs ls hH (lv_sub hl [] rfl)
  · replace h := h.2 c3
    refine lv_iconst (v := 5) hx hb dX6_addItem_8 (by decide) ?_
    refine lv_iload_n hx hb dX6_addItem_9 rfl (lv_at hl 2 rfl) ?_
    refine fx_ci hH (fx_runS (As := [.int 5, .int a2]) (rest := []) C hH (c_X6_canHave l C.2.2.2.2.2.2.2.2.2.1 5 a2 M1 _ h) (fx_cwS 2 hts u_550 u_551 u_1 u_552 rfl rfl (by decide +kernel) ⟨(Nat.le_of_ble_eq_true rfl), (Nat.le_of_ble_eq_true rfl)⟩) rfl hl.1 rfl (Nat.le_of_ble_eq_true rfl) dX6_addItem_10 ⟨(Nat.le_of_ble_eq_true rfl), (Nat.le_of_ble_eq_true rfl)⟩) (fun r5 M4 H locs h hH => ?_)
    refine lv_if_ne (tgt := 26) hx hb dX6_addItem_13 (by decide) (fun c6 => ?_) (fun c6 => ?_)
    · replace h := h.2 c6
      refine lv_aload_n hx hb dX6_addItem_26 rfl (lv_at hl 0 rfl) ?_
      refine fx_xcv (mc := 1) (ms := 6) C hfl hH (fx_xrunV (As := []) (rest := []) C hH (c_X6_requireRoom_0 l C.2.2.2.2.2.2.2.2.2.1 hfl.1  M4 _ _ h) (fx_cwV 0 hts u_558 u_560 us_18 u_1 u_561 rfl rfl (by decide +kernel) ⟨(Nat.le_of_ble_eq_true rfl), (Nat.le_of_ble_eq_true rfl)⟩) (fx_w0 g M4) rfl rfl hl.1 rfl (Nat.le_of_ble_eq_true rfl) dX6_addItem_27 ⟨(Nat.le_of_ble_eq_true rfl), (Nat.le_of_ble_eq_true rfl)⟩) (fun E M9 hx9 => hx9) (Nat.le_of_ble_eq_true rfl) (Nat.le_of_ble_eq_true rfl) (fun M7 H locs h hH => ?_)
      refine lv_aload_n hx hb dX6_addItem_30 rfl (lv_at hl 0 rfl) ?_
      refine fx_get C hH (fx_w0 g M7) rfl in_X6 0 (by decide) u_199 rfl rfl dX6_addItem_31 ?_
      refine fx_cr hH (fx_runV (As := []) (rest := []) C hH (c_X1_freshRow_1 l C.2.2.2.2.2.2.2.2.2.1  M7 _ h) (fx_cwV 0 hts u_578 u_579 u_580 u_2 u_581 rfl rfl (by decide +kernel) ⟨(Nat.le_of_ble_eq_true rfl), (Nat.le_of_ble_eq_true rfl)⟩) (fx_w1 g M7) rfl rfl hl.1 rfl (Nat.le_of_ble_eq_true rfl) dX6_addItem_34 ⟨(Nat.le_of_ble_eq_true rfl), (Nat.le_of_ble_eq_true rfl)⟩) (fun jr9 M8 H locs h hH hjr9 => ?_)
      refine lv_astore_n (lv' := [(3, .ref (fx_a g (57 + jr9))), (0, .ref (fx_a g 0)), (1, .int a1), (2, .int a2)]) hx hb dX6_addItem_37 rfl hl (by decide) rfl (fun ls hl => ?_)
      refine lv_aload_n hx hb dX6_addItem_38 rfl (lv_at hl 0 rfl) ?_
      refine lv_iconst (v := 0) hx hb dX6_addItem_39 (by decide) ?_
      refine lv_iload_n hx hb dX6_addItem_40 rfl (lv_at hl 2 rfl) ?_
      refine fx_iast (j := 0) (M' := fx_sa M8 (57 + jr9) 0 a1) C hH (57 + jr9) (by decide) (fx_r1 g M8 jr9 hjr9) (fx_q1 g M8 _ jr9 hjr9) (by unfold vp_in; decide) dX6_addItem_41 (fun H locs hH => ?_)
      generalize eM10 : fx_sa M8 (57 + jr9) 0 a1 = M10 at hH
      replace h := h M10 eM10.symm
      refine lv_aload_n hx hb dX6_addItem_42 rfl (lv_at hl 0 rfl) ?_
      refine lv_iconst (v := 5) hx hb dX6_addItem_43 (by decide) ?_
      refine lv_iload_n hx hb dX6_addItem_44 rfl (lv_at hl 3 rfl) ?_
      refine fx_iast (j := 5) (M' := fx_sa M10 (57 + jr9) 5 a2) C hH (57 + jr9) (by decide) (fx_r1 g M10 jr9 hjr9) (fx_q1 g M10 _ jr9 hjr9) (by unfold vp_in; decide) dX6_addItem_45 (fun H locs hH => ?_)
      generalize eM11 : fx_sa M10 (57 + jr9) 5 a2 = M11 at hH
      replace h := h M11 eM11.symm
      refine lv_aload_n hx hb dX6_addItem_46 rfl (lv_at hl 1 rfl) ?_
      refine fx_get C hH (fx_w0 g M11) rfl in_X6 0 (by decide) u_199 rfl rfl dX6_addItem_47 ?_
      refine fx_ci hH (fx_runV (As := []) (rest := []) C hH (c_X1_takeFreshRow_1 l C.2.2.2.2.2.2.2.2.2.1  M11 _ h) (fx_cwV 0 hts u_585 u_586 u_587 u_2 u_588 rfl rfl (by decide +kernel) ⟨(Nat.le_of_ble_eq_true rfl), (Nat.le_of_ble_eq_true rfl)⟩) (fx_w1 g M11) rfl rfl hl.1 rfl (Nat.le_of_ble_eq_true rfl) dX6_addItem_50 ⟨(Nat.le_of_ble_eq_true rfl), (Nat.le_of_ble_eq_true rfl)⟩) (fun r13 M12 H locs h hH => ?_)
      refine vx_ret (W.widen (k := 1) (n := 6) (Nat.le_of_ble_eq_true rfl) (Nat.le_of_ble_eq_true rfl) ?_)
      exact fx_iret C hH h dX6_addItem_53
    · replace h := h.1 c6
      exact tb_X6_addItem_0_16 C hfl Q X   M4 h  H locs ls hH (lv_sub hl [] rfl)
/-! FlexLayout.requireItem(I)V (0,) -/
def rm_X6_requireItem_0 : Room := { frames := 6, cells := 1, slots := 6, locals := 90 }
def wp_X6_requireItem_0 (a1 : Int32) (M : fx_Mem) (Q : fx_Mem → Prop) (X : String → fx_Mem → Prop) : Prop :=
  wp_X6_isWithin a1 0 ((M.1 70) - 1) M (fun r2 M1 => ((r2 = 0 → X "java/lang/IndexOutOfBoundsException" M1) ∧ (¬ r2 = 0 → Q M1)))
set_option maxHeartbeats 4000000 in
set_option maxRecDepth 100000 in
theorem c_X6_requireItem_0 (l : Launch) {g : fx_Geo} (hG : fx_Gd g) (hfl0 : l.stackTraces = false) (a1 : Int32) (M : fx_Mem) (Q : fx_Mem → Prop) (X : String → fx_Mem → Prop) (h : wp_X6_requireItem_0 a1 M Q X) : vx_Met l yX6_requireItem (.code yX6_requireItem cX6_requireItem 2 none :: fx_U) rm_X6_requireItem_0 (va_Pc [.ref (fx_a g 0), .int a1] (fx_At g M)) (va_Qv Q (fx_Pw g) (fx_A g)) (fx_XC g X) 1 6 (fx_A g) := by
  refine vx_ofW (cc := cX6_requireItem) (maxL := 2) (ret := none) (by decide +kernel) rfl ?_
  intro p e s m args below meth c s₁ B hml hex hv
  have hfl : fx_fl l c := ⟨hfl0, hex⟩
  obtain ⟨rfl, hv⟩ := hv
  have hts := atoms_spec (ws := .code yX6_requireItem cX6_requireItem 2 none :: fx_U) B.pre
  obtain ⟨C, hH⟩ := fx_body (own := RX6) B hml rfl (fun w hw => hts w (List.mem_cons_of_mem _ hw)) hG hv
  replace hts := fun w hw => hts w (List.mem_cons_of_mem _ hw)
  obtain ⟨hx, hb, hr, -, hown, -, hlocks, hsz, hK, -, hSt⟩ := id C
  have hl := lv_entry ([.ref (fx_a g 0), .int a1]) (n := 2) (Nat.le_of_ble_eq_true rfl)
  rw [lg_entry_eq]
  generalize (lg_sl ([.ref (fx_a g 0), .int a1]) ++ List.replicate (2 - (lg_sl ([.ref (fx_a g 0), .int a1])).length) Slot.unset).toArray = ls at hl ⊢
  have hl : lv_has ls 2 [(0, .ref (fx_a g 0)), (1, .int a1)] := hl
  obtain ⟨H, eH⟩ : ∃ H : Heap, H = s.heap := ⟨_, rfl⟩
  obtain ⟨locs, elocs⟩ : ∃ q : List Loc, q = [] := ⟨_, rfl⟩
  rw [← eH, ← elocs] at hH
  show W p l e rm_X6_requireItem_0 s m _ below meth c s.heap [] 0 0 _ _
  rw [← eH, ← elocs]
  unfold wp_X6_requireItem_0 at h
  refine lv_iload_n hx hb dX6_requireItem_0 rfl (lv_at hl 1 rfl) ?_
  refine lv_iconst (v := 0) hx hb dX6_requireItem_1 (by decide) ?_
  refine lv_aload_n hx hb dX6_requireItem_2 rfl (lv_at hl 0 rfl) ?_
  refine fx_get C hH (fx_w0 g M) rfl in_X6 0 (by decide) u_199 rfl rfl dX6_requireItem_3 ?_
  refine fx_get C hH (fx_w1 g M) rfl in_X1 6 (by decide) u_62 rfl rfl dX6_requireItem_6 ?_
  refine lv_iconst (v := 1) hx hb dX6_requireItem_9 (by decide) ?_
  refine lv_isub hx hb dX6_requireItem_10 ?_
  refine fx_ci hH (fx_runS (As := [.int a1, .int 0, .int ((M.1 70) - 1)]) (rest := []) C hH (c_X6_isWithin l C.2.2.2.2.2.2.2.2.2.1 a1 0 ((M.1 70) - 1) M _ h) (fx_cwS 3 hts u_405 u_406 u_1 u_407 rfl rfl (by decide +kernel) ⟨(Nat.le_of_ble_eq_true rfl), (Nat.le_of_ble_eq_true rfl)⟩) rfl hl.1 rfl (Nat.le_of_ble_eq_true rfl) dX6_requireItem_11 ⟨(Nat.le_of_ble_eq_true rfl), (Nat.le_of_ble_eq_true rfl)⟩) (fun r2 M1 H locs h hH => ?_)
  refine lv_if_ne (tgt := 28) hx hb dX6_requireItem_14 (by decide) (fun c3 => ?_) (fun c3 => ?_)
  · replace h := h.2 c3
    refine vx_ret (W.widen (k := 1) (n := 6) (Nat.le_of_ble_eq_true rfl) (Nat.le_of_ble_eq_true rfl) ?_)
    exact fx_vret C hH h dX6_requireItem_28
  · replace h := h.1 c3
    exact fx_throwSW (text := "no such item") C hfl hH u_526 u_13 7 rfl at_90 (by decide +kernel) (by decide +kernel) (by decide +kernel) dX6_requireItem_17 dX6_requireItem_20 dX6_requireItem_21 dX6_requireItem_24 dX6_requireItem_27 (Nat.le_of_ble_eq_true rfl) (Nat.le_of_ble_eq_true rfl) (Nat.le_of_ble_eq_true rfl) (Nat.le_of_ble_eq_true rfl) hl.1 h (Nat.le_of_ble_eq_true rfl) (Nat.le_of_ble_eq_true rfl)
/-! FlexLayout$Container.dropRow(I)V (1,) -/
def rm_X1_dropRow_1 : Room := { frames := 1, cells := 0, slots := 0, locals := 64 }
def wb_X1_dropRow_1_4 (k4 : Int32 → fx_Mem → Prop) (k39 : fx_Mem → Prop) (Q : fx_Mem → Prop) (x2 : Int32) (M : fx_Mem) : Prop :=
  ((M.1 70 ≤ x2 → k39  M) ∧ (¬ M.1 70 ≤ x2 → vp_in x2 20 ∧ vp_in (x2 - 1) 20 ∧ ∀ M6 : fx_Mem, M6 = fx_sA M (57 + ((x2 - 1).toNatClampNeg)) (va_cpy (M.2.1 (57 + x2.toNatClampNeg)) (M.2.1 (57 + ((x2 - 1).toNatClampNeg))) 0 0 10) → ∀ v7 : Int32, v7 = x2 + 1 → k4 v7 M6))
set_option maxHeartbeats 4000000 in
set_option maxRecDepth 100000 in
theorem tb_X1_dropRow_1_4 {g : fx_Geo} {p : Program} {l : Launch} {e : Env} {s : State} {m : MethodId} {args : Array Value} {below : List Frame} {meth : Method} {c : Code} (C : fx_Cx g p s m args meth c RX1 cX1_dropRow 3 none) (k4 : Int32 → fx_Mem → Prop) (k39 : fx_Mem → Prop) (Q : fx_Mem → Prop) (hk4 : ∀ (x2 : Int32) (M : fx_Mem), k4 x2 M → ∀ (H : Heap) (locs : List Loc) (ls : Array Slot), fx_H g s M H locs → lv_has ls 3 [(0, .ref (fx_a g 1)), (2, .int x2)] → W p l e rm_X1_dropRow_1 s m args below meth c H locs 0 0 (MQ below (va_Qv Q (fx_Pw g) (fx_A g)) args s 0 0 (fx_A g)) (F0 m 4 ls [])) (hk39 : ∀ (M : fx_Mem), k39 M → ∀ (H : Heap) (locs : List Loc) (ls : Array Slot), fx_H g s M H locs → lv_has ls 3 [(0, .ref (fx_a g 1))] → W p l e rm_X1_dropRow_1 s m args below meth c H locs 0 0 (MQ below (va_Qv Q (fx_Pw g) (fx_A g)) args s 0 0 (fx_A g)) (F0 m 39 ls [])) (x2 : Int32) (M : fx_Mem) (h : wb_X1_dropRow_1_4 k4 k39 Q x2 M) (H : Heap) (locs : List Loc) (ls : Array Slot) (hH : fx_H g s M H locs) (hl : lv_has ls 3 [(0, .ref (fx_a g 1)), (2, .int x2)]) : W p l e rm_X1_dropRow_1 s m args below meth c H locs 0 0 (MQ below (va_Qv Q (fx_Pw g) (fx_A g)) args s 0 0 (fx_A g)) (F0 m 4 ls []) := by
  obtain ⟨hx, hb, hr, hml, hown, hts, hlocks, hsz, hK, hG, hSt⟩ := id C
  unfold wb_X1_dropRow_1_4 at h
  refine lv_iload_n hx hb dX1_dropRow_4 rfl (lv_at hl 1 rfl) ?_
  refine lv_aload_n hx hb dX1_dropRow_5 rfl (lv_at hl 0 rfl) ?_
  refine fx_get C hH (fx_w1 g M) rfl in_X1 6 (by decide) u_60 rfl rfl dX1_dropRow_6 ?_
  refine lv_icmp_ge (tgt := 39) hx hb dX1_dropRow_9 (by decide) (fun c1 => ?_) (fun c1 => ?_)
  · replace h := h.1 c1
    exact hk39  M h  H locs ls hH (lv_sub hl [0] rfl)
  · replace h := h.2 c1
    refine lv_aload_n hx hb dX1_dropRow_12 rfl (lv_at hl 0 rfl) ?_
    refine fx_get C hH (fx_w1 g M) rfl in_X1 5 (by decide) u_55 rfl rfl dX1_dropRow_13 ?_
    refine lv_iload_n hx hb dX1_dropRow_16 rfl (lv_at hl 1 rfl) ?_
    obtain ⟨hi2, h⟩ := h
    have hj3 : x2.toNatClampNeg < 20 := Nat.not_le.mp fun q => hi2 (Or.inr q)
    refine fx_aald C hH 11 (fx_w11 g M) hi2 dX1_dropRow_17 ?_
    refine lv_iconst (v := 0) hx hb dX1_dropRow_18 (by decide) ?_
    refine lv_aload_n hx hb dX1_dropRow_19 rfl (lv_at hl 0 rfl) ?_
    refine fx_get C hH (fx_w1 g M) rfl in_X1 5 (by decide) u_55 rfl rfl dX1_dropRow_20 ?_
    refine lv_iload_n hx hb dX1_dropRow_23 rfl (lv_at hl 1 rfl) ?_
    refine lv_iconst (v := 1) hx hb dX1_dropRow_24 (by decide) ?_
    refine lv_isub hx hb dX1_dropRow_25 ?_
    obtain ⟨hi4, h⟩ := h
    have hj5 : (x2 - 1).toNatClampNeg < 20 := Nat.not_le.mp fun q => hi4 (Or.inr q)
    refine fx_aald C hH 11 (fx_w11 g M) hi4 dX1_dropRow_26 ?_
    refine lv_iconst (v := 0) hx hb dX1_dropRow_27 (by decide) ?_
    refine lv_bipush (v := 10) hx hb dX1_dropRow_28 (by decide) ?_
    refine fx_copy (M' := fx_sA M (57 + ((x2 - 1).toNatClampNeg)) (va_cpy (M.2.1 (57 + x2.toNatClampNeg)) (M.2.1 (57 + ((x2 - 1).toNatClampNeg))) 0 0 10)) C hH (hts _ u_394) (hts _ u_396) (hts _ u_395) (hts _ u_18) hl.1 (57 + x2.toNatClampNeg) (57 + ((x2 - 1).toNatClampNeg)) (fx_r1 g M x2.toNatClampNeg hj3) (fx_r1 g M ((x2 - 1).toNatClampNeg) hj5) (fx_q1 g M _ ((x2 - 1).toNatClampNeg) hj5) (n := 10) (k := 10) (by decide) (by decide) (Nat.le_of_ble_eq_true rfl) (Nat.le_of_ble_eq_true rfl) (Nat.le_of_ble_eq_true rfl) (Nat.le_of_ble_eq_true rfl) dX1_dropRow_30 (fun H locs hH => ?_)
    generalize eM6 : fx_sA M (57 + ((x2 - 1).toNatClampNeg)) (va_cpy (M.2.1 (57 + x2.toNatClampNeg)) (M.2.1 (57 + ((x2 - 1).toNatClampNeg))) 0 0 10) = M6 at hH
    replace h := h M6 eM6.symm
    obtain ⟨v7, ev7⟩ : ∃ z : Int32, z = x2 + 1 := ⟨_, rfl⟩
    refine lv_iinc (v := v7) (lv' := [(2, .int v7), (0, .ref (fx_a g 1))]) hx hb dX1_dropRow_33 hl (k := 1) rfl (by rw [ev7]; rfl) (by decide) rfl (fun ls hl => ?_)
    replace h := h v7 ev7
    refine lv_goto (tgt := 4) hx hb dX1_dropRow_36 (by decide) ?_
    exact hk4 v7 M6 h  H locs ls hH (lv_sub hl [1, 0] rfl)
def wl_X1_dropRow_1_4 (k39 : fx_Mem → Prop) (Q : fx_Mem → Prop) (n : Nat) (x2 : Int32) (M : fx_Mem) : Prop :=
  fx_lp (α := Int32 × fx_Mem) (fun k a => wb_X1_dropRow_1_4 (fun x2 M => k (x2, M)) k39 Q a.1 a.2) n (x2, M)
set_option maxHeartbeats 4000000 in
theorem tl_X1_dropRow_1_4 {g : fx_Geo} {p : Program} {l : Launch} {e : Env} {s : State} {m : MethodId} {args : Array Value} {below : List Frame} {meth : Method} {c : Code} (C : fx_Cx g p s m args meth c RX1 cX1_dropRow 3 none) (k39 : fx_Mem → Prop) (Q : fx_Mem → Prop) (hk39 : ∀ (M : fx_Mem), k39  M → ∀ (H : Heap) (locs : List Loc) (ls : Array Slot), fx_H g s M H locs → lv_has ls 3 [(0, .ref (fx_a g 1))] → W p l e rm_X1_dropRow_1 s m args below meth c H locs 0 0 (MQ below (va_Qv Q (fx_Pw g) (fx_A g)) args s 0 0 (fx_A g)) (F0 m 39 ls [])) : ∀ (n : Nat) (x2 : Int32) (M : fx_Mem), wl_X1_dropRow_1_4 k39 Q n x2 M → ∀ (H : Heap) (locs : List Loc) (ls : Array Slot), fx_H g s M H locs → lv_has ls 3 [(0, .ref (fx_a g 1)), (2, .int x2)] → W p l e rm_X1_dropRow_1 s m args below meth c H locs 0 0 (MQ below (va_Qv Q (fx_Pw g) (fx_A g)) args s 0 0 (fx_A g)) (F0 m 4 ls []) := by
  intro n
  induction n with
  | zero => intro x2 M h; exact False.elim h
  | succ n ih => intro x2 M h  H locs ls hH hl; exact tb_X1_dropRow_1_4 C (wl_X1_dropRow_1_4 k39 Q n) k39 Q ih hk39 x2 M h  H locs ls hH hl
def wb_X1_dropRow_1_39 (Q : fx_Mem → Prop) (M : fx_Mem) : Prop :=
  ∀ M1 : fx_Mem, M1 = fx_si M 70 ((M.1 70) - 1) → Q M1
set_option maxHeartbeats 4000000 in
set_option maxRecDepth 100000 in
theorem tb_X1_dropRow_1_39 {g : fx_Geo} {p : Program} {l : Launch} {e : Env} {s : State} {m : MethodId} {args : Array Value} {below : List Frame} {meth : Method} {c : Code} (C : fx_Cx g p s m args meth c RX1 cX1_dropRow 3 none) (Q : fx_Mem → Prop) (M : fx_Mem) (h : wb_X1_dropRow_1_39 Q M) (H : Heap) (locs : List Loc) (ls : Array Slot) (hH : fx_H g s M H locs) (hl : lv_has ls 3 [(0, .ref (fx_a g 1))]) : W p l e rm_X1_dropRow_1 s m args below meth c H locs 0 0 (MQ below (va_Qv Q (fx_Pw g) (fx_A g)) args s 0 0 (fx_A g)) (F0 m 39 ls []) := by
  obtain ⟨hx, hb, hr, hml, hown, hts, hlocks, hsz, hK, hG, hSt⟩ := id C
  unfold wb_X1_dropRow_1_39 at h
  refine lv_aload_n hx hb dX1_dropRow_39 rfl (lv_at hl 0 rfl) ?_
  refine lv_dup hx hb dX1_dropRow_40 rfl ?_
  refine fx_get C hH (fx_w1 g M) rfl in_X1 6 (by decide) u_60 rfl rfl dX1_dropRow_41 ?_
  refine lv_iconst (v := 1) hx hb dX1_dropRow_44 (by decide) ?_
  refine lv_isub hx hb dX1_dropRow_45 ?_
  refine fx_put C hH (fx_w1 g M) rfl in_X1 tyX1 tyX1_ok nmX1 6 (by decide) u_60 rfl rfl (ty := .int) (by decide +kernel) rfl rfl (Nat.le_of_ble_eq_true rfl) (fx_p1_6 g M ((M.1 70) - 1)) dX1_dropRow_46 (fun H locs hH => ?_)
  generalize eM1 : fx_si M 70 ((M.1 70) - 1) = M1 at hH
  replace h := h M1 eM1.symm
  exact fx_vret C hH h dX1_dropRow_49
def wp_X1_dropRow_1 (a1 : Int32) (M : fx_Mem) (Q : fx_Mem → Prop) : Prop :=
  ∀ v1 : Int32, v1 = a1 + 1 → ∃ n4 : Nat, wl_X1_dropRow_1_4 (wb_X1_dropRow_1_39 Q) Q n4 v1 M
set_option maxHeartbeats 4000000 in
set_option maxRecDepth 100000 in
theorem c_X1_dropRow_1 (l : Launch) {g : fx_Geo} (hG : fx_Gd g) (a1 : Int32) (M : fx_Mem) (Q : fx_Mem → Prop) (h : wp_X1_dropRow_1 a1 M Q) : Met l yX1_dropRow (.code yX1_dropRow cX1_dropRow 3 none :: fx_U) rm_X1_dropRow_1 (va_Pc [.ref (fx_a g 1), .int a1] (fx_At g M)) (va_Qv Q (fx_Pw g) (fx_A g)) 0 0 (fx_A g) := by
  refine Met.ofW (cc := cX1_dropRow) (maxL := 3) (ret := none) (by decide +kernel) rfl ?_
  intro p e s m args below meth c s₁ B hml hv
  obtain ⟨rfl, hv⟩ := hv
  have hts := atoms_spec (ws := .code yX1_dropRow cX1_dropRow 3 none :: fx_U) B.pre
  obtain ⟨C, hH⟩ := fx_body (own := RX1) B hml rfl (fun w hw => hts w (List.mem_cons_of_mem _ hw)) hG hv
  replace hts := fun w hw => hts w (List.mem_cons_of_mem _ hw)
  obtain ⟨hx, hb, hr, -, hown, -, hlocks, hsz, hK, -, hSt⟩ := id C
  have hl := lv_entry ([.ref (fx_a g 1), .int a1]) (n := 3) (Nat.le_of_ble_eq_true rfl)
  rw [lg_entry_eq]
  generalize (lg_sl ([.ref (fx_a g 1), .int a1]) ++ List.replicate (3 - (lg_sl ([.ref (fx_a g 1), .int a1])).length) Slot.unset).toArray = ls at hl ⊢
  have hl : lv_has ls 3 [(0, .ref (fx_a g 1)), (1, .int a1)] := hl
  obtain ⟨H, eH⟩ : ∃ H : Heap, H = s.heap := ⟨_, rfl⟩
  obtain ⟨locs, elocs⟩ : ∃ q : List Loc, q = [] := ⟨_, rfl⟩
  rw [← eH, ← elocs] at hH
  show W p l e rm_X1_dropRow_1 s m _ below meth c s.heap [] 0 0 _ _
  rw [← eH, ← elocs]
  unfold wp_X1_dropRow_1 at h
  refine lv_iload_n hx hb dX1_dropRow_0 rfl (lv_at hl 1 rfl) ?_
  refine lv_iconst (v := 1) hx hb dX1_dropRow_1 (by decide) ?_
  refine lv_iadd hx hb dX1_dropRow_2 ?_
  refine lv_topi (fun v1 ev1 => ?_)
  replace h := h v1 ev1
  refine lv_istore_n (lv' := [(2, .int v1), (0, .ref (fx_a g 1)), (1, .int a1)]) hx hb dX1_dropRow_3 rfl hl (by decide) rfl (fun ls hl => ?_)
  obtain ⟨n4, h⟩ := h
  exact tl_X1_dropRow_1_4 C (wb_X1_dropRow_1_39 Q) Q (tb_X1_dropRow_1_39 C Q ) n4 v1 M h  H locs ls hH (lv_sub hl [1, 0] rfl)
/-! FlexLayout.removeItem(I)I (0,) -/
def rm_X6_removeItem_0 : Room := { frames := 7, cells := 1, slots := 6, locals := 111 }
def wp_X6_removeItem_0 (a1 : Int32) (M : fx_Mem) (Q : Int32 → fx_Mem → Prop) (X : String → fx_Mem → Prop) : Prop :=
  wp_X6_requireItem_0 a1 M (fun M1 => wp_X1_dropRow_1 a1 M1 (fun M2 => Q (M2.1 70) M2)) X
set_option maxHeartbeats 4000000 in
set_option maxRecDepth 100000 in
theorem c_X6_removeItem_0 (l : Launch) {g : fx_Geo} (hG : fx_Gd g) (hfl0 : l.stackTraces = false) (a1 : Int32) (M : fx_Mem) (Q : Int32 → fx_Mem → Prop) (X : String → fx_Mem → Prop) (h : wp_X6_removeItem_0 a1 M Q X) : vx_Met l yX6_removeItem (.code yX6_removeItem cX6_removeItem 2 (some .int) :: fx_U) rm_X6_removeItem_0 (va_Pc [.ref (fx_a g 0), .int a1] (fx_At g M)) (va_Qi Q (fx_Pw g) (fx_A g)) (fx_XC g X) 1 6 (fx_A g) := by
  refine vx_ofW (cc := cX6_removeItem) (maxL := 2) (ret := (some .int)) (by decide +kernel) rfl ?_
  intro p e s m args below meth c s₁ B hml hex hv
  have hfl : fx_fl l c := ⟨hfl0, hex⟩
  obtain ⟨rfl, hv⟩ := hv
  have hts := atoms_spec (ws := .code yX6_removeItem cX6_removeItem 2 (some .int) :: fx_U) B.pre
  obtain ⟨C, hH⟩ := fx_body (own := RX6) B hml rfl (fun w hw => hts w (List.mem_cons_of_mem _ hw)) hG hv
  replace hts := fun w hw => hts w (List.mem_cons_of_mem _ hw)
  obtain ⟨hx, hb, hr, -, hown, -, hlocks, hsz, hK, -, hSt⟩ := id C
  have hl := lv_entry ([.ref (fx_a g 0), .int a1]) (n := 2) (Nat.le_of_ble_eq_true rfl)
  rw [lg_entry_eq]
  generalize (lg_sl ([.ref (fx_a g 0), .int a1]) ++ List.replicate (2 - (lg_sl ([.ref (fx_a g 0), .int a1])).length) Slot.unset).toArray = ls at hl ⊢
  have hl : lv_has ls 2 [(0, .ref (fx_a g 0)), (1, .int a1)] := hl
  obtain ⟨H, eH⟩ : ∃ H : Heap, H = s.heap := ⟨_, rfl⟩
  obtain ⟨locs, elocs⟩ : ∃ q : List Loc, q = [] := ⟨_, rfl⟩
  rw [← eH, ← elocs] at hH
  show W p l e rm_X6_removeItem_0 s m _ below meth c s.heap [] 0 0 _ _
  rw [← eH, ← elocs]
  unfold wp_X6_removeItem_0 at h
  refine lv_aload_n hx hb dX6_removeItem_0 rfl (lv_at hl 0 rfl) ?_
  refine lv_iload_n hx hb dX6_removeItem_1 rfl (lv_at hl 1 rfl) ?_
  refine fx_xcv (mc := 1) (ms := 6) C hfl hH (fx_xrunV (As := [.int a1]) (rest := []) C hH (c_X6_requireItem_0 l C.2.2.2.2.2.2.2.2.2.1 hfl.1 a1 M _ _ h) (fx_cwV 1 hts u_596 u_598 us_19 u_1 u_599 rfl rfl (by decide +kernel) ⟨(Nat.le_of_ble_eq_true rfl), (Nat.le_of_ble_eq_true rfl)⟩) (fx_w0 g M) rfl rfl hl.1 rfl (Nat.le_of_ble_eq_true rfl) dX6_removeItem_2 ⟨(Nat.le_of_ble_eq_true rfl), (Nat.le_of_ble_eq_true rfl)⟩) (fun E M9 hx9 => hx9) (Nat.le_of_ble_eq_true rfl) (Nat.le_of_ble_eq_true rfl) (fun M1 H locs h hH => ?_)
  refine lv_aload_n hx hb dX6_removeItem_5 rfl (lv_at hl 0 rfl) ?_
  refine fx_get C hH (fx_w0 g M1) rfl in_X6 0 (by decide) u_199 rfl rfl dX6_removeItem_6 ?_
  refine lv_iload_n hx hb dX6_removeItem_9 rfl (lv_at hl 1 rfl) ?_
  refine fx_cv hH (fx_runV (As := [.int a1]) (rest := []) C hH (c_X1_dropRow_1 l C.2.2.2.2.2.2.2.2.2.1 a1 M1 _ h) (fx_cwV 1 hts u_601 u_602 u_603 u_2 u_604 rfl rfl (by decide +kernel) ⟨(Nat.le_of_ble_eq_true rfl), (Nat.le_of_ble_eq_true rfl)⟩) (fx_w1 g M1) rfl rfl hl.1 rfl (Nat.le_of_ble_eq_true rfl) dX6_removeItem_10 ⟨(Nat.le_of_ble_eq_true rfl), (Nat.le_of_ble_eq_true rfl)⟩) (fun M2 H locs h hH => ?_)
  refine lv_aload_n hx hb dX6_removeItem_13 rfl (lv_at hl 0 rfl) ?_
  refine fx_get C hH (fx_w0 g M2) rfl in_X6 0 (by decide) u_199 rfl rfl dX6_removeItem_14 ?_
  refine fx_get C hH (fx_w1 g M2) rfl in_X1 6 (by decide) u_62 rfl rfl dX6_removeItem_17 ?_
  refine vx_ret (W.widen (k := 1) (n := 6) (Nat.le_of_ble_eq_true rfl) (Nat.le_of_ble_eq_true rfl) ?_)
  exact fx_iret C hH h dX6_removeItem_20
/-! FlexLayout.items()I (0,) -/
def rm_X6_items_0 : Room := { frames := 0, cells := 0, slots := 0, locals := 0 }
def wp_X6_items_0 (M : fx_Mem) (Q : Int32 → fx_Mem → Prop) : Prop :=
  Q (M.1 70) M
set_option maxHeartbeats 4000000 in
set_option maxRecDepth 100000 in
theorem c_X6_items_0 (l : Launch) {g : fx_Geo} (hG : fx_Gd g) (M : fx_Mem) (Q : Int32 → fx_Mem → Prop) (h : wp_X6_items_0 M Q) : Met l yX6_items (.code yX6_items cX6_items 1 (some .int) :: fx_U) rm_X6_items_0 (va_Pc [.ref (fx_a g 0)] (fx_At g M)) (va_Qi Q (fx_Pw g) (fx_A g)) 0 0 (fx_A g) := by
  refine Met.ofW (cc := cX6_items) (maxL := 1) (ret := (some .int)) (by decide +kernel) rfl ?_
  intro p e s m args below meth c s₁ B hml hv
  obtain ⟨rfl, hv⟩ := hv
  have hts := atoms_spec (ws := .code yX6_items cX6_items 1 (some .int) :: fx_U) B.pre
  obtain ⟨C, hH⟩ := fx_body (own := RX6) B hml rfl (fun w hw => hts w (List.mem_cons_of_mem _ hw)) hG hv
  replace hts := fun w hw => hts w (List.mem_cons_of_mem _ hw)
  obtain ⟨hx, hb, hr, -, hown, -, hlocks, hsz, hK, -, hSt⟩ := id C
  have hl := lv_entry ([.ref (fx_a g 0)]) (n := 1) (Nat.le_of_ble_eq_true rfl)
  rw [lg_entry_eq]
  generalize (lg_sl ([.ref (fx_a g 0)]) ++ List.replicate (1 - (lg_sl ([.ref (fx_a g 0)])).length) Slot.unset).toArray = ls at hl ⊢
  have hl : lv_has ls 1 [(0, .ref (fx_a g 0))] := hl
  obtain ⟨H, eH⟩ : ∃ H : Heap, H = s.heap := ⟨_, rfl⟩
  obtain ⟨locs, elocs⟩ : ∃ q : List Loc, q = [] := ⟨_, rfl⟩
  rw [← eH, ← elocs] at hH
  show W p l e rm_X6_items_0 s m _ below meth c s.heap [] 0 0 _ _
  rw [← eH, ← elocs]
  unfold wp_X6_items_0 at h
  refine lv_aload_n hx hb dX6_items_0 rfl (lv_at hl 0 rfl) ?_
  refine fx_get C hH (fx_w0 g M) rfl in_X6 0 (by decide) u_199 rfl rfl dX6_items_1 ?_
  refine fx_get C hH (fx_w1 g M) rfl in_X1 6 (by decide) u_62 rfl rfl dX6_items_4 ?_
  exact fx_iret C hH h dX6_items_7
/-! FlexLayout.requireProperty(I)V () -/
def rm_X6_requireProperty : Room := { frames := 6, cells := 1, slots := 6, locals := 90 }
def wp_X6_requireProperty (a0 : Int32) (M : fx_Mem) (Q : fx_Mem → Prop) (X : String → fx_Mem → Prop) : Prop :=
  wp_X6_isWithin a0 0 9 M (fun r2 M1 => ((r2 = 0 → X "java/lang/IndexOutOfBoundsException" M1) ∧ (¬ r2 = 0 → Q M1)))
set_option maxHeartbeats 4000000 in
set_option maxRecDepth 100000 in
theorem c_X6_requireProperty (l : Launch) {g : fx_Geo} (hG : fx_Gd g) (hfl0 : l.stackTraces = false) (a0 : Int32) (M : fx_Mem) (Q : fx_Mem → Prop) (X : String → fx_Mem → Prop) (h : wp_X6_requireProperty a0 M Q X) : vx_Met l yX6_requireProperty (.code yX6_requireProperty cX6_requireProperty 1 none :: fx_U) rm_X6_requireProperty (va_Pc [.int a0] (fx_At g M)) (va_Qv Q (fx_Pw g) (fx_A g)) (fx_XC g X) 1 6 (fx_A g) := by
  refine vx_ofW (cc := cX6_requireProperty) (maxL := 1) (ret := none) (by decide +kernel) rfl ?_
  intro p e s m args below meth c s₁ B hml hex hv
  have hfl : fx_fl l c := ⟨hfl0, hex⟩
  obtain ⟨rfl, hv⟩ := hv
  have hts := atoms_spec (ws := .code yX6_requireProperty cX6_requireProperty 1 none :: fx_U) B.pre
  obtain ⟨C, hH⟩ := fx_body (own := RX6) B hml rfl (fun w hw => hts w (List.mem_cons_of_mem _ hw)) hG hv
  replace hts := fun w hw => hts w (List.mem_cons_of_mem _ hw)
  obtain ⟨hx, hb, hr, -, hown, -, hlocks, hsz, hK, -, hSt⟩ := id C
  have hl := lv_entry ([.int a0]) (n := 1) (Nat.le_of_ble_eq_true rfl)
  rw [lg_entry_eq]
  generalize (lg_sl ([.int a0]) ++ List.replicate (1 - (lg_sl ([.int a0])).length) Slot.unset).toArray = ls at hl ⊢
  have hl : lv_has ls 1 [(0, .int a0)] := hl
  obtain ⟨H, eH⟩ : ∃ H : Heap, H = s.heap := ⟨_, rfl⟩
  obtain ⟨locs, elocs⟩ : ∃ q : List Loc, q = [] := ⟨_, rfl⟩
  rw [← eH, ← elocs] at hH
  show W p l e rm_X6_requireProperty s m _ below meth c s.heap [] 0 0 _ _
  rw [← eH, ← elocs]
  unfold wp_X6_requireProperty at h
  refine lv_iload_n hx hb dX6_requireProperty_0 rfl (lv_at hl 0 rfl) ?_
  refine lv_iconst (v := 0) hx hb dX6_requireProperty_1 (by decide) ?_
  refine lv_bipush (v := 9) hx hb dX6_requireProperty_2 (by decide) ?_
  refine fx_ci hH (fx_runS (As := [.int a0, .int 0, .int 9]) (rest := []) C hH (c_X6_isWithin l C.2.2.2.2.2.2.2.2.2.1 a0 0 9 M _ h) (fx_cwS 3 hts u_405 u_406 u_1 u_407 rfl rfl (by decide +kernel) ⟨(Nat.le_of_ble_eq_true rfl), (Nat.le_of_ble_eq_true rfl)⟩) rfl hl.1 rfl (Nat.le_of_ble_eq_true rfl) dX6_requireProperty_4 ⟨(Nat.le_of_ble_eq_true rfl), (Nat.le_of_ble_eq_true rfl)⟩) (fun r2 M1 H locs h hH => ?_)
  refine lv_if_ne (tgt := 21) hx hb dX6_requireProperty_7 (by decide) (fun c3 => ?_) (fun c3 => ?_)
  · replace h := h.2 c3
    refine vx_ret (W.widen (k := 1) (n := 6) (Nat.le_of_ble_eq_true rfl) (Nat.le_of_ble_eq_true rfl) ?_)
    exact fx_vret C hH h dX6_requireProperty_21
  · replace h := h.1 c3
    exact fx_throwSW (text := "no such property") C hfl hH u_526 u_13 8 rfl at_90 (by decide +kernel) (by decide +kernel) (by decide +kernel) dX6_requireProperty_10 dX6_requireProperty_13 dX6_requireProperty_14 dX6_requireProperty_17 dX6_requireProperty_20 (Nat.le_of_ble_eq_true rfl) (Nat.le_of_ble_eq_true rfl) (Nat.le_of_ble_eq_true rfl) (Nat.le_of_ble_eq_true rfl) hl.1 h (Nat.le_of_ble_eq_true rfl) (Nat.le_of_ble_eq_true rfl)
/-! FlexLayout.setProperty(III)I (0,) -/
def rm_X6_setProperty_0 : Room := { frames := 7, cells := 3, slots := 18, locals := 111 }
def wp_X6_setProperty_0 (a1 : Int32) (a2 : Int32) (a3 : Int32) (M : fx_Mem) (Q : Int32 → fx_Mem → Prop) (X : String → fx_Mem → Prop) : Prop :=
  wp_X6_requireItem_0 a1 M (fun M1 => wp_X6_requireProperty a2 M1 (fun M2 => wp_X6_canHave a2 a3 M2 (fun r4 M3 => ((r4 = 0 → X "java/lang/IllegalArgumentException" M3) ∧ (¬ r4 = 0 → vp_in a1 20 ∧ vp_in a2 10 ∧ ∀ v9 : Int32, v9 = M3.2.1 (57 + a1.toNatClampNeg) a2.toNatClampNeg → vp_in a1 20 ∧ vp_in a2 10 ∧ ∀ M13 : fx_Mem, M13 = fx_sa M3 (57 + a1.toNatClampNeg) a2.toNatClampNeg a3 → Q v9 M13)))) X) X
set_option maxHeartbeats 4000000 in
set_option maxRecDepth 100000 in
theorem c_X6_setProperty_0 (l : Launch) {g : fx_Geo} (hG : fx_Gd g) (hfl0 : l.stackTraces = false) (a1 : Int32) (a2 : Int32) (a3 : Int32) (M : fx_Mem) (Q : Int32 → fx_Mem → Prop) (X : String → fx_Mem → Prop) (h : wp_X6_setProperty_0 a1 a2 a3 M Q X) : vx_Met l yX6_setProperty (.code yX6_setProperty cX6_setProperty 5 (some .int) :: fx_U) rm_X6_setProperty_0 (va_Pc [.ref (fx_a g 0), .int a1, .int a2, .int a3] (fx_At g M)) (va_Qi Q (fx_Pw g) (fx_A g)) (fx_XC g X) 3 18 (fx_A g) := by
  refine vx_ofW (cc := cX6_setProperty) (maxL := 5) (ret := (some .int)) (by decide +kernel) rfl ?_
  intro p e s m args below meth c s₁ B hml hex hv
  have hfl : fx_fl l c := ⟨hfl0, hex⟩
  obtain ⟨rfl, hv⟩ := hv
  have hts := atoms_spec (ws := .code yX6_setProperty cX6_setProperty 5 (some .int) :: fx_U) B.pre
  obtain ⟨C, hH⟩ := fx_body (own := RX6) B hml rfl (fun w hw => hts w (List.mem_cons_of_mem _ hw)) hG hv
  replace hts := fun w hw => hts w (List.mem_cons_of_mem _ hw)
  obtain ⟨hx, hb, hr, -, hown, -, hlocks, hsz, hK, -, hSt⟩ := id C
  have hl := lv_entry ([.ref (fx_a g 0), .int a1, .int a2, .int a3]) (n := 5) (Nat.le_of_ble_eq_true rfl)
  rw [lg_entry_eq]
  generalize (lg_sl ([.ref (fx_a g 0), .int a1, .int a2, .int a3]) ++ List.replicate (5 - (lg_sl ([.ref (fx_a g 0), .int a1, .int a2, .int a3])).length) Slot.unset).toArray = ls at hl ⊢
  have hl : lv_has ls 5 [(0, .ref (fx_a g 0)), (1, .int a1), (2, .int a2), (3, .int a3)] := hl
  obtain ⟨H, eH⟩ : ∃ H : Heap, H = s.heap := ⟨_, rfl⟩
  obtain ⟨locs, elocs⟩ : ∃ q : List Loc, q = [] := ⟨_, rfl⟩
  rw [← eH, ← elocs] at hH
  show W p l e rm_X6_setProperty_0 s m _ below meth c s.heap [] 0 0 _ _
  rw [← eH, ← elocs]
  unfold wp_X6_setProperty_0 at h
  refine lv_aload_n hx hb dX6_setProperty_0 rfl (lv_at hl 0 rfl) ?_
  refine lv_iload_n hx hb dX6_setProperty_1 rfl (lv_at hl 1 rfl) ?_
  refine fx_xcv (mc := 1) (ms := 6) C hfl hH (fx_xrunV (As := [.int a1]) (rest := []) C hH (c_X6_requireItem_0 l C.2.2.2.2.2.2.2.2.2.1 hfl.1 a1 M _ _ h) (fx_cwV 1 hts u_596 u_598 us_19 u_1 u_599 rfl rfl (by decide +kernel) ⟨(Nat.le_of_ble_eq_true rfl), (Nat.le_of_ble_eq_true rfl)⟩) (fx_w0 g M) rfl rfl hl.1 rfl (Nat.le_of_ble_eq_true rfl) dX6_setProperty_2 ⟨(Nat.le_of_ble_eq_true rfl), (Nat.le_of_ble_eq_true rfl)⟩) (fun E M9 hx9 => hx9) (Nat.le_of_ble_eq_true rfl) (Nat.le_of_ble_eq_true rfl) (fun M1 H locs h hH => ?_)
  refine lv_iload_n hx hb dX6_setProperty_5 rfl (lv_at hl 2 rfl) ?_
  refine fx_xcv (mc := 1) (ms := 6) C hfl hH (fx_xrunS (As := [.int a2]) (rest := []) C hH (c_X6_requireProperty l C.2.2.2.2.2.2.2.2.2.1 hfl.1 a2 M1 _ _ h) (fx_cwS 1 hts u_612 u_613 u_1 u_614 rfl rfl (by decide +kernel) ⟨(Nat.le_of_ble_eq_true rfl), (Nat.le_of_ble_eq_true rfl)⟩) rfl hl.1 rfl (Nat.le_of_ble_eq_true rfl) dX6_setProperty_6 ⟨(Nat.le_of_ble_eq_true rfl), (Nat.le_of_ble_eq_true rfl)⟩) (fun E M9 hx9 => hx9) (Nat.le_of_ble_eq_true rfl) (Nat.le_of_ble_eq_true rfl) (fun M2 H locs h hH => ?_)
  refine lv_iload_n hx hb dX6_setProperty_9 rfl (lv_at hl 2 rfl) ?_
  refine lv_iload_n hx hb dX6_setProperty_10 rfl (lv_at hl 3 rfl) ?_
  refine fx_ci hH (fx_runS (As := [.int a2, .int a3]) (rest := []) C hH (c_X6_canHave l C.2.2.2.2.2.2.2.2.2.1 a2 a3 M2 _ h) (fx_cwS 2 hts u_550 u_551 u_1 u_552 rfl rfl (by decide +kernel) ⟨(Nat.le_of_ble_eq_true rfl), (Nat.le_of_ble_eq_true rfl)⟩) rfl hl.1 rfl (Nat.le_of_ble_eq_true rfl) dX6_setProperty_11 ⟨(Nat.le_of_ble_eq_true rfl), (Nat.le_of_ble_eq_true rfl)⟩) (fun r4 M3 H locs h hH => ?_)
  refine lv_if_ne (tgt := 27) hx hb dX6_setProperty_14 (by decide) (fun c5 => ?_) (fun c5 => ?_)
  · replace h := h.2 c5
    refine lv_aload_n hx hb dX6_setProperty_27 rfl (lv_at hl 0 rfl) ?_
    refine fx_get C hH (fx_w0 g M3) rfl in_X6 0 (by decide) u_199 rfl rfl dX6_setProperty_28 ?_
    refine fx_get C hH (fx_w1 g M3) rfl in_X1 5 (by decide) u_59 rfl rfl dX6_setProperty_31 ?_
    refine lv_iload_n hx hb dX6_setProperty_34 rfl (lv_at hl 1 rfl) ?_
    obtain ⟨hi6, h⟩ := h
    have hj7 : a1.toNatClampNeg < 20 := Nat.not_le.mp fun q => hi6 (Or.inr q)
    refine fx_aald C hH 11 (fx_w11 g M3) hi6 dX6_setProperty_35 ?_
    refine lv_iload_n hx hb dX6_setProperty_36 rfl (lv_at hl 2 rfl) ?_
    obtain ⟨hi8, h⟩ := h
    refine fx_iald (j := a2.toNatClampNeg) C hH (57 + a1.toNatClampNeg) (fx_r1 g M3 a1.toNatClampNeg hj7) rfl hi8 dX6_setProperty_37 ?_
    refine lv_topi (fun v9 ev9 => ?_)
    replace h := h v9 ev9
    refine lv_istore (lv' := [(4, .int v9), (0, .ref (fx_a g 0)), (1, .int a1), (2, .int a2), (3, .int a3)]) hx hb dX6_setProperty_38 hl (by decide) rfl (fun ls hl => ?_)
    refine lv_aload_n hx hb dX6_setProperty_40 rfl (lv_at hl 1 rfl) ?_
    refine fx_get C hH (fx_w0 g M3) rfl in_X6 0 (by decide) u_199 rfl rfl dX6_setProperty_41 ?_
    refine fx_get C hH (fx_w1 g M3) rfl in_X1 5 (by decide) u_59 rfl rfl dX6_setProperty_44 ?_
    refine lv_iload_n hx hb dX6_setProperty_47 rfl (lv_at hl 2 rfl) ?_
    obtain ⟨hi10, h⟩ := h
    have hj11 : a1.toNatClampNeg < 20 := Nat.not_le.mp fun q => hi10 (Or.inr q)
    refine fx_aald C hH 11 (fx_w11 g M3) hi10 dX6_setProperty_48 ?_
    refine lv_iload_n hx hb dX6_setProperty_49 rfl (lv_at hl 3 rfl) ?_
    refine lv_iload_n hx hb dX6_setProperty_50 rfl (lv_at hl 4 rfl) ?_
    obtain ⟨hi12, h⟩ := h
    refine fx_iast (j := a2.toNatClampNeg) (M' := fx_sa M3 (57 + a1.toNatClampNeg) a2.toNatClampNeg a3) C hH (57 + a1.toNatClampNeg) rfl (fx_r1 g M3 a1.toNatClampNeg hj11) (fx_q1 g M3 _ a1.toNatClampNeg hj11) hi12 dX6_setProperty_51 (fun H locs hH => ?_)
    generalize eM13 : fx_sa M3 (57 + a1.toNatClampNeg) a2.toNatClampNeg a3 = M13 at hH
    replace h := h M13 eM13.symm
    refine lv_iload hx hb dX6_setProperty_52 (lv_at hl 0 rfl) ?_
    refine vx_ret (W.widen (k := 3) (n := 18) (Nat.le_of_ble_eq_true rfl) (Nat.le_of_ble_eq_true rfl) ?_)
    exact fx_iret C hH h dX6_setProperty_54
  · replace h := h.1 c5
    exact fx_throwS (text := "no such value of the property") C hfl hH u_408 u_12 9 rfl at_66 (by decide +kernel) (by decide +kernel) (by decide +kernel) dX6_setProperty_17 dX6_setProperty_20 dX6_setProperty_21 dX6_setProperty_23 dX6_setProperty_26 (Nat.le_of_ble_eq_true rfl) (Nat.le_of_ble_eq_true rfl) (Nat.le_of_ble_eq_true rfl) (Nat.le_of_ble_eq_true rfl) hl.1 h (Nat.le_of_ble_eq_true rfl) (Nat.le_of_ble_eq_true rfl)
/-! FlexLayout.property(II)I (0,) -/
def rm_X6_property_0 : Room := { frames := 7, cells := 2, slots := 12, locals := 111 }
def wp_X6_property_0 (a1 : Int32) (a2 : Int32) (M : fx_Mem) (Q : Int32 → fx_Mem → Prop) (X : String → fx_Mem → Prop) : Prop :=
  wp_X6_requireItem_0 a1 M (fun M1 => wp_X6_requireProperty a2 M1 (fun M2 => vp_in a1 20 ∧ vp_in a2 10 ∧ Q (M2.2.1 (57 + a1.toNatClampNeg) a2.toNatClampNeg) M2) X) X
set_option maxHeartbeats 4000000 in
set_option maxRecDepth 100000 in
theorem c_X6_property_0 (l : Launch) {g : fx_Geo} (hG : fx_Gd g) (hfl0 : l.stackTraces = false) (a1 : Int32) (a2 : Int32) (M : fx_Mem) (Q : Int32 → fx_Mem → Prop) (X : String → fx_Mem → Prop) (h : wp_X6_property_0 a1 a2 M Q X) : vx_Met l yX6_property (.code yX6_property cX6_property 3 (some .int) :: fx_U) rm_X6_property_0 (va_Pc [.ref (fx_a g 0), .int a1, .int a2] (fx_At g M)) (va_Qi Q (fx_Pw g) (fx_A g)) (fx_XC g X) 2 12 (fx_A g) := by
  refine vx_ofW (cc := cX6_property) (maxL := 3) (ret := (some .int)) (by decide +kernel) rfl ?_
  intro p e s m args below meth c s₁ B hml hex hv
  have hfl : fx_fl l c := ⟨hfl0, hex⟩
  obtain ⟨rfl, hv⟩ := hv
  have hts := atoms_spec (ws := .code yX6_property cX6_property 3 (some .int) :: fx_U) B.pre
  obtain ⟨C, hH⟩ := fx_body (own := RX6) B hml rfl (fun w hw => hts w (List.mem_cons_of_mem _ hw)) hG hv
  replace hts := fun w hw => hts w (List.mem_cons_of_mem _ hw)
  obtain ⟨hx, hb, hr, -, hown, -, hlocks, hsz, hK, -, hSt⟩ := id C
  have hl := lv_entry ([.ref (fx_a g 0), .int a1, .int a2]) (n := 3) (Nat.le_of_ble_eq_true rfl)
  rw [lg_entry_eq]
  generalize (lg_sl ([.ref (fx_a g 0), .int a1, .int a2]) ++ List.replicate (3 - (lg_sl ([.ref (fx_a g 0), .int a1, .int a2])).length) Slot.unset).toArray = ls at hl ⊢
  have hl : lv_has ls 3 [(0, .ref (fx_a g 0)), (1, .int a1), (2, .int a2)] := hl
  obtain ⟨H, eH⟩ : ∃ H : Heap, H = s.heap := ⟨_, rfl⟩
  obtain ⟨locs, elocs⟩ : ∃ q : List Loc, q = [] := ⟨_, rfl⟩
  rw [← eH, ← elocs] at hH
  show W p l e rm_X6_property_0 s m _ below meth c s.heap [] 0 0 _ _
  rw [← eH, ← elocs]
  unfold wp_X6_property_0 at h
  refine lv_aload_n hx hb dX6_property_0 rfl (lv_at hl 0 rfl) ?_
  refine lv_iload_n hx hb dX6_property_1 rfl (lv_at hl 1 rfl) ?_
  refine fx_xcv (mc := 1) (ms := 6) C hfl hH (fx_xrunV (As := [.int a1]) (rest := []) C hH (c_X6_requireItem_0 l C.2.2.2.2.2.2.2.2.2.1 hfl.1 a1 M _ _ h) (fx_cwV 1 hts u_596 u_598 us_19 u_1 u_599 rfl rfl (by decide +kernel) ⟨(Nat.le_of_ble_eq_true rfl), (Nat.le_of_ble_eq_true rfl)⟩) (fx_w0 g M) rfl rfl hl.1 rfl (Nat.le_of_ble_eq_true rfl) dX6_property_2 ⟨(Nat.le_of_ble_eq_true rfl), (Nat.le_of_ble_eq_true rfl)⟩) (fun E M9 hx9 => hx9) (Nat.le_of_ble_eq_true rfl) (Nat.le_of_ble_eq_true rfl) (fun M1 H locs h hH => ?_)
  refine lv_iload_n hx hb dX6_property_5 rfl (lv_at hl 2 rfl) ?_
  refine fx_xcv (mc := 1) (ms := 6) C hfl hH (fx_xrunS (As := [.int a2]) (rest := []) C hH (c_X6_requireProperty l C.2.2.2.2.2.2.2.2.2.1 hfl.1 a2 M1 _ _ h) (fx_cwS 1 hts u_612 u_613 u_1 u_614 rfl rfl (by decide +kernel) ⟨(Nat.le_of_ble_eq_true rfl), (Nat.le_of_ble_eq_true rfl)⟩) rfl hl.1 rfl (Nat.le_of_ble_eq_true rfl) dX6_property_6 ⟨(Nat.le_of_ble_eq_true rfl), (Nat.le_of_ble_eq_true rfl)⟩) (fun E M9 hx9 => hx9) (Nat.le_of_ble_eq_true rfl) (Nat.le_of_ble_eq_true rfl) (fun M2 H locs h hH => ?_)
  refine lv_aload_n hx hb dX6_property_9 rfl (lv_at hl 0 rfl) ?_
  refine fx_get C hH (fx_w0 g M2) rfl in_X6 0 (by decide) u_199 rfl rfl dX6_property_10 ?_
  refine fx_get C hH (fx_w1 g M2) rfl in_X1 5 (by decide) u_59 rfl rfl dX6_property_13 ?_
  refine lv_iload_n hx hb dX6_property_16 rfl (lv_at hl 1 rfl) ?_
  obtain ⟨hi3, h⟩ := h
  have hj4 : a1.toNatClampNeg < 20 := Nat.not_le.mp fun q => hi3 (Or.inr q)
  refine fx_aald C hH 11 (fx_w11 g M2) hi3 dX6_property_17 ?_
  refine lv_iload_n hx hb dX6_property_18 rfl (lv_at hl 2 rfl) ?_
  obtain ⟨hi5, h⟩ := h
  refine fx_iald (j := a2.toNatClampNeg) C hH (57 + a1.toNatClampNeg) (fx_r1 g M2 a1.toNatClampNeg hj4) rfl hi5 dX6_property_19 ?_
  refine vx_ret (W.widen (k := 2) (n := 12) (Nat.le_of_ble_eq_true rfl) (Nat.le_of_ble_eq_true rfl) ?_)
  exact fx_iret C hH h dX6_property_20
/-! FlexLayout.feed(C)I (0,) -/
def rm_X6_feed_0 : Room := { frames := 6, cells := 1, slots := 6, locals := 90 }
def wp_X6_feed_0 (a1 : Int32) (M : fx_Mem) (Q : Int32 → fx_Mem → Prop) (X : String → fx_Mem → Prop) : Prop :=
  ((M.1 193 < 80 → vp_in (M.1 193) 80 ∧ ∀ M3 : fx_Mem, M3 = fx_sa M 14 ((M.1 193).toNatClampNeg) (vp_nar .char a1) → ∀ M4 : fx_Mem, M4 = fx_si M3 193 ((M3.1 193) + 1) → Q (M4.1 193) M4) ∧ (¬ M.1 193 < 80 → X "java/lang/IllegalStateException" M))
set_option maxHeartbeats 4000000 in
set_option maxRecDepth 100000 in
theorem c_X6_feed_0 (l : Launch) {g : fx_Geo} (hG : fx_Gd g) (hfl0 : l.stackTraces = false) (a1 : Int32) (M : fx_Mem) (Q : Int32 → fx_Mem → Prop) (X : String → fx_Mem → Prop) (h : wp_X6_feed_0 a1 M Q X) : vx_Met l yX6_feed (.code yX6_feed cX6_feed 2 (some .int) :: fx_U) rm_X6_feed_0 (va_Pc [.ref (fx_a g 0), .int a1] (fx_At g M)) (va_Qi Q (fx_Pw g) (fx_A g)) (fx_XC g X) 1 6 (fx_A g) := by
  refine vx_ofW (cc := cX6_feed) (maxL := 2) (ret := (some .int)) (by decide +kernel) rfl ?_
  intro p e s m args below meth c s₁ B hml hex hv
  have hfl : fx_fl l c := ⟨hfl0, hex⟩
  obtain ⟨rfl, hv⟩ := hv
  have hts := atoms_spec (ws := .code yX6_feed cX6_feed 2 (some .int) :: fx_U) B.pre
  obtain ⟨C, hH⟩ := fx_body (own := RX6) B hml rfl (fun w hw => hts w (List.mem_cons_of_mem _ hw)) hG hv
  replace hts := fun w hw => hts w (List.mem_cons_of_mem _ hw)
  obtain ⟨hx, hb, hr, -, hown, -, hlocks, hsz, hK, -, hSt⟩ := id C
  have hl := lv_entry ([.ref (fx_a g 0), .int a1]) (n := 2) (Nat.le_of_ble_eq_true rfl)
  rw [lg_entry_eq]
  generalize (lg_sl ([.ref (fx_a g 0), .int a1]) ++ List.replicate (2 - (lg_sl ([.ref (fx_a g 0), .int a1])).length) Slot.unset).toArray = ls at hl ⊢
  have hl : lv_has ls 2 [(0, .ref (fx_a g 0)), (1, .int a1)] := hl
  obtain ⟨H, eH⟩ : ∃ H : Heap, H = s.heap := ⟨_, rfl⟩
  obtain ⟨locs, elocs⟩ : ∃ q : List Loc, q = [] := ⟨_, rfl⟩
  rw [← eH, ← elocs] at hH
  show W p l e rm_X6_feed_0 s m _ below meth c s.heap [] 0 0 _ _
  rw [← eH, ← elocs]
  unfold wp_X6_feed_0 at h
  refine lv_aload_n hx hb dX6_feed_0 rfl (lv_at hl 0 rfl) ?_
  refine fx_get C hH (fx_w0 g M) rfl in_X6 3 (by decide) u_202 rfl rfl dX6_feed_1 ?_
  refine fx_get C hH (fx_w3 g M) rfl in_X4 1 (by decide) u_88 rfl rfl dX6_feed_4 ?_
  refine lv_bipush (v := 80) hx hb dX6_feed_7 (by decide) ?_
  refine lv_icmp_lt (tgt := 22) hx hb dX6_feed_9 (by decide) (fun c1 => ?_) (fun c1 => ?_)
  · replace h := h.1 c1
    refine lv_aload_n hx hb dX6_feed_22 rfl (lv_at hl 0 rfl) ?_
    refine fx_get C hH (fx_w0 g M) rfl in_X6 3 (by decide) u_202 rfl rfl dX6_feed_23 ?_
    refine fx_get C hH (fx_w3 g M) rfl in_X4 0 (by decide) u_86 rfl rfl dX6_feed_26 ?_
    refine lv_aload_n hx hb dX6_feed_29 rfl (lv_at hl 0 rfl) ?_
    refine fx_get C hH (fx_w0 g M) rfl in_X6 3 (by decide) u_202 rfl rfl dX6_feed_30 ?_
    refine fx_get C hH (fx_w3 g M) rfl in_X4 1 (by decide) u_88 rfl rfl dX6_feed_33 ?_
    refine lv_iload_n hx hb dX6_feed_36 rfl (lv_at hl 1 rfl) ?_
    obtain ⟨hi2, h⟩ := h
    refine fx_cast (j := (M.1 193).toNatClampNeg) (M' := fx_sa M 14 ((M.1 193).toNatClampNeg) (vp_nar .char a1)) C hH 14 rfl (fx_w14 g M) (fx_p14 g M _) hi2 dX6_feed_37 (fun H locs hH => ?_)
    generalize eM3 : fx_sa M 14 ((M.1 193).toNatClampNeg) (vp_nar .char a1) = M3 at hH
    replace h := h M3 eM3.symm
    refine lv_aload_n hx hb dX6_feed_38 rfl (lv_at hl 0 rfl) ?_
    refine fx_get C hH (fx_w0 g M3) rfl in_X6 3 (by decide) u_202 rfl rfl dX6_feed_39 ?_
    refine lv_dup hx hb dX6_feed_42 rfl ?_
    refine fx_get C hH (fx_w3 g M3) rfl in_X4 1 (by decide) u_88 rfl rfl dX6_feed_43 ?_
    refine lv_iconst (v := 1) hx hb dX6_feed_46 (by decide) ?_
    refine lv_iadd hx hb dX6_feed_47 ?_
    refine fx_put C hH (fx_w3 g M3) rfl in_X4 tyX4 tyX4_ok nmX4 1 (by decide) u_88 rfl rfl (ty := .int) (by decide +kernel) rfl rfl (Nat.le_of_ble_eq_true rfl) (fx_p3_1 g M3 ((M3.1 193) + 1)) dX6_feed_48 (fun H locs hH => ?_)
    generalize eM4 : fx_si M3 193 ((M3.1 193) + 1) = M4 at hH
    replace h := h M4 eM4.symm
    refine lv_aload_n hx hb dX6_feed_51 rfl (lv_at hl 0 rfl) ?_
    refine fx_get C hH (fx_w0 g M4) rfl in_X6 3 (by decide) u_202 rfl rfl dX6_feed_52 ?_
    refine fx_get C hH (fx_w3 g M4) rfl in_X4 1 (by decide) u_88 rfl rfl dX6_feed_55 ?_
    refine vx_ret (W.widen (k := 1) (n := 6) (Nat.le_of_ble_eq_true rfl) (Nat.le_of_ble_eq_true rfl) ?_)
    exact fx_iret C hH h dX6_feed_58
  · replace h := h.2 c1
    exact fx_throwS (text := "the buffer is full") C hfl hH u_562 u_16 10 rfl at_143 (by decide +kernel) (by decide +kernel) (by decide +kernel) dX6_feed_12 dX6_feed_15 dX6_feed_16 dX6_feed_18 dX6_feed_21 (Nat.le_of_ble_eq_true rfl) (Nat.le_of_ble_eq_true rfl) (Nat.le_of_ble_eq_true rfl) (Nat.le_of_ble_eq_true rfl) hl.1 h (Nat.le_of_ble_eq_true rfl) (Nat.le_of_ble_eq_true rfl)
/-! FlexLayout$ItemText.propertyFor(C)I () -/
def rm_X4_propertyFor : Room := { frames := 0, cells := 0, slots := 0, locals := 0 }
def wb_X4_propertyFor_2 (k2 : Int32 → Int32 → fx_Mem → Prop) (Q : Int32 → fx_Mem → Prop) (x0 : Int32) (x1 : Int32) (M : fx_Mem) : Prop :=
  ((10 ≤ x1 → Q x1 M) ∧ (¬ 10 ≤ x1 → vp_in x1 10 ∧ ((fx_tLE x1.toNatClampNeg = x0 → Q x1 M) ∧ (¬ fx_tLE x1.toNatClampNeg = x0 → ∀ v6 : Int32, v6 = x1 + 1 → k2 x0 v6 M))))
set_option maxHeartbeats 4000000 in
set_option maxRecDepth 100000 in
theorem tb_X4_propertyFor_2 {g : fx_Geo} {p : Program} {l : Launch} {e : Env} {s : State} {m : MethodId} {args : Array Value} {below : List Frame} {meth : Method} {c : Code} (C : fx_Cx g p s m args meth c RX4 cX4_propertyFor 2 (some .int)) (k2 : Int32 → Int32 → fx_Mem → Prop) (Q : Int32 → fx_Mem → Prop) (hk2 : ∀ (x0 : Int32) (x1 : Int32) (M : fx_Mem), k2 x0 x1 M → ∀ (H : Heap) (locs : List Loc) (ls : Array Slot), fx_H g s M H locs → lv_has ls 2 [(0, .int x0), (1, .int x1)] → W p l e rm_X4_propertyFor s m args below meth c H locs 0 0 (MQ below (va_Qi Q (fx_Pw g) (fx_A g)) args s 0 0 (fx_A g)) (F0 m 2 ls [])) (x0 : Int32) (x1 : Int32) (M : fx_Mem) (h : wb_X4_propertyFor_2 k2 Q x0 x1 M) (H : Heap) (locs : List Loc) (ls : Array Slot) (hH : fx_H g s M H locs) (hl : lv_has ls 2 [(0, .int x0), (1, .int x1)]) : W p l e rm_X4_propertyFor s m args below meth c H locs 0 0 (MQ below (va_Qi Q (fx_Pw g) (fx_A g)) args s 0 0 (fx_A g)) (F0 m 2 ls []) := by
  obtain ⟨hx, hb, hr, hml, hown, hts, hlocks, hsz, hK, hG, hSt⟩ := id C
  unfold wb_X4_propertyFor_2 at h
  refine lv_iload_n hx hb dX4_propertyFor_2 rfl (lv_at hl 1 rfl) ?_
  refine lv_bipush (v := 10) hx hb dX4_propertyFor_3 (by decide) ?_
  refine lv_icmp_ge (tgt := 23) hx hb dX4_propertyFor_5 (by decide) (fun c1 => ?_) (fun c1 => ?_)
  · replace h := h.1 c1
    refine lv_iload_n hx hb dX4_propertyFor_23 rfl (lv_at hl 1 rfl) ?_
    exact fx_iret C hH h dX4_propertyFor_24
  · replace h := h.2 c1
    refine fx_getsN C hH 4 rfl (host := "FlexLayout") (by decide +kernel) dX4_propertyFor_8 (fun t2 hT3 => ?_)
    refine lv_iload_n hx hb dX4_propertyFor_11 rfl (lv_at hl 1 rfl) ?_
    obtain ⟨hi4, h⟩ := h
    refine fx_tc (j := x1.toNatClampNeg) C hH hT3 rfl hi4 dX4_propertyFor_12 ?_
    refine lv_iload_n hx hb dX4_propertyFor_13 rfl (lv_at hl 0 rfl) ?_
    refine lv_icmp_eq (tgt := 23) hx hb dX4_propertyFor_14 (by decide) (fun c5 => ?_) (fun c5 => ?_)
    · replace h := h.1 c5
      refine lv_iload_n hx hb dX4_propertyFor_23 rfl (lv_at hl 1 rfl) ?_
      exact fx_iret C hH h dX4_propertyFor_24
    · replace h := h.2 c5
      obtain ⟨v6, ev6⟩ : ∃ z : Int32, z = x1 + 1 := ⟨_, rfl⟩
      refine lv_iinc (v := v6) (lv' := [(1, .int v6), (0, .int x0)]) hx hb dX4_propertyFor_17 hl (k := 1) rfl (by rw [ev6]; rfl) (by decide) rfl (fun ls hl => ?_)
      replace h := h v6 ev6
      refine lv_goto (tgt := 2) hx hb dX4_propertyFor_20 (by decide) ?_
      exact hk2 x0 v6 M h  H locs ls hH (lv_sub hl [1, 0] rfl)
def wl_X4_propertyFor_2 (Q : Int32 → fx_Mem → Prop) (n : Nat) (x0 : Int32) (x1 : Int32) (M : fx_Mem) : Prop :=
  fx_lp (α := Int32 × Int32 × fx_Mem) (fun k a => wb_X4_propertyFor_2 (fun x0 x1 M => k (x0, x1, M)) Q a.1 a.2.1 a.2.2) n (x0, x1, M)
set_option maxHeartbeats 4000000 in
theorem tl_X4_propertyFor_2 {g : fx_Geo} {p : Program} {l : Launch} {e : Env} {s : State} {m : MethodId} {args : Array Value} {below : List Frame} {meth : Method} {c : Code} (C : fx_Cx g p s m args meth c RX4 cX4_propertyFor 2 (some .int)) (Q : Int32 → fx_Mem → Prop) : ∀ (n : Nat) (x0 : Int32) (x1 : Int32) (M : fx_Mem), wl_X4_propertyFor_2  Q n x0 x1 M → ∀ (H : Heap) (locs : List Loc) (ls : Array Slot), fx_H g s M H locs → lv_has ls 2 [(0, .int x0), (1, .int x1)] → W p l e rm_X4_propertyFor s m args below meth c H locs 0 0 (MQ below (va_Qi Q (fx_Pw g) (fx_A g)) args s 0 0 (fx_A g)) (F0 m 2 ls []) := by
  intro n
  induction n with
  | zero => intro x0 x1 M h; exact False.elim h
  | succ n ih => intro x0 x1 M h  H locs ls hH hl; exact tb_X4_propertyFor_2 C (wl_X4_propertyFor_2  Q n) Q ih x0 x1 M h  H locs ls hH hl
def wp_X4_propertyFor (a0 : Int32) (M : fx_Mem) (Q : Int32 → fx_Mem → Prop) : Prop :=
  ∃ n2 : Nat, wl_X4_propertyFor_2 Q n2 a0 0 M
set_option maxHeartbeats 4000000 in
set_option maxRecDepth 100000 in
theorem c_X4_propertyFor (l : Launch) {g : fx_Geo} (hG : fx_Gd g) (a0 : Int32) (M : fx_Mem) (Q : Int32 → fx_Mem → Prop) (h : wp_X4_propertyFor a0 M Q) : Met l yX4_propertyFor (.code yX4_propertyFor cX4_propertyFor 2 (some .int) :: fx_U) rm_X4_propertyFor (va_Pc [.int a0] (fx_At g M)) (va_Qi Q (fx_Pw g) (fx_A g)) 0 0 (fx_A g) := by
  refine Met.ofW (cc := cX4_propertyFor) (maxL := 2) (ret := (some .int)) (by decide +kernel) rfl ?_
  intro p e s m args below meth c s₁ B hml hv
  obtain ⟨rfl, hv⟩ := hv
  have hts := atoms_spec (ws := .code yX4_propertyFor cX4_propertyFor 2 (some .int) :: fx_U) B.pre
  obtain ⟨C, hH⟩ := fx_body (own := RX4) B hml rfl (fun w hw => hts w (List.mem_cons_of_mem _ hw)) hG hv
  replace hts := fun w hw => hts w (List.mem_cons_of_mem _ hw)
  obtain ⟨hx, hb, hr, -, hown, -, hlocks, hsz, hK, -, hSt⟩ := id C
  have hl := lv_entry ([.int a0]) (n := 2) (Nat.le_of_ble_eq_true rfl)
  rw [lg_entry_eq]
  generalize (lg_sl ([.int a0]) ++ List.replicate (2 - (lg_sl ([.int a0])).length) Slot.unset).toArray = ls at hl ⊢
  have hl : lv_has ls 2 [(0, .int a0)] := hl
  obtain ⟨H, eH⟩ : ∃ H : Heap, H = s.heap := ⟨_, rfl⟩
  obtain ⟨locs, elocs⟩ : ∃ q : List Loc, q = [] := ⟨_, rfl⟩
  rw [← eH, ← elocs] at hH
  show W p l e rm_X4_propertyFor s m _ below meth c s.heap [] 0 0 _ _
  rw [← eH, ← elocs]
  unfold wp_X4_propertyFor at h
  refine lv_iconst (v := 0) hx hb dX4_propertyFor_0 (by decide) ?_
  refine lv_istore_n (lv' := [(1, .int 0), (0, .int a0)]) hx hb dX4_propertyFor_1 rfl hl (by decide) rfl (fun ls hl => ?_)
  obtain ⟨n2, h⟩ := h
  exact tl_X4_propertyFor_2 C Q  n2 a0 0 M h  H locs ls hH (lv_sub hl [1, 0] rfl)
