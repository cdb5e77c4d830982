/-! FlexLayout$Arrangement.arrange(LFlexLayout$Container;)V (5, 1) -/
def rm_X0_arrange_5_1 : Room := { frames := 3, cells := 0, slots := 0, locals := 73 }
def wb_X0_arrange_5_1_41 (Q : fx_Mem → Prop) (s0 : Int32) (M : fx_Mem) : Prop :=
  ∀ M1 : fx_Mem, M1 = fx_si M 322 s0 → ∀ M2 : fx_Mem, M2 = fx_sa M1 19 0 0 → vp_in (M2.1 322) 21 ∧ ∀ M4 : fx_Mem, M4 = fx_sa M2 19 ((M2.1 322).toNatClampNeg) (M2.1 70) → Q M4
set_option maxHeartbeats 4000000 in
set_option maxRecDepth 100000 in
theorem tb_X0_arrange_5_1_41 {g : fx_Geo} {p : Program} {l : Launch} {e : Env} {s : State} {m : MethodId} {args : Array Value} {below : List Frame} {meth : Method} {c : Code} (C : fx_Cx g p s m args meth c RX0 cX0_arrange 2 none) (Q : fx_Mem → Prop) (s0 : Int32) (M : fx_Mem) (h : wb_X0_arrange_5_1_41 Q s0 M) (H : Heap) (locs : List Loc) (ls : Array Slot) (hH : fx_H g s M H locs) (hl : lv_has ls 2 [(0, .ref (fx_a g 5)), (1, .ref (fx_a g 1))]) : W p l e rm_X0_arrange_5_1 s m args below meth c H locs 0 0 (MQ below (va_Qv Q (fx_Pw g) (fx_A g)) args s 0 0 (fx_A g)) (F0 m 41 ls [.int s0, .ref (fx_a g 5)]) := by
  obtain ⟨hx, hb, hr, hml, hown, hts, hlocks, hsz, hK, hG, hSt⟩ := id C
  unfold wb_X0_arrange_5_1_41 at h
  refine fx_put C hH (fx_w5 g M) rfl in_X0 tyX0 tyX0_ok nmX0 2 (by decide) u_131 rfl rfl (ty := .int) (by decide +kernel) rfl rfl (Nat.le_of_ble_eq_true rfl) (fx_p5_2 g M s0) dX0_arrange_41 (fun H locs hH => ?_)
  generalize eM1 : fx_si M 322 s0 = M1 at hH
  replace h := h M1 eM1.symm
  refine lv_aload_n hx hb dX0_arrange_44 rfl (lv_at hl 0 rfl) ?_
  refine fx_get C hH (fx_w5 g M1) rfl in_X0 1 (by decide) u_128 rfl rfl dX0_arrange_45 ?_
  refine lv_iconst (v := 0) hx hb dX0_arrange_48 (by decide) ?_
  refine lv_iconst (v := 0) hx hb dX0_arrange_49 (by decide) ?_
  refine fx_iast (j := 0) (M' := fx_sa M1 19 0 0) C hH 19 (by decide) (fx_w19 g M1) (fx_p19 g M1 _) (by unfold vp_in; decide) dX0_arrange_50 (fun H locs hH => ?_)
  generalize eM2 : fx_sa M1 19 0 0 = M2 at hH
  replace h := h M2 eM2.symm
  refine lv_aload_n hx hb dX0_arrange_51 rfl (lv_at hl 0 rfl) ?_
  refine fx_get C hH (fx_w5 g M2) rfl in_X0 1 (by decide) u_128 rfl rfl dX0_arrange_52 ?_
  refine lv_aload_n hx hb dX0_arrange_55 rfl (lv_at hl 0 rfl) ?_
  refine fx_get C hH (fx_w5 g M2) rfl in_X0 2 (by decide) u_131 rfl rfl dX0_arrange_56 ?_
  refine lv_aload_n hx hb dX0_arrange_59 rfl (lv_at hl 1 rfl) ?_
  refine fx_get C hH (fx_w1 g M2) rfl in_X1 6 (by decide) u_61 rfl rfl dX0_arrange_60 ?_
  obtain ⟨hi3, h⟩ := h
  refine fx_iast (j := (M2.1 322).toNatClampNeg) (M' := fx_sa M2 19 ((M2.1 322).toNatClampNeg) (M2.1 70)) C hH 19 rfl (fx_w19 g M2) (fx_p19 g M2 _) hi3 dX0_arrange_63 (fun H locs hH => ?_)
  generalize eM4 : fx_sa M2 19 ((M2.1 322).toNatClampNeg) (M2.1 70) = M4 at hH
  replace h := h M4 eM4.symm
  exact fx_vret C hH h dX0_arrange_64
def wp_X0_arrange_5_1 (M : fx_Mem) (Q : fx_Mem → Prop) : Prop :=
  wp_X0_putInSequence_5_1  M (fun M1 => wp_X1_wraps_1  M1 (fun r3 M2 => ((r3 = 0 → ((M2.1 70 ≤ 0 → wb_X0_arrange_5_1_41 Q 0 M2) ∧ (¬ M2.1 70 ≤ 0 → wb_X0_arrange_5_1_41 Q 1 M2))) ∧ (¬ r3 = 0 → wp_X0_fillLines_5_1 (M2.1 64) M2 (fun r7 M6 => ∀ M8 : fx_Mem, M8 = fx_si M6 322 r7 → Q M8)))))
set_option maxHeartbeats 4000000 in
set_option maxRecDepth 100000 in
theorem c_X0_arrange_5_1 (l : Launch) {g : fx_Geo} (hG : fx_Gd g) (M : fx_Mem) (Q : fx_Mem → Prop) (h : wp_X0_arrange_5_1 M Q) : Met l yX0_arrange (.code yX0_arrange cX0_arrange 2 none :: fx_U) rm_X0_arrange_5_1 (va_Pc [.ref (fx_a g 5), .ref (fx_a g 1)] (fx_At g M)) (va_Qv Q (fx_Pw g) (fx_A g)) 0 0 (fx_A g) := by
  refine Met.ofW (cc := cX0_arrange) (maxL := 2) (ret := none) (by decide +kernel) rfl ?_
  intro p e s m args below meth c s₁ B hml hv
  obtain ⟨rfl, hv⟩ := hv
  have hts := atoms_spec (ws := .code yX0_arrange cX0_arrange 2 none :: fx_U) B.pre
  obtain ⟨C, hH⟩ := fx_body (own := RX0) B hml rfl (fun w hw => hts w (List.mem_cons_of_mem _ hw)) hG hv
  replace hts := fun w hw => hts w (List.mem_cons_of_mem _ hw)
  obtain ⟨hx, hb, hr, -, hown, -, hlocks, hsz, hK, -, hSt⟩ := id C
  have hl := lv_entry ([.ref (fx_a g 5), .ref (fx_a g 1)]) (n := 2) (Nat.le_of_ble_eq_true rfl)
  rw [lg_entry_eq]
  generalize (lg_sl ([.ref (fx_a g 5), .ref (fx_a g 1)]) ++ List.replicate (2 - (lg_sl ([.ref (fx_a g 5), .ref (fx_a g 1)])).length) Slot.unset).toArray = ls at hl ⊢
  have hl : lv_has ls 2 [(0, .ref (fx_a g 5)), (1, .ref (fx_a g 1))] := hl
  obtain ⟨H, eH⟩ : ∃ H : Heap, H = s.heap := ⟨_, rfl⟩
  obtain ⟨locs, elocs⟩ : ∃ q : List Loc, q = [] := ⟨_, rfl⟩
  rw [← eH, ← elocs] at hH
  show W p l e rm_X0_arrange_5_1 s m _ below meth c s.heap [] 0 0 _ _
  rw [← eH, ← elocs]
  unfold wp_X0_arrange_5_1 at h
  refine lv_aload_n hx hb dX0_arrange_0 rfl (lv_at hl 0 rfl) ?_
  refine lv_aload_n hx hb dX0_arrange_1 rfl (lv_at hl 1 rfl) ?_
  refine fx_cv hH (fx_runV (As := [.ref (fx_a g 1)]) (rest := []) C hH (c_X0_putInSequence_5_1 l C.2.2.2.2.2.2.2.2.2.1  M _ h) (fx_cwV 1 hts u_236 u_237 u_238 u_5 u_239 rfl rfl (by decide +kernel) ⟨(Nat.le_of_ble_eq_true rfl), (Nat.le_of_ble_eq_true rfl)⟩) (fx_w5 g M) rfl rfl hl.1 rfl (Nat.le_of_ble_eq_true rfl) dX0_arrange_2 ⟨(Nat.le_of_ble_eq_true rfl), (Nat.le_of_ble_eq_true rfl)⟩) (fun M1 H locs h hH => ?_)
  refine lv_aload_n hx hb dX0_arrange_5 rfl (lv_at hl 1 rfl) ?_
  refine fx_ci hH (fx_runV (As := []) (rest := []) C hH (c_X1_wraps_1 l C.2.2.2.2.2.2.2.2.2.1  M1 _ h) (fx_cwV 0 hts u_240 u_241 u_242 u_2 u_243 rfl rfl (by decide +kernel) ⟨(Nat.le_of_ble_eq_true rfl), (Nat.le_of_ble_eq_true rfl)⟩) (fx_w1 g M1) rfl rfl hl.1 rfl (Nat.le_of_ble_eq_true rfl) dX0_arrange_6 ⟨(Nat.le_of_ble_eq_true rfl), (Nat.le_of_ble_eq_true rfl)⟩) (fun r3 M2 H locs h hH => ?_)
  refine lv_if_eq (tgt := 28) hx hb dX0_arrange_9 (by decide) (fun c4 => ?_) (fun c4 => ?_)
  · replace h := h.1 c4
    refine lv_aload_n hx hb dX0_arrange_28 rfl (lv_at hl 0 rfl) ?_
    refine lv_aload_n hx hb dX0_arrange_29 rfl (lv_at hl 1 rfl) ?_
    refine fx_get C hH (fx_w1 g M2) rfl in_X1 6 (by decide) u_61 rfl rfl dX0_arrange_30 ?_
    refine lv_if_le (tgt := 40) hx hb dX0_arrange_33 (by decide) (fun c5 => ?_) (fun c5 => ?_)
    · replace h := h.1 c5
      refine lv_iconst (v := 0) hx hb dX0_arrange_40 (by decide) ?_
      exact tb_X0_arrange_5_1_41 C Q  0 M2 h  H locs ls hH (lv_sub hl [0, 1] rfl)
    · replace h := h.2 c5
      refine lv_iconst (v := 1) hx hb dX0_arrange_36 (by decide) ?_
      refine lv_goto (tgt := 41) hx hb dX0_arrange_37 (by decide) ?_
      exact tb_X0_arrange_5_1_41 C Q  1 M2 h  H locs ls hH (lv_sub hl [0, 1] rfl)
  · replace h := h.2 c4
    refine lv_aload_n hx hb dX0_arrange_12 rfl (lv_at hl 0 rfl) ?_
    refine lv_aload_n hx hb dX0_arrange_13 rfl (lv_at hl 0 rfl) ?_
    refine lv_aload_n hx hb dX0_arrange_14 rfl (lv_at hl 1 rfl) ?_
    refine lv_aload_n hx hb dX0_arrange_15 rfl (lv_at hl 1 rfl) ?_
    refine fx_get C hH (fx_w1 g M2) rfl in_X1 0 (by decide) u_38 rfl rfl dX0_arrange_16 ?_
    refine fx_ci hH (fx_runV (As := [.ref (fx_a g 1), .int (M2.1 64)]) (rest := [.ref (fx_a g 5)]) C hH (c_X0_fillLines_5_1 l C.2.2.2.2.2.2.2.2.2.1 (M2.1 64) M2 _ h) (fx_cwV 2 hts u_244 u_245 u_246 u_5 u_247 rfl rfl (by decide +kernel) ⟨(Nat.le_of_ble_eq_true rfl), (Nat.le_of_ble_eq_true rfl)⟩) (fx_w5 g M2) rfl rfl hl.1 rfl (Nat.le_of_ble_eq_true rfl) dX0_arrange_19 ⟨(Nat.le_of_ble_eq_true rfl), (Nat.le_of_ble_eq_true rfl)⟩) (fun r7 M6 H locs h hH => ?_)
    refine fx_put C hH (fx_w5 g M6) rfl in_X0 tyX0 tyX0_ok nmX0 2 (by decide) u_131 rfl rfl (ty := .int) (by decide +kernel) rfl rfl (Nat.le_of_ble_eq_true rfl) (fx_p5_2 g M6 r7) dX0_arrange_22 (fun H locs hH => ?_)
    generalize eM8 : fx_si M6 322 r7 = M8 at hH
    replace h := h M8 eM8.symm
    refine lv_goto (tgt := 64) hx hb dX0_arrange_25 (by decide) ?_
    exact fx_vret C hH h dX0_arrange_64
/-! FlexLayout.lines()I (0,) -/
def rm_X6_lines_0 : Room := { frames := 4, cells := 0, slots := 0, locals := 94 }
def wp_X6_lines_0 (M : fx_Mem) (Q : Int32 → fx_Mem → Prop) : Prop :=
  wp_X0_arrange_5_1  M (fun M1 => Q (M1.1 322) M1)
set_option maxHeartbeats 4000000 in
set_option maxRecDepth 100000 in
theorem c_X6_lines_0 (l : Launch) {g : fx_Geo} (hG : fx_Gd g) (M : fx_Mem) (Q : Int32 → fx_Mem → Prop) (h : wp_X6_lines_0 M Q) : Met l yX6_lines (.code yX6_lines cX6_lines 1 (some .int) :: fx_U) rm_X6_lines_0 (va_Pc [.ref (fx_a g 0)] (fx_At g M)) (va_Qi Q (fx_Pw g) (fx_A g)) 0 0 (fx_A g) := by
  refine Met.ofW (cc := cX6_lines) (maxL := 1) (ret := (some .int)) (by decide +kernel) rfl ?_
  intro p e s m args below meth c s₁ B hml hv
  obtain ⟨rfl, hv⟩ := hv
  have hts := atoms_spec (ws := .code yX6_lines cX6_lines 1 (some .int) :: fx_U) B.pre
  obtain ⟨C, hH⟩ := fx_body (own := RX6) B hml rfl (fun w hw => hts w (List.mem_cons_of_mem _ hw)) hG hv
  replace hts := fun w hw => hts w (List.mem_cons_of_mem _ hw)
  obtain ⟨hx, hb, hr, -, hown, -, hlocks, hsz, hK, -, hSt⟩ := id C
  have hl := lv_entry ([.ref (fx_a g 0)]) (n := 1) (Nat.le_of_ble_eq_true rfl)
  rw [lg_entry_eq]
  generalize (lg_sl ([.ref (fx_a g 0)]) ++ List.replicate (1 - (lg_sl ([.ref (fx_a g 0)])).length) Slot.unset).toArray = ls at hl ⊢
  have hl : lv_has ls 1 [(0, .ref (fx_a g 0))] := hl
  obtain ⟨H, eH⟩ : ∃ H : Heap, H = s.heap := ⟨_, rfl⟩
  obtain ⟨locs, elocs⟩ : ∃ q : List Loc, q = [] := ⟨_, rfl⟩
  rw [← eH, ← elocs] at hH
  show W p l e rm_X6_lines_0 s m _ below meth c s.heap [] 0 0 _ _
  rw [← eH, ← elocs]
  unfold wp_X6_lines_0 at h
  refine lv_aload_n hx hb dX6_lines_0 rfl (lv_at hl 0 rfl) ?_
  refine fx_get C hH (fx_w0 g M) rfl in_X6 5 (by decide) u_204 rfl rfl dX6_lines_1 ?_
  refine lv_aload_n hx hb dX6_lines_4 rfl (lv_at hl 0 rfl) ?_
  refine fx_get C hH (fx_w0 g M) rfl in_X6 0 (by decide) u_199 rfl rfl dX6_lines_5 ?_
  refine fx_cv hH (fx_runV (As := [.ref (fx_a g 1)]) (rest := []) C hH (c_X0_arrange_5_1 l C.2.2.2.2.2.2.2.2.2.1  M _ h) (fx_cwV 1 hts u_232 u_233 u_234 u_5 u_235 rfl rfl (by decide +kernel) ⟨(Nat.le_of_ble_eq_true rfl), (Nat.le_of_ble_eq_true rfl)⟩) (fx_w5 g M) rfl rfl hl.1 rfl (Nat.le_of_ble_eq_true rfl) dX6_lines_8 ⟨(Nat.le_of_ble_eq_true rfl), (Nat.le_of_ble_eq_true rfl)⟩) (fun M1 H locs h hH => ?_)
  refine lv_aload_n hx hb dX6_lines_11 rfl (lv_at hl 0 rfl) ?_
  refine fx_get C hH (fx_w0 g M1) rfl in_X6 5 (by decide) u_204 rfl rfl dX6_lines_12 ?_
  refine fx_get C hH (fx_w5 g M1) rfl in_X0 2 (by decide) u_134 rfl rfl dX6_lines_15 ?_
  exact fx_iret C hH h dX6_lines_18
/-! FlexLayout$Arrangement.lineWith(I)I (5,) -/
def rm_X0_lineWith_5 : Room := { frames := 0, cells := 0, slots := 0, locals := 0 }
def wb_X0_lineWith_5_17 (k17 : Int32 → Int32 → Int32 → fx_Mem → Prop) (k47 : Int32 → Int32 → fx_Mem → Prop) (Q : Int32 → fx_Mem → Prop) (x1 : Int32) (x2 : Int32) (x3 : Int32) (M : fx_Mem) : Prop :=
  vp_in (x2 + 1) 21 ∧ ((M.2.1 19 ((x2 + 1).toNatClampNeg) ≤ x3 → k47 x1 x2 M) ∧ (¬ M.2.1 19 ((x2 + 1).toNatClampNeg) ≤ x3 → vp_in x3 20 ∧ ((M.2.1 18 x3.toNatClampNeg = x1 → Q x2 M) ∧ (¬ M.2.1 18 x3.toNatClampNeg = x1 → ∀ v5 : Int32, v5 = x3 + 1 → k17 x1 x2 v5 M))))
set_option maxHeartbeats 4000000 in
set_option maxRecDepth 100000 in
theorem tb_X0_lineWith_5_17 {g : fx_Geo} {p : Program} {l : Launch} {e : Env} {s : State} {m : MethodId} {args : Array Value} {below : List Frame} {meth : Method} {c : Code} (C : fx_Cx g p s m args meth c RX0 cX0_lineWith 4 (some .int)) (k17 : Int32 → Int32 → Int32 → fx_Mem → Prop) (k47 : Int32 → Int32 → fx_Mem → Prop) (Q : Int32 → fx_Mem → Prop) (hk17 : ∀ (x1 : Int32) (x2 : Int32) (x3 : Int32) (M : fx_Mem), k17 x1 x2 x3 M → ∀ (H : Heap) (locs : List Loc) (ls : Array Slot), fx_H g s M H locs → lv_has ls 4 [(0, .ref (fx_a g 5)), (1, .int x1), (2, .int x2), (3, .int x3)] → W p l e rm_X0_lineWith_5 s m args below meth c H locs 0 0 (MQ below (va_Qi Q (fx_Pw g) (fx_A g)) args s 0 0 (fx_A g)) (F0 m 17 ls [])) (hk47 : ∀ (x1 : Int32) (x2 : Int32) (M : fx_Mem), k47 x1 x2 M → ∀ (H : Heap) (locs : List Loc) (ls : Array Slot), fx_H g s M H locs → lv_has ls 4 [(0, .ref (fx_a g 5)), (1, .int x1), (2, .int x2)] → W p l e rm_X0_lineWith_5 s m args below meth c H locs 0 0 (MQ below (va_Qi Q (fx_Pw g) (fx_A g)) args s 0 0 (fx_A g)) (F0 m 47 ls [])) (x1 : Int32) (x2 : Int32) (x3 : Int32) (M : fx_Mem) (h : wb_X0_lineWith_5_17 k17 k47 Q x1 x2 x3 M) (H : Heap) (locs : List Loc) (ls : Array Slot) (hH : fx_H g s M H locs) (hl : lv_has ls 4 [(0, .ref (fx_a g 5)), (1, .int x1), (2, .int x2), (3, .int x3)]) : W p l e rm_X0_lineWith_5 s m args below meth c H locs 0 0 (MQ below (va_Qi Q (fx_Pw g) (fx_A g)) args s 0 0 (fx_A g)) (F0 m 17 ls []) := by
  obtain ⟨hx, hb, hr, hml, hown, hts, hlocks, hsz, hK, hG, hSt⟩ := id C
  unfold wb_X0_lineWith_5_17 at h
  refine lv_iload_n hx hb dX0_lineWith_17 rfl (lv_at hl 3 rfl) ?_
  refine lv_aload_n hx hb dX0_lineWith_18 rfl (lv_at hl 0 rfl) ?_
  refine fx_get C hH (fx_w5 g M) rfl in_X0 1 (by decide) u_128 rfl rfl dX0_lineWith_19 ?_
  refine lv_iload_n hx hb dX0_lineWith_22 rfl (lv_at hl 2 rfl) ?_
  refine lv_iconst (v := 1) hx hb dX0_lineWith_23 (by decide) ?_
  refine lv_iadd hx hb dX0_lineWith_24 ?_
  obtain ⟨hi1, h⟩ := h
  refine fx_iald (j := (x2 + 1).toNatClampNeg) C hH 19 (fx_w19 g M) rfl hi1 dX0_lineWith_25 ?_
  refine lv_icmp_ge (tgt := 47) hx hb dX0_lineWith_26 (by decide) (fun c2 => ?_) (fun c2 => ?_)
  · replace h := h.1 c2
    exact hk47 x1 x2 M h  H locs ls hH (lv_sub hl [0, 1, 2] rfl)
  · replace h := h.2 c2
    refine lv_aload_n hx hb dX0_lineWith_29 rfl (lv_at hl 0 rfl) ?_
    refine fx_get C hH (fx_w5 g M) rfl in_X0 0 (by decide) u_124 rfl rfl dX0_lineWith_30 ?_
    refine lv_iload_n hx hb dX0_lineWith_33 rfl (lv_at hl 3 rfl) ?_
    obtain ⟨hi3, h⟩ := h
    refine fx_iald (j := x3.toNatClampNeg) C hH 18 (fx_w18 g M) rfl hi3 dX0_lineWith_34 ?_
    refine lv_iload_n hx hb dX0_lineWith_35 rfl (lv_at hl 1 rfl) ?_
    refine lv_icmp_ne (tgt := 41) hx hb dX0_lineWith_36 (by decide) (fun c4 => ?_) (fun c4 => ?_)
    · replace h := h.2 c4
      obtain ⟨v5, ev5⟩ : ∃ z : Int32, z = x3 + 1 := ⟨_, rfl⟩
      refine lv_iinc (v := v5) (lv' := [(3, .int v5), (0, .ref (fx_a g 5)), (1, .int x1), (2, .int x2)]) hx hb dX0_lineWith_41 hl (k := 3) rfl (by rw [ev5]; rfl) (by decide) rfl (fun ls hl => ?_)
      replace h := h v5 ev5
      refine lv_goto (tgt := 17) hx hb dX0_lineWith_44 (by decide) ?_
      exact hk17 x1 x2 v5 M h  H locs ls hH (lv_sub hl [1, 2, 3, 0] rfl)
    · replace h := h.1 c4
      refine lv_iload_n hx hb dX0_lineWith_39 rfl (lv_at hl 2 rfl) ?_
      exact fx_iret C hH h dX0_lineWith_40
def wl_X0_lineWith_5_17 (k47 : Int32 → Int32 → fx_Mem → Prop) (Q : Int32 → fx_Mem → Prop) (n : Nat) (x1 : Int32) (x2 : Int32) (x3 : Int32) (M : fx_Mem) : Prop :=
  fx_lp (α := Int32 × Int32 × Int32 × fx_Mem) (fun k a => wb_X0_lineWith_5_17 (fun x1 x2 x3 M => k (x1, x2, x3, M)) k47 Q a.1 a.2.1 a.2.2.1 a.2.2.2) n (x1, x2, x3, M)
set_option maxHeartbeats 4000000 in
theorem tl_X0_lineWith_5_17 {g : fx_Geo} {p : Program} {l : Launch} {e : Env} {s : State} {m : MethodId} {args : Array Value} {below : List Frame} {meth : Method} {c : Code} (C : fx_Cx g p s m args meth c RX0 cX0_lineWith 4 (some .int)) (k47 : Int32 → Int32 → fx_Mem → Prop) (Q : Int32 → fx_Mem → Prop) (hk47 : ∀ (x1 : Int32) (x2 : Int32) (M : fx_Mem), k47 x1 x2 M → ∀ (H : Heap) (locs : List Loc) (ls : Array Slot), fx_H g s M H locs → lv_has ls 4 [(0, .ref (fx_a g 5)), (1, .int x1), (2, .int x2)] → W p l e rm_X0_lineWith_5 s m args below meth c H locs 0 0 (MQ below (va_Qi Q (fx_Pw g) (fx_A g)) args s 0 0 (fx_A g)) (F0 m 47 ls [])) : ∀ (n : Nat) (x1 : Int32) (x2 : Int32) (x3 : Int32) (M : fx_Mem), wl_X0_lineWith_5_17 k47 Q n x1 x2 x3 M → ∀ (H : Heap) (locs : List Loc) (ls : Array Slot), fx_H g s M H locs → lv_has ls 4 [(0, .ref (fx_a g 5)), (1, .int x1), (2, .int x2), (3, .int x3)] → W p l e rm_X0_lineWith_5 s m args below meth c H locs 0 0 (MQ below (va_Qi Q (fx_Pw g) (fx_A g)) args s 0 0 (fx_A g)) (F0 m 17 ls []) := by
  intro n
  induction n with
  | zero => intro x1 x2 x3 M h; exact False.elim h
  | succ n ih => intro x1 x2 x3 M h  H locs ls hH hl; exact tb_X0_lineWith_5_17 C (wl_X0_lineWith_5_17 k47 Q n) k47 Q ih hk47 x1 x2 x3 M h  H locs ls hH hl
def wb_X0_lineWith_5_47 (k2 : Int32 → Int32 → fx_Mem → Prop) (Q : Int32 → fx_Mem → Prop) (x1 : Int32) (x2 : Int32) (M : fx_Mem) : Prop :=
  ∀ v1 : Int32, v1 = x2 + 1 → k2 x1 v1 M
set_option maxHeartbeats 4000000 in
set_option maxRecDepth 100000 in
theorem tb_X0_lineWith_5_47 {g : fx_Geo} {p : Program} {l : Launch} {e : Env} {s : State} {m : MethodId} {args : Array Value} {below : List Frame} {meth : Method} {c : Code} (C : fx_Cx g p s m args meth c RX0 cX0_lineWith 4 (some .int)) (k2 : Int32 → Int32 → fx_Mem → Prop) (Q : Int32 → fx_Mem → Prop) (hk2 : ∀ (x1 : Int32) (x2 : Int32) (M : fx_Mem), k2 x1 x2 M → ∀ (H : Heap) (locs : List Loc) (ls : Array Slot), fx_H g s M H locs → lv_has ls 4 [(0, .ref (fx_a g 5)), (1, .int x1), (2, .int x2)] → W p l e rm_X0_lineWith_5 s m args below meth c H locs 0 0 (MQ below (va_Qi Q (fx_Pw g) (fx_A g)) args s 0 0 (fx_A g)) (F0 m 2 ls [])) (x1 : Int32) (x2 : Int32) (M : fx_Mem) (h : wb_X0_lineWith_5_47 k2 Q x1 x2 M) (H : Heap) (locs : List Loc) (ls : Array Slot) (hH : fx_H g s M H locs) (hl : lv_has ls 4 [(0, .ref (fx_a g 5)), (1, .int x1), (2, .int x2)]) : W p l e rm_X0_lineWith_5 s m args below meth c H locs 0 0 (MQ below (va_Qi Q (fx_Pw g) (fx_A g)) args s 0 0 (fx_A g)) (F0 m 47 ls []) := by
  obtain ⟨hx, hb, hr, hml, hown, hts, hlocks, hsz, hK, hG, hSt⟩ := id C
  unfold wb_X0_lineWith_5_47 at h
  obtain ⟨v1, ev1⟩ : ∃ z : Int32, z = x2 + 1 := ⟨_, rfl⟩
  refine lv_iinc (v := v1) (lv' := [(2, .int v1), (0, .ref (fx_a g 5)), (1, .int x1)]) hx hb dX0_lineWith_47 hl (k := 2) rfl (by rw [ev1]; rfl) (by decide) rfl (fun ls hl => ?_)
  replace h := h v1 ev1
  refine lv_goto (tgt := 2) hx hb dX0_lineWith_50 (by decide) ?_
  exact hk2 x1 v1 M h  H locs ls hH (lv_sub hl [1, 2, 0] rfl)
def wb_X0_lineWith_5_2 (k2 : Int32 → Int32 → fx_Mem → Prop) (Q : Int32 → fx_Mem → Prop) (x1 : Int32) (x2 : Int32) (M : fx_Mem) : Prop :=
  ((M.1 322 ≤ x2 → Q 0 M) ∧ (¬ M.1 322 ≤ x2 → vp_in x2 21 ∧ ∀ v3 : Int32, v3 = M.2.1 19 x2.toNatClampNeg → ∃ n17 : Nat, wl_X0_lineWith_5_17 (wb_X0_lineWith_5_47 k2 Q) Q n17 x1 x2 v3 M))
set_option maxHeartbeats 4000000 in
set_option maxRecDepth 100000 in
theorem tb_X0_lineWith_5_2 {g : fx_Geo} {p : Program} {l : Launch} {e : Env} {s : State} {m : MethodId} {args : Array Value} {below : List Frame} {meth : Method} {c : Code} (C : fx_Cx g p s m args meth c RX0 cX0_lineWith 4 (some .int)) (k2 : Int32 → Int32 → fx_Mem → Prop) (Q : Int32 → fx_Mem → Prop) (hk2 : ∀ (x1 : Int32) (x2 : Int32) (M : fx_Mem), k2 x1 x2 M → ∀ (H : Heap) (locs : List Loc) (ls : Array Slot), fx_H g s M H locs → lv_has ls 4 [(0, .ref (fx_a g 5)), (1, .int x1), (2, .int x2)] → W p l e rm_X0_lineWith_5 s m args below meth c H locs 0 0 (MQ below (va_Qi Q (fx_Pw g) (fx_A g)) args s 0 0 (fx_A g)) (F0 m 2 ls [])) (x1 : Int32) (x2 : Int32) (M : fx_Mem) (h : wb_X0_lineWith_5_2 k2 Q x1 x2 M) (H : Heap) (locs : List Loc) (ls : Array Slot) (hH : fx_H g s M H locs) (hl : lv_has ls 4 [(0, .ref (fx_a g 5)), (1, .int x1), (2, .int x2)]) : W p l e rm_X0_lineWith_5 s m args below meth c H locs 0 0 (MQ below (va_Qi Q (fx_Pw g) (fx_A g)) args s 0 0 (fx_A g)) (F0 m 2 ls []) := by
  obtain ⟨hx, hb, hr, hml, hown, hts, hlocks, hsz, hK, hG, hSt⟩ := id C
  unfold wb_X0_lineWith_5_2 at h
  refine lv_iload_n hx hb dX0_lineWith_2 rfl (lv_at hl 2 rfl) ?_
  refine lv_aload_n hx hb dX0_lineWith_3 rfl (lv_at hl 0 rfl) ?_
  refine fx_get C hH (fx_w5 g M) rfl in_X0 2 (by decide) u_131 rfl rfl dX0_lineWith_4 ?_
  refine lv_icmp_ge (tgt := 53) hx hb dX0_lineWith_7 (by decide) (fun c1 => ?_) (fun c1 => ?_)
  · replace h := h.1 c1
    refine lv_iconst (v := 0) hx hb dX0_lineWith_53 (by decide) ?_
    exact fx_iret C hH h dX0_lineWith_54
  · replace h := h.2 c1
    refine lv_aload_n hx hb dX0_lineWith_10 rfl (lv_at hl 0 rfl) ?_
    refine fx_get C hH (fx_w5 g M) rfl in_X0 1 (by decide) u_128 rfl rfl dX0_lineWith_11 ?_
    refine lv_iload_n hx hb dX0_lineWith_14 rfl (lv_at hl 2 rfl) ?_
    obtain ⟨hi2, h⟩ := h
    refine fx_iald (j := x2.toNatClampNeg) C hH 19 (fx_w19 g M) rfl hi2 dX0_lineWith_15 ?_
    refine lv_topi (fun v3 ev3 => ?_)
    replace h := h v3 ev3
    refine lv_istore_n (lv' := [(3, .int v3), (0, .ref (fx_a g 5)), (1, .int x1), (2, .int x2)]) hx hb dX0_lineWith_16 rfl hl (by decide) rfl (fun ls hl => ?_)
    obtain ⟨n17, h⟩ := h
    exact tl_X0_lineWith_5_17 C (wb_X0_lineWith_5_47 k2 Q) Q (tb_X0_lineWith_5_47 C k2 Q hk2) n17 x1 x2 v3 M h  H locs ls hH (lv_sub hl [1, 2, 3, 0] rfl)
def wl_X0_lineWith_5_2 (Q : Int32 → fx_Mem → Prop) (n : Nat) (x1 : Int32) (x2 : Int32) (M : fx_Mem) : Prop :=
  fx_lp (α := Int32 × Int32 × fx_Mem) (fun k a => wb_X0_lineWith_5_2 (fun x1 x2 M => k (x1, x2, M)) Q a.1 a.2.1 a.2.2) n (x1, x2, M)
set_option maxHeartbeats 4000000 in
theorem tl_X0_lineWith_5_2 {g : fx_Geo} {p : Program} {l : Launch} {e : Env} {s : State} {m : MethodId} {args : Array Value} {below : List Frame} {meth : Method} {c : Code} (C : fx_Cx g p s m args meth c RX0 cX0_lineWith 4 (some .int)) (Q : Int32 → fx_Mem → Prop) : ∀ (n : Nat) (x1 : Int32) (x2 : Int32) (M : fx_Mem), wl_X0_lineWith_5_2  Q n x1 x2 M → ∀ (H : Heap) (locs : List Loc) (ls : Array Slot), fx_H g s M H locs → lv_has ls 4 [(0, .ref (fx_a g 5)), (1, .int x1), (2, .int x2)] → W p l e rm_X0_lineWith_5 s m args below meth c H locs 0 0 (MQ below (va_Qi Q (fx_Pw g) (fx_A g)) args s 0 0 (fx_A g)) (F0 m 2 ls []) := by
  intro n
  induction n with
  | zero => intro x1 x2 M h; exact False.elim h
  | succ n ih => intro x1 x2 M h  H locs ls hH hl; exact tb_X0_lineWith_5_2 C (wl_X0_lineWith_5_2  Q n) Q ih x1 x2 M h  H locs ls hH hl
def wp_X0_lineWith_5 (a1 : Int32) (M : fx_Mem) (Q : Int32 → fx_Mem → Prop) : Prop :=
  ∃ n2 : Nat, wl_X0_lineWith_5_2 Q n2 a1 0 M
set_option maxHeartbeats 4000000 in
set_option maxRecDepth 100000 in
theorem c_X0_lineWith_5 (l : Launch) {g : fx_Geo} (hG : fx_Gd g) (a1 : Int32) (M : fx_Mem) (Q : Int32 → fx_Mem → Prop) (h : wp_X0_lineWith_5 a1 M Q) : Met l yX0_lineWith (.code yX0_lineWith cX0_lineWith 4 (some .int) :: fx_U) rm_X0_lineWith_5 (va_Pc [.ref (fx_a g 5), .int a1] (fx_At g M)) (va_Qi Q (fx_Pw g) (fx_A g)) 0 0 (fx_A g) := by
  refine Met.ofW (cc := cX0_lineWith) (maxL := 4) (ret := (some .int)) (by decide +kernel) rfl ?_
  intro p e s m args below meth c s₁ B hml hv
  obtain ⟨rfl, hv⟩ := hv
  have hts := atoms_spec (ws := .code yX0_lineWith cX0_lineWith 4 (some .int) :: fx_U) B.pre
  obtain ⟨C, hH⟩ := fx_body (own := RX0) B hml rfl (fun w hw => hts w (List.mem_cons_of_mem _ hw)) hG hv
  replace hts := fun w hw => hts w (List.mem_cons_of_mem _ hw)
  obtain ⟨hx, hb, hr, -, hown, -, hlocks, hsz, hK, -, hSt⟩ := id C
  have hl := lv_entry ([.ref (fx_a g 5), .int a1]) (n := 4) (Nat.le_of_ble_eq_true rfl)
  rw [lg_entry_eq]
  generalize (lg_sl ([.ref (fx_a g 5), .int a1]) ++ List.replicate (4 - (lg_sl ([.ref (fx_a g 5), .int a1])).length) Slot.unset).toArray = ls at hl ⊢
  have hl : lv_has ls 4 [(0, .ref (fx_a g 5)), (1, .int a1)] := hl
  obtain ⟨H, eH⟩ : ∃ H : Heap, H = s.heap := ⟨_, rfl⟩
  obtain ⟨locs, elocs⟩ : ∃ q : List Loc, q = [] := ⟨_, rfl⟩
  rw [← eH, ← elocs] at hH
  show W p l e rm_X0_lineWith_5 s m _ below meth c s.heap [] 0 0 _ _
  rw [← eH, ← elocs]
  unfold wp_X0_lineWith_5 at h
  refine lv_iconst (v := 0) hx hb dX0_lineWith_0 (by decide) ?_
  refine lv_istore_n (lv' := [(2, .int 0), (0, .ref (fx_a g 5)), (1, .int a1)]) hx hb dX0_lineWith_1 rfl hl (by decide) rfl (fun ls hl => ?_)
  obtain ⟨n2, h⟩ := h
  exact tl_X0_lineWith_5_2 C Q  n2 a1 0 M h  H locs ls hH (lv_sub hl [1, 2, 0] rfl)
/-! FlexLayout.lineOf(I)I (0,) -/
def rm_X6_lineOf_0 : Room := { frames := 7, cells := 1, slots := 6, locals := 111 }
def wp_X6_lineOf_0 (a1 : Int32) (M : fx_Mem) (Q : Int32 → fx_Mem → Prop) (X : String → fx_Mem → Prop) : Prop :=
  wp_X6_requireItem_0 a1 M (fun M1 => wp_X0_arrange_5_1  M1 (fun M2 => wp_X0_lineWith_5 a1 M2 (fun r4 M3 => Q r4 M3))) X
set_option maxHeartbeats 4000000 in
set_option maxRecDepth 100000 in
theorem c_X6_lineOf_0 (l : Launch) {g : fx_Geo} (hG : fx_Gd g) (hfl0 : l.stackTraces = false) (a1 : Int32) (M : fx_Mem) (Q : Int32 → fx_Mem → Prop) (X : String → fx_Mem → Prop) (h : wp_X6_lineOf_0 a1 M Q X) : vx_Met l yX6_lineOf (.code yX6_lineOf cX6_lineOf 2 (some .int) :: fx_U) rm_X6_lineOf_0 (va_Pc [.ref (fx_a g 0), .int a1] (fx_At g M)) (va_Qi Q (fx_Pw g) (fx_A g)) (fx_XC g X) 1 6 (fx_A g) := by
  refine vx_ofW (cc := cX6_lineOf) (maxL := 2) (ret := (some .int)) (by decide +kernel) rfl ?_
  intro p e s m args below meth c s₁ B hml hex hv
  have hfl : fx_fl l c := ⟨hfl0, hex⟩
  obtain ⟨rfl, hv⟩ := hv
  have hts := atoms_spec (ws := .code yX6_lineOf cX6_lineOf 2 (some .int) :: fx_U) B.pre
  obtain ⟨C, hH⟩ := fx_body (own := RX6) B hml rfl (fun w hw => hts w (List.mem_cons_of_mem _ hw)) hG hv
  replace hts := fun w hw => hts w (List.mem_cons_of_mem _ hw)
  obtain ⟨hx, hb, hr, -, hown, -, hlocks, hsz, hK, -, hSt⟩ := id C
  have hl := lv_entry ([.ref (fx_a g 0), .int a1]) (n := 2) (Nat.le_of_ble_eq_true rfl)
  rw [lg_entry_eq]
  generalize (lg_sl ([.ref (fx_a g 0), .int a1]) ++ List.replicate (2 - (lg_sl ([.ref (fx_a g 0), .int a1])).length) Slot.unset).toArray = ls at hl ⊢
  have hl : lv_has ls 2 [(0, .ref (fx_a g 0)), (1, .int a1)] := hl
  obtain ⟨H, eH⟩ : ∃ H : Heap, H = s.heap := ⟨_, rfl⟩
  obtain ⟨locs, elocs⟩ : ∃ q : List Loc, q = [] := ⟨_, rfl⟩
  rw [← eH, ← elocs] at hH
  show W p l e rm_X6_lineOf_0 s m _ below meth c s.heap [] 0 0 _ _
  rw [← eH, ← elocs]
  unfold wp_X6_lineOf_0 at h
  refine lv_aload_n hx hb dX6_lineOf_0 rfl (lv_at hl 0 rfl) ?_
  refine lv_iload_n hx hb dX6_lineOf_1 rfl (lv_at hl 1 rfl) ?_
  refine fx_xcv (mc := 1) (ms := 6) C hfl hH (fx_xrunV (As := [.int a1]) (rest := []) C hH (c_X6_requireItem_0 l C.2.2.2.2.2.2.2.2.2.1 hfl.1 a1 M _ _ h) (fx_cwV 1 hts u_596 u_598 us_19 u_1 u_599 rfl rfl (by decide +kernel) ⟨(Nat.le_of_ble_eq_true rfl), (Nat.le_of_ble_eq_true rfl)⟩) (fx_w0 g M) rfl rfl hl.1 rfl (Nat.le_of_ble_eq_true rfl) dX6_lineOf_2 ⟨(Nat.le_of_ble_eq_true rfl), (Nat.le_of_ble_eq_true rfl)⟩) (fun E M9 hx9 => hx9) (Nat.le_of_ble_eq_true rfl) (Nat.le_of_ble_eq_true rfl) (fun M1 H locs h hH => ?_)
  refine lv_aload_n hx hb dX6_lineOf_5 rfl (lv_at hl 0 rfl) ?_
  refine fx_get C hH (fx_w0 g M1) rfl in_X6 5 (by decide) u_204 rfl rfl dX6_lineOf_6 ?_
  refine lv_aload_n hx hb dX6_lineOf_9 rfl (lv_at hl 0 rfl) ?_
  refine fx_get C hH (fx_w0 g M1) rfl in_X6 0 (by decide) u_199 rfl rfl dX6_lineOf_10 ?_
  refine fx_cv hH (fx_runV (As := [.ref (fx_a g 1)]) (rest := []) C hH (c_X0_arrange_5_1 l C.2.2.2.2.2.2.2.2.2.1  M1 _ h) (fx_cwV 1 hts u_232 u_233 u_234 u_5 u_235 rfl rfl (by decide +kernel) ⟨(Nat.le_of_ble_eq_true rfl), (Nat.le_of_ble_eq_true rfl)⟩) (fx_w5 g M1) rfl rfl hl.1 rfl (Nat.le_of_ble_eq_true rfl) dX6_lineOf_13 ⟨(Nat.le_of_ble_eq_true rfl), (Nat.le_of_ble_eq_true rfl)⟩) (fun M2 H locs h hH => ?_)
  refine lv_aload_n hx hb dX6_lineOf_16 rfl (lv_at hl 0 rfl) ?_
  refine fx_get C hH (fx_w0 g M2) rfl in_X6 5 (by decide) u_204 rfl rfl dX6_lineOf_17 ?_
  refine lv_iload_n hx hb dX6_lineOf_20 rfl (lv_at hl 1 rfl) ?_
  refine fx_ci hH (fx_runV (As := [.int a1]) (rest := []) C hH (c_X0_lineWith_5 l C.2.2.2.2.2.2.2.2.2.1 a1 M2 _ h) (fx_cwV 1 hts u_667 u_668 u_669 u_5 u_670 rfl rfl (by decide +kernel) ⟨(Nat.le_of_ble_eq_true rfl), (Nat.le_of_ble_eq_true rfl)⟩) (fx_w5 g M2) rfl rfl hl.1 rfl (Nat.le_of_ble_eq_true rfl) dX6_lineOf_21 ⟨(Nat.le_of_ble_eq_true rfl), (Nat.le_of_ble_eq_true rfl)⟩) (fun r4 M3 H locs h hH => ?_)
  refine vx_ret (W.widen (k := 1) (n := 6) (Nat.le_of_ble_eq_true rfl) (Nat.le_of_ble_eq_true rfl) ?_)
  exact fx_iret C hH h dX6_lineOf_24
/-! FlexLayout.itemAt(I)I (0,) -/
def rm_X6_itemAt_0 : Room := { frames := 6, cells := 1, slots := 6, locals := 90 }
def wp_X6_itemAt_0 (a1 : Int32) (M : fx_Mem) (Q : Int32 → fx_Mem → Prop) (X : String → fx_Mem → Prop) : Prop :=
  wp_X6_isWithin a1 0 ((M.1 70) - 1) M (fun r2 M1 => ((r2 = 0 → X "java/lang/IndexOutOfBoundsException" M1) ∧ (¬ r2 = 0 → wp_X0_putInSequence_5_1  M1 (fun M4 => vp_in a1 20 ∧ Q (M4.2.1 18 a1.toNatClampNeg) M4))))
set_option maxHeartbeats 4000000 in
set_option maxRecDepth 100000 in
theorem c_X6_itemAt_0 (l : Launch) {g : fx_Geo} (hG : fx_Gd g) (hfl0 : l.stackTraces = false) (a1 : Int32) (M : fx_Mem) (Q : Int32 → fx_Mem → Prop) (X : String → fx_Mem → Prop) (h : wp_X6_itemAt_0 a1 M Q X) : vx_Met l yX6_itemAt (.code yX6_itemAt cX6_itemAt 2 (some .int) :: fx_U) rm_X6_itemAt_0 (va_Pc [.ref (fx_a g 0), .int a1] (fx_At g M)) (va_Qi Q (fx_Pw g) (fx_A g)) (fx_XC g X) 1 6 (fx_A g) := by
  refine vx_ofW (cc := cX6_itemAt) (maxL := 2) (ret := (some .int)) (by decide +kernel) rfl ?_
  intro p e s m args below meth c s₁ B hml hex hv
  have hfl : fx_fl l c := ⟨hfl0, hex⟩
  obtain ⟨rfl, hv⟩ := hv
  have hts := atoms_spec (ws := .code yX6_itemAt cX6_itemAt 2 (some .int) :: fx_U) B.pre
  obtain ⟨C, hH⟩ := fx_body (own := RX6) B hml rfl (fun w hw => hts w (List.mem_cons_of_mem _ hw)) hG hv
  replace hts := fun w hw => hts w (List.mem_cons_of_mem _ hw)
  obtain ⟨hx, hb, hr, -, hown, -, hlocks, hsz, hK, -, hSt⟩ := id C
  have hl := lv_entry ([.ref (fx_a g 0), .int a1]) (n := 2) (Nat.le_of_ble_eq_true rfl)
  rw [lg_entry_eq]
  generalize (lg_sl ([.ref (fx_a g 0), .int a1]) ++ List.replicate (2 - (lg_sl ([.ref (fx_a g 0), .int a1])).length) Slot.unset).toArray = ls at hl ⊢
  have hl : lv_has ls 2 [(0, .ref (fx_a g 0)), (1, .int a1)] := hl
  obtain ⟨H, eH⟩ : ∃ H : Heap, H = s.heap := ⟨_, rfl⟩
  obtain ⟨locs, elocs⟩ : ∃ q : List Loc, q = [] := ⟨_, rfl⟩
  rw [← eH, ← elocs] at hH
  show W p l e rm_X6_itemAt_0 s m _ below meth c s.heap [] 0 0 _ _
  rw [← eH, ← elocs]
  unfold wp_X6_itemAt_0 at h
  refine lv_iload_n hx hb dX6_itemAt_0 rfl (lv_at hl 1 rfl) ?_
  refine lv_iconst (v := 0) hx hb dX6_itemAt_1 (by decide) ?_
  refine lv_aload_n hx hb dX6_itemAt_2 rfl (lv_at hl 0 rfl) ?_
  refine fx_get C hH (fx_w0 g M) rfl in_X6 0 (by decide) u_199 rfl rfl dX6_itemAt_3 ?_
  refine fx_get C hH (fx_w1 g M) rfl in_X1 6 (by decide) u_62 rfl rfl dX6_itemAt_6 ?_
  refine lv_iconst (v := 1) hx hb dX6_itemAt_9 (by decide) ?_
  refine lv_isub hx hb dX6_itemAt_10 ?_
  refine fx_ci hH (fx_runS (As := [.int a1, .int 0, .int ((M.1 70) - 1)]) (rest := []) C hH (c_X6_isWithin l C.2.2.2.2.2.2.2.2.2.1 a1 0 ((M.1 70) - 1) M _ h) (fx_cwS 3 hts u_405 u_406 u_1 u_407 rfl rfl (by decide +kernel) ⟨(Nat.le_of_ble_eq_true rfl), (Nat.le_of_ble_eq_true rfl)⟩) rfl hl.1 rfl (Nat.le_of_ble_eq_true rfl) dX6_itemAt_11 ⟨(Nat.le_of_ble_eq_true rfl), (Nat.le_of_ble_eq_true rfl)⟩) (fun r2 M1 H locs h hH => ?_)
  refine lv_if_ne (tgt := 27) hx hb dX6_itemAt_14 (by decide) (fun c3 => ?_) (fun c3 => ?_)
  · replace h := h.2 c3
    refine lv_aload_n hx hb dX6_itemAt_27 rfl (lv_at hl 0 rfl) ?_
    refine fx_get C hH (fx_w0 g M1) rfl in_X6 5 (by decide) u_204 rfl rfl dX6_itemAt_28 ?_
    refine lv_aload_n hx hb dX6_itemAt_31 rfl (lv_at hl 0 rfl) ?_
    refine fx_get C hH (fx_w0 g M1) rfl in_X6 0 (by decide) u_199 rfl rfl dX6_itemAt_32 ?_
    refine fx_cv hH (fx_runV (As := [.ref (fx_a g 1)]) (rest := []) C hH (c_X0_putInSequence_5_1 l C.2.2.2.2.2.2.2.2.2.1  M1 _ h) (fx_cwV 1 hts u_679 u_237 u_238 u_5 u_239 rfl rfl (by decide +kernel) ⟨(Nat.le_of_ble_eq_true rfl), (Nat.le_of_ble_eq_true rfl)⟩) (fx_w5 g M1) rfl rfl hl.1 rfl (Nat.le_of_ble_eq_true rfl) dX6_itemAt_35 ⟨(Nat.le_of_ble_eq_true rfl), (Nat.le_of_ble_eq_true rfl)⟩) (fun M4 H locs h hH => ?_)
    refine lv_aload_n hx hb dX6_itemAt_38 rfl (lv_at hl 0 rfl) ?_
    refine fx_get C hH (fx_w0 g M4) rfl in_X6 5 (by decide) u_204 rfl rfl dX6_itemAt_39 ?_
    refine fx_get C hH (fx_w5 g M4) rfl in_X0 0 (by decide) u_127 rfl rfl dX6_itemAt_42 ?_
    refine lv_iload_n hx hb dX6_itemAt_45 rfl (lv_at hl 1 rfl) ?_
    obtain ⟨hi5, h⟩ := h
    refine fx_iald (j := a1.toNatClampNeg) C hH 18 (fx_w18 g M4) rfl hi5 dX6_itemAt_46 ?_
    refine vx_ret (W.widen (k := 1) (n := 6) (Nat.le_of_ble_eq_true rfl) (Nat.le_of_ble_eq_true rfl) ?_)
    exact fx_iret C hH h dX6_itemAt_47
  · replace h := h.1 c3
    exact fx_throwS (text := "no such place") C hfl hH u_526 u_13 11 rfl at_90 (by decide +kernel) (by decide +kernel) (by decide +kernel) dX6_itemAt_17 dX6_itemAt_20 dX6_itemAt_21 dX6_itemAt_23 dX6_itemAt_26 (Nat.le_of_ble_eq_true rfl) (Nat.le_of_ble_eq_true rfl) (Nat.le_of_ble_eq_true rfl) (Nat.le_of_ble_eq_true rfl) hl.1 h (Nat.le_of_ble_eq_true rfl) (Nat.le_of_ble_eq_true rfl)
/-! FlexLayout.hypotheticalSize(I)I (0,) -/
def rm_X6_hypotheticalSize_0 : Room := { frames := 7, cells := 1, slots := 6, locals := 111 }
def wp_X6_hypotheticalSize_0 (a1 : Int32) (M : fx_Mem) (Q : Int32 → fx_Mem → Prop) (X : String → fx_Mem → Prop) : Prop :=
  wp_X6_requireItem_0 a1 M (fun M1 => wp_X1_hypothetical_1 a1 M1 (fun r3 M2 => Q r3 M2)) X
set_option maxHeartbeats 4000000 in
set_option maxRecDepth 100000 in
theorem c_X6_hypotheticalSize_0 (l : Launch) {g : fx_Geo} (hG : fx_Gd g) (hfl0 : l.stackTraces = false) (a1 : Int32) (M : fx_Mem) (Q : Int32 → fx_Mem → Prop) (X : String → fx_Mem → Prop) (h : wp_X6_hypotheticalSize_0 a1 M Q X) : vx_Met l yX6_hypotheticalSize (.code yX6_hypotheticalSize cX6_hypotheticalSize 2 (some .int) :: fx_U) rm_X6_hypotheticalSize_0 (va_Pc [.ref (fx_a g 0), .int a1] (fx_At g M)) (va_Qi Q (fx_Pw g) (fx_A g)) (fx_XC g X) 1 6 (fx_A g) := by
  refine vx_ofW (cc := cX6_hypotheticalSize) (maxL := 2) (ret := (some .int)) (by decide +kernel) rfl ?_
  intro p e s m args below meth c s₁ B hml hex hv
  have hfl : fx_fl l c := ⟨hfl0, hex⟩
  obtain ⟨rfl, hv⟩ := hv
  have hts := atoms_spec (ws := .code yX6_hypotheticalSize cX6_hypotheticalSize 2 (some .int) :: fx_U) B.pre
  obtain ⟨C, hH⟩ := fx_body (own := RX6) B hml rfl (fun w hw => hts w (List.mem_cons_of_mem _ hw)) hG hv
  replace hts := fun w hw => hts w (List.mem_cons_of_mem _ hw)
  obtain ⟨hx, hb, hr, -, hown, -, hlocks, hsz, hK, -, hSt⟩ := id C
  have hl := lv_entry ([.ref (fx_a g 0), .int a1]) (n := 2) (Nat.le_of_ble_eq_true rfl)
  rw [lg_entry_eq]
  generalize (lg_sl ([.ref (fx_a g 0), .int a1]) ++ List.replicate (2 - (lg_sl ([.ref (fx_a g 0), .int a1])).length) Slot.unset).toArray = ls at hl ⊢
  have hl : lv_has ls 2 [(0, .ref (fx_a g 0)), (1, .int a1)] := hl
  obtain ⟨H, eH⟩ : ∃ H : Heap, H = s.heap := ⟨_, rfl⟩
  obtain ⟨locs, elocs⟩ : ∃ q : List Loc, q = [] := ⟨_, rfl⟩
  rw [← eH, ← elocs] at hH
  show W p l e rm_X6_hypotheticalSize_0 s m _ below meth c s.heap [] 0 0 _ _
  rw [← eH, ← elocs]
  unfold wp_X6_hypotheticalSize_0 at h
  refine lv_aload_n hx hb dX6_hypotheticalSize_0 rfl (lv_at hl 0 rfl) ?_
  refine lv_iload_n hx hb dX6_hypotheticalSize_1 rfl (lv_at hl 1 rfl) ?_
  refine fx_xcv (mc := 1) (ms := 6) C hfl hH (fx_xrunV (As := [.int a1]) (rest := []) C hH (c_X6_requireItem_0 l C.2.2.2.2.2.2.2.2.2.1 hfl.1 a1 M _ _ h) (fx_cwV 1 hts u_596 u_598 us_19 u_1 u_599 rfl rfl (by decide +kernel) ⟨(Nat.le_of_ble_eq_true rfl), (Nat.le_of_ble_eq_true rfl)⟩) (fx_w0 g M) rfl rfl hl.1 rfl (Nat.le_of_ble_eq_true rfl) dX6_hypotheticalSize_2 ⟨(Nat.le_of_ble_eq_true rfl), (Nat.le_of_ble_eq_true rfl)⟩) (fun E M9 hx9 => hx9) (Nat.le_of_ble_eq_true rfl) (Nat.le_of_ble_eq_true rfl) (fun M1 H locs h hH => ?_)
  refine lv_aload_n hx hb dX6_hypotheticalSize_5 rfl (lv_at hl 0 rfl) ?_
  refine fx_get C hH (fx_w0 g M1) rfl in_X6 0 (by decide) u_199 rfl rfl dX6_hypotheticalSize_6 ?_
  refine lv_iload_n hx hb dX6_hypotheticalSize_9 rfl (lv_at hl 1 rfl) ?_
  refine fx_ci hH (fx_runV (As := [.int a1]) (rest := []) C hH (c_X1_hypothetical_1 l C.2.2.2.2.2.2.2.2.2.1 a1 M1 _ h) (fx_cwV 1 hts u_687 u_249 u_250 u_2 u_251 rfl rfl (by decide +kernel) ⟨(Nat.le_of_ble_eq_true rfl), (Nat.le_of_ble_eq_true rfl)⟩) (fx_w1 g M1) rfl rfl hl.1 rfl (Nat.le_of_ble_eq_true rfl) dX6_hypotheticalSize_10 ⟨(Nat.le_of_ble_eq_true rfl), (Nat.le_of_ble_eq_true rfl)⟩) (fun r3 M2 H locs h hH => ?_)
  refine vx_ret (W.widen (k := 1) (n := 6) (Nat.le_of_ble_eq_true rfl) (Nat.le_of_ble_eq_true rfl) ?_)
  exact fx_iret C hH h dX6_hypotheticalSize_13
/-! FlexLayout$Container.hasHorizontalMainAxis()Z (1,) -/
def rm_X1_hasHorizontalMainAxis_1 : Room := { frames := 0, cells := 0, slots := 0, locals := 0 }
def wp_X1_hasHorizontalMainAxis_1 (M : fx_Mem) (Q : Int32 → fx_Mem → Prop) : Prop :=
  ((2 ≤ M.2.1 10 0 → Q 0 M) ∧ (¬ 2 ≤ M.2.1 10 0 → Q 1 M))
set_option maxHeartbeats 4000000 in
set_option maxRecDepth 100000 in
theorem c_X1_hasHorizontalMainAxis_1 (l : Launch) {g : fx_Geo} (hG : fx_Gd g) (M : fx_Mem) (Q : Int32 → fx_Mem → Prop) (h : wp_X1_hasHorizontalMainAxis_1 M Q) : Met l yX1_hasHorizontalMainAxis (.code yX1_hasHorizontalMainAxis cX1_hasHorizontalMainAxis 1 (some .boolean) :: fx_U) rm_X1_hasHorizontalMainAxis_1 (va_Pc [.ref (fx_a g 1)] (fx_At g M)) (va_Qi Q (fx_Pw g) (fx_A g)) 0 0 (fx_A g) := by
  refine Met.ofW (cc := cX1_hasHorizontalMainAxis) (maxL := 1) (ret := (some .boolean)) (by decide +kernel) rfl ?_
  intro p e s m args below meth c s₁ B hml hv
  obtain ⟨rfl, hv⟩ := hv
  have hts := atoms_spec (ws := .code yX1_hasHorizontalMainAxis cX1_hasHorizontalMainAxis 1 (some .boolean) :: fx_U) B.pre
  obtain ⟨C, hH⟩ := fx_body (own := RX1) B hml rfl (fun w hw => hts w (List.mem_cons_of_mem _ hw)) hG hv
  replace hts := fun w hw => hts w (List.mem_cons_of_mem _ hw)
  obtain ⟨hx, hb, hr, -, hown, -, hlocks, hsz, hK, -, hSt⟩ := id C
  have hl := lv_entry ([.ref (fx_a g 1)]) (n := 1) (Nat.le_of_ble_eq_true rfl)
  rw [lg_entry_eq]
  generalize (lg_sl ([.ref (fx_a g 1)]) ++ List.replicate (1 - (lg_sl ([.ref (fx_a g 1)])).length) Slot.unset).toArray = ls at hl ⊢
  have hl : lv_has ls 1 [(0, .ref (fx_a g 1))] := hl
  obtain ⟨H, eH⟩ : ∃ H : Heap, H = s.heap := ⟨_, rfl⟩
  obtain ⟨locs, elocs⟩ : ∃ q : List Loc, q = [] := ⟨_, rfl⟩
  rw [← eH, ← elocs] at hH
  show W p l e rm_X1_hasHorizontalMainAxis_1 s m _ below meth c s.heap [] 0 0 _ _
  rw [← eH, ← elocs]
  unfold wp_X1_hasHorizontalMainAxis_1 at h
  refine lv_aload_n hx hb dX1_hasHorizontalMainAxis_0 rfl (lv_at hl 0 rfl) ?_
  refine fx_get C hH (fx_w1 g M) rfl in_X1 4 (by decide) u_51 rfl rfl dX1_hasHorizontalMainAxis_1 ?_
  refine lv_iconst (v := 0) hx hb dX1_hasHorizontalMainAxis_4 (by decide) ?_
  refine fx_iald (j := 0) C hH 10 (fx_w10 g M) (by decide) (by unfold vp_in; decide) dX1_hasHorizontalMainAxis_5 ?_
  refine lv_iconst (v := 2) hx hb dX1_hasHorizontalMainAxis_6 (by decide) ?_
  refine lv_icmp_ge (tgt := 14) hx hb dX1_hasHorizontalMainAxis_7 (by decide) (fun c1 => ?_) (fun c1 => ?_)
  · replace h := h.1 c1
    refine lv_iconst (v := 0) hx hb dX1_hasHorizontalMainAxis_14 (by decide) ?_
    exact fx_zret C hH (by decide) h dX1_hasHorizontalMainAxis_15
  · replace h := h.2 c1
    refine lv_iconst (v := 1) hx hb dX1_hasHorizontalMainAxis_10 (by decide) ?_
    refine lv_goto (tgt := 15) hx hb dX1_hasHorizontalMainAxis_11 (by decide) ?_
    exact fx_zret C hH (by decide) h dX1_hasHorizontalMainAxis_15
/-! FlexLayout$MainAxis.isFrozen(LFlexLayout$Arrangement;I)Z (6, 5) -/
def rm_X5_isFrozen_6_5 : Room := { frames := 0, cells := 0, slots := 0, locals := 0 }
def wb_X5_isFrozen_6_5_7 (k7 : Int32 → Int32 → fx_Mem → Prop) (Q : Int32 → fx_Mem → Prop) (x2 : Int32) (x3 : Int32) (M : fx_Mem) : Prop :=
  vp_in (x2 + 1) 21 ∧ ((M.2.1 19 ((x2 + 1).toNatClampNeg) ≤ x3 → Q 1 M) ∧ (¬ M.2.1 19 ((x2 + 1).toNatClampNeg) ≤ x3 → vp_in x3 20 ∧ vp_in (M.2.1 18 x3.toNatClampNeg) 20 ∧ ((M.2.1 25 ((M.2.1 18 x3.toNatClampNeg).toNatClampNeg) = 0 → Q 0 M) ∧ (¬ M.2.1 25 ((M.2.1 18 x3.toNatClampNeg).toNatClampNeg) = 0 → ∀ v6 : Int32, v6 = x3 + 1 → k7 x2 v6 M))))
set_option maxHeartbeats 4000000 in
set_option maxRecDepth 100000 in
theorem tb_X5_isFrozen_6_5_7 {g : fx_Geo} {p : Program} {l : Launch} {e : Env} {s : State} {m : MethodId} {args : Array Value} {below : List Frame} {meth : Method} {c : Code} (C : fx_Cx g p s m args meth c RX5 cX5_isFrozen 4 (some .boolean)) (k7 : Int32 → Int32 → fx_Mem → Prop) (Q : Int32 → fx_Mem → Prop) (hk7 : ∀ (x2 : Int32) (x3 : Int32) (M : fx_Mem), k7 x2 x3 M → ∀ (H : Heap) (locs : List Loc) (ls : Array Slot), fx_H g s M H locs → lv_has ls 4 [(0, .ref (fx_a g 6)), (1, .ref (fx_a g 5)), (2, .int x2), (3, .int x3)] → W p l e rm_X5_isFrozen_6_5 s m args below meth c H locs 0 0 (MQ below (va_Qi Q (fx_Pw g) (fx_A g)) args s 0 0 (fx_A g)) (F0 m 7 ls [])) (x2 : Int32) (x3 : Int32) (M : fx_Mem) (h : wb_X5_isFrozen_6_5_7 k7 Q x2 x3 M) (H : Heap) (locs : List Loc) (ls : Array Slot) (hH : fx_H g s M H locs) (hl : lv_has ls 4 [(0, .ref (fx_a g 6)), (1, .ref (fx_a g 5)), (2, .int x2), (3, .int x3)]) : W p l e rm_X5_isFrozen_6_5 s m args below meth c H locs 0 0 (MQ below (va_Qi Q (fx_Pw g) (fx_A g)) args s 0 0 (fx_A g)) (F0 m 7 ls []) := by
  obtain ⟨hx, hb, hr, hml, hown, hts, hlocks, hsz, hK, hG, hSt⟩ := id C
  unfold wb_X5_isFrozen_6_5_7 at h
  refine lv_iload_n hx hb dX5_isFrozen_7 rfl (lv_at hl 3 rfl) ?_
  refine lv_aload_n hx hb dX5_isFrozen_8 rfl (lv_at hl 1 rfl) ?_
  refine fx_get C hH (fx_w5 g M) rfl in_X0 1 (by decide) u_130 rfl rfl dX5_isFrozen_9 ?_
  refine lv_iload_n hx hb dX5_isFrozen_12 rfl (lv_at hl 2 rfl) ?_
  refine lv_iconst (v := 1) hx hb dX5_isFrozen_13 (by decide) ?_
  refine lv_iadd hx hb dX5_isFrozen_14 ?_
  obtain ⟨hi1, h⟩ := h
  refine fx_iald (j := (x2 + 1).toNatClampNeg) C hH 19 (fx_w19 g M) rfl hi1 dX5_isFrozen_15 ?_
  refine lv_icmp_ge (tgt := 41) hx hb dX5_isFrozen_16 (by decide) (fun c2 => ?_) (fun c2 => ?_)
  · replace h := h.1 c2
    refine lv_iconst (v := 1) hx hb dX5_isFrozen_41 (by decide) ?_
    exact fx_zret C hH (by decide) h dX5_isFrozen_42
  · replace h := h.2 c2
    refine lv_aload_n hx hb dX5_isFrozen_19 rfl (lv_at hl 0 rfl) ?_
    refine fx_get C hH (fx_w6 g M) rfl in_X5 5 (by decide) u_157 rfl rfl dX5_isFrozen_20 ?_
    refine lv_aload_n hx hb dX5_isFrozen_23 rfl (lv_at hl 1 rfl) ?_
    refine fx_get C hH (fx_w5 g M) rfl in_X0 0 (by decide) u_126 rfl rfl dX5_isFrozen_24 ?_
    refine lv_iload_n hx hb dX5_isFrozen_27 rfl (lv_at hl 3 rfl) ?_
    obtain ⟨hi3, h⟩ := h
    refine fx_iald (j := x3.toNatClampNeg) C hH 18 (fx_w18 g M) rfl hi3 dX5_isFrozen_28 ?_
    obtain ⟨hi4, h⟩ := h
    refine fx_zald (j := (M.2.1 18 x3.toNatClampNeg).toNatClampNeg) C hH 25 (fx_w25 g M) rfl hi4 dX5_isFrozen_29 ?_
    refine lv_if_ne (tgt := 35) hx hb dX5_isFrozen_30 (by decide) (fun c5 => ?_) (fun c5 => ?_)
    · replace h := h.2 c5
      obtain ⟨v6, ev6⟩ : ∃ z : Int32, z = x3 + 1 := ⟨_, rfl⟩
      refine lv_iinc (v := v6) (lv' := [(3, .int v6), (0, .ref (fx_a g 6)), (1, .ref (fx_a g 5)), (2, .int x2)]) hx hb dX5_isFrozen_35 hl (k := 3) rfl (by rw [ev6]; rfl) (by decide) rfl (fun ls hl => ?_)
      replace h := h v6 ev6
      refine lv_goto (tgt := 7) hx hb dX5_isFrozen_38 (by decide) ?_
      exact hk7 x2 v6 M h  H locs ls hH (lv_sub hl [1, 2, 3, 0] rfl)
    · replace h := h.1 c5
      refine lv_iconst (v := 0) hx hb dX5_isFrozen_33 (by decide) ?_
      exact fx_zret C hH (by decide) h dX5_isFrozen_34
def wl_X5_isFrozen_6_5_7 (Q : Int32 → fx_Mem → Prop) (n : Nat) (x2 : Int32) (x3 : Int32) (M : fx_Mem) : Prop :=
  fx_lp (α := Int32 × Int32 × fx_Mem) (fun k a => wb_X5_isFrozen_6_5_7 (fun x2 x3 M => k (x2, x3, M)) Q a.1 a.2.1 a.2.2) n (x2, x3, M)
set_option maxHeartbeats 4000000 in
theorem tl_X5_isFrozen_6_5_7 {g : fx_Geo} {p : Program} {l : Launch} {e : Env} {s : State} {m : MethodId} {args : Array Value} {below : List Frame} {meth : Method} {c : Code} (C : fx_Cx g p s m args meth c RX5 cX5_isFrozen 4 (some .boolean)) (Q : Int32 → fx_Mem → Prop) : ∀ (n : Nat) (x2 : Int32) (x3 : Int32) (M : fx_Mem), wl_X5_isFrozen_6_5_7  Q n x2 x3 M → ∀ (H : Heap) (locs : List Loc) (ls : Array Slot), fx_H g s M H locs → lv_has ls 4 [(0, .ref (fx_a g 6)), (1, .ref (fx_a g 5)), (2, .int x2), (3, .int x3)] → W p l e rm_X5_isFrozen_6_5 s m args below meth c H locs 0 0 (MQ below (va_Qi Q (fx_Pw g) (fx_A g)) args s 0 0 (fx_A g)) (F0 m 7 ls []) := by
  intro n
  induction n with
  | zero => intro x2 x3 M h; exact False.elim h
  | succ n ih => intro x2 x3 M h  H locs ls hH hl; exact tb_X5_isFrozen_6_5_7 C (wl_X5_isFrozen_6_5_7  Q n) Q ih x2 x3 M h  H locs ls hH hl
def wp_X5_isFrozen_6_5 (a2 : Int32) (M : fx_Mem) (Q : Int32 → fx_Mem → Prop) : Prop :=
  vp_in a2 21 ∧ ∀ v2 : Int32, v2 = M.2.1 19 a2.toNatClampNeg → ∃ n7 : Nat, wl_X5_isFrozen_6_5_7 Q n7 a2 v2 M
set_option maxHeartbeats 4000000 in
set_option maxRecDepth 100000 in
theorem c_X5_isFrozen_6_5 (l : Launch) {g : fx_Geo} (hG : fx_Gd g) (a2 : Int32) (M : fx_Mem) (Q : Int32 → fx_Mem → Prop) (h : wp_X5_isFrozen_6_5 a2 M Q) : Met l yX5_isFrozen (.code yX5_isFrozen cX5_isFrozen 4 (some .boolean) :: fx_U) rm_X5_isFrozen_6_5 (va_Pc [.ref (fx_a g 6), .ref (fx_a g 5), .int a2] (fx_At g M)) (va_Qi Q (fx_Pw g) (fx_A g)) 0 0 (fx_A g) := by
  refine Met.ofW (cc := cX5_isFrozen) (maxL := 4) (ret := (some .boolean)) (by decide +kernel) rfl ?_
  intro p e s m args below meth c s₁ B hml hv
  obtain ⟨rfl, hv⟩ := hv
  have hts := atoms_spec (ws := .code yX5_isFrozen cX5_isFrozen 4 (some .boolean) :: fx_U) B.pre
  obtain ⟨C, hH⟩ := fx_body (own := RX5) B hml rfl (fun w hw => hts w (List.mem_cons_of_mem _ hw)) hG hv
  replace hts := fun w hw => hts w (List.mem_cons_of_mem _ hw)
  obtain ⟨hx, hb, hr, -, hown, -, hlocks, hsz, hK, -, hSt⟩ := id C
  have hl := lv_entry ([.ref (fx_a g 6), .ref (fx_a g 5), .int a2]) (n := 4) (Nat.le_of_ble_eq_true rfl)
  rw [lg_entry_eq]
  generalize (lg_sl ([.ref (fx_a g 6), .ref (fx_a g 5), .int a2]) ++ List.replicate (4 - (lg_sl ([.ref (fx_a g 6), .ref (fx_a g 5), .int a2])).length) Slot.unset).toArray = ls at hl ⊢
  have hl : lv_has ls 4 [(0, .ref (fx_a g 6)), (1, .ref (fx_a g 5)), (2, .int a2)] := hl
  obtain ⟨H, eH⟩ : ∃ H : Heap, H = s.heap := ⟨_, rfl⟩
  obtain ⟨locs, elocs⟩ : ∃ q : List Loc, q = [] := ⟨_, rfl⟩
  rw [← eH, ← elocs] at hH
  show W p l e rm_X5_isFrozen_6_5 s m _ below meth c s.heap [] 0 0 _ _
  rw [← eH, ← elocs]
  unfold wp_X5_isFrozen_6_5 at h
  refine lv_aload_n hx hb dX5_isFrozen_0 rfl (lv_at hl 1 rfl) ?_
  refine fx_get C hH (fx_w5 g M) rfl in_X0 1 (by decide) u_130 rfl rfl dX5_isFrozen_1 ?_
  refine lv_iload_n hx hb dX5_isFrozen_4 rfl (lv_at hl 2 rfl) ?_
  obtain ⟨hi1, h⟩ := h
  refine fx_iald (j := a2.toNatClampNeg) C hH 19 (fx_w19 g M) rfl hi1 dX5_isFrozen_5 ?_
  refine lv_topi (fun v2 ev2 => ?_)
  replace h := h v2 ev2
  refine lv_istore_n (lv' := [(3, .int v2), (0, .ref (fx_a g 6)), (1, .ref (fx_a g 5)), (2, .int a2)]) hx hb dX5_isFrozen_6 rfl hl (by decide) rfl (fun ls hl => ?_)
  obtain ⟨n7, h⟩ := h
  exact tl_X5_isFrozen_6_5_7 C Q  n7 a2 v2 M h  H locs ls hH (lv_sub hl [1, 2, 3, 0] rfl)
/-! FlexLayout$Arrangement.available(LFlexLayout$Container;I)I (5, 1) -/
def rm_X0_available_5_1 : Room := { frames := 0, cells := 0, slots := 0, locals := 0 }
def wp_X0_available_5_1 (a2 : Int32) (M : fx_Mem) (Q : Int32 → fx_Mem → Prop) : Prop :=
  vp_in (a2 + 1) 21 ∧ vp_in a2 21 ∧ Q ((M.1 64) - ((M.1 66) * (((M.2.1 19 ((a2 + 1).toNatClampNeg)) - (M.2.1 19 a2.toNatClampNeg)) - 1))) M
set_option maxHeartbeats 4000000 in
set_option maxRecDepth 100000 in
theorem c_X0_available_5_1 (l : Launch) {g : fx_Geo} (hG : fx_Gd g) (a2 : Int32) (M : fx_Mem) (Q : Int32 → fx_Mem → Prop) (h : wp_X0_available_5_1 a2 M Q) : Met l yX0_available (.code yX0_available cX0_available 3 (some .int) :: fx_U) rm_X0_available_5_1 (va_Pc [.ref (fx_a g 5), .ref (fx_a g 1), .int a2] (fx_At g M)) (va_Qi Q (fx_Pw g) (fx_A g)) 0 0 (fx_A g) := by
  refine Met.ofW (cc := cX0_available) (maxL := 3) (ret := (some .int)) (by decide +kernel) rfl ?_
  intro p e s m args below meth c s₁ B hml hv
  obtain ⟨rfl, hv⟩ := hv
  have hts := atoms_spec (ws := .code yX0_available cX0_available 3 (some .int) :: fx_U) B.pre
  obtain ⟨C, hH⟩ := fx_body (own := RX0) B hml rfl (fun w hw => hts w (List.mem_cons_of_mem _ hw)) hG hv
  replace hts := fun w hw => hts w (List.mem_cons_of_mem _ hw)
  obtain ⟨hx, hb, hr, -, hown, -, hlocks, hsz, hK, -, hSt⟩ := id C
  have hl := lv_entry ([.ref (fx_a g 5), .ref (fx_a g 1), .int a2]) (n := 3) (Nat.le_of_ble_eq_true rfl)
  rw [lg_entry_eq]
  generalize (lg_sl ([.ref (fx_a g 5), .ref (fx_a g 1), .int a2]) ++ List.replicate (3 - (lg_sl ([.ref (fx_a g 5), .ref (fx_a g 1), .int a2])).length) Slot.unset).toArray = ls at hl ⊢
  have hl : lv_has ls 3 [(0, .ref (fx_a g 5)), (1, .ref (fx_a g 1)), (2, .int a2)] := hl
  obtain ⟨H, eH⟩ : ∃ H : Heap, H = s.heap := ⟨_, rfl⟩
  obtain ⟨locs, elocs⟩ : ∃ q : List Loc, q = [] := ⟨_, rfl⟩
  rw [← eH, ← elocs] at hH
  show W p l e rm_X0_available_5_1 s m _ below meth c s.heap [] 0 0 _ _
  rw [← eH, ← elocs]
  unfold wp_X0_available_5_1 at h
  refine lv_aload_n hx hb dX0_available_0 rfl (lv_at hl 1 rfl) ?_
  refine fx_get C hH (fx_w1 g M) rfl in_X1 0 (by decide) u_38 rfl rfl dX0_available_1 ?_
  refine lv_aload_n hx hb dX0_available_4 rfl (lv_at hl 1 rfl) ?_
  refine fx_get C hH (fx_w1 g M) rfl in_X1 2 (by decide) u_45 rfl rfl dX0_available_5 ?_
  refine lv_aload_n hx hb dX0_available_8 rfl (lv_at hl 0 rfl) ?_
  refine fx_get C hH (fx_w5 g M) rfl in_X0 1 (by decide) u_128 rfl rfl dX0_available_9 ?_
  refine lv_iload_n hx hb dX0_available_12 rfl (lv_at hl 2 rfl) ?_
  refine lv_iconst (v := 1) hx hb dX0_available_13 (by decide) ?_
  refine lv_iadd hx hb dX0_available_14 ?_
  obtain ⟨hi1, h⟩ := h
  refine fx_iald (j := (a2 + 1).toNatClampNeg) C hH 19 (fx_w19 g M) rfl hi1 dX0_available_15 ?_
  refine lv_aload_n hx hb dX0_available_16 rfl (lv_at hl 0 rfl) ?_
  refine fx_get C hH (fx_w5 g M) rfl in_X0 1 (by decide) u_128 rfl rfl dX0_available_17 ?_
  refine lv_iload_n hx hb dX0_available_20 rfl (lv_at hl 2 rfl) ?_
  obtain ⟨hi2, h⟩ := h
  refine fx_iald (j := a2.toNatClampNeg) C hH 19 (fx_w19 g M) rfl hi2 dX0_available_21 ?_
  refine lv_isub hx hb dX0_available_22 ?_
  refine lv_iconst (v := 1) hx hb dX0_available_23 (by decide) ?_
  refine lv_isub hx hb dX0_available_24 ?_
  refine lv_imul hx hb dX0_available_25 ?_
  refine lv_isub hx hb dX0_available_26 ?_
  exact fx_iret C hH h dX0_available_27
/-! FlexLayout$MainAxis.spaceLeft(LFlexLayout$Container;LFlexLayout$Arrangement;I)I (6, 1, 5) -/
def rm_X5_spaceLeft_6_1_5 : Room := { frames := 1, cells := 0, slots := 0, locals := 22 }
def wb_X5_spaceLeft_6_1_5_69 (k16 : Int32 → Int32 → Int32 → fx_Mem → Prop) (Q : Int32 → fx_Mem → Prop) (x3 : Int32) (x5 : Int32) (s0 : Int32) (s1 : Int32) (M : fx_Mem) : Prop :=
  ∀ v1 : Int32, v1 = s1 - s0 → ∀ v2 : Int32, v2 = x5 + 1 → k16 x3 v1 v2 M
set_option maxHeartbeats 4000000 in
set_option maxRecDepth 100000 in
theorem tb_X5_spaceLeft_6_1_5_69 {g : fx_Geo} {p : Program} {l : Launch} {e : Env} {s : State} {m : MethodId} {args : Array Value} {below : List Frame} {meth : Method} {c : Code} (C : fx_Cx g p s m args meth c RX5 cX5_spaceLeft 7 (some .int)) (k16 : Int32 → Int32 → Int32 → fx_Mem → Prop) (Q : Int32 → fx_Mem → Prop) (hk16 : ∀ (x3 : Int32) (x4 : Int32) (x5 : Int32) (M : fx_Mem), k16 x3 x4 x5 M → ∀ (H : Heap) (locs : List Loc) (ls : Array Slot), fx_H g s M H locs → lv_has ls 7 [(0, .ref (fx_a g 6)), (1, .ref (fx_a g 1)), (2, .ref (fx_a g 5)), (3, .int x3), (4, .int x4), (5, .int x5)] → W p l e rm_X5_spaceLeft_6_1_5 s m args below meth c H locs 0 0 (MQ below (va_Qi Q (fx_Pw g) (fx_A g)) args s 0 0 (fx_A g)) (F0 m 16 ls [])) (x3 : Int32) (x5 : Int32) (s0 : Int32) (s1 : Int32) (M : fx_Mem) (h : wb_X5_spaceLeft_6_1_5_69 k16 Q x3 x5 s0 s1 M) (H : Heap) (locs : List Loc) (ls : Array Slot) (hH : fx_H g s M H locs) (hl : lv_has ls 7 [(0, .ref (fx_a g 6)), (1, .ref (fx_a g 1)), (2, .ref (fx_a g 5)), (3, .int x3), (5, .int x5)]) : W p l e rm_X5_spaceLeft_6_1_5 s m args below meth c H locs 0 0 (MQ below (va_Qi Q (fx_Pw g) (fx_A g)) args s 0 0 (fx_A g)) (F0 m 69 ls [.int s0, .int s1]) := by
  obtain ⟨hx, hb, hr, hml, hown, hts, hlocks, hsz, hK, hG, hSt⟩ := id C
  unfold wb_X5_spaceLeft_6_1_5_69 at h
  refine lv_isub hx hb dX5_spaceLeft_69 ?_
  refine lv_topi (fun v1 ev1 => ?_)
  replace h := h v1 ev1
  refine lv_istore (lv' := [(4, .int v1), (0, .ref (fx_a g 6)), (1, .ref (fx_a g 1)), (2, .ref (fx_a g 5)), (3, .int x3), (5, .int x5)]) hx hb dX5_spaceLeft_70 hl (by decide) rfl (fun ls hl => ?_)
  obtain ⟨v2, ev2⟩ : ∃ z : Int32, z = x5 + 1 := ⟨_, rfl⟩
  refine lv_iinc (v := v2) (lv' := [(5, .int v2), (4, .int v1), (0, .ref (fx_a g 6)), (1, .ref (fx_a g 1)), (2, .ref (fx_a g 5)), (3, .int x3)]) hx hb dX5_spaceLeft_72 hl (k := 5) rfl (by rw [ev2]; rfl) (by decide) rfl (fun ls hl => ?_)
  replace h := h v2 ev2
  refine lv_goto (tgt := 16) hx hb dX5_spaceLeft_75 (by decide) ?_
  exact hk16 x3 v1 v2 M h  H locs ls hH (lv_sub hl [2, 3, 4, 5, 1, 0] rfl)
def wb_X5_spaceLeft_6_1_5_16 (k16 : Int32 → Int32 → Int32 → fx_Mem → Prop) (Q : Int32 → fx_Mem → Prop) (x3 : Int32) (x4 : Int32) (x5 : Int32) (M : fx_Mem) : Prop :=
  vp_in (x3 + 1) 21 ∧ ((M.2.1 19 ((x3 + 1).toNatClampNeg) ≤ x5 → Q x4 M) ∧ (¬ M.2.1 19 ((x3 + 1).toNatClampNeg) ≤ x5 → vp_in x5 20 ∧ ∀ v4 : Int32, v4 = M.2.1 18 x5.toNatClampNeg → vp_in v4 20 ∧ ((M.2.1 25 v4.toNatClampNeg = 0 → vp_in v4 20 ∧ wb_X5_spaceLeft_6_1_5_69 k16 Q x3 x5 (M.2.1 (57 + v4.toNatClampNeg) 0) x4 M) ∧ (¬ M.2.1 25 v4.toNatClampNeg = 0 → vp_in v4 20 ∧ wb_X5_spaceLeft_6_1_5_69 k16 Q x3 x5 (M.2.1 20 v4.toNatClampNeg) x4 M))))
set_option maxHeartbeats 4000000 in
set_option maxRecDepth 100000 in
theorem tb_X5_spaceLeft_6_1_5_16 {g : fx_Geo} {p : Program} {l : Launch} {e : Env} {s : State} {m : MethodId} {args : Array Value} {below : List Frame} {meth : Method} {c : Code} (C : fx_Cx g p s m args meth c RX5 cX5_spaceLeft 7 (some .int)) (k16 : Int32 → Int32 → Int32 → fx_Mem → Prop) (Q : Int32 → fx_Mem → Prop) (hk16 : ∀ (x3 : Int32) (x4 : Int32) (x5 : Int32) (M : fx_Mem), k16 x3 x4 x5 M → ∀ (H : Heap) (locs : List Loc) (ls : Array Slot), fx_H g s M H locs → lv_has ls 7 [(0, .ref (fx_a g 6)), (1, .ref (fx_a g 1)), (2, .ref (fx_a g 5)), (3, .int x3), (4, .int x4), (5, .int x5)] → W p l e rm_X5_spaceLeft_6_1_5 s m args below meth c H locs 0 0 (MQ below (va_Qi Q (fx_Pw g) (fx_A g)) args s 0 0 (fx_A g)) (F0 m 16 ls [])) (x3 : Int32) (x4 : Int32) (x5 : Int32) (M : fx_Mem) (h : wb_X5_spaceLeft_6_1_5_16 k16 Q x3 x4 x5 M) (H : Heap) (locs : List Loc) (ls : Array Slot) (hH : fx_H g s M H locs) (hl : lv_has ls 7 [(0, .ref (fx_a g 6)), (1, .ref (fx_a g 1)), (2, .ref (fx_a g 5)), (3, .int x3), (4, .int x4), (5, .int x5)]) : W p l e rm_X5_spaceLeft_6_1_5 s m args below meth c H locs 0 0 (MQ below (va_Qi Q (fx_Pw g) (fx_A g)) args s 0 0 (fx_A g)) (F0 m 16 ls []) := by
  obtain ⟨hx, hb, hr, hml, hown, hts, hlocks, hsz, hK, hG, hSt⟩ := id C
  unfold wb_X5_spaceLeft_6_1_5_16 at h
  refine lv_iload hx hb dX5_spaceLeft_16 (lv_at hl 5 rfl) ?_
  refine lv_aload_n hx hb dX5_spaceLeft_18 rfl (lv_at hl 2 rfl) ?_
  refine fx_get C hH (fx_w5 g M) rfl in_X0 1 (by decide) u_130 rfl rfl dX5_spaceLeft_19 ?_
  refine lv_iload_n hx hb dX5_spaceLeft_22 rfl (lv_at hl 3 rfl) ?_
  refine lv_iconst (v := 1) hx hb dX5_spaceLeft_23 (by decide) ?_
  refine lv_iadd hx hb dX5_spaceLeft_24 ?_
  obtain ⟨hi1, h⟩ := h
  refine fx_iald (j := (x3 + 1).toNatClampNeg) C hH 19 (fx_w19 g M) rfl hi1 dX5_spaceLeft_25 ?_
  refine lv_icmp_ge (tgt := 78) hx hb dX5_spaceLeft_26 (by decide) (fun c2 => ?_) (fun c2 => ?_)
  · replace h := h.1 c2
    refine lv_iload hx hb dX5_spaceLeft_78 (lv_at hl 4 rfl) ?_
    exact fx_iret C hH h dX5_spaceLeft_80
  · replace h := h.2 c2
    refine lv_aload_n hx hb dX5_spaceLeft_29 rfl (lv_at hl 2 rfl) ?_
    refine fx_get C hH (fx_w5 g M) rfl in_X0 0 (by decide) u_126 rfl rfl dX5_spaceLeft_30 ?_
    refine lv_iload hx hb dX5_spaceLeft_33 (lv_at hl 5 rfl) ?_
    obtain ⟨hi3, h⟩ := h
    refine fx_iald (j := x5.toNatClampNeg) C hH 18 (fx_w18 g M) rfl hi3 dX5_spaceLeft_35 ?_
    refine lv_topi (fun v4 ev4 => ?_)
    replace h := h v4 ev4
    refine lv_istore (lv' := [(6, .int v4), (0, .ref (fx_a g 6)), (1, .ref (fx_a g 1)), (2, .ref (fx_a g 5)), (3, .int x3), (4, .int x4), (5, .int x5)]) hx hb dX5_spaceLeft_36 hl (by decide) rfl (fun ls hl => ?_)
    refine lv_iload hx hb dX5_spaceLeft_38 (lv_at hl 5 rfl) ?_
    refine lv_aload_n hx hb dX5_spaceLeft_40 rfl (lv_at hl 1 rfl) ?_
    refine fx_get C hH (fx_w6 g M) rfl in_X5 5 (by decide) u_157 rfl rfl dX5_spaceLeft_41 ?_
    refine lv_iload hx hb dX5_spaceLeft_44 (lv_at hl 0 rfl) ?_
    obtain ⟨hi5, h⟩ := h
    refine fx_zald (j := v4.toNatClampNeg) C hH 25 (fx_w25 g M) rfl hi5 dX5_spaceLeft_46 ?_
    refine lv_if_eq (tgt := 60) hx hb dX5_spaceLeft_47 (by decide) (fun c6 => ?_) (fun c6 => ?_)
    · replace h := h.1 c6
      refine lv_aload_n hx hb dX5_spaceLeft_60 rfl (lv_at hl 2 rfl) ?_
      refine fx_get C hH (fx_w1 g M) rfl in_X1 5 (by decide) u_58 rfl rfl dX5_spaceLeft_61 ?_
      refine lv_iload hx hb dX5_spaceLeft_64 (lv_at hl 0 rfl) ?_
      obtain ⟨hi7, h⟩ := h
      have hj8 : v4.toNatClampNeg < 20 := Nat.not_le.mp fun q => hi7 (Or.inr q)
      refine fx_aald C hH 11 (fx_w11 g M) hi7 dX5_spaceLeft_66 ?_
      refine lv_iconst (v := 0) hx hb dX5_spaceLeft_67 (by decide) ?_
      refine fx_iald (j := 0) C hH (57 + v4.toNatClampNeg) (fx_r1 g M v4.toNatClampNeg hj8) (by decide) (by unfold vp_in; decide) dX5_spaceLeft_68 ?_
      exact tb_X5_spaceLeft_6_1_5_69 C k16 Q hk16 x3 x5 (M.2.1 (57 + v4.toNatClampNeg) 0) x4 M h  H locs ls hH (lv_sub hl [1, 2, 3, 4, 6] rfl)
    · replace h := h.2 c6
      refine lv_aload_n hx hb dX5_spaceLeft_50 rfl (lv_at hl 1 rfl) ?_
      refine fx_get C hH (fx_w6 g M) rfl in_X5 0 (by decide) u_148 rfl rfl dX5_spaceLeft_51 ?_
      refine lv_iload hx hb dX5_spaceLeft_54 (lv_at hl 0 rfl) ?_
      obtain ⟨hi9, h⟩ := h
      refine fx_iald (j := v4.toNatClampNeg) C hH 20 (fx_w20 g M) rfl hi9 dX5_spaceLeft_56 ?_
      refine lv_goto (tgt := 69) hx hb dX5_spaceLeft_57 (by decide) ?_
      exact tb_X5_spaceLeft_6_1_5_69 C k16 Q hk16 x3 x5 (M.2.1 20 v4.toNatClampNeg) x4 M h  H locs ls hH (lv_sub hl [1, 2, 3, 4, 6] rfl)
def wl_X5_spaceLeft_6_1_5_16 (Q : Int32 → fx_Mem → Prop) (n : Nat) (x3 : Int32) (x4 : Int32) (x5 : Int32) (M : fx_Mem) : Prop :=
  fx_lp (α := Int32 × Int32 × Int32 × fx_Mem) (fun k a => wb_X5_spaceLeft_6_1_5_16 (fun x3 x4 x5 M => k (x3, x4, x5, M)) Q a.1 a.2.1 a.2.2.1 a.2.2.2) n (x3, x4, x5, M)
set_option maxHeartbeats 4000000 in
theorem tl_X5_spaceLeft_6_1_5_16 {g : fx_Geo} {p : Program} {l : Launch} {e : Env} {s : State} {m : MethodId} {args : Array Value} {below : List Frame} {meth : Method} {c : Code} (C : fx_Cx g p s m args meth c RX5 cX5_spaceLeft 7 (some .int)) (Q : Int32 → fx_Mem → Prop) : ∀ (n : Nat) (x3 : Int32) (x4 : Int32) (x5 : Int32) (M : fx_Mem), wl_X5_spaceLeft_6_1_5_16  Q n x3 x4 x5 M → ∀ (H : Heap) (locs : List Loc) (ls : Array Slot), fx_H g s M H locs → lv_has ls 7 [(0, .ref (fx_a g 6)), (1, .ref (fx_a g 1)), (2, .ref (fx_a g 5)), (3, .int x3), (4, .int x4), (5, .int x5)] → W p l e rm_X5_spaceLeft_6_1_5 s m args below meth c H locs 0 0 (MQ below (va_Qi Q (fx_Pw g) (fx_A g)) args s 0 0 (fx_A g)) (F0 m 16 ls []) := by
  intro n
  induction n with
  | zero => intro x3 x4 x5 M h; exact False.elim h
  | succ n ih => intro x3 x4 x5 M h  H locs ls hH hl; exact tb_X5_spaceLeft_6_1_5_16 C (wl_X5_spaceLeft_6_1_5_16  Q n) Q ih x3 x4 x5 M h  H locs ls hH hl
def wp_X5_spaceLeft_6_1_5 (a3 : Int32) (M : fx_Mem) (Q : Int32 → fx_Mem → Prop) : Prop :=
  wp_X0_available_5_1 a3 M (fun r2 M1 => vp_in a3 21 ∧ ∀ v4 : Int32, v4 = M1.2.1 19 a3.toNatClampNeg → ∃ n16 : Nat, wl_X5_spaceLeft_6_1_5_16 Q n16 a3 r2 v4 M1)
set_option maxHeartbeats 4000000 in
set_option maxRecDepth 100000 in
theorem c_X5_spaceLeft_6_1_5 (l : Launch) {g : fx_Geo} (hG : fx_Gd g) (a3 : Int32) (M : fx_Mem) (Q : Int32 → fx_Mem → Prop) (h : wp_X5_spaceLeft_6_1_5 a3 M Q) : Met l yX5_spaceLeft (.code yX5_spaceLeft cX5_spaceLeft 7 (some .int) :: fx_U) rm_X5_spaceLeft_6_1_5 (va_Pc [.ref (fx_a g 6), .ref (fx_a g 1), .ref (fx_a g 5), .int a3] (fx_At g M)) (va_Qi Q (fx_Pw g) (fx_A g)) 0 0 (fx_A g) := by
  refine Met.ofW (cc := cX5_spaceLeft) (maxL := 7) (ret := (some .int)) (by decide +kernel) rfl ?_
  intro p e s m args below meth c s₁ B hml hv
  obtain ⟨rfl, hv⟩ := hv
  have hts := atoms_spec (ws := .code yX5_spaceLeft cX5_spaceLeft 7 (some .int) :: fx_U) B.pre
  obtain ⟨C, hH⟩ := fx_body (own := RX5) B hml rfl (fun w hw => hts w (List.mem_cons_of_mem _ hw)) hG hv
  replace hts := fun w hw => hts w (List.mem_cons_of_mem _ hw)
  obtain ⟨hx, hb, hr, -, hown, -, hlocks, hsz, hK, -, hSt⟩ := id C
  have hl := lv_entry ([.ref (fx_a g 6), .ref (fx_a g 1), .ref (fx_a g 5), .int a3]) (n := 7) (Nat.le_of_ble_eq_true rfl)
  rw [lg_entry_eq]
  generalize (lg_sl ([.ref (fx_a g 6), .ref (fx_a g 1), .ref (fx_a g 5), .int a3]) ++ List.replicate (7 - (lg_sl ([.ref (fx_a g 6), .ref (fx_a g 1), .ref (fx_a g 5), .int a3])).length) Slot.unset).toArray = ls at hl ⊢
  have hl : lv_has ls 7 [(0, .ref (fx_a g 6)), (1, .ref (fx_a g 1)), (2, .ref (fx_a g 5)), (3, .int a3)] := hl
  obtain ⟨H, eH⟩ : ∃ H : Heap, H = s.heap := ⟨_, rfl⟩
  obtain ⟨locs, elocs⟩ : ∃ q : List Loc, q = [] := ⟨_, rfl⟩
  rw [← eH, ← elocs] at hH
  show W p l e rm_X5_spaceLeft_6_1_5 s m _ below meth c s.heap [] 0 0 _ _
  rw [← eH, ← elocs]
  unfold wp_X5_spaceLeft_6_1_5 at h
  refine lv_aload_n hx hb dX5_spaceLeft_0 rfl (lv_at hl 2 rfl) ?_
  refine lv_aload_n hx hb dX5_spaceLeft_1 rfl (lv_at hl 1 rfl) ?_
  refine lv_iload_n hx hb dX5_spaceLeft_2 rfl (lv_at hl 3 rfl) ?_
  refine fx_ci hH (fx_runV (As := [.ref (fx_a g 1), .int a3]) (rest := []) C hH (c_X0_available_5_1 l C.2.2.2.2.2.2.2.2.2.1 a3 M _ h) (fx_cwV 2 hts u_337 u_338 u_339 u_5 u_340 rfl rfl (by decide +kernel) ⟨(Nat.le_of_ble_eq_true rfl), (Nat.le_of_ble_eq_true rfl)⟩) (fx_w5 g M) rfl rfl hl.1 rfl (Nat.le_of_ble_eq_true rfl) dX5_spaceLeft_3 ⟨(Nat.le_of_ble_eq_true rfl), (Nat.le_of_ble_eq_true rfl)⟩) (fun r2 M1 H locs h hH => ?_)
  refine lv_istore (lv' := [(4, .int r2), (0, .ref (fx_a g 6)), (1, .ref (fx_a g 1)), (2, .ref (fx_a g 5)), (3, .int a3)]) hx hb dX5_spaceLeft_6 hl (by decide) rfl (fun ls hl => ?_)
  refine lv_aload_n hx hb dX5_spaceLeft_8 rfl (lv_at hl 3 rfl) ?_
  refine fx_get C hH (fx_w5 g M1) rfl in_X0 1 (by decide) u_130 rfl rfl dX5_spaceLeft_9 ?_
  refine lv_iload_n hx hb dX5_spaceLeft_12 rfl (lv_at hl 4 rfl) ?_
  obtain ⟨hi3, h⟩ := h
  refine fx_iald (j := a3.toNatClampNeg) C hH 19 (fx_w19 g M1) rfl hi3 dX5_spaceLeft_13 ?_
  refine lv_topi (fun v4 ev4 => ?_)
  replace h := h v4 ev4
  refine lv_istore (lv' := [(5, .int v4), (4, .int r2), (0, .ref (fx_a g 6)), (1, .ref (fx_a g 1)), (2, .ref (fx_a g 5)), (3, .int a3)]) hx hb dX5_spaceLeft_14 hl (by decide) rfl (fun ls hl => ?_)
  obtain ⟨n16, h⟩ := h
  exact tl_X5_spaceLeft_6_1_5_16 C Q  n16 a3 r2 v4 M1 h  H locs ls hH (lv_sub hl [2, 3, 4, 5, 1, 0] rfl)
/-! FlexLayout$MainAxis.weigh(LFlexLayout$Container;LFlexLayout$Arrangement;LFlexLayout$Division;IZI)V (6, 1, 5, 4) -/
def rm_X5_weigh_6_1_5_4 : Room := { frames := 0, cells := 0, slots := 0, locals := 0 }
def wb_X5_weigh_6_1_5_4_129 (k43 : Int32 → Int32 → Int32 → Int32 → Int32 → fx_Mem → Prop) (Q : fx_Mem → Prop) (x4 : Int32) (x5 : Int32) (x7 : Int32) (x8 : Int32) (x9 : Int32) (s0 : Int64) (s1 : Int32) (M : fx_Mem) : Prop :=
  vp_in s1 20 ∧ ∀ M2 : fx_Mem, M2 = fx_sl M 15 s1.toNatClampNeg s0 → ∀ v3 : Int32, v3 = x9 + 1 → k43 x4 x5 x7 x8 v3 M2
set_option maxHeartbeats 4000000 in
set_option maxRecDepth 100000 in
theorem tb_X5_weigh_6_1_5_4_129 {g : fx_Geo} {p : Program} {l : Launch} {e : Env} {s : State} {m : MethodId} {args : Array Value} {below : List Frame} {meth : Method} {c : Code} (C : fx_Cx g p s m args meth c RX5 cX5_weigh 13 none) (k43 : Int32 → Int32 → Int32 → Int32 → Int32 → fx_Mem → Prop) (Q : fx_Mem → Prop) (hk43 : ∀ (x4 : Int32) (x5 : Int32) (x7 : Int32) (x8 : Int32) (x9 : Int32) (M : fx_Mem), k43 x4 x5 x7 x8 x9 M → ∀ (H : Heap) (locs : List Loc) (ls : Array Slot), fx_H g s M H locs → lv_has ls 13 [(0, .ref (fx_a g 6)), (1, .ref (fx_a g 1)), (2, .ref (fx_a g 5)), (3, .ref (fx_a g 4)), (4, .int x4), (5, .int x5), (7, .int x7), (8, .int x8), (9, .int x9)] → W p l e rm_X5_weigh_6_1_5_4 s m args below meth c H locs 0 0 (MQ below (va_Qv Q (fx_Pw g) (fx_A g)) args s 0 0 (fx_A g)) (F0 m 43 ls [])) (x4 : Int32) (x5 : Int32) (x7 : Int32) (x8 : Int32) (x9 : Int32) (s0 : Int64) (s1 : Int32) (M : fx_Mem) (h : wb_X5_weigh_6_1_5_4_129 k43 Q x4 x5 x7 x8 x9 s0 s1 M) (H : Heap) (locs : List Loc) (ls : Array Slot) (hH : fx_H g s M H locs) (hl : lv_has ls 13 [(0, .ref (fx_a g 6)), (1, .ref (fx_a g 1)), (2, .ref (fx_a g 5)), (3, .ref (fx_a g 4)), (4, .int x4), (5, .int x5), (7, .int x7), (8, .int x8), (9, .int x9)]) : W p l e rm_X5_weigh_6_1_5_4 s m args below meth c H locs 0 0 (MQ below (va_Qv Q (fx_Pw g) (fx_A g)) args s 0 0 (fx_A g)) (F0 m 129 ls [.long s0, .int s1, .ref (fx_a g 15)]) := by
  obtain ⟨hx, hb, hr, hml, hown, hts, hlocks, hsz, hK, hG, hSt⟩ := id C
  unfold wb_X5_weigh_6_1_5_4_129 at h
  obtain ⟨hi1, h⟩ := h
  refine fx_last (j := s1.toNatClampNeg) (M' := fx_sl M 15 s1.toNatClampNeg s0) C hH 15 rfl (fx_w15 g M) (fx_p15 g M _ _) hi1 dX5_weigh_129 (fun H locs hH => ?_)
  generalize eM2 : fx_sl M 15 s1.toNatClampNeg s0 = M2 at hH
  replace h := h M2 eM2.symm
  obtain ⟨v3, ev3⟩ : ∃ z : Int32, z = x9 + 1 := ⟨_, rfl⟩
  refine lv_iinc (v := v3) (lv' := [(9, .int v3), (0, .ref (fx_a g 6)), (1, .ref (fx_a g 1)), (2, .ref (fx_a g 5)), (3, .ref (fx_a g 4)), (4, .int x4), (5, .int x5), (7, .int x7), (8, .int x8)]) hx hb dX5_weigh_130 hl (k := 8) rfl (by rw [ev3]; rfl) (by decide) rfl (fun ls hl => ?_)
  replace h := h v3 ev3
  refine lv_goto (tgt := 43) hx hb dX5_weigh_133 (by decide) ?_
  exact hk43 x4 x5 x7 x8 v3 M2 h  H locs ls hH (lv_sub hl [1, 2, 3, 4, 5, 6, 7, 8, 0] rfl)
def wb_X5_weigh_6_1_5_4_128 (k43 : Int32 → Int32 → Int32 → Int32 → Int32 → fx_Mem → Prop) (Q : fx_Mem → Prop) (x4 : Int32) (x5 : Int32) (x7 : Int32) (x8 : Int32) (x9 : Int32) (s0 : Int32) (M : fx_Mem) : Prop :=
  wb_X5_weigh_6_1_5_4_129 k43 Q x4 x5 x7 x8 x9 0 s0 M
set_option maxHeartbeats 4000000 in
set_option maxRecDepth 100000 in
theorem tb_X5_weigh_6_1_5_4_128 {g : fx_Geo} {p : Program} {l : Launch} {e : Env} {s : State} {m : MethodId} {args : Array Value} {below : List Frame} {meth : Method} {c : Code} (C : fx_Cx g p s m args meth c RX5 cX5_weigh 13 none) (k43 : Int32 → Int32 → Int32 → Int32 → Int32 → fx_Mem → Prop) (Q : fx_Mem → Prop) (hk43 : ∀ (x4 : Int32) (x5 : Int32) (x7 : Int32) (x8 : Int32) (x9 : Int32) (M : fx_Mem), k43 x4 x5 x7 x8 x9 M → ∀ (H : Heap) (locs : List Loc) (ls : Array Slot), fx_H g s M H locs → lv_has ls 13 [(0, .ref (fx_a g 6)), (1, .ref (fx_a g 1)), (2, .ref (fx_a g 5)), (3, .ref (fx_a g 4)), (4, .int x4), (5, .int x5), (7, .int x7), (8, .int x8), (9, .int x9)] → W p l e rm_X5_weigh_6_1_5_4 s m args below meth c H locs 0 0 (MQ below (va_Qv Q (fx_Pw g) (fx_A g)) args s 0 0 (fx_A g)) (F0 m 43 ls [])) (x4 : Int32) (x5 : Int32) (x7 : Int32) (x8 : Int32) (x9 : Int32) (s0 : Int32) (M : fx_Mem) (h : wb_X5_weigh_6_1_5_4_128 k43 Q x4 x5 x7 x8 x9 s0 M) (H : Heap) (locs : List Loc) (ls : Array Slot) (hH : fx_H g s M H locs) (hl : lv_has ls 13 [(0, .ref (fx_a g 6)), (1, .ref (fx_a g 1)), (2, .ref (fx_a g 5)), (3, .ref (fx_a g 4)), (4, .int x4), (5, .int x5), (7, .int x7), (8, .int x8), (9, .int x9)]) : W p l e rm_X5_weigh_6_1_5_4 s m args below meth c H locs 0 0 (MQ below (va_Qv Q (fx_Pw g) (fx_A g)) args s 0 0 (fx_A g)) (F0 m 128 ls [.int s0, .ref (fx_a g 15)]) := by
  obtain ⟨hx, hb, hr, hml, hown, hts, hlocks, hsz, hK, hG, hSt⟩ := id C
  unfold wb_X5_weigh_6_1_5_4_128 at h
  refine lv_lconst (v := 0) hx hb dX5_weigh_128 (by decide) ?_
  exact tb_X5_weigh_6_1_5_4_129 C k43 Q hk43 x4 x5 x7 x8 x9 0 s0 M h  H locs ls hH (lv_sub hl [0, 1, 2, 3, 4, 5, 6, 7, 8] rfl)
def wb_X5_weigh_6_1_5_4_96 (k43 : Int32 → Int32 → Int32 → Int32 → Int32 → fx_Mem → Prop) (Q : fx_Mem → Prop) (x4 : Int32) (x5 : Int32) (x7 : Int32) (x8 : Int32) (x9 : Int32) (x10 : Int32) (s0 : Int32) (M : fx_Mem) : Prop :=
  ((x7 = 0 → wb_X5_weigh_6_1_5_4_128 k43 Q x4 x5 x7 x8 x9 (x9 - x8) M) ∧ (¬ x7 = 0 → vp_in x10 20 ∧ ((M.2.1 25 x10.toNatClampNeg = 0 → wb_X5_weigh_6_1_5_4_129 k43 Q x4 x5 x7 x8 x9 s0.toInt64 (x9 - x8) M) ∧ (¬ M.2.1 25 x10.toNatClampNeg = 0 → wb_X5_weigh_6_1_5_4_128 k43 Q x4 x5 x7 x8 x9 (x9 - x8) M))))
set_option maxHeartbeats 4000000 in
set_option maxRecDepth 100000 in
theorem tb_X5_weigh_6_1_5_4_96 {g : fx_Geo} {p : Program} {l : Launch} {e : Env} {s : State} {m : MethodId} {args : Array Value} {below : List Frame} {meth : Method} {c : Code} (C : fx_Cx g p s m args meth c RX5 cX5_weigh 13 none) (k43 : Int32 → Int32 → Int32 → Int32 → Int32 → fx_Mem → Prop) (Q : fx_Mem → Prop) (hk43 : ∀ (x4 : Int32) (x5 : Int32) (x7 : Int32) (x8 : Int32) (x9 : Int32) (M : fx_Mem), k43 x4 x5 x7 x8 x9 M → ∀ (H : Heap) (locs : List Loc) (ls : Array Slot), fx_H g s M H locs → lv_has ls 13 [(0, .ref (fx_a g 6)), (1, .ref (fx_a g 1)), (2, .ref (fx_a g 5)), (3, .ref (fx_a g 4)), (4, .int x4), (5, .int x5), (7, .int x7), (8, .int x8), (9, .int x9)] → W p l e rm_X5_weigh_6_1_5_4 s m args below meth c H locs 0 0 (MQ below (va_Qv Q (fx_Pw g) (fx_A g)) args s 0 0 (fx_A g)) (F0 m 43 ls [])) (x4 : Int32) (x5 : Int32) (x7 : Int32) (x8 : Int32) (x9 : Int32) (x10 : Int32) (s0 : Int32) (M : fx_Mem) (h : wb_X5_weigh_6_1_5_4_96 k43 Q x4 x5 x7 x8 x9 x10 s0 M) (H : Heap) (locs : List Loc) (ls : Array Slot) (hH : fx_H g s M H locs) (hl : lv_has ls 13 [(0, .ref (fx_a g 6)), (1, .ref (fx_a g 1)), (2, .ref (fx_a g 5)), (3, .ref (fx_a g 4)), (4, .int x4), (5, .int x5), (7, .int x7), (8, .int x8), (9, .int x9), (10, .int x10)]) : W p l e rm_X5_weigh_6_1_5_4 s m args below meth c H locs 0 0 (MQ below (va_Qv Q (fx_Pw g) (fx_A g)) args s 0 0 (fx_A g)) (F0 m 96 ls [.int s0]) := by
  obtain ⟨hx, hb, hr, hml, hown, hts, hlocks, hsz, hK, hG, hSt⟩ := id C
  unfold wb_X5_weigh_6_1_5_4_96 at h
  refine lv_istore (lv' := [(12, .int s0), (0, .ref (fx_a g 6)), (1, .ref (fx_a g 1)), (2, .ref (fx_a g 5)), (3, .ref (fx_a g 4)), (4, .int x4), (5, .int x5), (7, .int x7), (8, .int x8), (9, .int x9), (10, .int x10)]) hx hb dX5_weigh_96 hl (by decide) rfl (fun ls hl => ?_)
  refine lv_aload_n hx hb dX5_weigh_98 rfl (lv_at hl 4 rfl) ?_
  refine fx_get C hH (fx_w4 g M) rfl in_X3 0 (by decide) u_103 rfl rfl dX5_weigh_99 ?_
  refine lv_iload hx hb dX5_weigh_102 (lv_at hl 9 rfl) ?_
  refine lv_iload hx hb dX5_weigh_104 (lv_at hl 8 rfl) ?_
  refine lv_isub hx hb dX5_weigh_106 ?_
  refine lv_iload hx hb dX5_weigh_107 (lv_at hl 7 rfl) ?_
  refine lv_if_eq (tgt := 128) hx hb dX5_weigh_109 (by decide) (fun c1 => ?_) (fun c1 => ?_)
  · replace h := h.1 c1
    exact tb_X5_weigh_6_1_5_4_128 C k43 Q hk43 x4 x5 x7 x8 x9 (x9 - x8) M h  H locs ls hH (lv_sub hl [1, 2, 3, 4, 5, 6, 7, 8, 9] rfl)
  · replace h := h.2 c1
    refine lv_aload_n hx hb dX5_weigh_112 rfl (lv_at hl 1 rfl) ?_
    refine fx_get C hH (fx_w6 g M) rfl in_X5 5 (by decide) u_157 rfl rfl dX5_weigh_113 ?_
    refine lv_iload hx hb dX5_weigh_116 (lv_at hl 10 rfl) ?_
    obtain ⟨hi2, h⟩ := h
    refine fx_zald (j := x10.toNatClampNeg) C hH 25 (fx_w25 g M) rfl hi2 dX5_weigh_118 ?_
    refine lv_if_ne (tgt := 128) hx hb dX5_weigh_119 (by decide) (fun c3 => ?_) (fun c3 => ?_)
    · replace h := h.2 c3
      exact tb_X5_weigh_6_1_5_4_128 C k43 Q hk43 x4 x5 x7 x8 x9 (x9 - x8) M h  H locs ls hH (lv_sub hl [1, 2, 3, 4, 5, 6, 7, 8, 9] rfl)
    · replace h := h.1 c3
      refine lv_iload hx hb dX5_weigh_122 (lv_at hl 0 rfl) ?_
      refine lv_i2l hx hb dX5_weigh_124 rfl ?_
      refine lv_goto (tgt := 129) hx hb dX5_weigh_125 (by decide) ?_
      exact tb_X5_weigh_6_1_5_4_129 C k43 Q hk43 x4 x5 x7 x8 x9 s0.toInt64 (x9 - x8) M h  H locs ls hH (lv_sub hl [1, 2, 3, 4, 5, 6, 7, 8, 9] rfl)
def wb_X5_weigh_6_1_5_4_43 (k43 : Int32 → Int32 → Int32 → Int32 → Int32 → fx_Mem → Prop) (Q : fx_Mem → Prop) (x4 : Int32) (x5 : Int32) (x7 : Int32) (x8 : Int32) (x9 : Int32) (M : fx_Mem) : Prop :=
  vp_in (x4 + 1) 21 ∧ ((M.2.1 19 ((x4 + 1).toNatClampNeg) ≤ x9 → Q M) ∧ (¬ M.2.1 19 ((x4 + 1).toNatClampNeg) ≤ x9 → vp_in x9 20 ∧ ∀ v4 : Int32, v4 = M.2.1 18 x9.toNatClampNeg → vp_in v4 20 ∧ ((x5 = 0 → wb_X5_weigh_6_1_5_4_96 k43 Q x4 x5 x7 x8 x9 v4 ((M.2.1 (57 + v4.toNatClampNeg) 2) * (M.2.1 (57 + v4.toNatClampNeg) 0)) M) ∧ (¬ x5 = 0 → wb_X5_weigh_6_1_5_4_96 k43 Q x4 x5 x7 x8 x9 v4 (M.2.1 (57 + v4.toNatClampNeg) 1) M))))
set_option maxHeartbeats 4000000 in
set_option maxRecDepth 100000 in
theorem tb_X5_weigh_6_1_5_4_43 {g : fx_Geo} {p : Program} {l : Launch} {e : Env} {s : State} {m : MethodId} {args : Array Value} {below : List Frame} {meth : Method} {c : Code} (C : fx_Cx g p s m args meth c RX5 cX5_weigh 13 none) (k43 : Int32 → Int32 → Int32 → Int32 → Int32 → fx_Mem → Prop) (Q : fx_Mem → Prop) (hk43 : ∀ (x4 : Int32) (x5 : Int32) (x7 : Int32) (x8 : Int32) (x9 : Int32) (M : fx_Mem), k43 x4 x5 x7 x8 x9 M → ∀ (H : Heap) (locs : List Loc) (ls : Array Slot), fx_H g s M H locs → lv_has ls 13 [(0, .ref (fx_a g 6)), (1, .ref (fx_a g 1)), (2, .ref (fx_a g 5)), (3, .ref (fx_a g 4)), (4, .int x4), (5, .int x5), (7, .int x7), (8, .int x8), (9, .int x9)] → W p l e rm_X5_weigh_6_1_5_4 s m args below meth c H locs 0 0 (MQ below (va_Qv Q (fx_Pw g) (fx_A g)) args s 0 0 (fx_A g)) (F0 m 43 ls [])) (x4 : Int32) (x5 : Int32) (x7 : Int32) (x8 : Int32) (x9 : Int32) (M : fx_Mem) (h : wb_X5_weigh_6_1_5_4_43 k43 Q x4 x5 x7 x8 x9 M) (H : Heap) (locs : List Loc) (ls : Array Slot) (hH : fx_H g s M H locs) (hl : lv_has ls 13 [(0, .ref (fx_a g 6)), (1, .ref (fx_a g 1)), (2, .ref (fx_a g 5)), (3, .ref (fx_a g 4)), (4, .int x4), (5, .int x5), (7, .int x7), (8, .int x8), (9, .int x9)]) : W p l e rm_X5_weigh_6_1_5_4 s m args below meth c H locs 0 0 (MQ below (va_Qv Q (fx_Pw g) (fx_A g)) args s 0 0 (fx_A g)) (F0 m 43 ls []) := by
  obtain ⟨hx, hb, hr, hml, hown, hts, hlocks, hsz, hK, hG, hSt⟩ := id C
  unfold wb_X5_weigh_6_1_5_4_43 at h
  refine lv_iload hx hb dX5_weigh_43 (lv_at hl 8 rfl) ?_
  refine lv_aload_n hx hb dX5_weigh_45 rfl (lv_at hl 2 rfl) ?_
  refine fx_get C hH (fx_w5 g M) rfl in_X0 1 (by decide) u_130 rfl rfl dX5_weigh_46 ?_
  refine lv_iload hx hb dX5_weigh_49 (lv_at hl 4 rfl) ?_
  refine lv_iconst (v := 1) hx hb dX5_weigh_51 (by decide) ?_
  refine lv_iadd hx hb dX5_weigh_52 ?_
  obtain ⟨hi1, h⟩ := h
  refine fx_iald (j := (x4 + 1).toNatClampNeg) C hH 19 (fx_w19 g M) rfl hi1 dX5_weigh_53 ?_
  refine lv_icmp_ge (tgt := 136) hx hb dX5_weigh_54 (by decide) (fun c2 => ?_) (fun c2 => ?_)
  · replace h := h.1 c2
    exact fx_vret C hH h dX5_weigh_136
  · replace h := h.2 c2
    refine lv_aload_n hx hb dX5_weigh_57 rfl (lv_at hl 2 rfl) ?_
    refine fx_get C hH (fx_w5 g M) rfl in_X0 0 (by decide) u_126 rfl rfl dX5_weigh_58 ?_
    refine lv_iload hx hb dX5_weigh_61 (lv_at hl 8 rfl) ?_
    obtain ⟨hi3, h⟩ := h
    refine fx_iald (j := x9.toNatClampNeg) C hH 18 (fx_w18 g M) rfl hi3 dX5_weigh_63 ?_
    refine lv_topi (fun v4 ev4 => ?_)
    replace h := h v4 ev4
    refine lv_istore (lv' := [(10, .int v4), (0, .ref (fx_a g 6)), (1, .ref (fx_a g 1)), (2, .ref (fx_a g 5)), (3, .ref (fx_a g 4)), (4, .int x4), (5, .int x5), (7, .int x7), (8, .int x8), (9, .int x9)]) hx hb dX5_weigh_64 hl (by decide) rfl (fun ls hl => ?_)
    refine lv_aload_n hx hb dX5_weigh_66 rfl (lv_at hl 2 rfl) ?_
    refine fx_get C hH (fx_w1 g M) rfl in_X1 5 (by decide) u_58 rfl rfl dX5_weigh_67 ?_
    refine lv_iload hx hb dX5_weigh_70 (lv_at hl 0 rfl) ?_
    obtain ⟨hi5, h⟩ := h
    have hj6 : v4.toNatClampNeg < 20 := Nat.not_le.mp fun q => hi5 (Or.inr q)
    refine fx_aald C hH 11 (fx_w11 g M) hi5 dX5_weigh_72 ?_
    refine lv_astore (lv' := [(11, .ref (fx_a g (57 + v4.toNatClampNeg))), (10, .int v4), (0, .ref (fx_a g 6)), (1, .ref (fx_a g 1)), (2, .ref (fx_a g 5)), (3, .ref (fx_a g 4)), (4, .int x4), (5, .int x5), (7, .int x7), (8, .int x8), (9, .int x9)]) hx hb dX5_weigh_73 hl (by decide) rfl (fun ls hl => ?_)
    refine lv_iload hx hb dX5_weigh_75 (lv_at hl 7 rfl) ?_
    refine lv_if_eq (tgt := 87) hx hb dX5_weigh_77 (by decide) (fun c7 => ?_) (fun c7 => ?_)
    · replace h := h.1 c7
      refine lv_aload hx hb dX5_weigh_87 (lv_at hl 0 rfl) ?_
      refine lv_iconst (v := 2) hx hb dX5_weigh_89 (by decide) ?_
      refine fx_iald (j := 2) C hH (57 + v4.toNatClampNeg) (fx_r1 g M v4.toNatClampNeg hj6) (by decide) (by unfold vp_in; decide) dX5_weigh_90 ?_
      refine lv_aload hx hb dX5_weigh_91 (lv_at hl 0 rfl) ?_
      refine lv_iconst (v := 0) hx hb dX5_weigh_93 (by decide) ?_
      refine fx_iald (j := 0) C hH (57 + v4.toNatClampNeg) (fx_r1 g M v4.toNatClampNeg hj6) (by decide) (by unfold vp_in; decide) dX5_weigh_94 ?_
      refine lv_imul hx hb dX5_weigh_95 ?_
      exact tb_X5_weigh_6_1_5_4_96 C k43 Q hk43 x4 x5 x7 x8 x9 v4 ((M.2.1 (57 + v4.toNatClampNeg) 2) * (M.2.1 (57 + v4.toNatClampNeg) 0)) M h  H locs ls hH (lv_sub hl [2, 3, 4, 5, 6, 7, 8, 9, 10, 1] rfl)
    · replace h := h.2 c7
      refine lv_aload hx hb dX5_weigh_80 (lv_at hl 0 rfl) ?_
      refine lv_iconst (v := 1) hx hb dX5_weigh_82 (by decide) ?_
      refine fx_iald (j := 1) C hH (57 + v4.toNatClampNeg) (fx_r1 g M v4.toNatClampNeg hj6) (by decide) (by unfold vp_in; decide) dX5_weigh_83 ?_
      refine lv_goto (tgt := 96) hx hb dX5_weigh_84 (by decide) ?_
      exact tb_X5_weigh_6_1_5_4_96 C k43 Q hk43 x4 x5 x7 x8 x9 v4 (M.2.1 (57 + v4.toNatClampNeg) 1) M h  H locs ls hH (lv_sub hl [2, 3, 4, 5, 6, 7, 8, 9, 10, 1] rfl)
def wl_X5_weigh_6_1_5_4_43 (Q : fx_Mem → Prop) (n : Nat) (x4 : Int32) (x5 : Int32) (x7 : Int32) (x8 : Int32) (x9 : Int32) (M : fx_Mem) : Prop :=
  fx_lp (α := Int32 × Int32 × Int32 × Int32 × Int32 × fx_Mem) (fun k a => wb_X5_weigh_6_1_5_4_43 (fun x4 x5 x7 x8 x9 M => k (x4, x5, x7, x8, x9, M)) Q a.1 a.2.1 a.2.2.1 a.2.2.2.1 a.2.2.2.2.1 a.2.2.2.2.2) n (x4, x5, x7, x8, x9, M)
set_option maxHeartbeats 4000000 in
theorem tl_X5_weigh_6_1_5_4_43 {g : fx_Geo} {p : Program} {l : Launch} {e : Env} {s : State} {m : MethodId} {args : Array Value} {below : List Frame} {meth : Method} {c : Code} (C : fx_Cx g p s m args meth c RX5 cX5_weigh 13 none) (Q : fx_Mem → Prop) : ∀ (n : Nat) (x4 : Int32) (x5 : Int32) (x7 : Int32) (x8 : Int32) (x9 : Int32) (M : fx_Mem), wl_X5_weigh_6_1_5_4_43  Q n x4 x5 x7 x8 x9 M → ∀ (H : Heap) (locs : List Loc) (ls : Array Slot), fx_H g s M H locs → lv_has ls 13 [(0, .ref (fx_a g 6)), (1, .ref (fx_a g 1)), (2, .ref (fx_a g 5)), (3, .ref (fx_a g 4)), (4, .int x4), (5, .int x5), (7, .int x7), (8, .int x8), (9, .int x9)] → W p l e rm_X5_weigh_6_1_5_4 s m args below meth c H locs 0 0 (MQ below (va_Qv Q (fx_Pw g) (fx_A g)) args s 0 0 (fx_A g)) (F0 m 43 ls []) := by
  intro n
  induction n with
  | zero => intro x4 x5 x7 x8 x9 M h; exact False.elim h
  | succ n ih => intro x4 x5 x7 x8 x9 M h  H locs ls hH hl; exact tb_X5_weigh_6_1_5_4_43 C (wl_X5_weigh_6_1_5_4_43  Q n) Q ih x4 x5 x7 x8 x9 M h  H locs ls hH hl
def wb_X5_weigh_6_1_5_4_28 (Q : fx_Mem → Prop) (x4 : Int32) (x5 : Int32) (s0 : Int32) (M : fx_Mem) : Prop :=
  vp_in x4 21 ∧ ∀ v2 : Int32, v2 = M.2.1 19 x4.toNatClampNeg → ∃ n43 : Nat, wl_X5_weigh_6_1_5_4_43 Q n43 x4 x5 s0 v2 v2 M
set_option maxHeartbeats 4000000 in
set_option maxRecDepth 100000 in
theorem tb_X5_weigh_6_1_5_4_28 {g : fx_Geo} {p : Program} {l : Launch} {e : Env} {s : State} {m : MethodId} {args : Array Value} {below : List Frame} {meth : Method} {c : Code} (C : fx_Cx g p s m args meth c RX5 cX5_weigh 13 none) (Q : fx_Mem → Prop) (x4 : Int32) (x5 : Int32) (s0 : Int32) (M : fx_Mem) (h : wb_X5_weigh_6_1_5_4_28 Q x4 x5 s0 M) (H : Heap) (locs : List Loc) (ls : Array Slot) (hH : fx_H g s M H locs) (hl : lv_has ls 13 [(0, .ref (fx_a g 6)), (1, .ref (fx_a g 1)), (2, .ref (fx_a g 5)), (3, .ref (fx_a g 4)), (4, .int x4), (5, .int x5)]) : W p l e rm_X5_weigh_6_1_5_4 s m args below meth c H locs 0 0 (MQ below (va_Qv Q (fx_Pw g) (fx_A g)) args s 0 0 (fx_A g)) (F0 m 28 ls [.int s0]) := by
  obtain ⟨hx, hb, hr, hml, hown, hts, hlocks, hsz, hK, hG, hSt⟩ := id C
  unfold wb_X5_weigh_6_1_5_4_28 at h
  refine lv_istore (lv' := [(7, .int s0), (0, .ref (fx_a g 6)), (1, .ref (fx_a g 1)), (2, .ref (fx_a g 5)), (3, .ref (fx_a g 4)), (4, .int x4), (5, .int x5)]) hx hb dX5_weigh_28 hl (by decide) rfl (fun ls hl => ?_)
  refine lv_aload_n hx hb dX5_weigh_30 rfl (lv_at hl 3 rfl) ?_
  refine fx_get C hH (fx_w5 g M) rfl in_X0 1 (by decide) u_130 rfl rfl dX5_weigh_31 ?_
  refine lv_iload hx hb dX5_weigh_34 (lv_at hl 5 rfl) ?_
  obtain ⟨hi1, h⟩ := h
  refine fx_iald (j := x4.toNatClampNeg) C hH 19 (fx_w19 g M) rfl hi1 dX5_weigh_36 ?_
  refine lv_topi (fun v2 ev2 => ?_)
  replace h := h v2 ev2
  refine lv_istore (lv' := [(8, .int v2), (7, .int s0), (0, .ref (fx_a g 6)), (1, .ref (fx_a g 1)), (2, .ref (fx_a g 5)), (3, .ref (fx_a g 4)), (4, .int x4), (5, .int x5)]) hx hb dX5_weigh_37 hl (by decide) rfl (fun ls hl => ?_)
  refine lv_iload hx hb dX5_weigh_39 (lv_at hl 0 rfl) ?_
  refine lv_istore (lv' := [(9, .int v2), (8, .int v2), (7, .int s0), (0, .ref (fx_a g 6)), (1, .ref (fx_a g 1)), (2, .ref (fx_a g 5)), (3, .ref (fx_a g 4)), (4, .int x4), (5, .int x5)]) hx hb dX5_weigh_41 hl (by decide) rfl (fun ls hl => ?_)
  obtain ⟨n43, h⟩ := h
  exact tl_X5_weigh_6_1_5_4_43 C Q  n43 x4 x5 s0 v2 v2 M h  H locs ls hH (lv_sub hl [3, 4, 5, 6, 7, 8, 2, 1, 0] rfl)
def wp_X5_weigh_6_1_5_4 (a4 : Int32) (a5 : Int32) (a6 : Int32) (M : fx_Mem) (Q : fx_Mem → Prop) : Prop :=
  ((a5 = 0 → ((0 ≤ a6 → wb_X5_weigh_6_1_5_4_28 Q a4 a5 0 M) ∧ (¬ 0 ≤ a6 → wb_X5_weigh_6_1_5_4_28 Q a4 a5 1 M))) ∧ (¬ a5 = 0 → ((a6 ≤ 0 → wb_X5_weigh_6_1_5_4_28 Q a4 a5 0 M) ∧ (¬ a6 ≤ 0 → wb_X5_weigh_6_1_5_4_28 Q a4 a5 1 M))))
set_option maxHeartbeats 4000000 in
set_option maxRecDepth 100000 in
theorem c_X5_weigh_6_1_5_4 (l : Launch) {g : fx_Geo} (hG : fx_Gd g) (a4 : Int32) (a5 : Int32) (a6 : Int32) (M : fx_Mem) (Q : fx_Mem → Prop) (h : wp_X5_weigh_6_1_5_4 a4 a5 a6 M Q) : Met l yX5_weigh (.code yX5_weigh cX5_weigh 13 none :: fx_U) rm_X5_weigh_6_1_5_4 (va_Pc [.ref (fx_a g 6), .ref (fx_a g 1), .ref (fx_a g 5), .ref (fx_a g 4), .int a4, .int a5, .int a6] (fx_At g M)) (va_Qv Q (fx_Pw g) (fx_A g)) 0 0 (fx_A g) := by
  refine Met.ofW (cc := cX5_weigh) (maxL := 13) (ret := none) (by decide +kernel) rfl ?_
  intro p e s m args below meth c s₁ B hml hv
  obtain ⟨rfl, hv⟩ := hv
  have hts := atoms_spec (ws := .code yX5_weigh cX5_weigh 13 none :: fx_U) B.pre
  obtain ⟨C, hH⟩ := fx_body (own := RX5) B hml rfl (fun w hw => hts w (List.mem_cons_of_mem _ hw)) hG hv
  replace hts := fun w hw => hts w (List.mem_cons_of_mem _ hw)
  obtain ⟨hx, hb, hr, -, hown, -, hlocks, hsz, hK, -, hSt⟩ := id C
  have hl := lv_entry ([.ref (fx_a g 6), .ref (fx_a g 1), .ref (fx_a g 5), .ref (fx_a g 4), .int a4, .int a5, .int a6]) (n := 13) (Nat.le_of_ble_eq_true rfl)
  rw [lg_entry_eq]
  generalize (lg_sl ([.ref (fx_a g 6), .ref (fx_a g 1), .ref (fx_a g 5), .ref (fx_a g 4), .int a4, .int a5, .int a6]) ++ List.replicate (13 - (lg_sl ([.ref (fx_a g 6), .ref (fx_a g 1), .ref (fx_a g 5), .ref (fx_a g 4), .int a4, .int a5, .int a6])).length) Slot.unset).toArray = ls at hl ⊢
  have hl : lv_has ls 13 [(0, .ref (fx_a g 6)), (1, .ref (fx_a g 1)), (2, .ref (fx_a g 5)), (3, .ref (fx_a g 4)), (4, .int a4), (5, .int a5), (6, .int a6)] := hl
  obtain ⟨H, eH⟩ : ∃ H : Heap, H = s.heap := ⟨_, rfl⟩
  obtain ⟨locs, elocs⟩ : ∃ q : List Loc, q = [] := ⟨_, rfl⟩
  rw [← eH, ← elocs] at hH
  show W p l e rm_X5_weigh_6_1_5_4 s m _ below meth c s.heap [] 0 0 _ _
  rw [← eH, ← elocs]
  unfold wp_X5_weigh_6_1_5_4 at h
  refine lv_iload hx hb dX5_weigh_0 (lv_at hl 5 rfl) ?_
  refine lv_if_eq (tgt := 18) hx hb dX5_weigh_2 (by decide) (fun c1 => ?_) (fun c1 => ?_)
  · replace h := h.1 c1
    refine lv_iload hx hb dX5_weigh_18 (lv_at hl 6 rfl) ?_
    refine lv_if_ge (tgt := 27) hx hb dX5_weigh_20 (by decide) (fun c2 => ?_) (fun c2 => ?_)
    · replace h := h.1 c2
      refine lv_iconst (v := 0) hx hb dX5_weigh_27 (by decide) ?_
      exact tb_X5_weigh_6_1_5_4_28 C Q  a4 a5 0 M h  H locs ls hH (lv_sub hl [0, 1, 2, 3, 4, 5] rfl)
    · replace h := h.2 c2
      refine lv_iconst (v := 1) hx hb dX5_weigh_23 (by decide) ?_
      refine lv_goto (tgt := 28) hx hb dX5_weigh_24 (by decide) ?_
      exact tb_X5_weigh_6_1_5_4_28 C Q  a4 a5 1 M h  H locs ls hH (lv_sub hl [0, 1, 2, 3, 4, 5] rfl)
  · replace h := h.2 c1
    refine lv_iload hx hb dX5_weigh_5 (lv_at hl 6 rfl) ?_
    refine lv_if_le (tgt := 14) hx hb dX5_weigh_7 (by decide) (fun c3 => ?_) (fun c3 => ?_)
    · replace h := h.1 c3
      refine lv_iconst (v := 0) hx hb dX5_weigh_14 (by decide) ?_
      refine lv_goto (tgt := 28) hx hb dX5_weigh_15 (by decide) ?_
      exact tb_X5_weigh_6_1_5_4_28 C Q  a4 a5 0 M h  H locs ls hH (lv_sub hl [0, 1, 2, 3, 4, 5] rfl)
    · replace h := h.2 c3
      refine lv_iconst (v := 1) hx hb dX5_weigh_10 (by decide) ?_
      refine lv_goto (tgt := 28) hx hb dX5_weigh_11 (by decide) ?_
      exact tb_X5_weigh_6_1_5_4_28 C Q  a4 a5 1 M h  H locs ls hH (lv_sub hl [0, 1, 2, 3, 4, 5] rfl)
/-! FlexLayout$Division.giveOut(II)V (4,) -/
def rm_X3_giveOut_4 : Room := { frames := 0, cells := 0, slots := 0, locals := 0 }
def wb_X3_giveOut_4_46 (k18 : Int32 → Int32 → Int32 → Int32 → Int32 → fx_Mem → Prop) (k52 : Int32 → Int32 → Int32 → Int32 → fx_Mem → Prop) (Q : fx_Mem → Prop) (x1 : Int32) (x2 : Int32) (x3 : Int32) (x4 : Int32) (x5 : Int32) (M : fx_Mem) : Prop :=
  ∀ v1 : Int32, v1 = x5 + 1 → k18 x1 x2 x3 x4 v1 M
set_option maxHeartbeats 4000000 in
set_option maxRecDepth 100000 in
theorem tb_X3_giveOut_4_46 {g : fx_Geo} {p : Program} {l : Launch} {e : Env} {s : State} {m : MethodId} {args : Array Value} {below : List Frame} {meth : Method} {c : Code} (C : fx_Cx g p s m args meth c RX3 cX3_giveOut 6 none) (k18 : Int32 → Int32 → Int32 → Int32 → Int32 → fx_Mem → Prop) (k52 : Int32 → Int32 → Int32 → Int32 → fx_Mem → Prop) (Q : fx_Mem → Prop) (hk18 : ∀ (x1 : Int32) (x2 : Int32) (x3 : Int32) (x4 : Int32) (x5 : Int32) (M : fx_Mem), k18 x1 x2 x3 x4 x5 M → ∀ (H : Heap) (locs : List Loc) (ls : Array Slot), fx_H g s M H locs → lv_has ls 6 [(0, .ref (fx_a g 4)), (1, .int x1), (2, .int x2), (3, .int x3), (4, .int x4), (5, .int x5)] → W p l e rm_X3_giveOut_4 s m args below meth c H locs 0 0 (MQ below (va_Qv Q (fx_Pw g) (fx_A g)) args s 0 0 (fx_A g)) (F0 m 18 ls [])) (hk52 : ∀ (x1 : Int32) (x2 : Int32) (x3 : Int32) (x4 : Int32) (M : fx_Mem), k52 x1 x2 x3 x4 M → ∀ (H : Heap) (locs : List Loc) (ls : Array Slot), fx_H g s M H locs → lv_has ls 6 [(0, .ref (fx_a g 4)), (1, .int x1), (2, .int x2), (3, .int x3), (4, .int x4)] → W p l e rm_X3_giveOut_4 s m args below meth c H locs 0 0 (MQ below (va_Qv Q (fx_Pw g) (fx_A g)) args s 0 0 (fx_A g)) (F0 m 52 ls [])) (x1 : Int32) (x2 : Int32) (x3 : Int32) (x4 : Int32) (x5 : Int32) (M : fx_Mem) (h : wb_X3_giveOut_4_46 k18 k52 Q x1 x2 x3 x4 x5 M) (H : Heap) (locs : List Loc) (ls : Array Slot) (hH : fx_H g s M H locs) (hl : lv_has ls 6 [(0, .ref (fx_a g 4)), (1, .int x1), (2, .int x2), (3, .int x3), (4, .int x4), (5, .int x5)]) : W p l e rm_X3_giveOut_4 s m args below meth c H locs 0 0 (MQ below (va_Qv Q (fx_Pw g) (fx_A g)) args s 0 0 (fx_A g)) (F0 m 46 ls []) := by
  obtain ⟨hx, hb, hr, hml, hown, hts, hlocks, hsz, hK, hG, hSt⟩ := id C
  unfold wb_X3_giveOut_4_46 at h
  obtain ⟨v1, ev1⟩ : ∃ z : Int32, z = x5 + 1 := ⟨_, rfl⟩
  refine lv_iinc (v := v1) (lv' := [(5, .int v1), (0, .ref (fx_a g 4)), (1, .int x1), (2, .int x2), (3, .int x3), (4, .int x4)]) hx hb dX3_giveOut_46 hl (k := 5) rfl (by rw [ev1]; rfl) (by decide) rfl (fun ls hl => ?_)
  replace h := h v1 ev1
  refine lv_goto (tgt := 18) hx hb dX3_giveOut_49 (by decide) ?_
  exact hk18 x1 x2 x3 x4 v1 M h  H locs ls hH (lv_sub hl [1, 2, 3, 4, 5, 0] rfl)
def wb_X3_giveOut_4_18 (k18 : Int32 → Int32 → Int32 → Int32 → Int32 → fx_Mem → Prop) (k52 : Int32 → Int32 → Int32 → Int32 → fx_Mem → Prop) (Q : fx_Mem → Prop) (x1 : Int32) (x2 : Int32) (x3 : Int32) (x4 : Int32) (x5 : Int32) (M : fx_Mem) : Prop :=
  ((x2 ≤ x5 → k52 x1 x2 x3 x4 M) ∧ (¬ x2 ≤ x5 → vp_in x5 20 ∧ vp_in x4 20 ∧ ((lg_cmp (M.2.2 17 x5.toNatClampNeg) (M.2.2 17 x4.toNatClampNeg) ≤ 0 → wb_X3_giveOut_4_46 k18 k52 Q x1 x2 x3 x4 x5 M) ∧ (¬ lg_cmp (M.2.2 17 x5.toNatClampNeg) (M.2.2 17 x4.toNatClampNeg) ≤ 0 → wb_X3_giveOut_4_46 k18 k52 Q x1 x2 x3 x5 x5 M))))
set_option maxHeartbeats 4000000 in
set_option maxRecDepth 100000 in
theorem tb_X3_giveOut_4_18 {g : fx_Geo} {p : Program} {l : Launch} {e : Env} {s : State} {m : MethodId} {args : Array Value} {below : List Frame} {meth : Method} {c : Code} (C : fx_Cx g p s m args meth c RX3 cX3_giveOut 6 none) (k18 : Int32 → Int32 → Int32 → Int32 → Int32 → fx_Mem → Prop) (k52 : Int32 → Int32 → Int32 → Int32 → fx_Mem → Prop) (Q : fx_Mem → Prop) (hk18 : ∀ (x1 : Int32) (x2 : Int32) (x3 : Int32) (x4 : Int32) (x5 : Int32) (M : fx_Mem), k18 x1 x2 x3 x4 x5 M → ∀ (H : Heap) (locs : List Loc) (ls : Array Slot), fx_H g s M H locs → lv_has ls 6 [(0, .ref (fx_a g 4)), (1, .int x1), (2, .int x2), (3, .int x3), (4, .int x4), (5, .int x5)] → W p l e rm_X3_giveOut_4 s m args below meth c H locs 0 0 (MQ below (va_Qv Q (fx_Pw g) (fx_A g)) args s 0 0 (fx_A g)) (F0 m 18 ls [])) (hk52 : ∀ (x1 : Int32) (x2 : Int32) (x3 : Int32) (x4 : Int32) (M : fx_Mem), k52 x1 x2 x3 x4 M → ∀ (H : Heap) (locs : List Loc) (ls : Array Slot), fx_H g s M H locs → lv_has ls 6 [(0, .ref (fx_a g 4)), (1, .int x1), (2, .int x2), (3, .int x3), (4, .int x4)] → W p l e rm_X3_giveOut_4 s m args below meth c H locs 0 0 (MQ below (va_Qv Q (fx_Pw g) (fx_A g)) args s 0 0 (fx_A g)) (F0 m 52 ls [])) (x1 : Int32) (x2 : Int32) (x3 : Int32) (x4 : Int32) (x5 : Int32) (M : fx_Mem) (h : wb_X3_giveOut_4_18 k18 k52 Q x1 x2 x3 x4 x5 M) (H : Heap) (locs : List Loc) (ls : Array Slot) (hH : fx_H g s M H locs) (hl : lv_has ls 6 [(0, .ref (fx_a g 4)), (1, .int x1), (2, .int x2), (3, .int x3), (4, .int x4), (5, .int x5)]) : W p l e rm_X3_giveOut_4 s m args below meth c H locs 0 0 (MQ below (va_Qv Q (fx_Pw g) (fx_A g)) args s 0 0 (fx_A g)) (F0 m 18 ls []) := by
  obtain ⟨hx, hb, hr, hml, hown, hts, hlocks, hsz, hK, hG, hSt⟩ := id C
  unfold wb_X3_giveOut_4_18 at h
  refine lv_iload hx hb dX3_giveOut_18 (lv_at hl 5 rfl) ?_
  refine lv_iload_n hx hb dX3_giveOut_20 rfl (lv_at hl 2 rfl) ?_
  refine lv_icmp_ge (tgt := 52) hx hb dX3_giveOut_21 (by decide) (fun c1 => ?_) (fun c1 => ?_)
  · replace h := h.1 c1
    exact hk52 x1 x2 x3 x4 M h  H locs ls hH (lv_sub hl [0, 1, 2, 3, 4] rfl)
  · replace h := h.2 c1
    refine lv_aload_n hx hb dX3_giveOut_24 rfl (lv_at hl 0 rfl) ?_
    refine fx_get C hH (fx_w4 g M) rfl in_X3 2 (by decide) u_109 rfl rfl dX3_giveOut_25 ?_
    refine lv_iload hx hb dX3_giveOut_28 (lv_at hl 5 rfl) ?_
    obtain ⟨hi2, h⟩ := h
    refine fx_lald (j := x5.toNatClampNeg) C hH 17 (fx_w17 g M) rfl hi2 dX3_giveOut_30 ?_
    refine lv_aload_n hx hb dX3_giveOut_31 rfl (lv_at hl 0 rfl) ?_
    refine fx_get C hH (fx_w4 g M) rfl in_X3 2 (by decide) u_109 rfl rfl dX3_giveOut_32 ?_
    refine lv_iload hx hb dX3_giveOut_35 (lv_at hl 4 rfl) ?_
    obtain ⟨hi3, h⟩ := h
    refine fx_lald (j := x4.toNatClampNeg) C hH 17 (fx_w17 g M) rfl hi3 dX3_giveOut_37 ?_
    refine W.lcmp hx hb dX3_giveOut_38 ?_
    refine lv_if_le (tgt := 46) hx hb dX3_giveOut_39 (by decide) (fun c4 => ?_) (fun c4 => ?_)
    · replace h := h.1 c4
      exact tb_X3_giveOut_4_46 C k18 k52 Q hk18 hk52 x1 x2 x3 x4 x5 M h  H locs ls hH (lv_sub hl [0, 1, 2, 3, 4, 5] rfl)
    · replace h := h.2 c4
      refine lv_iload hx hb dX3_giveOut_42 (lv_at hl 5 rfl) ?_
      refine lv_istore (lv' := [(4, .int x5), (0, .ref (fx_a g 4)), (1, .int x1), (2, .int x2), (3, .int x3), (5, .int x5)]) hx hb dX3_giveOut_44 hl (by decide) rfl (fun ls hl => ?_)
      exact tb_X3_giveOut_4_46 C k18 k52 Q hk18 hk52 x1 x2 x3 x5 x5 M h  H locs ls hH (lv_sub hl [1, 2, 3, 4, 0, 5] rfl)
def wl_X3_giveOut_4_18 (k52 : Int32 → Int32 → Int32 → Int32 → fx_Mem → Prop) (Q : fx_Mem → Prop) (n : Nat) (x1 : Int32) (x2 : Int32) (x3 : Int32) (x4 : Int32) (x5 : Int32) (M : fx_Mem) : Prop :=
  fx_lp (α := Int32 × Int32 × Int32 × Int32 × Int32 × fx_Mem) (fun k a => wb_X3_giveOut_4_18 (fun x1 x2 x3 x4 x5 M => k (x1, x2, x3, x4, x5, M)) k52 Q a.1 a.2.1 a.2.2.1 a.2.2.2.1 a.2.2.2.2.1 a.2.2.2.2.2) n (x1, x2, x3, x4, x5, M)
set_option maxHeartbeats 4000000 in
theorem tl_X3_giveOut_4_18 {g : fx_Geo} {p : Program} {l : Launch} {e : Env} {s : State} {m : MethodId} {args : Array Value} {below : List Frame} {meth : Method} {c : Code} (C : fx_Cx g p s m args meth c RX3 cX3_giveOut 6 none) (k52 : Int32 → Int32 → Int32 → Int32 → fx_Mem → Prop) (Q : fx_Mem → Prop) (hk52 : ∀ (x1 : Int32) (x2 : Int32) (x3 : Int32) (x4 : Int32) (M : fx_Mem), k52 x1 x2 x3 x4 M → ∀ (H : Heap) (locs : List Loc) (ls : Array Slot), fx_H g s M H locs → lv_has ls 6 [(0, .ref (fx_a g 4)), (1, .int x1), (2, .int x2), (3, .int x3), (4, .int x4)] → W p l e rm_X3_giveOut_4 s m args below meth c H locs 0 0 (MQ below (va_Qv Q (fx_Pw g) (fx_A g)) args s 0 0 (fx_A g)) (F0 m 52 ls [])) : ∀ (n : Nat) (x1 : Int32) (x2 : Int32) (x3 : Int32) (x4 : Int32) (x5 : Int32) (M : fx_Mem), wl_X3_giveOut_4_18 k52 Q n x1 x2 x3 x4 x5 M → ∀ (H : Heap) (locs : List Loc) (ls : Array Slot), fx_H g s M H locs → lv_has ls 6 [(0, .ref (fx_a g 4)), (1, .int x1), (2, .int x2), (3, .int x3), (4, .int x4), (5, .int x5)] → W p l e rm_X3_giveOut_4 s m args below meth c H locs 0 0 (MQ below (va_Qv Q (fx_Pw g) (fx_A g)) args s 0 0 (fx_A g)) (F0 m 18 ls []) := by
  intro n
  induction n with
  | zero => intro x1 x2 x3 x4 x5 M h; exact False.elim h
  | succ n ih => intro x1 x2 x3 x4 x5 M h  H locs ls hH hl; exact tb_X3_giveOut_4_18 C (wl_X3_giveOut_4_18 k52 Q n) k52 Q ih hk52 x1 x2 x3 x4 x5 M h  H locs ls hH hl
def wb_X3_giveOut_4_52 (k2 : Int32 → Int32 → Int32 → fx_Mem → Prop) (Q : fx_Mem → Prop) (x1 : Int32) (x2 : Int32) (x3 : Int32) (x4 : Int32) (M : fx_Mem) : Prop :=
  vp_in x4 20 ∧ vp_in x4 20 ∧ ∀ M3 : fx_Mem, M3 = fx_sa M 16 x4.toNatClampNeg ((M.2.1 16 x4.toNatClampNeg) + 1) → vp_in x4 20 ∧ ∀ M5 : fx_Mem, M5 = fx_sl M3 17 x4.toNatClampNeg (-1) → ∀ v6 : Int32, v6 = x3 + 1 → k2 x1 x2 v6 M5
set_option maxHeartbeats 4000000 in
set_option maxRecDepth 100000 in
theorem tb_X3_giveOut_4_52 {g : fx_Geo} {p : Program} {l : Launch} {e : Env} {s : State} {m : MethodId} {args : Array Value} {below : List Frame} {meth : Method} {c : Code} (C : fx_Cx g p s m args meth c RX3 cX3_giveOut 6 none) (k2 : Int32 → Int32 → Int32 → fx_Mem → Prop) (Q : fx_Mem → Prop) (hk2 : ∀ (x1 : Int32) (x2 : Int32) (x3 : Int32) (M : fx_Mem), k2 x1 x2 x3 M → ∀ (H : Heap) (locs : List Loc) (ls : Array Slot), fx_H g s M H locs → lv_has ls 6 [(0, .ref (fx_a g 4)), (1, .int x1), (2, .int x2), (3, .int x3)] → W p l e rm_X3_giveOut_4 s m args below meth c H locs 0 0 (MQ below (va_Qv Q (fx_Pw g) (fx_A g)) args s 0 0 (fx_A g)) (F0 m 2 ls [])) (x1 : Int32) (x2 : Int32) (x3 : Int32) (x4 : Int32) (M : fx_Mem) (h : wb_X3_giveOut_4_52 k2 Q x1 x2 x3 x4 M) (H : Heap) (locs : List Loc) (ls : Array Slot) (hH : fx_H g s M H locs) (hl : lv_has ls 6 [(0, .ref (fx_a g 4)), (1, .int x1), (2, .int x2), (3, .int x3), (4, .int x4)]) : W p l e rm_X3_giveOut_4 s m args below meth c H locs 0 0 (MQ below (va_Qv Q (fx_Pw g) (fx_A g)) args s 0 0 (fx_A g)) (F0 m 52 ls []) := by
  obtain ⟨hx, hb, hr, hml, hown, hts, hlocks, hsz, hK, hG, hSt⟩ := id C
  unfold wb_X3_giveOut_4_52 at h
  refine lv_aload_n hx hb dX3_giveOut_52 rfl (lv_at hl 0 rfl) ?_
  refine fx_get C hH (fx_w4 g M) rfl in_X3 1 (by decide) u_105 rfl rfl dX3_giveOut_53 ?_
  refine lv_iload hx hb dX3_giveOut_56 (lv_at hl 4 rfl) ?_
  refine lv_dup2_11 hx hb dX3_giveOut_58 rfl rfl ?_
  obtain ⟨hi1, h⟩ := h
  refine fx_iald (j := x4.toNatClampNeg) C hH 16 (fx_w16 g M) rfl hi1 dX3_giveOut_59 ?_
  refine lv_iconst (v := 1) hx hb dX3_giveOut_60 (by decide) ?_
  refine lv_iadd hx hb dX3_giveOut_61 ?_
  obtain ⟨hi2, h⟩ := h
  refine fx_iast (j := x4.toNatClampNeg) (M' := fx_sa M 16 x4.toNatClampNeg ((M.2.1 16 x4.toNatClampNeg) + 1)) C hH 16 rfl (fx_w16 g M) (fx_p16 g M _) hi2 dX3_giveOut_62 (fun H locs hH => ?_)
  generalize eM3 : fx_sa M 16 x4.toNatClampNeg ((M.2.1 16 x4.toNatClampNeg) + 1) = M3 at hH
  replace h := h M3 eM3.symm
  refine lv_aload_n hx hb dX3_giveOut_63 rfl (lv_at hl 0 rfl) ?_
  refine fx_get C hH (fx_w4 g M3) rfl in_X3 2 (by decide) u_109 rfl rfl dX3_giveOut_64 ?_
  refine lv_iload hx hb dX3_giveOut_67 (lv_at hl 4 rfl) ?_
  refine lv_ldc2 hx hb hown (hts _ u_296) dX3_giveOut_69 ?_
  obtain ⟨hi4, h⟩ := h
  refine fx_last (j := x4.toNatClampNeg) (M' := fx_sl M3 17 x4.toNatClampNeg (-1)) C hH 17 rfl (fx_w17 g M3) (fx_p17 g M3 _ _) hi4 dX3_giveOut_72 (fun H locs hH => ?_)
  generalize eM5 : fx_sl M3 17 x4.toNatClampNeg (-1) = M5 at hH
  replace h := h M5 eM5.symm
  obtain ⟨v6, ev6⟩ : ∃ z : Int32, z = x3 + 1 := ⟨_, rfl⟩
  refine lv_iinc (v := v6) (lv' := [(3, .int v6), (0, .ref (fx_a g 4)), (1, .int x1), (2, .int x2), (4, .int x4)]) hx hb dX3_giveOut_73 hl (k := 3) rfl (by rw [ev6]; rfl) (by decide) rfl (fun ls hl => ?_)
  replace h := h v6 ev6
  refine lv_goto (tgt := 2) hx hb dX3_giveOut_76 (by decide) ?_
  exact hk2 x1 x2 v6 M5 h  H locs ls hH (lv_sub hl [1, 2, 3, 0] rfl)
def wb_X3_giveOut_4_2 (k2 : Int32 → Int32 → Int32 → fx_Mem → Prop) (Q : fx_Mem → Prop) (x1 : Int32) (x2 : Int32) (x3 : Int32) (M : fx_Mem) : Prop :=
  ((x1 ≤ x3 → Q M) ∧ (¬ x1 ≤ x3 → ((x2 ≤ x3 → Q M) ∧ (¬ x2 ≤ x3 → ∃ n18 : Nat, wl_X3_giveOut_4_18 (wb_X3_giveOut_4_52 k2 Q) Q n18 x1 x2 x3 0 1 M))))
set_option maxHeartbeats 4000000 in
set_option maxRecDepth 100000 in
theorem tb_X3_giveOut_4_2 {g : fx_Geo} {p : Program} {l : Launch} {e : Env} {s : State} {m : MethodId} {args : Array Value} {below : List Frame} {meth : Method} {c : Code} (C : fx_Cx g p s m args meth c RX3 cX3_giveOut 6 none) (k2 : Int32 → Int32 → Int32 → fx_Mem → Prop) (Q : fx_Mem → Prop) (hk2 : ∀ (x1 : Int32) (x2 : Int32) (x3 : Int32) (M : fx_Mem), k2 x1 x2 x3 M → ∀ (H : Heap) (locs : List Loc) (ls : Array Slot), fx_H g s M H locs → lv_has ls 6 [(0, .ref (fx_a g 4)), (1, .int x1), (2, .int x2), (3, .int x3)] → W p l e rm_X3_giveOut_4 s m args below meth c H locs 0 0 (MQ below (va_Qv Q (fx_Pw g) (fx_A g)) args s 0 0 (fx_A g)) (F0 m 2 ls [])) (x1 : Int32) (x2 : Int32) (x3 : Int32) (M : fx_Mem) (h : wb_X3_giveOut_4_2 k2 Q x1 x2 x3 M) (H : Heap) (locs : List Loc) (ls : Array Slot) (hH : fx_H g s M H locs) (hl : lv_has ls 6 [(0, .ref (fx_a g 4)), (1, .int x1), (2, .int x2), (3, .int x3)]) : W p l e rm_X3_giveOut_4 s m args below meth c H locs 0 0 (MQ below (va_Qv Q (fx_Pw g) (fx_A g)) args s 0 0 (fx_A g)) (F0 m 2 ls []) := by
  obtain ⟨hx, hb, hr, hml, hown, hts, hlocks, hsz, hK, hG, hSt⟩ := id C
  unfold wb_X3_giveOut_4_2 at h
  refine lv_iload_n hx hb dX3_giveOut_2 rfl (lv_at hl 3 rfl) ?_
  refine lv_iload_n hx hb dX3_giveOut_3 rfl (lv_at hl 1 rfl) ?_
  refine lv_icmp_ge (tgt := 79) hx hb dX3_giveOut_4 (by decide) (fun c1 => ?_) (fun c1 => ?_)
  · replace h := h.1 c1
    exact fx_vret C hH h dX3_giveOut_79
  · replace h := h.2 c1
    refine lv_iload_n hx hb dX3_giveOut_7 rfl (lv_at hl 3 rfl) ?_
    refine lv_iload_n hx hb dX3_giveOut_8 rfl (lv_at hl 2 rfl) ?_
    refine lv_icmp_ge (tgt := 79) hx hb dX3_giveOut_9 (by decide) (fun c2 => ?_) (fun c2 => ?_)
    · replace h := h.1 c2
      exact fx_vret C hH h dX3_giveOut_79
    · replace h := h.2 c2
      refine lv_iconst (v := 0) hx hb dX3_giveOut_12 (by decide) ?_
      refine lv_istore (lv' := [(4, .int 0), (0, .ref (fx_a g 4)), (1, .int x1), (2, .int x2), (3, .int x3)]) hx hb dX3_giveOut_13 hl (by decide) rfl (fun ls hl => ?_)
      refine lv_iconst (v := 1) hx hb dX3_giveOut_15 (by decide) ?_
      refine lv_istore (lv' := [(5, .int 1), (4, .int 0), (0, .ref (fx_a g 4)), (1, .int x1), (2, .int x2), (3, .int x3)]) hx hb dX3_giveOut_16 hl (by decide) rfl (fun ls hl => ?_)
      obtain ⟨n18, h⟩ := h
      exact tl_X3_giveOut_4_18 C (wb_X3_giveOut_4_52 k2 Q) Q (tb_X3_giveOut_4_52 C k2 Q hk2) n18 x1 x2 x3 0 1 M h  H locs ls hH (lv_sub hl [2, 3, 4, 5, 1, 0] rfl)
def wl_X3_giveOut_4_2 (Q : fx_Mem → Prop) (n : Nat) (x1 : Int32) (x2 : Int32) (x3 : Int32) (M : fx_Mem) : Prop :=
  fx_lp (α := Int32 × Int32 × Int32 × fx_Mem) (fun k a => wb_X3_giveOut_4_2 (fun x1 x2 x3 M => k (x1, x2, x3, M)) Q a.1 a.2.1 a.2.2.1 a.2.2.2) n (x1, x2, x3, M)
set_option maxHeartbeats 4000000 in
theorem tl_X3_giveOut_4_2 {g : fx_Geo} {p : Program} {l : Launch} {e : Env} {s : State} {m : MethodId} {args : Array Value} {below : List Frame} {meth : Method} {c : Code} (C : fx_Cx g p s m args meth c RX3 cX3_giveOut 6 none) (Q : fx_Mem → Prop) : ∀ (n : Nat) (x1 : Int32) (x2 : Int32) (x3 : Int32) (M : fx_Mem), wl_X3_giveOut_4_2  Q n x1 x2 x3 M → ∀ (H : Heap) (locs : List Loc) (ls : Array Slot), fx_H g s M H locs → lv_has ls 6 [(0, .ref (fx_a g 4)), (1, .int x1), (2, .int x2), (3, .int x3)] → W p l e rm_X3_giveOut_4 s m args below meth c H locs 0 0 (MQ below (va_Qv Q (fx_Pw g) (fx_A g)) args s 0 0 (fx_A g)) (F0 m 2 ls []) := by
  intro n
  induction n with
  | zero => intro x1 x2 x3 M h; exact False.elim h
  | succ n ih => intro x1 x2 x3 M h  H locs ls hH hl; exact tb_X3_giveOut_4_2 C (wl_X3_giveOut_4_2  Q n) Q ih x1 x2 x3 M h  H locs ls hH hl
def wp_X3_giveOut_4 (a1 : Int32) (a2 : Int32) (M : fx_Mem) (Q : fx_Mem → Prop) : Prop :=
  ∃ n2 : Nat, wl_X3_giveOut_4_2 Q n2 a1 a2 0 M
set_option maxHeartbeats 4000000 in
set_option maxRecDepth 100000 in
theorem c_X3_giveOut_4 (l : Launch) {g : fx_Geo} (hG : fx_Gd g) (a1 : Int32) (a2 : Int32) (M : fx_Mem) (Q : fx_Mem → Prop) (h : wp_X3_giveOut_4 a1 a2 M Q) : Met l yX3_giveOut (.code yX3_giveOut cX3_giveOut 6 none :: fx_U) rm_X3_giveOut_4 (va_Pc [.ref (fx_a g 4), .int a1, .int a2] (fx_At g M)) (va_Qv Q (fx_Pw g) (fx_A g)) 0 0 (fx_A g) := by
  refine Met.ofW (cc := cX3_giveOut) (maxL := 6) (ret := none) (by decide +kernel) rfl ?_
  intro p e s m args below meth c s₁ B hml hv
  obtain ⟨rfl, hv⟩ := hv
  have hts := atoms_spec (ws := .code yX3_giveOut cX3_giveOut 6 none :: fx_U) B.pre
  obtain ⟨C, hH⟩ := fx_body (own := RX3) B hml rfl (fun w hw => hts w (List.mem_cons_of_mem _ hw)) hG hv
  replace hts := fun w hw => hts w (List.mem_cons_of_mem _ hw)
  obtain ⟨hx, hb, hr, -, hown, -, hlocks, hsz, hK, -, hSt⟩ := id C
  have hl := lv_entry ([.ref (fx_a g 4), .int a1, .int a2]) (n := 6) (Nat.le_of_ble_eq_true rfl)
  rw [lg_entry_eq]
  generalize (lg_sl ([.ref (fx_a g 4), .int a1, .int a2]) ++ List.replicate (6 - (lg_sl ([.ref (fx_a g 4), .int a1, .int a2])).length) Slot.unset).toArray = ls at hl ⊢
  have hl : lv_has ls 6 [(0, .ref (fx_a g 4)), (1, .int a1), (2, .int a2)] := hl
  obtain ⟨H, eH⟩ : ∃ H : Heap, H = s.heap := ⟨_, rfl⟩
  obtain ⟨locs, elocs⟩ : ∃ q : List Loc, q = [] := ⟨_, rfl⟩
  rw [← eH, ← elocs] at hH
  show W p l e rm_X3_giveOut_4 s m _ below meth c s.heap [] 0 0 _ _
  rw [← eH, ← elocs]
  unfold wp_X3_giveOut_4 at h
  refine lv_iconst (v := 0) hx hb dX3_giveOut_0 (by decide) ?_
  refine lv_istore_n (lv' := [(3, .int 0), (0, .ref (fx_a g 4)), (1, .int a1), (2, .int a2)]) hx hb dX3_giveOut_1 rfl hl (by decide) rfl (fun ls hl => ?_)
  obtain ⟨n2, h⟩ := h
  exact tl_X3_giveOut_4_2 C Q  n2 a1 a2 0 M h  H locs ls hH (lv_sub hl [1, 2, 3, 0] rfl)
