/-! FlexLayout$MainAxis.findSizes(LFlexLayout$Container;LFlexLayout$Arrangement;LFlexLayout$Division;I)V (6, 1, 5, 4) -/
def rm_X5_findSizes_6_1_5_4 : Room := { frames := 3, cells := 0, slots := 0, locals := 76 }
def wb_X5_findSizes_6_1_5_4_21 (k21 : Int32 → Int32 → Int32 → fx_Mem → Prop) (k120 : Int32 → fx_Mem → Prop) (Q : fx_Mem → Prop) (x4 : Int32) (x5 : Int32) (x6 : Int32) (M : fx_Mem) : Prop :=
  ((20 < x6 → k120 x4 M) ∧ (¬ 20 < x6 → wp_X5_isFrozen_6_5 x4 M (fun r3 M2 => ((r3 = 0 → wp_X5_spaceLeft_6_1_5 x4 M2 (fun r6 M5 => wp_X5_weigh_6_1_5_4 x4 x5 r6 M5 (fun M7 => vp_in (x4 + 1) 21 ∧ vp_in x4 21 ∧ wp_X3_divide_4 (if 0 ≤ r6 then r6 else 0 - r6) ((M7.2.1 19 ((x4 + 1).toNatClampNeg)) - (M7.2.1 19 x4.toNatClampNeg)) M7 (fun M10 => wp_X5_resize_6_1_5_4 x4 x5 M10 (fun r12 M11 => wp_X5_freeze_6_5 x4 r12 M11 (fun M13 => vp_in x4 20 ∧ ∀ M15 : fx_Mem, M15 = fx_sa M13 22 x4.toNatClampNeg x6 → ∀ v16 : Int32, v16 = x6 + 1 → k21 x4 x5 v16 M15)))))) ∧ (¬ r3 = 0 → k120 x4 M2)))))
set_option maxHeartbeats 4000000 in
set_option maxRecDepth 100000 in
theorem tb_X5_findSizes_6_1_5_4_21 {g : fx_Geo} {p : Program} {l : Launch} {e : Env} {s : State} {m : MethodId} {args : Array Value} {below : List Frame} {meth : Method} {c : Code} (C : fx_Cx g p s m args meth c RX5 cX5_findSizes 8 none) (k21 : Int32 → Int32 → Int32 → fx_Mem → Prop) (k120 : Int32 → fx_Mem → Prop) (Q : fx_Mem → Prop) (hk21 : ∀ (x4 : Int32) (x5 : Int32) (x6 : Int32) (M : fx_Mem), k21 x4 x5 x6 M → ∀ (H : Heap) (locs : List Loc) (ls : Array Slot), fx_H g s M H locs → lv_has ls 8 [(0, .ref (fx_a g 6)), (1, .ref (fx_a g 1)), (2, .ref (fx_a g 5)), (3, .ref (fx_a g 4)), (4, .int x4), (5, .int x5), (6, .int x6)] → W p l e rm_X5_findSizes_6_1_5_4 s m args below meth c H locs 0 0 (MQ below (va_Qv Q (fx_Pw g) (fx_A g)) args s 0 0 (fx_A g)) (F0 m 21 ls [])) (hk120 : ∀ (x4 : Int32) (M : fx_Mem), k120 x4 M → ∀ (H : Heap) (locs : List Loc) (ls : Array Slot), fx_H g s M H locs → lv_has ls 8 [(0, .ref (fx_a g 6)), (1, .ref (fx_a g 1)), (2, .ref (fx_a g 5)), (4, .int x4)] → W p l e rm_X5_findSizes_6_1_5_4 s m args below meth c H locs 0 0 (MQ below (va_Qv Q (fx_Pw g) (fx_A g)) args s 0 0 (fx_A g)) (F0 m 120 ls [])) (x4 : Int32) (x5 : Int32) (x6 : Int32) (M : fx_Mem) (h : wb_X5_findSizes_6_1_5_4_21 k21 k120 Q x4 x5 x6 M) (H : Heap) (locs : List Loc) (ls : Array Slot) (hH : fx_H g s M H locs) (hl : lv_has ls 8 [(0, .ref (fx_a g 6)), (1, .ref (fx_a g 1)), (2, .ref (fx_a g 5)), (3, .ref (fx_a g 4)), (4, .int x4), (5, .int x5), (6, .int x6)]) : W p l e rm_X5_findSizes_6_1_5_4 s m args below meth c H locs 0 0 (MQ below (va_Qv Q (fx_Pw g) (fx_A g)) args s 0 0 (fx_A g)) (F0 m 21 ls []) := by
  obtain ⟨hx, hb, hr, hml, hown, hts, hlocks, hsz, hK, hG, hSt⟩ := id C
  unfold wb_X5_findSizes_6_1_5_4_21 at h
  refine lv_iload hx hb dX5_findSizes_21 (lv_at hl 6 rfl) ?_
  refine lv_bipush (v := 20) hx hb dX5_findSizes_23 (by decide) ?_
  refine lv_icmp_gt (tgt := 120) hx hb dX5_findSizes_25 (by decide) (fun c1 => ?_) (fun c1 => ?_)
  · replace h := h.1 c1
    exact hk120 x4 M h  H locs ls hH (lv_sub hl [0, 1, 2, 4] rfl)
  · replace h := h.2 c1
    refine lv_aload_n hx hb dX5_findSizes_28 rfl (lv_at hl 0 rfl) ?_
    refine lv_aload_n hx hb dX5_findSizes_29 rfl (lv_at hl 2 rfl) ?_
    refine lv_iload hx hb dX5_findSizes_30 (lv_at hl 4 rfl) ?_
    refine fx_ci hH (fx_runV (As := [.ref (fx_a g 5), .int x4]) (rest := []) C hH (c_X5_isFrozen_6_5 l C.2.2.2.2.2.2.2.2.2.1 x4 M _ h) (fx_cwV 2 hts u_341 u_343 us_10 u_6 u_344 rfl rfl (by decide +kernel) ⟨(Nat.le_of_ble_eq_true rfl), (Nat.le_of_ble_eq_true rfl)⟩) (fx_w6 g M) rfl rfl hl.1 rfl (Nat.le_of_ble_eq_true rfl) dX5_findSizes_32 ⟨(Nat.le_of_ble_eq_true rfl), (Nat.le_of_ble_eq_true rfl)⟩) (fun r3 M2 H locs h hH => ?_)
    refine lv_if_ne (tgt := 120) hx hb dX5_findSizes_35 (by decide) (fun c4 => ?_) (fun c4 => ?_)
    · replace h := h.2 c4
      exact hk120 x4 M2 h  H locs ls hH (lv_sub hl [0, 1, 2, 4] rfl)
    · replace h := h.1 c4
      refine lv_aload_n hx hb dX5_findSizes_38 rfl (lv_at hl 0 rfl) ?_
      refine lv_aload_n hx hb dX5_findSizes_39 rfl (lv_at hl 1 rfl) ?_
      refine lv_aload_n hx hb dX5_findSizes_40 rfl (lv_at hl 2 rfl) ?_
      refine lv_iload hx hb dX5_findSizes_41 (lv_at hl 4 rfl) ?_
      refine fx_ci hH (fx_runV (As := [.ref (fx_a g 1), .ref (fx_a g 5), .int x4]) (rest := []) C hH (c_X5_spaceLeft_6_1_5 l C.2.2.2.2.2.2.2.2.2.1 x4 M2 _ h) (fx_cwV 3 hts u_345 u_347 us_11 u_6 u_348 rfl rfl (by decide +kernel) ⟨(Nat.le_of_ble_eq_true rfl), (Nat.le_of_ble_eq_true rfl)⟩) (fx_w6 g M2) rfl rfl hl.1 rfl (Nat.le_of_ble_eq_true rfl) dX5_findSizes_43 ⟨(Nat.le_of_ble_eq_true rfl), (Nat.le_of_ble_eq_true rfl)⟩) (fun r6 M5 H locs h hH => ?_)
      refine lv_istore (lv' := [(7, .int r6), (0, .ref (fx_a g 6)), (1, .ref (fx_a g 1)), (2, .ref (fx_a g 5)), (3, .ref (fx_a g 4)), (4, .int x4), (5, .int x5), (6, .int x6)]) hx hb dX5_findSizes_46 hl (by decide) rfl (fun ls hl => ?_)
      refine lv_aload_n hx hb dX5_findSizes_48 rfl (lv_at hl 1 rfl) ?_
      refine lv_aload_n hx hb dX5_findSizes_49 rfl (lv_at hl 2 rfl) ?_
      refine lv_aload_n hx hb dX5_findSizes_50 rfl (lv_at hl 3 rfl) ?_
      refine lv_aload_n hx hb dX5_findSizes_51 rfl (lv_at hl 4 rfl) ?_
      refine lv_iload hx hb dX5_findSizes_52 (lv_at hl 5 rfl) ?_
      refine lv_iload hx hb dX5_findSizes_54 (lv_at hl 6 rfl) ?_
      refine lv_iload hx hb dX5_findSizes_56 (lv_at hl 0 rfl) ?_
      refine fx_cv hH (fx_runV (As := [.ref (fx_a g 1), .ref (fx_a g 5), .ref (fx_a g 4), .int x4, .int x5, .int r6]) (rest := []) C hH (c_X5_weigh_6_1_5_4 l C.2.2.2.2.2.2.2.2.2.1 x4 x5 r6 M5 _ h) (fx_cwV 6 hts u_349 u_351 us_12 u_6 u_352 rfl rfl (by decide +kernel) ⟨(Nat.le_of_ble_eq_true rfl), (Nat.le_of_ble_eq_true rfl)⟩) (fx_w6 g M5) rfl rfl hl.1 rfl (Nat.le_of_ble_eq_true rfl) dX5_findSizes_58 ⟨(Nat.le_of_ble_eq_true rfl), (Nat.le_of_ble_eq_true rfl)⟩) (fun M7 H locs h hH => ?_)
      refine lv_aload_n hx hb dX5_findSizes_61 rfl (lv_at hl 4 rfl) ?_
      refine lv_iload hx hb dX5_findSizes_62 (lv_at hl 0 rfl) ?_
      refine va_mabs hx hb (hml.trans hl.1.symm) hown (hts _ u_353) (hts _ u_354) (hts _ u_17) (hts _ u_355) (Nat.le_of_ble_eq_true rfl) (Nat.le_of_ble_eq_true rfl) (Nat.le_of_ble_eq_true rfl) (Nat.le_of_ble_eq_true rfl) dX5_findSizes_64 ?_
      refine lv_aload_n hx hb dX5_findSizes_67 rfl (lv_at hl 3 rfl) ?_
      refine fx_get C hH (fx_w5 g M7) rfl in_X0 1 (by decide) u_130 rfl rfl dX5_findSizes_68 ?_
      refine lv_iload hx hb dX5_findSizes_71 (lv_at hl 5 rfl) ?_
      refine lv_iconst (v := 1) hx hb dX5_findSizes_73 (by decide) ?_
      refine lv_iadd hx hb dX5_findSizes_74 ?_
      obtain ⟨hi8, h⟩ := h
      refine fx_iald (j := (x4 + 1).toNatClampNeg) C hH 19 (fx_w19 g M7) rfl hi8 dX5_findSizes_75 ?_
      refine lv_aload_n hx hb dX5_findSizes_76 rfl (lv_at hl 3 rfl) ?_
      refine fx_get C hH (fx_w5 g M7) rfl in_X0 1 (by decide) u_130 rfl rfl dX5_findSizes_77 ?_
      refine lv_iload hx hb dX5_findSizes_80 (lv_at hl 5 rfl) ?_
      obtain ⟨hi9, h⟩ := h
      refine fx_iald (j := x4.toNatClampNeg) C hH 19 (fx_w19 g M7) rfl hi9 dX5_findSizes_82 ?_
      refine lv_isub hx hb dX5_findSizes_83 ?_
      refine fx_cv hH (fx_runV (As := [.int (if 0 ≤ r6 then r6 else 0 - r6), .int ((M7.2.1 19 ((x4 + 1).toNatClampNeg)) - (M7.2.1 19 x4.toNatClampNeg))]) (rest := []) C hH (c_X3_divide_4 l C.2.2.2.2.2.2.2.2.2.1 (if 0 ≤ r6 then r6 else 0 - r6) ((M7.2.1 19 ((x4 + 1).toNatClampNeg)) - (M7.2.1 19 x4.toNatClampNeg)) M7 _ h) (fx_cwV 2 hts u_356 u_285 u_286 u_4 u_287 rfl rfl (by decide +kernel) ⟨(Nat.le_of_ble_eq_true rfl), (Nat.le_of_ble_eq_true rfl)⟩) (fx_w4 g M7) rfl rfl hl.1 rfl (Nat.le_of_ble_eq_true rfl) dX5_findSizes_84 ⟨(Nat.le_of_ble_eq_true rfl), (Nat.le_of_ble_eq_true rfl)⟩) (fun M10 H locs h hH => ?_)
      refine lv_aload_n hx hb dX5_findSizes_87 rfl (lv_at hl 1 rfl) ?_
      refine lv_aload_n hx hb dX5_findSizes_88 rfl (lv_at hl 3 rfl) ?_
      refine lv_iload hx hb dX5_findSizes_89 (lv_at hl 5 rfl) ?_
      refine lv_aload_n hx hb dX5_findSizes_91 rfl (lv_at hl 1 rfl) ?_
      refine lv_aload_n hx hb dX5_findSizes_92 rfl (lv_at hl 2 rfl) ?_
      refine lv_aload_n hx hb dX5_findSizes_93 rfl (lv_at hl 3 rfl) ?_
      refine lv_aload_n hx hb dX5_findSizes_94 rfl (lv_at hl 4 rfl) ?_
      refine lv_iload hx hb dX5_findSizes_95 (lv_at hl 5 rfl) ?_
      refine lv_iload hx hb dX5_findSizes_97 (lv_at hl 6 rfl) ?_
      refine fx_ci hH (fx_runV (As := [.ref (fx_a g 1), .ref (fx_a g 5), .ref (fx_a g 4), .int x4, .int x5]) (rest := [.int x4, .ref (fx_a g 5), .ref (fx_a g 6)]) C hH (c_X5_resize_6_1_5_4 l C.2.2.2.2.2.2.2.2.2.1 x4 x5 M10 _ h) (fx_cwV 5 hts u_357 u_359 us_13 u_6 u_360 rfl rfl (by decide +kernel) ⟨(Nat.le_of_ble_eq_true rfl), (Nat.le_of_ble_eq_true rfl)⟩) (fx_w6 g M10) rfl rfl hl.1 rfl (Nat.le_of_ble_eq_true rfl) dX5_findSizes_99 ⟨(Nat.le_of_ble_eq_true rfl), (Nat.le_of_ble_eq_true rfl)⟩) (fun r12 M11 H locs h hH => ?_)
      refine fx_cv hH (fx_runV (As := [.ref (fx_a g 5), .int x4, .int r12]) (rest := []) C hH (c_X5_freeze_6_5 l C.2.2.2.2.2.2.2.2.2.1 x4 r12 M11 _ h) (fx_cwV 3 hts u_362 u_364 us_14 u_6 u_365 rfl rfl (by decide +kernel) ⟨(Nat.le_of_ble_eq_true rfl), (Nat.le_of_ble_eq_true rfl)⟩) (fx_w6 g M11) rfl rfl hl.1 rfl (Nat.le_of_ble_eq_true rfl) dX5_findSizes_102 ⟨(Nat.le_of_ble_eq_true rfl), (Nat.le_of_ble_eq_true rfl)⟩) (fun M13 H locs h hH => ?_)
      refine lv_aload_n hx hb dX5_findSizes_105 rfl (lv_at hl 1 rfl) ?_
      refine fx_get C hH (fx_w6 g M13) rfl in_X5 2 (by decide) u_152 rfl rfl dX5_findSizes_106 ?_
      refine lv_iload hx hb dX5_findSizes_109 (lv_at hl 5 rfl) ?_
      refine lv_iload hx hb dX5_findSizes_111 (lv_at hl 7 rfl) ?_
      obtain ⟨hi14, h⟩ := h
      refine fx_iast (j := x4.toNatClampNeg) (M' := fx_sa M13 22 x4.toNatClampNeg x6) C hH 22 rfl (fx_w22 g M13) (fx_p22 g M13 _) hi14 dX5_findSizes_113 (fun H locs hH => ?_)
      generalize eM15 : fx_sa M13 22 x4.toNatClampNeg x6 = M15 at hH
      replace h := h M15 eM15.symm
      obtain ⟨v16, ev16⟩ : ∃ z : Int32, z = x6 + 1 := ⟨_, rfl⟩
      refine lv_iinc (v := v16) (lv' := [(6, .int v16), (7, .int r6), (0, .ref (fx_a g 6)), (1, .ref (fx_a g 1)), (2, .ref (fx_a g 5)), (3, .ref (fx_a g 4)), (4, .int x4), (5, .int x5)]) hx hb dX5_findSizes_114 hl (k := 7) rfl (by rw [ev16]; rfl) (by decide) rfl (fun ls hl => ?_)
      replace h := h v16 ev16
      refine lv_goto (tgt := 21) hx hb dX5_findSizes_117 (by decide) ?_
      exact hk21 x4 x5 v16 M15 h  H locs ls hH (lv_sub hl [2, 3, 4, 5, 6, 7, 0] rfl)
def wl_X5_findSizes_6_1_5_4_21 (k120 : Int32 → fx_Mem → Prop) (Q : fx_Mem → Prop) (n : Nat) (x4 : Int32) (x5 : Int32) (x6 : Int32) (M : fx_Mem) : Prop :=
  fx_lp (α := Int32 × Int32 × Int32 × fx_Mem) (fun k a => wb_X5_findSizes_6_1_5_4_21 (fun x4 x5 x6 M => k (x4, x5, x6, M)) k120 Q a.1 a.2.1 a.2.2.1 a.2.2.2) n (x4, x5, x6, M)
set_option maxHeartbeats 4000000 in
theorem tl_X5_findSizes_6_1_5_4_21 {g : fx_Geo} {p : Program} {l : Launch} {e : Env} {s : State} {m : MethodId} {args : Array Value} {below : List Frame} {meth : Method} {c : Code} (C : fx_Cx g p s m args meth c RX5 cX5_findSizes 8 none) (k120 : Int32 → fx_Mem → Prop) (Q : fx_Mem → Prop) (hk120 : ∀ (x4 : Int32) (M : fx_Mem), k120 x4 M → ∀ (H : Heap) (locs : List Loc) (ls : Array Slot), fx_H g s M H locs → lv_has ls 8 [(0, .ref (fx_a g 6)), (1, .ref (fx_a g 1)), (2, .ref (fx_a g 5)), (4, .int x4)] → W p l e rm_X5_findSizes_6_1_5_4 s m args below meth c H locs 0 0 (MQ below (va_Qv Q (fx_Pw g) (fx_A g)) args s 0 0 (fx_A g)) (F0 m 120 ls [])) : ∀ (n : Nat) (x4 : Int32) (x5 : Int32) (x6 : Int32) (M : fx_Mem), wl_X5_findSizes_6_1_5_4_21 k120 Q n x4 x5 x6 M → ∀ (H : Heap) (locs : List Loc) (ls : Array Slot), fx_H g s M H locs → lv_has ls 8 [(0, .ref (fx_a g 6)), (1, .ref (fx_a g 1)), (2, .ref (fx_a g 5)), (3, .ref (fx_a g 4)), (4, .int x4), (5, .int x5), (6, .int x6)] → W p l e rm_X5_findSizes_6_1_5_4 s m args below meth c H locs 0 0 (MQ below (va_Qv Q (fx_Pw g) (fx_A g)) args s 0 0 (fx_A g)) (F0 m 21 ls []) := by
  intro n
  induction n with
  | zero => intro x4 x5 x6 M h; exact False.elim h
  | succ n ih => intro x4 x5 x6 M h  H locs ls hH hl; exact tb_X5_findSizes_6_1_5_4_21 C (wl_X5_findSizes_6_1_5_4_21 k120 Q n) k120 Q ih hk120 x4 x5 x6 M h  H locs ls hH hl
def wb_X5_findSizes_6_1_5_4_120 (Q : fx_Mem → Prop) (x4 : Int32) (M : fx_Mem) : Prop :=
  wp_X5_spaceLeft_6_1_5 x4 M (fun r2 M1 => vp_in x4 20 ∧ ∀ M4 : fx_Mem, M4 = fx_sa M1 23 x4.toNatClampNeg r2 → Q M4)
set_option maxHeartbeats 4000000 in
set_option maxRecDepth 100000 in
theorem tb_X5_findSizes_6_1_5_4_120 {g : fx_Geo} {p : Program} {l : Launch} {e : Env} {s : State} {m : MethodId} {args : Array Value} {below : List Frame} {meth : Method} {c : Code} (C : fx_Cx g p s m args meth c RX5 cX5_findSizes 8 none) (Q : fx_Mem → Prop) (x4 : Int32) (M : fx_Mem) (h : wb_X5_findSizes_6_1_5_4_120 Q x4 M) (H : Heap) (locs : List Loc) (ls : Array Slot) (hH : fx_H g s M H locs) (hl : lv_has ls 8 [(0, .ref (fx_a g 6)), (1, .ref (fx_a g 1)), (2, .ref (fx_a g 5)), (4, .int x4)]) : W p l e rm_X5_findSizes_6_1_5_4 s m args below meth c H locs 0 0 (MQ below (va_Qv Q (fx_Pw g) (fx_A g)) args s 0 0 (fx_A g)) (F0 m 120 ls []) := by
  obtain ⟨hx, hb, hr, hml, hown, hts, hlocks, hsz, hK, hG, hSt⟩ := id C
  unfold wb_X5_findSizes_6_1_5_4_120 at h
  refine lv_aload_n hx hb dX5_findSizes_120 rfl (lv_at hl 0 rfl) ?_
  refine fx_get C hH (fx_w6 g M) rfl in_X5 3 (by decide) u_154 rfl rfl dX5_findSizes_121 ?_
  refine lv_iload hx hb dX5_findSizes_124 (lv_at hl 3 rfl) ?_
  refine lv_aload_n hx hb dX5_findSizes_126 rfl (lv_at hl 0 rfl) ?_
  refine lv_aload_n hx hb dX5_findSizes_127 rfl (lv_at hl 1 rfl) ?_
  refine lv_aload_n hx hb dX5_findSizes_128 rfl (lv_at hl 2 rfl) ?_
  refine lv_iload hx hb dX5_findSizes_129 (lv_at hl 3 rfl) ?_
  refine fx_ci hH (fx_runV (As := [.ref (fx_a g 1), .ref (fx_a g 5), .int x4]) (rest := [.int x4, .ref (fx_a g 23)]) C hH (c_X5_spaceLeft_6_1_5 l C.2.2.2.2.2.2.2.2.2.1 x4 M _ h) (fx_cwV 3 hts u_345 u_347 us_11 u_6 u_348 rfl rfl (by decide +kernel) ⟨(Nat.le_of_ble_eq_true rfl), (Nat.le_of_ble_eq_true rfl)⟩) (fx_w6 g M) rfl rfl hl.1 rfl (Nat.le_of_ble_eq_true rfl) dX5_findSizes_131 ⟨(Nat.le_of_ble_eq_true rfl), (Nat.le_of_ble_eq_true rfl)⟩) (fun r2 M1 H locs h hH => ?_)
  obtain ⟨hi3, h⟩ := h
  refine fx_iast (j := x4.toNatClampNeg) (M' := fx_sa M1 23 x4.toNatClampNeg r2) C hH 23 rfl (fx_w23 g M1) (fx_p23 g M1 _) hi3 dX5_findSizes_134 (fun H locs hH => ?_)
  generalize eM4 : fx_sa M1 23 x4.toNatClampNeg r2 = M4 at hH
  replace h := h M4 eM4.symm
  exact fx_vret C hH h dX5_findSizes_135
def wp_X5_findSizes_6_1_5_4 (a4 : Int32) (M : fx_Mem) (Q : fx_Mem → Prop) : Prop :=
  wp_X5_freezeAtOnce_6_1_5 a4 M (fun r2 M1 => vp_in a4 20 ∧ ∀ M4 : fx_Mem, M4 = fx_sa M1 22 a4.toNatClampNeg 0 → ∃ n21 : Nat, wl_X5_findSizes_6_1_5_4_21 (wb_X5_findSizes_6_1_5_4_120 Q) Q n21 a4 r2 1 M4)
set_option maxHeartbeats 4000000 in
set_option maxRecDepth 100000 in
theorem c_X5_findSizes_6_1_5_4 (l : Launch) {g : fx_Geo} (hG : fx_Gd g) (a4 : Int32) (M : fx_Mem) (Q : fx_Mem → Prop) (h : wp_X5_findSizes_6_1_5_4 a4 M Q) : Met l yX5_findSizes (.code yX5_findSizes cX5_findSizes 8 none :: fx_U) rm_X5_findSizes_6_1_5_4 (va_Pc [.ref (fx_a g 6), .ref (fx_a g 1), .ref (fx_a g 5), .ref (fx_a g 4), .int a4] (fx_At g M)) (va_Qv Q (fx_Pw g) (fx_A g)) 0 0 (fx_A g) := by
  refine Met.ofW (cc := cX5_findSizes) (maxL := 8) (ret := none) (by decide +kernel) rfl ?_
  intro p e s m args below meth c s₁ B hml hv
  obtain ⟨rfl, hv⟩ := hv
  have hts := atoms_spec (ws := .code yX5_findSizes cX5_findSizes 8 none :: fx_U) B.pre
  obtain ⟨C, hH⟩ := fx_body (own := RX5) B hml rfl (fun w hw => hts w (List.mem_cons_of_mem _ hw)) hG hv
  replace hts := fun w hw => hts w (List.mem_cons_of_mem _ hw)
  obtain ⟨hx, hb, hr, -, hown, -, hlocks, hsz, hK, -, hSt⟩ := id C
  have hl := lv_entry ([.ref (fx_a g 6), .ref (fx_a g 1), .ref (fx_a g 5), .ref (fx_a g 4), .int a4]) (n := 8) (Nat.le_of_ble_eq_true rfl)
  rw [lg_entry_eq]
  generalize (lg_sl ([.ref (fx_a g 6), .ref (fx_a g 1), .ref (fx_a g 5), .ref (fx_a g 4), .int a4]) ++ List.replicate (8 - (lg_sl ([.ref (fx_a g 6), .ref (fx_a g 1), .ref (fx_a g 5), .ref (fx_a g 4), .int a4])).length) Slot.unset).toArray = ls at hl ⊢
  have hl : lv_has ls 8 [(0, .ref (fx_a g 6)), (1, .ref (fx_a g 1)), (2, .ref (fx_a g 5)), (3, .ref (fx_a g 4)), (4, .int a4)] := hl
  obtain ⟨H, eH⟩ : ∃ H : Heap, H = s.heap := ⟨_, rfl⟩
  obtain ⟨locs, elocs⟩ : ∃ q : List Loc, q = [] := ⟨_, rfl⟩
  rw [← eH, ← elocs] at hH
  show W p l e rm_X5_findSizes_6_1_5_4 s m _ below meth c s.heap [] 0 0 _ _
  rw [← eH, ← elocs]
  unfold wp_X5_findSizes_6_1_5_4 at h
  refine lv_aload_n hx hb dX5_findSizes_0 rfl (lv_at hl 0 rfl) ?_
  refine lv_aload_n hx hb dX5_findSizes_1 rfl (lv_at hl 1 rfl) ?_
  refine lv_aload_n hx hb dX5_findSizes_2 rfl (lv_at hl 2 rfl) ?_
  refine lv_iload hx hb dX5_findSizes_3 (lv_at hl 4 rfl) ?_
  refine fx_ci hH (fx_runV (As := [.ref (fx_a g 1), .ref (fx_a g 5), .int a4]) (rest := []) C hH (c_X5_freezeAtOnce_6_1_5 l C.2.2.2.2.2.2.2.2.2.1 a4 M _ h) (fx_cwV 3 hts u_332 u_334 us_9 u_6 u_335 rfl rfl (by decide +kernel) ⟨(Nat.le_of_ble_eq_true rfl), (Nat.le_of_ble_eq_true rfl)⟩) (fx_w6 g M) rfl rfl hl.1 rfl (Nat.le_of_ble_eq_true rfl) dX5_findSizes_5 ⟨(Nat.le_of_ble_eq_true rfl), (Nat.le_of_ble_eq_true rfl)⟩) (fun r2 M1 H locs h hH => ?_)
  refine lv_istore (lv' := [(5, .int r2), (0, .ref (fx_a g 6)), (1, .ref (fx_a g 1)), (2, .ref (fx_a g 5)), (3, .ref (fx_a g 4)), (4, .int a4)]) hx hb dX5_findSizes_8 hl (by decide) rfl (fun ls hl => ?_)
  refine lv_aload_n hx hb dX5_findSizes_10 rfl (lv_at hl 1 rfl) ?_
  refine fx_get C hH (fx_w6 g M1) rfl in_X5 2 (by decide) u_152 rfl rfl dX5_findSizes_11 ?_
  refine lv_iload hx hb dX5_findSizes_14 (lv_at hl 5 rfl) ?_
  refine lv_iconst (v := 0) hx hb dX5_findSizes_16 (by decide) ?_
  obtain ⟨hi3, h⟩ := h
  refine fx_iast (j := a4.toNatClampNeg) (M' := fx_sa M1 22 a4.toNatClampNeg 0) C hH 22 rfl (fx_w22 g M1) (fx_p22 g M1 _) hi3 dX5_findSizes_17 (fun H locs hH => ?_)
  generalize eM4 : fx_sa M1 22 a4.toNatClampNeg 0 = M4 at hH
  replace h := h M4 eM4.symm
  refine lv_iconst (v := 1) hx hb dX5_findSizes_18 (by decide) ?_
  refine lv_istore (lv' := [(6, .int 1), (5, .int r2), (0, .ref (fx_a g 6)), (1, .ref (fx_a g 1)), (2, .ref (fx_a g 5)), (3, .ref (fx_a g 4)), (4, .int a4)]) hx hb dX5_findSizes_19 hl (by decide) rfl (fun ls hl => ?_)
  obtain ⟨n21, h⟩ := h
  exact tl_X5_findSizes_6_1_5_4_21 C (wb_X5_findSizes_6_1_5_4_120 Q) Q (tb_X5_findSizes_6_1_5_4_120 C Q ) n21 a4 r2 1 M4 h  H locs ls hH (lv_sub hl [2, 3, 4, 5, 6, 1, 0] rfl)
/-! FlexLayout.offset(IIII)I () -/
def rm_X6_offset : Room := { frames := 1, cells := 0, slots := 0, locals := 22 }
def wb_X6_offset_27 (Q : Int32 → fx_Mem → Prop) (x1 : Int32) (x2 : Int32) (x3 : Int32) (x4 : Int32) (M : fx_Mem) : Prop :=
  ((x4 = 1 → Q x1 M) ∧ (x4 = 2 → Q (fx_fd x1 2) M) ∧ (x4 = 3 → ((x3 ≤ 1 → Q 0 M) ∧ (¬ x3 ≤ 1 → (¬ x3 - 1 = 0) ∧ Q ((x1 * x2) / (x3 - 1)) M))) ∧ (x4 = 4 → ((x3 ≤ 0 → Q 0 M) ∧ (¬ x3 ≤ 0 → (¬ 2 * x3 = 0) ∧ Q ((x1 * ((2 * x2) + 1)) / (2 * x3)) M))) ∧ (x4 = 5 → ((x3 ≤ 0 → Q 0 M) ∧ (¬ x3 ≤ 0 → (¬ x3 + 1 = 0) ∧ Q ((x1 * (x2 + 1)) / (x3 + 1)) M))) ∧ (¬ x4 = 1 → ¬ x4 = 2 → ¬ x4 = 3 → ¬ x4 = 4 → ¬ x4 = 5 → Q 0 M))
set_option maxHeartbeats 4000000 in
set_option maxRecDepth 100000 in
theorem tb_X6_offset_27 {g : fx_Geo} {p : Program} {l : Launch} {e : Env} {s : State} {m : MethodId} {args : Array Value} {below : List Frame} {meth : Method} {c : Code} (C : fx_Cx g p s m args meth c RX6 cX6_offset 5 (some .int)) (Q : Int32 → fx_Mem → Prop) (x1 : Int32) (x2 : Int32) (x3 : Int32) (x4 : Int32) (M : fx_Mem) (h : wb_X6_offset_27 Q x1 x2 x3 x4 M) (H : Heap) (locs : List Loc) (ls : Array Slot) (hH : fx_H g s M H locs) (hl : lv_has ls 5 [(1, .int x1), (2, .int x2), (3, .int x3), (4, .int x4)]) : W p l e rm_X6_offset s m args below meth c H locs 0 0 (MQ below (va_Qi Q (fx_Pw g) (fx_A g)) args s 0 0 (fx_A g)) (F0 m 27 ls []) := by
  obtain ⟨hx, hb, hr, hml, hown, hts, hlocks, hsz, hK, hG, hSt⟩ := id C
  unfold wb_X6_offset_27 at h
  refine lv_iload hx hb dX6_offset_27 (lv_at hl 3 rfl) ?_
  by_cases c1 : x4 = 1
  · replace h := h.1 c1
    refine lv_tableIn (off := 35) (tgt := 64) hx hb dX6_offset_29 (by rw [c1]; decide) (by rw [c1]; decide) (by rw [c1]; rfl) (by decide) ?_
    refine lv_iload_n hx hb dX6_offset_64 rfl (lv_at hl 0 rfl) ?_
    exact fx_iret C hH h dX6_offset_65
  by_cases c2 : x4 = 2
  · replace h := h.2.1 c2
    refine lv_tableIn (off := 37) (tgt := 66) hx hb dX6_offset_29 (by rw [c2]; decide) (by rw [c2]; decide) (by rw [c2]; rfl) (by decide) ?_
    refine lv_iload_n hx hb dX6_offset_66 rfl (lv_at hl 0 rfl) ?_
    refine lv_iconst (v := 2) hx hb dX6_offset_67 (by decide) ?_
    refine fx_floorDiv C hl.1 u_304 u_305 u_17 u_306 (by decide) (Nat.le_of_ble_eq_true rfl) (Nat.le_of_ble_eq_true rfl) (Nat.le_of_ble_eq_true rfl) (Nat.le_of_ble_eq_true rfl) (Nat.le_of_ble_eq_true rfl) dX6_offset_68 ?_
    exact fx_iret C hH h dX6_offset_71
  by_cases c5 : x4 = 3
  · replace h := h.2.2.1 c5
    refine lv_tableIn (off := 43) (tgt := 72) hx hb dX6_offset_29 (by rw [c5]; decide) (by rw [c5]; decide) (by rw [c5]; rfl) (by decide) ?_
    refine lv_iload_n hx hb dX6_offset_72 rfl (lv_at hl 2 rfl) ?_
    refine lv_iconst (v := 1) hx hb dX6_offset_73 (by decide) ?_
    refine lv_icmp_le (tgt := 87) hx hb dX6_offset_74 (by decide) (fun c3 => ?_) (fun c3 => ?_)
    · replace h := h.1 c3
      refine lv_iconst (v := 0) hx hb dX6_offset_87 (by decide) ?_
      exact fx_iret C hH h dX6_offset_88
    · replace h := h.2 c3
      refine lv_iload_n hx hb dX6_offset_77 rfl (lv_at hl 0 rfl) ?_
      refine lv_iload_n hx hb dX6_offset_78 rfl (lv_at hl 1 rfl) ?_
      refine lv_imul hx hb dX6_offset_79 ?_
      refine lv_iload_n hx hb dX6_offset_80 rfl (lv_at hl 2 rfl) ?_
      refine lv_iconst (v := 1) hx hb dX6_offset_81 (by decide) ?_
      refine lv_isub hx hb dX6_offset_82 ?_
      obtain ⟨hz4, h⟩ := h
      refine lv_idiv hx hb dX6_offset_83 hz4 ?_
      refine lv_goto (tgt := 88) hx hb dX6_offset_84 (by decide) ?_
      exact fx_iret C hH h dX6_offset_88
  by_cases c8 : x4 = 4
  · replace h := h.2.2.2.1 c8
    refine lv_tableIn (off := 60) (tgt := 89) hx hb dX6_offset_29 (by rw [c8]; decide) (by rw [c8]; decide) (by rw [c8]; rfl) (by decide) ?_
    refine lv_iload_n hx hb dX6_offset_89 rfl (lv_at hl 2 rfl) ?_
    refine lv_if_le (tgt := 107) hx hb dX6_offset_90 (by decide) (fun c6 => ?_) (fun c6 => ?_)
    · replace h := h.1 c6
      refine lv_iconst (v := 0) hx hb dX6_offset_107 (by decide) ?_
      exact fx_iret C hH h dX6_offset_108
    · replace h := h.2 c6
      refine lv_iload_n hx hb dX6_offset_93 rfl (lv_at hl 0 rfl) ?_
      refine lv_iconst (v := 2) hx hb dX6_offset_94 (by decide) ?_
      refine lv_iload_n hx hb dX6_offset_95 rfl (lv_at hl 1 rfl) ?_
      refine lv_imul hx hb dX6_offset_96 ?_
      refine lv_iconst (v := 1) hx hb dX6_offset_97 (by decide) ?_
      refine lv_iadd hx hb dX6_offset_98 ?_
      refine lv_imul hx hb dX6_offset_99 ?_
      refine lv_iconst (v := 2) hx hb dX6_offset_100 (by decide) ?_
      refine lv_iload_n hx hb dX6_offset_101 rfl (lv_at hl 2 rfl) ?_
      refine lv_imul hx hb dX6_offset_102 ?_
      obtain ⟨hz7, h⟩ := h
      refine lv_idiv hx hb dX6_offset_103 hz7 ?_
      refine lv_goto (tgt := 108) hx hb dX6_offset_104 (by decide) ?_
      exact fx_iret C hH h dX6_offset_108
  by_cases c11 : x4 = 5
  · replace h := h.2.2.2.2.1 c11
    refine lv_tableIn (off := 80) (tgt := 109) hx hb dX6_offset_29 (by rw [c11]; decide) (by rw [c11]; decide) (by rw [c11]; rfl) (by decide) ?_
    refine lv_iload_n hx hb dX6_offset_109 rfl (lv_at hl 2 rfl) ?_
    refine lv_if_le (tgt := 125) hx hb dX6_offset_110 (by decide) (fun c9 => ?_) (fun c9 => ?_)
    · replace h := h.1 c9
      refine lv_iconst (v := 0) hx hb dX6_offset_125 (by decide) ?_
      exact fx_iret C hH h dX6_offset_126
    · replace h := h.2 c9
      refine lv_iload_n hx hb dX6_offset_113 rfl (lv_at hl 0 rfl) ?_
      refine lv_iload_n hx hb dX6_offset_114 rfl (lv_at hl 1 rfl) ?_
      refine lv_iconst (v := 1) hx hb dX6_offset_115 (by decide) ?_
      refine lv_iadd hx hb dX6_offset_116 ?_
      refine lv_imul hx hb dX6_offset_117 ?_
      refine lv_iload_n hx hb dX6_offset_118 rfl (lv_at hl 2 rfl) ?_
      refine lv_iconst (v := 1) hx hb dX6_offset_119 (by decide) ?_
      refine lv_iadd hx hb dX6_offset_120 ?_
      obtain ⟨hz10, h⟩ := h
      refine lv_idiv hx hb dX6_offset_121 hz10 ?_
      refine lv_goto (tgt := 126) hx hb dX6_offset_122 (by decide) ?_
      exact fx_iret C hH h dX6_offset_126
  replace h := h.2.2.2.2.2 c1 c2 c5 c8 c11
  refine lv_tableOut (tgt := 127) hx hb dX6_offset_29 (by have t0 := lv_neT (a := 1) c1 (by decide); have t1 := lv_neT (a := 2) c2 (by decide); have t2 := lv_neT (a := 3) c5 (by decide); have t3 := lv_neT (a := 4) c8 (by decide); have t4 := lv_neT (a := 5) c11 (by decide); omega) (by decide) ?_
  refine lv_iconst (v := 0) hx hb dX6_offset_127 (by decide) ?_
  exact fx_iret C hH h dX6_offset_128
def wb_X6_offset_15 (Q : Int32 → fx_Mem → Prop) (x0 : Int32) (x1 : Int32) (x2 : Int32) (x3 : Int32) (x4 : Int32) (M : fx_Mem) : Prop :=
  ((0 ≤ x1 → wb_X6_offset_27 Q x1 x2 x3 x4 M) ∧ (¬ 0 ≤ x1 → ((x0 ≤ 3 → wb_X6_offset_27 Q x1 x2 x3 x4 M) ∧ (¬ x0 ≤ 3 → wb_X6_offset_27 Q x1 x2 x3 2 M))))
set_option maxHeartbeats 4000000 in
set_option maxRecDepth 100000 in
theorem tb_X6_offset_15 {g : fx_Geo} {p : Program} {l : Launch} {e : Env} {s : State} {m : MethodId} {args : Array Value} {below : List Frame} {meth : Method} {c : Code} (C : fx_Cx g p s m args meth c RX6 cX6_offset 5 (some .int)) (Q : Int32 → fx_Mem → Prop) (x0 : Int32) (x1 : Int32) (x2 : Int32) (x3 : Int32) (x4 : Int32) (M : fx_Mem) (h : wb_X6_offset_15 Q x0 x1 x2 x3 x4 M) (H : Heap) (locs : List Loc) (ls : Array Slot) (hH : fx_H g s M H locs) (hl : lv_has ls 5 [(0, .int x0), (1, .int x1), (2, .int x2), (3, .int x3), (4, .int x4)]) : W p l e rm_X6_offset s m args below meth c H locs 0 0 (MQ below (va_Qi Q (fx_Pw g) (fx_A g)) args s 0 0 (fx_A g)) (F0 m 15 ls []) := by
  obtain ⟨hx, hb, hr, hml, hown, hts, hlocks, hsz, hK, hG, hSt⟩ := id C
  unfold wb_X6_offset_15 at h
  refine lv_iload_n hx hb dX6_offset_15 rfl (lv_at hl 1 rfl) ?_
  refine lv_if_ge (tgt := 27) hx hb dX6_offset_16 (by decide) (fun c1 => ?_) (fun c1 => ?_)
  · replace h := h.1 c1
    exact tb_X6_offset_27 C Q  x1 x2 x3 x4 M h  H locs ls hH (lv_sub hl [1, 2, 3, 4] rfl)
  · replace h := h.2 c1
    refine lv_iload_n hx hb dX6_offset_19 rfl (lv_at hl 0 rfl) ?_
    refine lv_iconst (v := 3) hx hb dX6_offset_20 (by decide) ?_
    refine lv_icmp_le (tgt := 27) hx hb dX6_offset_21 (by decide) (fun c2 => ?_) (fun c2 => ?_)
    · replace h := h.1 c2
      exact tb_X6_offset_27 C Q  x1 x2 x3 x4 M h  H locs ls hH (lv_sub hl [1, 2, 3, 4] rfl)
    · replace h := h.2 c2
      refine lv_iconst (v := 2) hx hb dX6_offset_24 (by decide) ?_
      refine lv_istore (lv' := [(4, .int 2), (0, .int x0), (1, .int x1), (2, .int x2), (3, .int x3)]) hx hb dX6_offset_25 hl (by decide) rfl (fun ls hl => ?_)
      exact tb_X6_offset_27 C Q  x1 x2 x3 2 M h  H locs ls hH (lv_sub hl [2, 3, 4, 0] rfl)
def wp_X6_offset (a0 : Int32) (a1 : Int32) (a2 : Int32) (a3 : Int32) (M : fx_Mem) (Q : Int32 → fx_Mem → Prop) : Prop :=
  ((0 ≤ a1 → wb_X6_offset_15 Q a0 a1 a2 a3 a0 M) ∧ (¬ 0 ≤ a1 → ((a0 = 3 → wb_X6_offset_15 Q a0 a1 a2 a3 0 M) ∧ (¬ a0 = 3 → wb_X6_offset_15 Q a0 a1 a2 a3 a0 M))))
set_option maxHeartbeats 4000000 in
set_option maxRecDepth 100000 in
theorem c_X6_offset (l : Launch) {g : fx_Geo} (hG : fx_Gd g) (a0 : Int32) (a1 : Int32) (a2 : Int32) (a3 : Int32) (M : fx_Mem) (Q : Int32 → fx_Mem → Prop) (h : wp_X6_offset a0 a1 a2 a3 M Q) : Met l yX6_offset (.code yX6_offset cX6_offset 5 (some .int) :: fx_U) rm_X6_offset (va_Pc [.int a0, .int a1, .int a2, .int a3] (fx_At g M)) (va_Qi Q (fx_Pw g) (fx_A g)) 0 0 (fx_A g) := by
  refine Met.ofW (cc := cX6_offset) (maxL := 5) (ret := (some .int)) (by decide +kernel) rfl ?_
  intro p e s m args below meth c s₁ B hml hv
  obtain ⟨rfl, hv⟩ := hv
  have hts := atoms_spec (ws := .code yX6_offset cX6_offset 5 (some .int) :: fx_U) B.pre
  obtain ⟨C, hH⟩ := fx_body (own := RX6) B hml rfl (fun w hw => hts w (List.mem_cons_of_mem _ hw)) hG hv
  replace hts := fun w hw => hts w (List.mem_cons_of_mem _ hw)
  obtain ⟨hx, hb, hr, -, hown, -, hlocks, hsz, hK, -, hSt⟩ := id C
  have hl := lv_entry ([.int a0, .int a1, .int a2, .int a3]) (n := 5) (Nat.le_of_ble_eq_true rfl)
  rw [lg_entry_eq]
  generalize (lg_sl ([.int a0, .int a1, .int a2, .int a3]) ++ List.replicate (5 - (lg_sl ([.int a0, .int a1, .int a2, .int a3])).length) Slot.unset).toArray = ls at hl ⊢
  have hl : lv_has ls 5 [(0, .int a0), (1, .int a1), (2, .int a2), (3, .int a3)] := hl
  obtain ⟨H, eH⟩ : ∃ H : Heap, H = s.heap := ⟨_, rfl⟩
  obtain ⟨locs, elocs⟩ : ∃ q : List Loc, q = [] := ⟨_, rfl⟩
  rw [← eH, ← elocs] at hH
  show W p l e rm_X6_offset s m _ below meth c s.heap [] 0 0 _ _
  rw [← eH, ← elocs]
  unfold wp_X6_offset at h
  refine lv_iload_n hx hb dX6_offset_0 rfl (lv_at hl 0 rfl) ?_
  refine lv_istore (lv' := [(4, .int a0), (0, .int a0), (1, .int a1), (2, .int a2), (3, .int a3)]) hx hb dX6_offset_1 hl (by decide) rfl (fun ls hl => ?_)
  refine lv_iload_n hx hb dX6_offset_3 rfl (lv_at hl 2 rfl) ?_
  refine lv_if_ge (tgt := 15) hx hb dX6_offset_4 (by decide) (fun c1 => ?_) (fun c1 => ?_)
  · replace h := h.1 c1
    exact tb_X6_offset_15 C Q  a0 a1 a2 a3 a0 M h  H locs ls hH (lv_sub hl [1, 2, 3, 4, 0] rfl)
  · replace h := h.2 c1
    refine lv_iload_n hx hb dX6_offset_7 rfl (lv_at hl 1 rfl) ?_
    refine lv_iconst (v := 3) hx hb dX6_offset_8 (by decide) ?_
    refine lv_icmp_ne (tgt := 15) hx hb dX6_offset_9 (by decide) (fun c2 => ?_) (fun c2 => ?_)
    · replace h := h.2 c2
      exact tb_X6_offset_15 C Q  a0 a1 a2 a3 a0 M h  H locs ls hH (lv_sub hl [1, 2, 3, 4, 0] rfl)
    · replace h := h.1 c2
      refine lv_iconst (v := 0) hx hb dX6_offset_12 (by decide) ?_
      refine lv_istore (lv' := [(4, .int 0), (0, .int a0), (1, .int a1), (2, .int a2), (3, .int a3)]) hx hb dX6_offset_13 hl (by decide) rfl (fun ls hl => ?_)
      exact tb_X6_offset_15 C Q  a0 a1 a2 a3 0 M h  H locs ls hH (lv_sub hl [1, 2, 3, 4, 0] rfl)
/-! FlexLayout$Container.isReversed()Z (1,) -/
def rm_X1_isReversed_1 : Room := { frames := 0, cells := 0, slots := 0, locals := 0 }
def wb_X1_isReversed_1_20 (Q : Int32 → fx_Mem → Prop) (M : fx_Mem) : Prop :=
  Q 1 M
set_option maxHeartbeats 4000000 in
set_option maxRecDepth 100000 in
theorem tb_X1_isReversed_1_20 {g : fx_Geo} {p : Program} {l : Launch} {e : Env} {s : State} {m : MethodId} {args : Array Value} {below : List Frame} {meth : Method} {c : Code} (C : fx_Cx g p s m args meth c RX1 cX1_isReversed 1 (some .boolean)) (Q : Int32 → fx_Mem → Prop) (M : fx_Mem) (h : wb_X1_isReversed_1_20 Q M) (H : Heap) (locs : List Loc) (ls : Array Slot) (hH : fx_H g s M H locs) (hl : lv_has ls 1 []) : W p l e rm_X1_isReversed_1 s m args below meth c H locs 0 0 (MQ below (va_Qi Q (fx_Pw g) (fx_A g)) args s 0 0 (fx_A g)) (F0 m 20 ls []) := by
  obtain ⟨hx, hb, hr, hml, hown, hts, hlocks, hsz, hK, hG, hSt⟩ := id C
  unfold wb_X1_isReversed_1_20 at h
  refine lv_iconst (v := 1) hx hb dX1_isReversed_20 (by decide) ?_
  refine lv_goto (tgt := 25) hx hb dX1_isReversed_21 (by decide) ?_
  exact fx_zret C hH (by decide) h dX1_isReversed_25
def wp_X1_isReversed_1 (M : fx_Mem) (Q : Int32 → fx_Mem → Prop) : Prop :=
  ((M.2.1 10 0 = 1 → wb_X1_isReversed_1_20 Q  M) ∧ (¬ M.2.1 10 0 = 1 → ((M.2.1 10 0 = 3 → wb_X1_isReversed_1_20 Q  M) ∧ (¬ M.2.1 10 0 = 3 → Q 0 M))))
set_option maxHeartbeats 4000000 in
set_option maxRecDepth 100000 in
theorem c_X1_isReversed_1 (l : Launch) {g : fx_Geo} (hG : fx_Gd g) (M : fx_Mem) (Q : Int32 → fx_Mem → Prop) (h : wp_X1_isReversed_1 M Q) : Met l yX1_isReversed (.code yX1_isReversed cX1_isReversed 1 (some .boolean) :: fx_U) rm_X1_isReversed_1 (va_Pc [.ref (fx_a g 1)] (fx_At g M)) (va_Qi Q (fx_Pw g) (fx_A g)) 0 0 (fx_A g) := by
  refine Met.ofW (cc := cX1_isReversed) (maxL := 1) (ret := (some .boolean)) (by decide +kernel) rfl ?_
  intro p e s m args below meth c s₁ B hml hv
  obtain ⟨rfl, hv⟩ := hv
  have hts := atoms_spec (ws := .code yX1_isReversed cX1_isReversed 1 (some .boolean) :: fx_U) B.pre
  obtain ⟨C, hH⟩ := fx_body (own := RX1) B hml rfl (fun w hw => hts w (List.mem_cons_of_mem _ hw)) hG hv
  replace hts := fun w hw => hts w (List.mem_cons_of_mem _ hw)
  obtain ⟨hx, hb, hr, -, hown, -, hlocks, hsz, hK, -, hSt⟩ := id C
  have hl := lv_entry ([.ref (fx_a g 1)]) (n := 1) (Nat.le_of_ble_eq_true rfl)
  rw [lg_entry_eq]
  generalize (lg_sl ([.ref (fx_a g 1)]) ++ List.replicate (1 - (lg_sl ([.ref (fx_a g 1)])).length) Slot.unset).toArray = ls at hl ⊢
  have hl : lv_has ls 1 [(0, .ref (fx_a g 1))] := hl
  obtain ⟨H, eH⟩ : ∃ H : Heap, H = s.heap := ⟨_, rfl⟩
  obtain ⟨locs, elocs⟩ : ∃ q : List Loc, q = [] := ⟨_, rfl⟩
  rw [← eH, ← elocs] at hH
  show W p l e rm_X1_isReversed_1 s m _ below meth c s.heap [] 0 0 _ _
  rw [← eH, ← elocs]
  unfold wp_X1_isReversed_1 at h
  refine lv_aload_n hx hb dX1_isReversed_0 rfl (lv_at hl 0 rfl) ?_
  refine fx_get C hH (fx_w1 g M) rfl in_X1 4 (by decide) u_51 rfl rfl dX1_isReversed_1 ?_
  refine lv_iconst (v := 0) hx hb dX1_isReversed_4 (by decide) ?_
  refine fx_iald (j := 0) C hH 10 (fx_w10 g M) (by decide) (by unfold vp_in; decide) dX1_isReversed_5 ?_
  refine lv_iconst (v := 1) hx hb dX1_isReversed_6 (by decide) ?_
  refine lv_icmp_eq (tgt := 20) hx hb dX1_isReversed_7 (by decide) (fun c1 => ?_) (fun c1 => ?_)
  · replace h := h.1 c1
    exact tb_X1_isReversed_1_20 C Q   M h  H locs ls hH (lv_sub hl [] rfl)
  · replace h := h.2 c1
    refine lv_aload_n hx hb dX1_isReversed_10 rfl (lv_at hl 0 rfl) ?_
    refine fx_get C hH (fx_w1 g M) rfl in_X1 4 (by decide) u_51 rfl rfl dX1_isReversed_11 ?_
    refine lv_iconst (v := 0) hx hb dX1_isReversed_14 (by decide) ?_
    refine fx_iald (j := 0) C hH 10 (fx_w10 g M) (by decide) (by unfold vp_in; decide) dX1_isReversed_15 ?_
    refine lv_iconst (v := 3) hx hb dX1_isReversed_16 (by decide) ?_
    refine lv_icmp_ne (tgt := 24) hx hb dX1_isReversed_17 (by decide) (fun c2 => ?_) (fun c2 => ?_)
    · replace h := h.2 c2
      refine lv_iconst (v := 0) hx hb dX1_isReversed_24 (by decide) ?_
      exact fx_zret C hH (by decide) h dX1_isReversed_25
    · replace h := h.1 c2
      exact tb_X1_isReversed_1_20 C Q   M h  H locs ls hH (lv_sub hl [] rfl)
/-! FlexLayout$MainAxis.findPositions(LFlexLayout$Container;LFlexLayout$Arrangement;I)V (6, 1, 5) -/
def rm_X5_findPositions_6_1_5 : Room := { frames := 2, cells := 0, slots := 0, locals := 46 }
def wb_X5_findPositions_6_1_5_103 (k27 : Int32 → Int32 → Int32 → Int32 → Int32 → fx_Mem → Prop) (Q : fx_Mem → Prop) (x3 : Int32) (x4 : Int32) (x5 : Int32) (x6 : Int32) (x7 : Int32) (x8 : Int32) (s0 : Int32) (s1 : Int32) (M : fx_Mem) : Prop :=
  vp_in s1 20 ∧ ∀ M2 : fx_Mem, M2 = fx_sa M 21 s1.toNatClampNeg s0 → vp_in x8 20 ∧ ∀ v4 : Int32, v4 = x6 + ((M2.2.1 20 x8.toNatClampNeg) + (M2.1 66)) → ∀ v5 : Int32, v5 = x7 + 1 → k27 x3 x4 x5 v4 v5 M2
set_option maxHeartbeats 4000000 in
set_option maxRecDepth 100000 in
theorem tb_X5_findPositions_6_1_5_103 {g : fx_Geo} {p : Program} {l : Launch} {e : Env} {s : State} {m : MethodId} {args : Array Value} {below : List Frame} {meth : Method} {c : Code} (C : fx_Cx g p s m args meth c RX5 cX5_findPositions 10 none) (k27 : Int32 → Int32 → Int32 → Int32 → Int32 → fx_Mem → Prop) (Q : fx_Mem → Prop) (hk27 : ∀ (x3 : Int32) (x4 : Int32) (x5 : Int32) (x6 : Int32) (x7 : Int32) (M : fx_Mem), k27 x3 x4 x5 x6 x7 M → ∀ (H : Heap) (locs : List Loc) (ls : Array Slot), fx_H g s M H locs → lv_has ls 10 [(0, .ref (fx_a g 6)), (1, .ref (fx_a g 1)), (2, .ref (fx_a g 5)), (3, .int x3), (4, .int x4), (5, .int x5), (6, .int x6), (7, .int x7)] → W p l e rm_X5_findPositions_6_1_5 s m args below meth c H locs 0 0 (MQ below (va_Qv Q (fx_Pw g) (fx_A g)) args s 0 0 (fx_A g)) (F0 m 27 ls [])) (x3 : Int32) (x4 : Int32) (x5 : Int32) (x6 : Int32) (x7 : Int32) (x8 : Int32) (s0 : Int32) (s1 : Int32) (M : fx_Mem) (h : wb_X5_findPositions_6_1_5_103 k27 Q x3 x4 x5 x6 x7 x8 s0 s1 M) (H : Heap) (locs : List Loc) (ls : Array Slot) (hH : fx_H g s M H locs) (hl : lv_has ls 10 [(0, .ref (fx_a g 6)), (1, .ref (fx_a g 1)), (2, .ref (fx_a g 5)), (3, .int x3), (4, .int x4), (5, .int x5), (6, .int x6), (7, .int x7), (8, .int x8)]) : W p l e rm_X5_findPositions_6_1_5 s m args below meth c H locs 0 0 (MQ below (va_Qv Q (fx_Pw g) (fx_A g)) args s 0 0 (fx_A g)) (F0 m 103 ls [.int s0, .int s1, .ref (fx_a g 21)]) := by
  obtain ⟨hx, hb, hr, hml, hown, hts, hlocks, hsz, hK, hG, hSt⟩ := id C
  unfold wb_X5_findPositions_6_1_5_103 at h
  obtain ⟨hi1, h⟩ := h
  refine fx_iast (j := s1.toNatClampNeg) (M' := fx_sa M 21 s1.toNatClampNeg s0) C hH 21 rfl (fx_w21 g M) (fx_p21 g M _) hi1 dX5_findPositions_103 (fun H locs hH => ?_)
  generalize eM2 : fx_sa M 21 s1.toNatClampNeg s0 = M2 at hH
  replace h := h M2 eM2.symm
  refine lv_iload hx hb dX5_findPositions_104 (lv_at hl 6 rfl) ?_
  refine lv_aload_n hx hb dX5_findPositions_106 rfl (lv_at hl 0 rfl) ?_
  refine fx_get C hH (fx_w6 g M2) rfl in_X5 0 (by decide) u_148 rfl rfl dX5_findPositions_107 ?_
  refine lv_iload hx hb dX5_findPositions_110 (lv_at hl 8 rfl) ?_
  obtain ⟨hi3, h⟩ := h
  refine fx_iald (j := x8.toNatClampNeg) C hH 20 (fx_w20 g M2) rfl hi3 dX5_findPositions_112 ?_
  refine lv_aload_n hx hb dX5_findPositions_113 rfl (lv_at hl 1 rfl) ?_
  refine fx_get C hH (fx_w1 g M2) rfl in_X1 2 (by decide) u_47 rfl rfl dX5_findPositions_114 ?_
  refine lv_iadd hx hb dX5_findPositions_117 ?_
  refine lv_iadd hx hb dX5_findPositions_118 ?_
  refine lv_topi (fun v4 ev4 => ?_)
  replace h := h v4 ev4
  refine lv_istore (lv' := [(6, .int v4), (0, .ref (fx_a g 6)), (1, .ref (fx_a g 1)), (2, .ref (fx_a g 5)), (3, .int x3), (4, .int x4), (5, .int x5), (7, .int x7), (8, .int x8)]) hx hb dX5_findPositions_119 hl (by decide) rfl (fun ls hl => ?_)
  obtain ⟨v5, ev5⟩ : ∃ z : Int32, z = x7 + 1 := ⟨_, rfl⟩
  refine lv_iinc (v := v5) (lv' := [(7, .int v5), (6, .int v4), (0, .ref (fx_a g 6)), (1, .ref (fx_a g 1)), (2, .ref (fx_a g 5)), (3, .int x3), (4, .int x4), (5, .int x5), (8, .int x8)]) hx hb dX5_findPositions_121 hl (k := 7) rfl (by rw [ev5]; rfl) (by decide) rfl (fun ls hl => ?_)
  replace h := h v5 ev5
  refine lv_goto (tgt := 27) hx hb dX5_findPositions_124 (by decide) ?_
  exact hk27 x3 x4 x5 v4 v5 M2 h  H locs ls hH (lv_sub hl [2, 3, 4, 5, 6, 7, 1, 0] rfl)
def wb_X5_findPositions_6_1_5_27 (k27 : Int32 → Int32 → Int32 → Int32 → Int32 → fx_Mem → Prop) (Q : fx_Mem → Prop) (x3 : Int32) (x4 : Int32) (x5 : Int32) (x6 : Int32) (x7 : Int32) (M : fx_Mem) : Prop :=
  ((x5 ≤ x7 → Q M) ∧ (¬ x5 ≤ x7 → vp_in (x4 + x7) 20 ∧ ∀ v3 : Int32, v3 = M.2.1 18 ((x4 + x7).toNatClampNeg) → vp_in x3 20 ∧ wp_X6_offset (M.2.1 10 2) (M.2.1 23 x3.toNatClampNeg) x7 x5 M (fun r6 M5 => ∀ v7 : Int32, v7 = x6 + r6 → wp_X1_isReversed_1  M5 (fun r9 M8 => ((r9 = 0 → wb_X5_findPositions_6_1_5_103 k27 Q x3 x4 x5 x6 x7 v3 v7 v3 M8) ∧ (¬ r9 = 0 → vp_in v3 20 ∧ wb_X5_findPositions_6_1_5_103 k27 Q x3 x4 x5 x6 x7 v3 (((M8.1 64) - v7) - (M8.2.1 20 v3.toNatClampNeg)) v3 M8))))))
set_option maxHeartbeats 4000000 in
set_option maxRecDepth 100000 in
theorem tb_X5_findPositions_6_1_5_27 {g : fx_Geo} {p : Program} {l : Launch} {e : Env} {s : State} {m : MethodId} {args : Array Value} {below : List Frame} {meth : Method} {c : Code} (C : fx_Cx g p s m args meth c RX5 cX5_findPositions 10 none) (k27 : Int32 → Int32 → Int32 → Int32 → Int32 → fx_Mem → Prop) (Q : fx_Mem → Prop) (hk27 : ∀ (x3 : Int32) (x4 : Int32) (x5 : Int32) (x6 : Int32) (x7 : Int32) (M : fx_Mem), k27 x3 x4 x5 x6 x7 M → ∀ (H : Heap) (locs : List Loc) (ls : Array Slot), fx_H g s M H locs → lv_has ls 10 [(0, .ref (fx_a g 6)), (1, .ref (fx_a g 1)), (2, .ref (fx_a g 5)), (3, .int x3), (4, .int x4), (5, .int x5), (6, .int x6), (7, .int x7)] → W p l e rm_X5_findPositions_6_1_5 s m args below meth c H locs 0 0 (MQ below (va_Qv Q (fx_Pw g) (fx_A g)) args s 0 0 (fx_A g)) (F0 m 27 ls [])) (x3 : Int32) (x4 : Int32) (x5 : Int32) (x6 : Int32) (x7 : Int32) (M : fx_Mem) (h : wb_X5_findPositions_6_1_5_27 k27 Q x3 x4 x5 x6 x7 M) (H : Heap) (locs : List Loc) (ls : Array Slot) (hH : fx_H g s M H locs) (hl : lv_has ls 10 [(0, .ref (fx_a g 6)), (1, .ref (fx_a g 1)), (2, .ref (fx_a g 5)), (3, .int x3), (4, .int x4), (5, .int x5), (6, .int x6), (7, .int x7)]) : W p l e rm_X5_findPositions_6_1_5 s m args below meth c H locs 0 0 (MQ below (va_Qv Q (fx_Pw g) (fx_A g)) args s 0 0 (fx_A g)) (F0 m 27 ls []) := by
  obtain ⟨hx, hb, hr, hml, hown, hts, hlocks, hsz, hK, hG, hSt⟩ := id C
  unfold wb_X5_findPositions_6_1_5_27 at h
  refine lv_iload hx hb dX5_findPositions_27 (lv_at hl 7 rfl) ?_
  refine lv_iload hx hb dX5_findPositions_29 (lv_at hl 5 rfl) ?_
  refine lv_icmp_ge (tgt := 127) hx hb dX5_findPositions_31 (by decide) (fun c1 => ?_) (fun c1 => ?_)
  · replace h := h.1 c1
    exact fx_vret C hH h dX5_findPositions_127
  · replace h := h.2 c1
    refine lv_aload_n hx hb dX5_findPositions_34 rfl (lv_at hl 2 rfl) ?_
    refine fx_get C hH (fx_w5 g M) rfl in_X0 0 (by decide) u_126 rfl rfl dX5_findPositions_35 ?_
    refine lv_iload hx hb dX5_findPositions_38 (lv_at hl 4 rfl) ?_
    refine lv_iload hx hb dX5_findPositions_40 (lv_at hl 7 rfl) ?_
    refine lv_iadd hx hb dX5_findPositions_42 ?_
    obtain ⟨hi2, h⟩ := h
    refine fx_iald (j := (x4 + x7).toNatClampNeg) C hH 18 (fx_w18 g M) rfl hi2 dX5_findPositions_43 ?_
    refine lv_topi (fun v3 ev3 => ?_)
    replace h := h v3 ev3
    refine lv_istore (lv' := [(8, .int v3), (0, .ref (fx_a g 6)), (1, .ref (fx_a g 1)), (2, .ref (fx_a g 5)), (3, .int x3), (4, .int x4), (5, .int x5), (6, .int x6), (7, .int x7)]) hx hb dX5_findPositions_44 hl (by decide) rfl (fun ls hl => ?_)
    refine lv_iload hx hb dX5_findPositions_46 (lv_at hl 7 rfl) ?_
    refine lv_aload_n hx hb dX5_findPositions_48 rfl (lv_at hl 2 rfl) ?_
    refine fx_get C hH (fx_w1 g M) rfl in_X1 4 (by decide) u_54 rfl rfl dX5_findPositions_49 ?_
    refine lv_iconst (v := 2) hx hb dX5_findPositions_52 (by decide) ?_
    refine fx_iald (j := 2) C hH 10 (fx_w10 g M) (by decide) (by unfold vp_in; decide) dX5_findPositions_53 ?_
    refine lv_aload_n hx hb dX5_findPositions_54 rfl (lv_at hl 1 rfl) ?_
    refine fx_get C hH (fx_w6 g M) rfl in_X5 3 (by decide) u_154 rfl rfl dX5_findPositions_55 ?_
    refine lv_iload_n hx hb dX5_findPositions_58 rfl (lv_at hl 4 rfl) ?_
    obtain ⟨hi4, h⟩ := h
    refine fx_iald (j := x3.toNatClampNeg) C hH 23 (fx_w23 g M) rfl hi4 dX5_findPositions_59 ?_
    refine lv_iload hx hb dX5_findPositions_60 (lv_at hl 8 rfl) ?_
    refine lv_iload hx hb dX5_findPositions_62 (lv_at hl 6 rfl) ?_
    refine fx_ci hH (fx_runSN (As := [.int (M.2.1 10 2), .int (M.2.1 23 x3.toNatClampNeg), .int x7, .int x5]) (rest := [.int x6]) C hH (c_X6_offset l C.2.2.2.2.2.2.2.2.2.1 (M.2.1 10 2) (M.2.1 23 x3.toNatClampNeg) x7 x5 M _ h) (fx_cwSN 4 hts (hSt.2.2.1 (RX5, 114, yX6_offset, "FlexLayout") (by decide +kernel)) u_302 u_1 u_303 rfl rfl (by decide +kernel) ⟨(Nat.le_of_ble_eq_true rfl), (Nat.le_of_ble_eq_true rfl)⟩) rfl hl.1 rfl (Nat.le_of_ble_eq_true rfl) dX5_findPositions_64 ⟨(Nat.le_of_ble_eq_true rfl), (Nat.le_of_ble_eq_true rfl)⟩) (fun r6 M5 H locs h hH => ?_)
    refine lv_iadd hx hb dX5_findPositions_67 ?_
    refine lv_topi (fun v7 ev7 => ?_)
    replace h := h v7 ev7
    refine lv_istore (lv' := [(9, .int v7), (8, .int v3), (0, .ref (fx_a g 6)), (1, .ref (fx_a g 1)), (2, .ref (fx_a g 5)), (3, .int x3), (4, .int x4), (5, .int x5), (6, .int x6), (7, .int x7)]) hx hb dX5_findPositions_68 hl (by decide) rfl (fun ls hl => ?_)
    refine lv_aload_n hx hb dX5_findPositions_70 rfl (lv_at hl 2 rfl) ?_
    refine fx_get C hH (fx_w6 g M5) rfl in_X5 1 (by decide) u_150 rfl rfl dX5_findPositions_71 ?_
    refine lv_iload hx hb dX5_findPositions_74 (lv_at hl 1 rfl) ?_
    refine lv_aload_n hx hb dX5_findPositions_76 rfl (lv_at hl 3 rfl) ?_
    refine fx_ci hH (fx_runV (As := []) (rest := [.int v3, .ref (fx_a g 21)]) C hH (c_X1_isReversed_1 l C.2.2.2.2.2.2.2.2.2.1  M5 _ h) (fx_cwV 0 hts u_371 u_372 u_373 u_2 u_374 rfl rfl (by decide +kernel) ⟨(Nat.le_of_ble_eq_true rfl), (Nat.le_of_ble_eq_true rfl)⟩) (fx_w1 g M5) rfl rfl hl.1 rfl (Nat.le_of_ble_eq_true rfl) dX5_findPositions_77 ⟨(Nat.le_of_ble_eq_true rfl), (Nat.le_of_ble_eq_true rfl)⟩) (fun r9 M8 H locs h hH => ?_)
    refine lv_if_eq (tgt := 101) hx hb dX5_findPositions_80 (by decide) (fun c10 => ?_) (fun c10 => ?_)
    · replace h := h.1 c10
      refine lv_iload hx hb dX5_findPositions_101 (lv_at hl 0 rfl) ?_
      exact tb_X5_findPositions_6_1_5_103 C k27 Q hk27 x3 x4 x5 x6 x7 v3 v7 v3 M8 h  H locs ls hH (lv_sub hl [2, 3, 4, 5, 6, 7, 8, 9, 1] rfl)
    · replace h := h.2 c10
      refine lv_aload_n hx hb dX5_findPositions_83 rfl (lv_at hl 3 rfl) ?_
      refine fx_get C hH (fx_w1 g M8) rfl in_X1 0 (by decide) u_40 rfl rfl dX5_findPositions_84 ?_
      refine lv_iload hx hb dX5_findPositions_87 (lv_at hl 0 rfl) ?_
      refine lv_isub hx hb dX5_findPositions_89 ?_
      refine lv_aload_n hx hb dX5_findPositions_90 rfl (lv_at hl 2 rfl) ?_
      refine fx_get C hH (fx_w6 g M8) rfl in_X5 0 (by decide) u_148 rfl rfl dX5_findPositions_91 ?_
      refine lv_iload hx hb dX5_findPositions_94 (lv_at hl 1 rfl) ?_
      obtain ⟨hi11, h⟩ := h
      refine fx_iald (j := v3.toNatClampNeg) C hH 20 (fx_w20 g M8) rfl hi11 dX5_findPositions_96 ?_
      refine lv_isub hx hb dX5_findPositions_97 ?_
      refine lv_goto (tgt := 103) hx hb dX5_findPositions_98 (by decide) ?_
      exact tb_X5_findPositions_6_1_5_103 C k27 Q hk27 x3 x4 x5 x6 x7 v3 (((M8.1 64) - v7) - (M8.2.1 20 v3.toNatClampNeg)) v3 M8 h  H locs ls hH (lv_sub hl [2, 3, 4, 5, 6, 7, 8, 9, 1] rfl)
def wl_X5_findPositions_6_1_5_27 (Q : fx_Mem → Prop) (n : Nat) (x3 : Int32) (x4 : Int32) (x5 : Int32) (x6 : Int32) (x7 : Int32) (M : fx_Mem) : Prop :=
  fx_lp (α := Int32 × Int32 × Int32 × Int32 × Int32 × fx_Mem) (fun k a => wb_X5_findPositions_6_1_5_27 (fun x3 x4 x5 x6 x7 M => k (x3, x4, x5, x6, x7, M)) Q a.1 a.2.1 a.2.2.1 a.2.2.2.1 a.2.2.2.2.1 a.2.2.2.2.2) n (x3, x4, x5, x6, x7, M)
set_option maxHeartbeats 4000000 in
theorem tl_X5_findPositions_6_1_5_27 {g : fx_Geo} {p : Program} {l : Launch} {e : Env} {s : State} {m : MethodId} {args : Array Value} {below : List Frame} {meth : Method} {c : Code} (C : fx_Cx g p s m args meth c RX5 cX5_findPositions 10 none) (Q : fx_Mem → Prop) : ∀ (n : Nat) (x3 : Int32) (x4 : Int32) (x5 : Int32) (x6 : Int32) (x7 : Int32) (M : fx_Mem), wl_X5_findPositions_6_1_5_27  Q n x3 x4 x5 x6 x7 M → ∀ (H : Heap) (locs : List Loc) (ls : Array Slot), fx_H g s M H locs → lv_has ls 10 [(0, .ref (fx_a g 6)), (1, .ref (fx_a g 1)), (2, .ref (fx_a g 5)), (3, .int x3), (4, .int x4), (5, .int x5), (6, .int x6), (7, .int x7)] → W p l e rm_X5_findPositions_6_1_5 s m args below meth c H locs 0 0 (MQ below (va_Qv Q (fx_Pw g) (fx_A g)) args s 0 0 (fx_A g)) (F0 m 27 ls []) := by
  intro n
  induction n with
  | zero => intro x3 x4 x5 x6 x7 M h; exact False.elim h
  | succ n ih => intro x3 x4 x5 x6 x7 M h  H locs ls hH hl; exact tb_X5_findPositions_6_1_5_27 C (wl_X5_findPositions_6_1_5_27  Q n) Q ih x3 x4 x5 x6 x7 M h  H locs ls hH hl
def wp_X5_findPositions_6_1_5 (a3 : Int32) (M : fx_Mem) (Q : fx_Mem → Prop) : Prop :=
  vp_in a3 21 ∧ ∀ v2 : Int32, v2 = M.2.1 19 a3.toNatClampNeg → vp_in (a3 + 1) 21 ∧ ∀ v4 : Int32, v4 = (M.2.1 19 ((a3 + 1).toNatClampNeg)) - v2 → ∃ n27 : Nat, wl_X5_findPositions_6_1_5_27 Q n27 a3 v2 v4 0 0 M
set_option maxHeartbeats 4000000 in
set_option maxRecDepth 100000 in
theorem c_X5_findPositions_6_1_5 (l : Launch) {g : fx_Geo} (hG : fx_Gd g) (a3 : Int32) (M : fx_Mem) (Q : fx_Mem → Prop) (h : wp_X5_findPositions_6_1_5 a3 M Q) : Met l yX5_findPositions (.code yX5_findPositions cX5_findPositions 10 none :: fx_U) rm_X5_findPositions_6_1_5 (va_Pc [.ref (fx_a g 6), .ref (fx_a g 1), .ref (fx_a g 5), .int a3] (fx_At g M)) (va_Qv Q (fx_Pw g) (fx_A g)) 0 0 (fx_A g) := by
  refine Met.ofW (cc := cX5_findPositions) (maxL := 10) (ret := none) (by decide +kernel) rfl ?_
  intro p e s m args below meth c s₁ B hml hv
  obtain ⟨rfl, hv⟩ := hv
  have hts := atoms_spec (ws := .code yX5_findPositions cX5_findPositions 10 none :: fx_U) B.pre
  obtain ⟨C, hH⟩ := fx_body (own := RX5) B hml rfl (fun w hw => hts w (List.mem_cons_of_mem _ hw)) hG hv
  replace hts := fun w hw => hts w (List.mem_cons_of_mem _ hw)
  obtain ⟨hx, hb, hr, -, hown, -, hlocks, hsz, hK, -, hSt⟩ := id C
  have hl := lv_entry ([.ref (fx_a g 6), .ref (fx_a g 1), .ref (fx_a g 5), .int a3]) (n := 10) (Nat.le_of_ble_eq_true rfl)
  rw [lg_entry_eq]
  generalize (lg_sl ([.ref (fx_a g 6), .ref (fx_a g 1), .ref (fx_a g 5), .int a3]) ++ List.replicate (10 - (lg_sl ([.ref (fx_a g 6), .ref (fx_a g 1), .ref (fx_a g 5), .int a3])).length) Slot.unset).toArray = ls at hl ⊢
  have hl : lv_has ls 10 [(0, .ref (fx_a g 6)), (1, .ref (fx_a g 1)), (2, .ref (fx_a g 5)), (3, .int a3)] := hl
  obtain ⟨H, eH⟩ : ∃ H : Heap, H = s.heap := ⟨_, rfl⟩
  obtain ⟨locs, elocs⟩ : ∃ q : List Loc, q = [] := ⟨_, rfl⟩
  rw [← eH, ← elocs] at hH
  show W p l e rm_X5_findPositions_6_1_5 s m _ below meth c s.heap [] 0 0 _ _
  rw [← eH, ← elocs]
  unfold wp_X5_findPositions_6_1_5 at h
  refine lv_aload_n hx hb dX5_findPositions_0 rfl (lv_at hl 2 rfl) ?_
  refine fx_get C hH (fx_w5 g M) rfl in_X0 1 (by decide) u_130 rfl rfl dX5_findPositions_1 ?_
  refine lv_iload_n hx hb dX5_findPositions_4 rfl (lv_at hl 3 rfl) ?_
  obtain ⟨hi1, h⟩ := h
  refine fx_iald (j := a3.toNatClampNeg) C hH 19 (fx_w19 g M) rfl hi1 dX5_findPositions_5 ?_
  refine lv_topi (fun v2 ev2 => ?_)
  replace h := h v2 ev2
  refine lv_istore (lv' := [(4, .int v2), (0, .ref (fx_a g 6)), (1, .ref (fx_a g 1)), (2, .ref (fx_a g 5)), (3, .int a3)]) hx hb dX5_findPositions_6 hl (by decide) rfl (fun ls hl => ?_)
  refine lv_aload_n hx hb dX5_findPositions_8 rfl (lv_at hl 3 rfl) ?_
  refine fx_get C hH (fx_w5 g M) rfl in_X0 1 (by decide) u_130 rfl rfl dX5_findPositions_9 ?_
  refine lv_iload_n hx hb dX5_findPositions_12 rfl (lv_at hl 4 rfl) ?_
  refine lv_iconst (v := 1) hx hb dX5_findPositions_13 (by decide) ?_
  refine lv_iadd hx hb dX5_findPositions_14 ?_
  obtain ⟨hi3, h⟩ := h
  refine fx_iald (j := (a3 + 1).toNatClampNeg) C hH 19 (fx_w19 g M) rfl hi3 dX5_findPositions_15 ?_
  refine lv_iload hx hb dX5_findPositions_16 (lv_at hl 0 rfl) ?_
  refine lv_isub hx hb dX5_findPositions_18 ?_
  refine lv_topi (fun v4 ev4 => ?_)
  replace h := h v4 ev4
  refine lv_istore (lv' := [(5, .int v4), (4, .int v2), (0, .ref (fx_a g 6)), (1, .ref (fx_a g 1)), (2, .ref (fx_a g 5)), (3, .int a3)]) hx hb dX5_findPositions_19 hl (by decide) rfl (fun ls hl => ?_)
  refine lv_iconst (v := 0) hx hb dX5_findPositions_21 (by decide) ?_
  refine lv_istore (lv' := [(6, .int 0), (5, .int v4), (4, .int v2), (0, .ref (fx_a g 6)), (1, .ref (fx_a g 1)), (2, .ref (fx_a g 5)), (3, .int a3)]) hx hb dX5_findPositions_22 hl (by decide) rfl (fun ls hl => ?_)
  refine lv_iconst (v := 0) hx hb dX5_findPositions_24 (by decide) ?_
  refine lv_istore (lv' := [(7, .int 0), (6, .int 0), (5, .int v4), (4, .int v2), (0, .ref (fx_a g 6)), (1, .ref (fx_a g 1)), (2, .ref (fx_a g 5)), (3, .int a3)]) hx hb dX5_findPositions_25 hl (by decide) rfl (fun ls hl => ?_)
  obtain ⟨n27, h⟩ := h
  exact tl_X5_findPositions_6_1_5_27 C Q  n27 a3 v2 v4 0 0 M h  H locs ls hH (lv_sub hl [4, 5, 6, 7, 3, 2, 1, 0] rfl)
/-! FlexLayout$MainAxis.layOut(LFlexLayout$Container;LFlexLayout$Arrangement;LFlexLayout$Division;)V (6, 1, 5, 4) -/
def rm_X5_layOut_6_1_5_4 : Room := { frames := 4, cells := 0, slots := 0, locals := 103 }
def wb_X5_layOut_6_1_5_4_3 (k3 : Int32 → fx_Mem → Prop) (Q : fx_Mem → Prop) (x4 : Int32) (M : fx_Mem) : Prop :=
  ((M.1 322 ≤ x4 → Q M) ∧ (¬ M.1 322 ≤ x4 → wp_X5_findSizes_6_1_5_4 x4 M (fun M2 => wp_X5_findPositions_6_1_5 x4 M2 (fun M3 => ∀ v4 : Int32, v4 = x4 + 1 → k3 v4 M3))))
set_option maxHeartbeats 4000000 in
set_option maxRecDepth 100000 in
theorem tb_X5_layOut_6_1_5_4_3 {g : fx_Geo} {p : Program} {l : Launch} {e : Env} {s : State} {m : MethodId} {args : Array Value} {below : List Frame} {meth : Method} {c : Code} (C : fx_Cx g p s m args meth c RX5 cX5_layOut 5 none) (k3 : Int32 → fx_Mem → Prop) (Q : fx_Mem → Prop) (hk3 : ∀ (x4 : Int32) (M : fx_Mem), k3 x4 M → ∀ (H : Heap) (locs : List Loc) (ls : Array Slot), fx_H g s M H locs → lv_has ls 5 [(0, .ref (fx_a g 6)), (1, .ref (fx_a g 1)), (2, .ref (fx_a g 5)), (3, .ref (fx_a g 4)), (4, .int x4)] → W p l e rm_X5_layOut_6_1_5_4 s m args below meth c H locs 0 0 (MQ below (va_Qv Q (fx_Pw g) (fx_A g)) args s 0 0 (fx_A g)) (F0 m 3 ls [])) (x4 : Int32) (M : fx_Mem) (h : wb_X5_layOut_6_1_5_4_3 k3 Q x4 M) (H : Heap) (locs : List Loc) (ls : Array Slot) (hH : fx_H g s M H locs) (hl : lv_has ls 5 [(0, .ref (fx_a g 6)), (1, .ref (fx_a g 1)), (2, .ref (fx_a g 5)), (3, .ref (fx_a g 4)), (4, .int x4)]) : W p l e rm_X5_layOut_6_1_5_4 s m args below meth c H locs 0 0 (MQ below (va_Qv Q (fx_Pw g) (fx_A g)) args s 0 0 (fx_A g)) (F0 m 3 ls []) := by
  obtain ⟨hx, hb, hr, hml, hown, hts, hlocks, hsz, hK, hG, hSt⟩ := id C
  unfold wb_X5_layOut_6_1_5_4_3 at h
  refine lv_iload hx hb dX5_layOut_3 (lv_at hl 4 rfl) ?_
  refine lv_aload_n hx hb dX5_layOut_5 rfl (lv_at hl 2 rfl) ?_
  refine fx_get C hH (fx_w5 g M) rfl in_X0 2 (by decide) u_132 rfl rfl dX5_layOut_6 ?_
  refine lv_icmp_ge (tgt := 35) hx hb dX5_layOut_9 (by decide) (fun c1 => ?_) (fun c1 => ?_)
  · replace h := h.1 c1
    exact fx_vret C hH h dX5_layOut_35
  · replace h := h.2 c1
    refine lv_aload_n hx hb dX5_layOut_12 rfl (lv_at hl 0 rfl) ?_
    refine lv_aload_n hx hb dX5_layOut_13 rfl (lv_at hl 1 rfl) ?_
    refine lv_aload_n hx hb dX5_layOut_14 rfl (lv_at hl 2 rfl) ?_
    refine lv_aload_n hx hb dX5_layOut_15 rfl (lv_at hl 3 rfl) ?_
    refine lv_iload hx hb dX5_layOut_16 (lv_at hl 4 rfl) ?_
    refine fx_cv hH (fx_runV (As := [.ref (fx_a g 1), .ref (fx_a g 5), .ref (fx_a g 4), .int x4]) (rest := []) C hH (c_X5_findSizes_6_1_5_4 l C.2.2.2.2.2.2.2.2.2.1 x4 M _ h) (fx_cwV 4 hts u_328 u_330 us_8 u_6 u_331 rfl rfl (by decide +kernel) ⟨(Nat.le_of_ble_eq_true rfl), (Nat.le_of_ble_eq_true rfl)⟩) (fx_w6 g M) rfl rfl hl.1 rfl (Nat.le_of_ble_eq_true rfl) dX5_layOut_18 ⟨(Nat.le_of_ble_eq_true rfl), (Nat.le_of_ble_eq_true rfl)⟩) (fun M2 H locs h hH => ?_)
    refine lv_aload_n hx hb dX5_layOut_21 rfl (lv_at hl 0 rfl) ?_
    refine lv_aload_n hx hb dX5_layOut_22 rfl (lv_at hl 1 rfl) ?_
    refine lv_aload_n hx hb dX5_layOut_23 rfl (lv_at hl 2 rfl) ?_
    refine lv_iload hx hb dX5_layOut_24 (lv_at hl 4 rfl) ?_
    refine fx_cv hH (fx_runV (As := [.ref (fx_a g 1), .ref (fx_a g 5), .int x4]) (rest := []) C hH (c_X5_findPositions_6_1_5 l C.2.2.2.2.2.2.2.2.2.1 x4 M2 _ h) (fx_cwV 3 hts u_366 u_368 us_15 u_6 u_369 rfl rfl (by decide +kernel) ⟨(Nat.le_of_ble_eq_true rfl), (Nat.le_of_ble_eq_true rfl)⟩) (fx_w6 g M2) rfl rfl hl.1 rfl (Nat.le_of_ble_eq_true rfl) dX5_layOut_26 ⟨(Nat.le_of_ble_eq_true rfl), (Nat.le_of_ble_eq_true rfl)⟩) (fun M3 H locs h hH => ?_)
    obtain ⟨v4, ev4⟩ : ∃ z : Int32, z = x4 + 1 := ⟨_, rfl⟩
    refine lv_iinc (v := v4) (lv' := [(4, .int v4), (0, .ref (fx_a g 6)), (1, .ref (fx_a g 1)), (2, .ref (fx_a g 5)), (3, .ref (fx_a g 4))]) hx hb dX5_layOut_29 hl (k := 4) rfl (by rw [ev4]; rfl) (by decide) rfl (fun ls hl => ?_)
    replace h := h v4 ev4
    refine lv_goto (tgt := 3) hx hb dX5_layOut_32 (by decide) ?_
    exact hk3 v4 M3 h  H locs ls hH (lv_sub hl [1, 2, 3, 4, 0] rfl)
def wl_X5_layOut_6_1_5_4_3 (Q : fx_Mem → Prop) (n : Nat) (x4 : Int32) (M : fx_Mem) : Prop :=
  fx_lp (α := Int32 × fx_Mem) (fun k a => wb_X5_layOut_6_1_5_4_3 (fun x4 M => k (x4, M)) Q a.1 a.2) n (x4, M)
set_option maxHeartbeats 4000000 in
theorem tl_X5_layOut_6_1_5_4_3 {g : fx_Geo} {p : Program} {l : Launch} {e : Env} {s : State} {m : MethodId} {args : Array Value} {below : List Frame} {meth : Method} {c : Code} (C : fx_Cx g p s m args meth c RX5 cX5_layOut 5 none) (Q : fx_Mem → Prop) : ∀ (n : Nat) (x4 : Int32) (M : fx_Mem), wl_X5_layOut_6_1_5_4_3  Q n x4 M → ∀ (H : Heap) (locs : List Loc) (ls : Array Slot), fx_H g s M H locs → lv_has ls 5 [(0, .ref (fx_a g 6)), (1, .ref (fx_a g 1)), (2, .ref (fx_a g 5)), (3, .ref (fx_a g 4)), (4, .int x4)] → W p l e rm_X5_layOut_6_1_5_4 s m args below meth c H locs 0 0 (MQ below (va_Qv Q (fx_Pw g) (fx_A g)) args s 0 0 (fx_A g)) (F0 m 3 ls []) := by
  intro n
  induction n with
  | zero => intro x4 M h; exact False.elim h
  | succ n ih => intro x4 M h  H locs ls hH hl; exact tb_X5_layOut_6_1_5_4_3 C (wl_X5_layOut_6_1_5_4_3  Q n) Q ih x4 M h  H locs ls hH hl
def wp_X5_layOut_6_1_5_4 (M : fx_Mem) (Q : fx_Mem → Prop) : Prop :=
  ∃ n3 : Nat, wl_X5_layOut_6_1_5_4_3 Q n3 0 M
set_option maxHeartbeats 4000000 in
set_option maxRecDepth 100000 in
theorem c_X5_layOut_6_1_5_4 (l : Launch) {g : fx_Geo} (hG : fx_Gd g) (M : fx_Mem) (Q : fx_Mem → Prop) (h : wp_X5_layOut_6_1_5_4 M Q) : Met l yX5_layOut (.code yX5_layOut cX5_layOut 5 none :: fx_U) rm_X5_layOut_6_1_5_4 (va_Pc [.ref (fx_a g 6), .ref (fx_a g 1), .ref (fx_a g 5), .ref (fx_a g 4)] (fx_At g M)) (va_Qv Q (fx_Pw g) (fx_A g)) 0 0 (fx_A g) := by
  refine Met.ofW (cc := cX5_layOut) (maxL := 5) (ret := none) (by decide +kernel) rfl ?_
  intro p e s m args below meth c s₁ B hml hv
  obtain ⟨rfl, hv⟩ := hv
  have hts := atoms_spec (ws := .code yX5_layOut cX5_layOut 5 none :: fx_U) B.pre
  obtain ⟨C, hH⟩ := fx_body (own := RX5) B hml rfl (fun w hw => hts w (List.mem_cons_of_mem _ hw)) hG hv
  replace hts := fun w hw => hts w (List.mem_cons_of_mem _ hw)
  obtain ⟨hx, hb, hr, -, hown, -, hlocks, hsz, hK, -, hSt⟩ := id C
  have hl := lv_entry ([.ref (fx_a g 6), .ref (fx_a g 1), .ref (fx_a g 5), .ref (fx_a g 4)]) (n := 5) (Nat.le_of_ble_eq_true rfl)
  rw [lg_entry_eq]
  generalize (lg_sl ([.ref (fx_a g 6), .ref (fx_a g 1), .ref (fx_a g 5), .ref (fx_a g 4)]) ++ List.replicate (5 - (lg_sl ([.ref (fx_a g 6), .ref (fx_a g 1), .ref (fx_a g 5), .ref (fx_a g 4)])).length) Slot.unset).toArray = ls at hl ⊢
  have hl : lv_has ls 5 [(0, .ref (fx_a g 6)), (1, .ref (fx_a g 1)), (2, .ref (fx_a g 5)), (3, .ref (fx_a g 4))] := hl
  obtain ⟨H, eH⟩ : ∃ H : Heap, H = s.heap := ⟨_, rfl⟩
  obtain ⟨locs, elocs⟩ : ∃ q : List Loc, q = [] := ⟨_, rfl⟩
  rw [← eH, ← elocs] at hH
  show W p l e rm_X5_layOut_6_1_5_4 s m _ below meth c s.heap [] 0 0 _ _
  rw [← eH, ← elocs]
  unfold wp_X5_layOut_6_1_5_4 at h
  refine lv_iconst (v := 0) hx hb dX5_layOut_0 (by decide) ?_
  refine lv_istore (lv' := [(4, .int 0), (0, .ref (fx_a g 6)), (1, .ref (fx_a g 1)), (2, .ref (fx_a g 5)), (3, .ref (fx_a g 4))]) hx hb dX5_layOut_1 hl (by decide) rfl (fun ls hl => ?_)
  obtain ⟨n3, h⟩ := h
  exact tl_X5_layOut_6_1_5_4_3 C Q  n3 0 M h  H locs ls hH (lv_sub hl [1, 2, 3, 4, 0] rfl)
/-! FlexLayout$Container.alignment(I)I (1,) -/
def rm_X1_alignment_1 : Room := { frames := 0, cells := 0, slots := 0, locals := 0 }
def wp_X1_alignment_1 (a1 : Int32) (M : fx_Mem) (Q : Int32 → fx_Mem → Prop) : Prop :=
  vp_in a1 20 ∧ ∀ v3 : Int32, v3 = M.2.1 (57 + a1.toNatClampNeg) 7 → ((v3 = (-1) → Q (M.2.1 10 3) M) ∧ (¬ v3 = (-1) → Q v3 M))
set_option maxHeartbeats 4000000 in
set_option maxRecDepth 100000 in
theorem c_X1_alignment_1 (l : Launch) {g : fx_Geo} (hG : fx_Gd g) (a1 : Int32) (M : fx_Mem) (Q : Int32 → fx_Mem → Prop) (h : wp_X1_alignment_1 a1 M Q) : Met l yX1_alignment (.code yX1_alignment cX1_alignment 3 (some .int) :: fx_U) rm_X1_alignment_1 (va_Pc [.ref (fx_a g 1), .int a1] (fx_At g M)) (va_Qi Q (fx_Pw g) (fx_A g)) 0 0 (fx_A g) := by
  refine Met.ofW (cc := cX1_alignment) (maxL := 3) (ret := (some .int)) (by decide +kernel) rfl ?_
  intro p e s m args below meth c s₁ B hml hv
  obtain ⟨rfl, hv⟩ := hv
  have hts := atoms_spec (ws := .code yX1_alignment cX1_alignment 3 (some .int) :: fx_U) B.pre
  obtain ⟨C, hH⟩ := fx_body (own := RX1) B hml rfl (fun w hw => hts w (List.mem_cons_of_mem _ hw)) hG hv
  replace hts := fun w hw => hts w (List.mem_cons_of_mem _ hw)
  obtain ⟨hx, hb, hr, -, hown, -, hlocks, hsz, hK, -, hSt⟩ := id C
  have hl := lv_entry ([.ref (fx_a g 1), .int a1]) (n := 3) (Nat.le_of_ble_eq_true rfl)
  rw [lg_entry_eq]
  generalize (lg_sl ([.ref (fx_a g 1), .int a1]) ++ List.replicate (3 - (lg_sl ([.ref (fx_a g 1), .int a1])).length) Slot.unset).toArray = ls at hl ⊢
  have hl : lv_has ls 3 [(0, .ref (fx_a g 1)), (1, .int a1)] := hl
  obtain ⟨H, eH⟩ : ∃ H : Heap, H = s.heap := ⟨_, rfl⟩
  obtain ⟨locs, elocs⟩ : ∃ q : List Loc, q = [] := ⟨_, rfl⟩
  rw [← eH, ← elocs] at hH
  show W p l e rm_X1_alignment_1 s m _ below meth c s.heap [] 0 0 _ _
  rw [← eH, ← elocs]
  unfold wp_X1_alignment_1 at h
  refine lv_aload_n hx hb dX1_alignment_0 rfl (lv_at hl 0 rfl) ?_
  refine fx_get C hH (fx_w1 g M) rfl in_X1 5 (by decide) u_55 rfl rfl dX1_alignment_1 ?_
  refine lv_iload_n hx hb dX1_alignment_4 rfl (lv_at hl 1 rfl) ?_
  obtain ⟨hi1, h⟩ := h
  have hj2 : a1.toNatClampNeg < 20 := Nat.not_le.mp fun q => hi1 (Or.inr q)
  refine fx_aald C hH 11 (fx_w11 g M) hi1 dX1_alignment_5 ?_
  refine lv_bipush (v := 7) hx hb dX1_alignment_6 (by decide) ?_
  refine fx_iald (j := 7) C hH (57 + a1.toNatClampNeg) (fx_r1 g M a1.toNatClampNeg hj2) (by decide) (by unfold vp_in; decide) dX1_alignment_8 ?_
  refine lv_topi (fun v3 ev3 => ?_)
  replace h := h v3 ev3
  refine lv_istore_n (lv' := [(2, .int v3), (0, .ref (fx_a g 1)), (1, .int a1)]) hx hb dX1_alignment_9 rfl hl (by decide) rfl (fun ls hl => ?_)
  refine lv_iload_n hx hb dX1_alignment_10 rfl (lv_at hl 0 rfl) ?_
  refine lv_iconst (v := -1) hx hb dX1_alignment_11 (by decide) ?_
  refine lv_icmp_ne (tgt := 24) hx hb dX1_alignment_12 (by decide) (fun c4 => ?_) (fun c4 => ?_)
  · replace h := h.2 c4
    refine lv_iload_n hx hb dX1_alignment_24 rfl (lv_at hl 0 rfl) ?_
    exact fx_iret C hH h dX1_alignment_25
  · replace h := h.1 c4
    refine lv_aload_n hx hb dX1_alignment_15 rfl (lv_at hl 1 rfl) ?_
    refine fx_get C hH (fx_w1 g M) rfl in_X1 4 (by decide) u_51 rfl rfl dX1_alignment_16 ?_
    refine lv_iconst (v := 3) hx hb dX1_alignment_19 (by decide) ?_
    refine fx_iald (j := 3) C hH 10 (fx_w10 g M) (by decide) (by unfold vp_in; decide) dX1_alignment_20 ?_
    refine lv_goto (tgt := 25) hx hb dX1_alignment_21 (by decide) ?_
    exact fx_iret C hH h dX1_alignment_25
/-! FlexLayout$CrossAxis.measure(LFlexLayout$Container;LFlexLayout$Arrangement;I)V (7, 1, 5) -/
def rm_X2_measure_7_1_5 : Room := { frames := 1, cells := 0, slots := 0, locals := 22 }
def wb_X2_measure_7_1_5_121 (k20 : Int32 → Int32 → Int32 → Int32 → Int32 → Int32 → fx_Mem → Prop) (k127 : Int32 → Int32 → Int32 → Int32 → fx_Mem → Prop) (Q : fx_Mem → Prop) (x3 : Int32) (x4 : Int32) (x5 : Int32) (x6 : Int32) (x7 : Int32) (x8 : Int32) (M : fx_Mem) : Prop :=
  ∀ v1 : Int32, v1 = x8 + 1 → k20 x3 x4 x5 x6 x7 v1 M
set_option maxHeartbeats 4000000 in
set_option maxRecDepth 100000 in
theorem tb_X2_measure_7_1_5_121 {g : fx_Geo} {p : Program} {l : Launch} {e : Env} {s : State} {m : MethodId} {args : Array Value} {below : List Frame} {meth : Method} {c : Code} (C : fx_Cx g p s m args meth c RX2 cX2_measure 12 none) (k20 : Int32 → Int32 → Int32 → Int32 → Int32 → Int32 → fx_Mem → Prop) (k127 : Int32 → Int32 → Int32 → Int32 → fx_Mem → Prop) (Q : fx_Mem → Prop) (hk20 : ∀ (x3 : Int32) (x4 : Int32) (x5 : Int32) (x6 : Int32) (x7 : Int32) (x8 : Int32) (M : fx_Mem), k20 x3 x4 x5 x6 x7 x8 M → ∀ (H : Heap) (locs : List Loc) (ls : Array Slot), fx_H g s M H locs → lv_has ls 12 [(0, .ref (fx_a g 7)), (1, .ref (fx_a g 1)), (2, .ref (fx_a g 5)), (3, .int x3), (4, .int x4), (5, .int x5), (6, .int x6), (7, .int x7), (8, .int x8)] → W p l e rm_X2_measure_7_1_5 s m args below meth c H locs 0 0 (MQ below (va_Qv Q (fx_Pw g) (fx_A g)) args s 0 0 (fx_A g)) (F0 m 20 ls [])) (hk127 : ∀ (x3 : Int32) (x4 : Int32) (x5 : Int32) (x6 : Int32) (M : fx_Mem), k127 x3 x4 x5 x6 M → ∀ (H : Heap) (locs : List Loc) (ls : Array Slot), fx_H g s M H locs → lv_has ls 12 [(0, .ref (fx_a g 7)), (3, .int x3), (4, .int x4), (5, .int x5), (6, .int x6)] → W p l e rm_X2_measure_7_1_5 s m args below meth c H locs 0 0 (MQ below (va_Qv Q (fx_Pw g) (fx_A g)) args s 0 0 (fx_A g)) (F0 m 127 ls [])) (x3 : Int32) (x4 : Int32) (x5 : Int32) (x6 : Int32) (x7 : Int32) (x8 : Int32) (M : fx_Mem) (h : wb_X2_measure_7_1_5_121 k20 k127 Q x3 x4 x5 x6 x7 x8 M) (H : Heap) (locs : List Loc) (ls : Array Slot) (hH : fx_H g s M H locs) (hl : lv_has ls 12 [(0, .ref (fx_a g 7)), (1, .ref (fx_a g 1)), (2, .ref (fx_a g 5)), (3, .int x3), (4, .int x4), (5, .int x5), (6, .int x6), (7, .int x7), (8, .int x8)]) : W p l e rm_X2_measure_7_1_5 s m args below meth c H locs 0 0 (MQ below (va_Qv Q (fx_Pw g) (fx_A g)) args s 0 0 (fx_A g)) (F0 m 121 ls []) := by
  obtain ⟨hx, hb, hr, hml, hown, hts, hlocks, hsz, hK, hG, hSt⟩ := id C
  unfold wb_X2_measure_7_1_5_121 at h
  obtain ⟨v1, ev1⟩ : ∃ z : Int32, z = x8 + 1 := ⟨_, rfl⟩
  refine lv_iinc (v := v1) (lv' := [(8, .int v1), (0, .ref (fx_a g 7)), (1, .ref (fx_a g 1)), (2, .ref (fx_a g 5)), (3, .int x3), (4, .int x4), (5, .int x5), (6, .int x6), (7, .int x7)]) hx hb dX2_measure_121 hl (k := 8) rfl (by rw [ev1]; rfl) (by decide) rfl (fun ls hl => ?_)
  replace h := h v1 ev1
  refine lv_goto (tgt := 20) hx hb dX2_measure_124 (by decide) ?_
  exact hk20 x3 x4 x5 x6 x7 v1 M h  H locs ls hH (lv_sub hl [1, 2, 3, 4, 5, 6, 7, 8, 0] rfl)
def wb_X2_measure_7_1_5_102 (k20 : Int32 → Int32 → Int32 → Int32 → Int32 → Int32 → fx_Mem → Prop) (k127 : Int32 → Int32 → Int32 → Int32 → fx_Mem → Prop) (Q : fx_Mem → Prop) (x3 : Int32) (x4 : Int32) (x5 : Int32) (x8 : Int32) (s0 : Int32) (M : fx_Mem) : Prop :=
  wb_X2_measure_7_1_5_121 k20 k127 Q x3 x4 x5 s0 1 x8 M
set_option maxHeartbeats 4000000 in
set_option maxRecDepth 100000 in
theorem tb_X2_measure_7_1_5_102 {g : fx_Geo} {p : Program} {l : Launch} {e : Env} {s : State} {m : MethodId} {args : Array Value} {below : List Frame} {meth : Method} {c : Code} (C : fx_Cx g p s m args meth c RX2 cX2_measure 12 none) (k20 : Int32 → Int32 → Int32 → Int32 → Int32 → Int32 → fx_Mem → Prop) (k127 : Int32 → Int32 → Int32 → Int32 → fx_Mem → Prop) (Q : fx_Mem → Prop) (hk20 : ∀ (x3 : Int32) (x4 : Int32) (x5 : Int32) (x6 : Int32) (x7 : Int32) (x8 : Int32) (M : fx_Mem), k20 x3 x4 x5 x6 x7 x8 M → ∀ (H : Heap) (locs : List Loc) (ls : Array Slot), fx_H g s M H locs → lv_has ls 12 [(0, .ref (fx_a g 7)), (1, .ref (fx_a g 1)), (2, .ref (fx_a g 5)), (3, .int x3), (4, .int x4), (5, .int x5), (6, .int x6), (7, .int x7), (8, .int x8)] → W p l e rm_X2_measure_7_1_5 s m args below meth c H locs 0 0 (MQ below (va_Qv Q (fx_Pw g) (fx_A g)) args s 0 0 (fx_A g)) (F0 m 20 ls [])) (hk127 : ∀ (x3 : Int32) (x4 : Int32) (x5 : Int32) (x6 : Int32) (M : fx_Mem), k127 x3 x4 x5 x6 M → ∀ (H : Heap) (locs : List Loc) (ls : Array Slot), fx_H g s M H locs → lv_has ls 12 [(0, .ref (fx_a g 7)), (3, .int x3), (4, .int x4), (5, .int x5), (6, .int x6)] → W p l e rm_X2_measure_7_1_5 s m args below meth c H locs 0 0 (MQ below (va_Qv Q (fx_Pw g) (fx_A g)) args s 0 0 (fx_A g)) (F0 m 127 ls [])) (x3 : Int32) (x4 : Int32) (x5 : Int32) (x8 : Int32) (s0 : Int32) (M : fx_Mem) (h : wb_X2_measure_7_1_5_102 k20 k127 Q x3 x4 x5 x8 s0 M) (H : Heap) (locs : List Loc) (ls : Array Slot) (hH : fx_H g s M H locs) (hl : lv_has ls 12 [(0, .ref (fx_a g 7)), (1, .ref (fx_a g 1)), (2, .ref (fx_a g 5)), (3, .int x3), (4, .int x4), (5, .int x5), (8, .int x8)]) : W p l e rm_X2_measure_7_1_5 s m args below meth c H locs 0 0 (MQ below (va_Qv Q (fx_Pw g) (fx_A g)) args s 0 0 (fx_A g)) (F0 m 102 ls [.int s0]) := by
  obtain ⟨hx, hb, hr, hml, hown, hts, hlocks, hsz, hK, hG, hSt⟩ := id C
  unfold wb_X2_measure_7_1_5_102 at h
  refine lv_istore (lv' := [(6, .int s0), (0, .ref (fx_a g 7)), (1, .ref (fx_a g 1)), (2, .ref (fx_a g 5)), (3, .int x3), (4, .int x4), (5, .int x5), (8, .int x8)]) hx hb dX2_measure_102 hl (by decide) rfl (fun ls hl => ?_)
  refine lv_iconst (v := 1) hx hb dX2_measure_104 (by decide) ?_
  refine lv_istore (lv' := [(7, .int 1), (6, .int s0), (0, .ref (fx_a g 7)), (1, .ref (fx_a g 1)), (2, .ref (fx_a g 5)), (3, .int x3), (4, .int x4), (5, .int x5), (8, .int x8)]) hx hb dX2_measure_105 hl (by decide) rfl (fun ls hl => ?_)
  refine lv_goto (tgt := 121) hx hb dX2_measure_107 (by decide) ?_
  exact tb_X2_measure_7_1_5_121 C k20 k127 Q hk20 hk127 x3 x4 x5 s0 1 x8 M h  H locs ls hH (lv_sub hl [2, 3, 4, 5, 6, 7, 1, 0, 8] rfl)
def wb_X2_measure_7_1_5_20 (k20 : Int32 → Int32 → Int32 → Int32 → Int32 → Int32 → fx_Mem → Prop) (k127 : Int32 → Int32 → Int32 → Int32 → fx_Mem → Prop) (Q : fx_Mem → Prop) (x3 : Int32) (x4 : Int32) (x5 : Int32) (x6 : Int32) (x7 : Int32) (x8 : Int32) (M : fx_Mem) : Prop :=
  vp_in (x3 + 1) 21 ∧ ((M.2.1 19 ((x3 + 1).toNatClampNeg) ≤ x8 → k127 x3 x4 x5 x6 M) ∧ (¬ M.2.1 19 ((x3 + 1).toNatClampNeg) ≤ x8 → vp_in x8 20 ∧ ∀ v4 : Int32, v4 = M.2.1 18 x8.toNatClampNeg → vp_in v4 20 ∧ wp_X1_alignment_1 v4 M (fun r8 M7 => ((r8 = 4 → ∀ v11 : Int32, v11 = (M7.2.1 (57 + v4.toNatClampNeg) 5) - (M7.2.1 (57 + v4.toNatClampNeg) 6) → ∀ v12 : Int32, v12 = (if x5 < M7.2.1 (57 + v4.toNatClampNeg) 6 then M7.2.1 (57 + v4.toNatClampNeg) 6 else x5) → ((x7 = 0 → wb_X2_measure_7_1_5_102 k20 k127 Q x3 x4 v12 x8 v11 M7) ∧ (¬ x7 = 0 → wb_X2_measure_7_1_5_102 k20 k127 Q x3 x4 v12 x8 (if x6 < v11 then v11 else x6) M7))) ∧ (¬ r8 = 4 → ∀ v10 : Int32, v10 = (if x4 < M7.2.1 (57 + v4.toNatClampNeg) 5 then M7.2.1 (57 + v4.toNatClampNeg) 5 else x4) → wb_X2_measure_7_1_5_121 k20 k127 Q x3 v10 x5 x6 x7 x8 M7)))))
set_option maxHeartbeats 4000000 in
set_option maxRecDepth 100000 in
theorem tb_X2_measure_7_1_5_20 {g : fx_Geo} {p : Program} {l : Launch} {e : Env} {s : State} {m : MethodId} {args : Array Value} {below : List Frame} {meth : Method} {c : Code} (C : fx_Cx g p s m args meth c RX2 cX2_measure 12 none) (k20 : Int32 → Int32 → Int32 → Int32 → Int32 → Int32 → fx_Mem → Prop) (k127 : Int32 → Int32 → Int32 → Int32 → fx_Mem → Prop) (Q : fx_Mem → Prop) (hk20 : ∀ (x3 : Int32) (x4 : Int32) (x5 : Int32) (x6 : Int32) (x7 : Int32) (x8 : Int32) (M : fx_Mem), k20 x3 x4 x5 x6 x7 x8 M → ∀ (H : Heap) (locs : List Loc) (ls : Array Slot), fx_H g s M H locs → lv_has ls 12 [(0, .ref (fx_a g 7)), (1, .ref (fx_a g 1)), (2, .ref (fx_a g 5)), (3, .int x3), (4, .int x4), (5, .int x5), (6, .int x6), (7, .int x7), (8, .int x8)] → W p l e rm_X2_measure_7_1_5 s m args below meth c H locs 0 0 (MQ below (va_Qv Q (fx_Pw g) (fx_A g)) args s 0 0 (fx_A g)) (F0 m 20 ls [])) (hk127 : ∀ (x3 : Int32) (x4 : Int32) (x5 : Int32) (x6 : Int32) (M : fx_Mem), k127 x3 x4 x5 x6 M → ∀ (H : Heap) (locs : List Loc) (ls : Array Slot), fx_H g s M H locs → lv_has ls 12 [(0, .ref (fx_a g 7)), (3, .int x3), (4, .int x4), (5, .int x5), (6, .int x6)] → W p l e rm_X2_measure_7_1_5 s m args below meth c H locs 0 0 (MQ below (va_Qv Q (fx_Pw g) (fx_A g)) args s 0 0 (fx_A g)) (F0 m 127 ls [])) (x3 : Int32) (x4 : Int32) (x5 : Int32) (x6 : Int32) (x7 : Int32) (x8 : Int32) (M : fx_Mem) (h : wb_X2_measure_7_1_5_20 k20 k127 Q x3 x4 x5 x6 x7 x8 M) (H : Heap) (locs : List Loc) (ls : Array Slot) (hH : fx_H g s M H locs) (hl : lv_has ls 12 [(0, .ref (fx_a g 7)), (1, .ref (fx_a g 1)), (2, .ref (fx_a g 5)), (3, .int x3), (4, .int x4), (5, .int x5), (6, .int x6), (7, .int x7), (8, .int x8)]) : W p l e rm_X2_measure_7_1_5 s m args below meth c H locs 0 0 (MQ below (va_Qv Q (fx_Pw g) (fx_A g)) args s 0 0 (fx_A g)) (F0 m 20 ls []) := by
  obtain ⟨hx, hb, hr, hml, hown, hts, hlocks, hsz, hK, hG, hSt⟩ := id C
  unfold wb_X2_measure_7_1_5_20 at h
  refine lv_iload hx hb dX2_measure_20 (lv_at hl 8 rfl) ?_
  refine lv_aload_n hx hb dX2_measure_22 rfl (lv_at hl 2 rfl) ?_
  refine fx_get C hH (fx_w5 g M) rfl in_X0 1 (by decide) u_129 rfl rfl dX2_measure_23 ?_
  refine lv_iload_n hx hb dX2_measure_26 rfl (lv_at hl 3 rfl) ?_
  refine lv_iconst (v := 1) hx hb dX2_measure_27 (by decide) ?_
  refine lv_iadd hx hb dX2_measure_28 ?_
  obtain ⟨hi1, h⟩ := h
  refine fx_iald (j := (x3 + 1).toNatClampNeg) C hH 19 (fx_w19 g M) rfl hi1 dX2_measure_29 ?_
  refine lv_icmp_ge (tgt := 127) hx hb dX2_measure_30 (by decide) (fun c2 => ?_) (fun c2 => ?_)
  · replace h := h.1 c2
    exact hk127 x3 x4 x5 x6 M h  H locs ls hH (lv_sub hl [0, 3, 4, 5, 6] rfl)
  · replace h := h.2 c2
    refine lv_aload_n hx hb dX2_measure_33 rfl (lv_at hl 2 rfl) ?_
    refine fx_get C hH (fx_w5 g M) rfl in_X0 0 (by decide) u_125 rfl rfl dX2_measure_34 ?_
    refine lv_iload hx hb dX2_measure_37 (lv_at hl 8 rfl) ?_
    obtain ⟨hi3, h⟩ := h
    refine fx_iald (j := x8.toNatClampNeg) C hH 18 (fx_w18 g M) rfl hi3 dX2_measure_39 ?_
    refine lv_topi (fun v4 ev4 => ?_)
    replace h := h v4 ev4
    refine lv_istore (lv' := [(9, .int v4), (0, .ref (fx_a g 7)), (1, .ref (fx_a g 1)), (2, .ref (fx_a g 5)), (3, .int x3), (4, .int x4), (5, .int x5), (6, .int x6), (7, .int x7), (8, .int x8)]) hx hb dX2_measure_40 hl (by decide) rfl (fun ls hl => ?_)
    refine lv_aload_n hx hb dX2_measure_42 rfl (lv_at hl 2 rfl) ?_
    refine fx_get C hH (fx_w1 g M) rfl in_X1 5 (by decide) u_57 rfl rfl dX2_measure_43 ?_
    refine lv_iload hx hb dX2_measure_46 (lv_at hl 0 rfl) ?_
    obtain ⟨hi5, h⟩ := h
    have hj6 : v4.toNatClampNeg < 20 := Nat.not_le.mp fun q => hi5 (Or.inr q)
    refine fx_aald C hH 11 (fx_w11 g M) hi5 dX2_measure_48 ?_
    refine lv_astore (lv' := [(10, .ref (fx_a g (57 + v4.toNatClampNeg))), (9, .int v4), (0, .ref (fx_a g 7)), (1, .ref (fx_a g 1)), (2, .ref (fx_a g 5)), (3, .int x3), (4, .int x4), (5, .int x5), (6, .int x6), (7, .int x7), (8, .int x8)]) hx hb dX2_measure_49 hl (by decide) rfl (fun ls hl => ?_)
    refine lv_aload_n hx hb dX2_measure_51 rfl (lv_at hl 3 rfl) ?_
    refine lv_iload hx hb dX2_measure_52 (lv_at hl 1 rfl) ?_
    refine fx_ci hH (fx_runV (As := [.int v4]) (rest := []) C hH (c_X1_alignment_1 l C.2.2.2.2.2.2.2.2.2.1 v4 M _ h) (fx_cwV 1 hts u_268 u_269 u_270 u_2 u_271 rfl rfl (by decide +kernel) ⟨(Nat.le_of_ble_eq_true rfl), (Nat.le_of_ble_eq_true rfl)⟩) (fx_w1 g M) rfl rfl hl.1 rfl (Nat.le_of_ble_eq_true rfl) dX2_measure_54 ⟨(Nat.le_of_ble_eq_true rfl), (Nat.le_of_ble_eq_true rfl)⟩) (fun r8 M7 H locs h hH => ?_)
    refine lv_iconst (v := 4) hx hb dX2_measure_57 (by decide) ?_
    refine lv_icmp_ne (tgt := 110) hx hb dX2_measure_58 (by decide) (fun c9 => ?_) (fun c9 => ?_)
    · replace h := h.2 c9
      refine lv_iload hx hb dX2_measure_110 (lv_at hl 6 rfl) ?_
      refine lv_aload hx hb dX2_measure_112 (lv_at hl 0 rfl) ?_
      refine lv_iconst (v := 5) hx hb dX2_measure_114 (by decide) ?_
      refine fx_iald (j := 5) C hH (57 + v4.toNatClampNeg) (fx_r1 g M7 v4.toNatClampNeg hj6) (by decide) (by unfold vp_in; decide) dX2_measure_115 ?_
      refine va_mmax hx hb (hml.trans hl.1.symm) hown (hts _ u_272) (hts _ u_273) (hts _ u_17) (hts _ u_274) (Nat.le_of_ble_eq_true rfl) (Nat.le_of_ble_eq_true rfl) (Nat.le_of_ble_eq_true rfl) (Nat.le_of_ble_eq_true rfl) dX2_measure_116 ?_
      refine lv_topi (fun v10 ev10 => ?_)
      replace h := h v10 ev10
      refine lv_istore (lv' := [(4, .int v10), (10, .ref (fx_a g (57 + v4.toNatClampNeg))), (9, .int v4), (0, .ref (fx_a g 7)), (1, .ref (fx_a g 1)), (2, .ref (fx_a g 5)), (3, .int x3), (5, .int x5), (6, .int x6), (7, .int x7), (8, .int x8)]) hx hb dX2_measure_119 hl (by decide) rfl (fun ls hl => ?_)
      exact tb_X2_measure_7_1_5_121 C k20 k127 Q hk20 hk127 x3 v10 x5 x6 x7 x8 M7 h  H locs ls hH (lv_sub hl [3, 4, 5, 6, 0, 7, 8, 9, 10] rfl)
    · replace h := h.1 c9
      refine lv_aload hx hb dX2_measure_61 (lv_at hl 0 rfl) ?_
      refine lv_iconst (v := 5) hx hb dX2_measure_63 (by decide) ?_
      refine fx_iald (j := 5) C hH (57 + v4.toNatClampNeg) (fx_r1 g M7 v4.toNatClampNeg hj6) (by decide) (by unfold vp_in; decide) dX2_measure_64 ?_
      refine lv_aload hx hb dX2_measure_65 (lv_at hl 0 rfl) ?_
      refine lv_bipush (v := 6) hx hb dX2_measure_67 (by decide) ?_
      refine fx_iald (j := 6) C hH (57 + v4.toNatClampNeg) (fx_r1 g M7 v4.toNatClampNeg hj6) (by decide) (by unfold vp_in; decide) dX2_measure_69 ?_
      refine lv_isub hx hb dX2_measure_70 ?_
      refine lv_topi (fun v11 ev11 => ?_)
      replace h := h v11 ev11
      refine lv_istore (lv' := [(11, .int v11), (10, .ref (fx_a g (57 + v4.toNatClampNeg))), (9, .int v4), (0, .ref (fx_a g 7)), (1, .ref (fx_a g 1)), (2, .ref (fx_a g 5)), (3, .int x3), (4, .int x4), (5, .int x5), (6, .int x6), (7, .int x7), (8, .int x8)]) hx hb dX2_measure_71 hl (by decide) rfl (fun ls hl => ?_)
      refine lv_iload hx hb dX2_measure_73 (lv_at hl 8 rfl) ?_
      refine lv_aload hx hb dX2_measure_75 (lv_at hl 1 rfl) ?_
      refine lv_bipush (v := 6) hx hb dX2_measure_77 (by decide) ?_
      refine fx_iald (j := 6) C hH (57 + v4.toNatClampNeg) (fx_r1 g M7 v4.toNatClampNeg hj6) (by decide) (by unfold vp_in; decide) dX2_measure_79 ?_
      refine va_mmax hx hb (hml.trans hl.1.symm) hown (hts _ u_272) (hts _ u_273) (hts _ u_17) (hts _ u_274) (Nat.le_of_ble_eq_true rfl) (Nat.le_of_ble_eq_true rfl) (Nat.le_of_ble_eq_true rfl) (Nat.le_of_ble_eq_true rfl) dX2_measure_80 ?_
      refine lv_topi (fun v12 ev12 => ?_)
      replace h := h v12 ev12
      refine lv_istore (lv' := [(5, .int v12), (11, .int v11), (10, .ref (fx_a g (57 + v4.toNatClampNeg))), (9, .int v4), (0, .ref (fx_a g 7)), (1, .ref (fx_a g 1)), (2, .ref (fx_a g 5)), (3, .int x3), (4, .int x4), (6, .int x6), (7, .int x7), (8, .int x8)]) hx hb dX2_measure_83 hl (by decide) rfl (fun ls hl => ?_)
      refine lv_iload hx hb dX2_measure_85 (lv_at hl 10 rfl) ?_
      refine lv_if_eq (tgt := 100) hx hb dX2_measure_87 (by decide) (fun c13 => ?_) (fun c13 => ?_)
      · replace h := h.1 c13
        refine lv_iload hx hb dX2_measure_100 (lv_at hl 1 rfl) ?_
        exact tb_X2_measure_7_1_5_102 C k20 k127 Q hk20 hk127 x3 x4 v12 x8 v11 M7 h  H locs ls hH (lv_sub hl [4, 5, 6, 7, 8, 0, 11] rfl)
      · replace h := h.2 c13
        refine lv_iload hx hb dX2_measure_90 (lv_at hl 9 rfl) ?_
        refine lv_iload hx hb dX2_measure_92 (lv_at hl 1 rfl) ?_
        refine va_mmax hx hb (hml.trans hl.1.symm) hown (hts _ u_272) (hts _ u_273) (hts _ u_17) (hts _ u_274) (Nat.le_of_ble_eq_true rfl) (Nat.le_of_ble_eq_true rfl) (Nat.le_of_ble_eq_true rfl) (Nat.le_of_ble_eq_true rfl) dX2_measure_94 ?_
        refine lv_goto (tgt := 102) hx hb dX2_measure_97 (by decide) ?_
        exact tb_X2_measure_7_1_5_102 C k20 k127 Q hk20 hk127 x3 x4 v12 x8 (if x6 < v11 then v11 else x6) M7 h  H locs ls hH (lv_sub hl [4, 5, 6, 7, 8, 0, 11] rfl)
def wl_X2_measure_7_1_5_20 (k127 : Int32 → Int32 → Int32 → Int32 → fx_Mem → Prop) (Q : fx_Mem → Prop) (n : Nat) (x3 : Int32) (x4 : Int32) (x5 : Int32) (x6 : Int32) (x7 : Int32) (x8 : Int32) (M : fx_Mem) : Prop :=
  fx_lp (α := Int32 × Int32 × Int32 × Int32 × Int32 × Int32 × fx_Mem) (fun k a => wb_X2_measure_7_1_5_20 (fun x3 x4 x5 x6 x7 x8 M => k (x3, x4, x5, x6, x7, x8, M)) k127 Q a.1 a.2.1 a.2.2.1 a.2.2.2.1 a.2.2.2.2.1 a.2.2.2.2.2.1 a.2.2.2.2.2.2) n (x3, x4, x5, x6, x7, x8, M)
set_option maxHeartbeats 4000000 in
theorem tl_X2_measure_7_1_5_20 {g : fx_Geo} {p : Program} {l : Launch} {e : Env} {s : State} {m : MethodId} {args : Array Value} {below : List Frame} {meth : Method} {c : Code} (C : fx_Cx g p s m args meth c RX2 cX2_measure 12 none) (k127 : Int32 → Int32 → Int32 → Int32 → fx_Mem → Prop) (Q : fx_Mem → Prop) (hk127 : ∀ (x3 : Int32) (x4 : Int32) (x5 : Int32) (x6 : Int32) (M : fx_Mem), k127 x3 x4 x5 x6 M → ∀ (H : Heap) (locs : List Loc) (ls : Array Slot), fx_H g s M H locs → lv_has ls 12 [(0, .ref (fx_a g 7)), (3, .int x3), (4, .int x4), (5, .int x5), (6, .int x6)] → W p l e rm_X2_measure_7_1_5 s m args below meth c H locs 0 0 (MQ below (va_Qv Q (fx_Pw g) (fx_A g)) args s 0 0 (fx_A g)) (F0 m 127 ls [])) : ∀ (n : Nat) (x3 : Int32) (x4 : Int32) (x5 : Int32) (x6 : Int32) (x7 : Int32) (x8 : Int32) (M : fx_Mem), wl_X2_measure_7_1_5_20 k127 Q n x3 x4 x5 x6 x7 x8 M → ∀ (H : Heap) (locs : List Loc) (ls : Array Slot), fx_H g s M H locs → lv_has ls 12 [(0, .ref (fx_a g 7)), (1, .ref (fx_a g 1)), (2, .ref (fx_a g 5)), (3, .int x3), (4, .int x4), (5, .int x5), (6, .int x6), (7, .int x7), (8, .int x8)] → W p l e rm_X2_measure_7_1_5 s m args below meth c H locs 0 0 (MQ below (va_Qv Q (fx_Pw g) (fx_A g)) args s 0 0 (fx_A g)) (F0 m 20 ls []) := by
  intro n
  induction n with
  | zero => intro x3 x4 x5 x6 x7 x8 M h; exact False.elim h
  | succ n ih => intro x3 x4 x5 x6 x7 x8 M h  H locs ls hH hl; exact tb_X2_measure_7_1_5_20 C (wl_X2_measure_7_1_5_20 k127 Q n) k127 Q ih hk127 x3 x4 x5 x6 x7 x8 M h  H locs ls hH hl
def wb_X2_measure_7_1_5_127 (Q : fx_Mem → Prop) (x3 : Int32) (x4 : Int32) (x5 : Int32) (x6 : Int32) (M : fx_Mem) : Prop :=
  vp_in x3 20 ∧ ∀ M2 : fx_Mem, M2 = fx_sa M 26 x3.toNatClampNeg (if x4 < x5 + x6 then x5 + x6 else x4) → vp_in x3 20 ∧ ∀ M4 : fx_Mem, M4 = fx_sa M2 27 x3.toNatClampNeg x5 → Q M4
set_option maxHeartbeats 4000000 in
set_option maxRecDepth 100000 in
theorem tb_X2_measure_7_1_5_127 {g : fx_Geo} {p : Program} {l : Launch} {e : Env} {s : State} {m : MethodId} {args : Array Value} {below : List Frame} {meth : Method} {c : Code} (C : fx_Cx g p s m args meth c RX2 cX2_measure 12 none) (Q : fx_Mem → Prop) (x3 : Int32) (x4 : Int32) (x5 : Int32) (x6 : Int32) (M : fx_Mem) (h : wb_X2_measure_7_1_5_127 Q x3 x4 x5 x6 M) (H : Heap) (locs : List Loc) (ls : Array Slot) (hH : fx_H g s M H locs) (hl : lv_has ls 12 [(0, .ref (fx_a g 7)), (3, .int x3), (4, .int x4), (5, .int x5), (6, .int x6)]) : W p l e rm_X2_measure_7_1_5 s m args below meth c H locs 0 0 (MQ below (va_Qv Q (fx_Pw g) (fx_A g)) args s 0 0 (fx_A g)) (F0 m 127 ls []) := by
  obtain ⟨hx, hb, hr, hml, hown, hts, hlocks, hsz, hK, hG, hSt⟩ := id C
  unfold wb_X2_measure_7_1_5_127 at h
  refine lv_aload_n hx hb dX2_measure_127 rfl (lv_at hl 0 rfl) ?_
  refine fx_get C hH (fx_w7 g M) rfl in_X2 0 (by decide) u_178 rfl rfl dX2_measure_128 ?_
  refine lv_iload_n hx hb dX2_measure_131 rfl (lv_at hl 1 rfl) ?_
  refine lv_iload hx hb dX2_measure_132 (lv_at hl 2 rfl) ?_
  refine lv_iload hx hb dX2_measure_134 (lv_at hl 3 rfl) ?_
  refine lv_iload hx hb dX2_measure_136 (lv_at hl 4 rfl) ?_
  refine lv_iadd hx hb dX2_measure_138 ?_
  refine va_mmax hx hb (hml.trans hl.1.symm) hown (hts _ u_272) (hts _ u_273) (hts _ u_17) (hts _ u_274) (Nat.le_of_ble_eq_true rfl) (Nat.le_of_ble_eq_true rfl) (Nat.le_of_ble_eq_true rfl) (Nat.le_of_ble_eq_true rfl) dX2_measure_139 ?_
  obtain ⟨hi1, h⟩ := h
  refine fx_iast (j := x3.toNatClampNeg) (M' := fx_sa M 26 x3.toNatClampNeg (if x4 < x5 + x6 then x5 + x6 else x4)) C hH 26 rfl (fx_w26 g M) (fx_p26 g M _) hi1 dX2_measure_142 (fun H locs hH => ?_)
  generalize eM2 : fx_sa M 26 x3.toNatClampNeg (if x4 < x5 + x6 then x5 + x6 else x4) = M2 at hH
  replace h := h M2 eM2.symm
  refine lv_aload_n hx hb dX2_measure_143 rfl (lv_at hl 0 rfl) ?_
  refine fx_get C hH (fx_w7 g M2) rfl in_X2 1 (by decide) u_180 rfl rfl dX2_measure_144 ?_
  refine lv_iload_n hx hb dX2_measure_147 rfl (lv_at hl 1 rfl) ?_
  refine lv_iload hx hb dX2_measure_148 (lv_at hl 3 rfl) ?_
  obtain ⟨hi3, h⟩ := h
  refine fx_iast (j := x3.toNatClampNeg) (M' := fx_sa M2 27 x3.toNatClampNeg x5) C hH 27 rfl (fx_w27 g M2) (fx_p27 g M2 _) hi3 dX2_measure_150 (fun H locs hH => ?_)
  generalize eM4 : fx_sa M2 27 x3.toNatClampNeg x5 = M4 at hH
  replace h := h M4 eM4.symm
  exact fx_vret C hH h dX2_measure_151
def wp_X2_measure_7_1_5 (a3 : Int32) (M : fx_Mem) (Q : fx_Mem → Prop) : Prop :=
  vp_in a3 21 ∧ ∀ v2 : Int32, v2 = M.2.1 19 a3.toNatClampNeg → ∃ n20 : Nat, wl_X2_measure_7_1_5_20 (wb_X2_measure_7_1_5_127 Q) Q n20 a3 0 0 0 0 v2 M
set_option maxHeartbeats 4000000 in
set_option maxRecDepth 100000 in
theorem c_X2_measure_7_1_5 (l : Launch) {g : fx_Geo} (hG : fx_Gd g) (a3 : Int32) (M : fx_Mem) (Q : fx_Mem → Prop) (h : wp_X2_measure_7_1_5 a3 M Q) : Met l yX2_measure (.code yX2_measure cX2_measure 12 none :: fx_U) rm_X2_measure_7_1_5 (va_Pc [.ref (fx_a g 7), .ref (fx_a g 1), .ref (fx_a g 5), .int a3] (fx_At g M)) (va_Qv Q (fx_Pw g) (fx_A g)) 0 0 (fx_A g) := by
  refine Met.ofW (cc := cX2_measure) (maxL := 12) (ret := none) (by decide +kernel) rfl ?_
  intro p e s m args below meth c s₁ B hml hv
  obtain ⟨rfl, hv⟩ := hv
  have hts := atoms_spec (ws := .code yX2_measure cX2_measure 12 none :: fx_U) B.pre
  obtain ⟨C, hH⟩ := fx_body (own := RX2) B hml rfl (fun w hw => hts w (List.mem_cons_of_mem _ hw)) hG hv
  replace hts := fun w hw => hts w (List.mem_cons_of_mem _ hw)
  obtain ⟨hx, hb, hr, -, hown, -, hlocks, hsz, hK, -, hSt⟩ := id C
  have hl := lv_entry ([.ref (fx_a g 7), .ref (fx_a g 1), .ref (fx_a g 5), .int a3]) (n := 12) (Nat.le_of_ble_eq_true rfl)
  rw [lg_entry_eq]
  generalize (lg_sl ([.ref (fx_a g 7), .ref (fx_a g 1), .ref (fx_a g 5), .int a3]) ++ List.replicate (12 - (lg_sl ([.ref (fx_a g 7), .ref (fx_a g 1), .ref (fx_a g 5), .int a3])).length) Slot.unset).toArray = ls at hl ⊢
  have hl : lv_has ls 12 [(0, .ref (fx_a g 7)), (1, .ref (fx_a g 1)), (2, .ref (fx_a g 5)), (3, .int a3)] := hl
  obtain ⟨H, eH⟩ : ∃ H : Heap, H = s.heap := ⟨_, rfl⟩
  obtain ⟨locs, elocs⟩ : ∃ q : List Loc, q = [] := ⟨_, rfl⟩
  rw [← eH, ← elocs] at hH
  show W p l e rm_X2_measure_7_1_5 s m _ below meth c s.heap [] 0 0 _ _
  rw [← eH, ← elocs]
  unfold wp_X2_measure_7_1_5 at h
  refine lv_iconst (v := 0) hx hb dX2_measure_0 (by decide) ?_
  refine lv_istore (lv' := [(4, .int 0), (0, .ref (fx_a g 7)), (1, .ref (fx_a g 1)), (2, .ref (fx_a g 5)), (3, .int a3)]) hx hb dX2_measure_1 hl (by decide) rfl (fun ls hl => ?_)
  refine lv_iconst (v := 0) hx hb dX2_measure_3 (by decide) ?_
  refine lv_istore (lv' := [(5, .int 0), (4, .int 0), (0, .ref (fx_a g 7)), (1, .ref (fx_a g 1)), (2, .ref (fx_a g 5)), (3, .int a3)]) hx hb dX2_measure_4 hl (by decide) rfl (fun ls hl => ?_)
  refine lv_iconst (v := 0) hx hb dX2_measure_6 (by decide) ?_
  refine lv_istore (lv' := [(6, .int 0), (5, .int 0), (4, .int 0), (0, .ref (fx_a g 7)), (1, .ref (fx_a g 1)), (2, .ref (fx_a g 5)), (3, .int a3)]) hx hb dX2_measure_7 hl (by decide) rfl (fun ls hl => ?_)
  refine lv_iconst (v := 0) hx hb dX2_measure_9 (by decide) ?_
  refine lv_istore (lv' := [(7, .int 0), (6, .int 0), (5, .int 0), (4, .int 0), (0, .ref (fx_a g 7)), (1, .ref (fx_a g 1)), (2, .ref (fx_a g 5)), (3, .int a3)]) hx hb dX2_measure_10 hl (by decide) rfl (fun ls hl => ?_)
  refine lv_aload_n hx hb dX2_measure_12 rfl (lv_at hl 6 rfl) ?_
  refine fx_get C hH (fx_w5 g M) rfl in_X0 1 (by decide) u_129 rfl rfl dX2_measure_13 ?_
  refine lv_iload_n hx hb dX2_measure_16 rfl (lv_at hl 7 rfl) ?_
  obtain ⟨hi1, h⟩ := h
  refine fx_iald (j := a3.toNatClampNeg) C hH 19 (fx_w19 g M) rfl hi1 dX2_measure_17 ?_
  refine lv_topi (fun v2 ev2 => ?_)
  replace h := h v2 ev2
  refine lv_istore (lv' := [(8, .int v2), (7, .int 0), (6, .int 0), (5, .int 0), (4, .int 0), (0, .ref (fx_a g 7)), (1, .ref (fx_a g 1)), (2, .ref (fx_a g 5)), (3, .int a3)]) hx hb dX2_measure_18 hl (by decide) rfl (fun ls hl => ?_)
  obtain ⟨n20, h⟩ := h
  exact tl_X2_measure_7_1_5_20 C (wb_X2_measure_7_1_5_127 Q) Q (tb_X2_measure_7_1_5_127 C Q ) n20 a3 0 0 0 0 v2 M h  H locs ls hH (lv_sub hl [5, 6, 7, 8, 4, 3, 2, 1, 0] rfl)
/-! FlexLayout$CrossAxis.lengthOfLines(LFlexLayout$Container;LFlexLayout$Arrangement;)I (7, 1, 5) -/
def rm_X2_lengthOfLines_7_1_5 : Room := { frames := 0, cells := 0, slots := 0, locals := 0 }
def wb_X2_lengthOfLines_7_1_5_35 (k5 : Int32 → Int32 → fx_Mem → Prop) (Q : Int32 → fx_Mem → Prop) (x4 : Int32) (s0 : Int32) (s1 : Int32) (s2 : Int32) (M : fx_Mem) : Prop :=
  ∀ v1 : Int32, v1 = s2 + (s1 + s0) → ∀ v2 : Int32, v2 = x4 + 1 → k5 v1 v2 M
set_option maxHeartbeats 4000000 in
set_option maxRecDepth 100000 in
theorem tb_X2_lengthOfLines_7_1_5_35 {g : fx_Geo} {p : Program} {l : Launch} {e : Env} {s : State} {m : MethodId} {args : Array Value} {below : List Frame} {meth : Method} {c : Code} (C : fx_Cx g p s m args meth c RX2 cX2_lengthOfLines 5 (some .int)) (k5 : Int32 → Int32 → fx_Mem → Prop) (Q : Int32 → fx_Mem → Prop) (hk5 : ∀ (x3 : Int32) (x4 : Int32) (M : fx_Mem), k5 x3 x4 M → ∀ (H : Heap) (locs : List Loc) (ls : Array Slot), fx_H g s M H locs → lv_has ls 5 [(0, .ref (fx_a g 7)), (1, .ref (fx_a g 1)), (2, .ref (fx_a g 5)), (3, .int x3), (4, .int x4)] → W p l e rm_X2_lengthOfLines_7_1_5 s m args below meth c H locs 0 0 (MQ below (va_Qi Q (fx_Pw g) (fx_A g)) args s 0 0 (fx_A g)) (F0 m 5 ls [])) (x4 : Int32) (s0 : Int32) (s1 : Int32) (s2 : Int32) (M : fx_Mem) (h : wb_X2_lengthOfLines_7_1_5_35 k5 Q x4 s0 s1 s2 M) (H : Heap) (locs : List Loc) (ls : Array Slot) (hH : fx_H g s M H locs) (hl : lv_has ls 5 [(0, .ref (fx_a g 7)), (1, .ref (fx_a g 1)), (2, .ref (fx_a g 5)), (4, .int x4)]) : W p l e rm_X2_lengthOfLines_7_1_5 s m args below meth c H locs 0 0 (MQ below (va_Qi Q (fx_Pw g) (fx_A g)) args s 0 0 (fx_A g)) (F0 m 35 ls [.int s0, .int s1, .int s2]) := by
  obtain ⟨hx, hb, hr, hml, hown, hts, hlocks, hsz, hK, hG, hSt⟩ := id C
  unfold wb_X2_lengthOfLines_7_1_5_35 at h
  refine lv_iadd hx hb dX2_lengthOfLines_35 ?_
  refine lv_iadd hx hb dX2_lengthOfLines_36 ?_
  refine lv_topi (fun v1 ev1 => ?_)
  replace h := h v1 ev1
  refine lv_istore_n (lv' := [(3, .int v1), (0, .ref (fx_a g 7)), (1, .ref (fx_a g 1)), (2, .ref (fx_a g 5)), (4, .int x4)]) hx hb dX2_lengthOfLines_37 rfl hl (by decide) rfl (fun ls hl => ?_)
  obtain ⟨v2, ev2⟩ : ∃ z : Int32, z = x4 + 1 := ⟨_, rfl⟩
  refine lv_iinc (v := v2) (lv' := [(4, .int v2), (3, .int v1), (0, .ref (fx_a g 7)), (1, .ref (fx_a g 1)), (2, .ref (fx_a g 5))]) hx hb dX2_lengthOfLines_38 hl (k := 4) rfl (by rw [ev2]; rfl) (by decide) rfl (fun ls hl => ?_)
  replace h := h v2 ev2
  refine lv_goto (tgt := 5) hx hb dX2_lengthOfLines_41 (by decide) ?_
  exact hk5 v1 v2 M h  H locs ls hH (lv_sub hl [2, 3, 4, 1, 0] rfl)
def wb_X2_lengthOfLines_7_1_5_5 (k5 : Int32 → Int32 → fx_Mem → Prop) (Q : Int32 → fx_Mem → Prop) (x3 : Int32) (x4 : Int32) (M : fx_Mem) : Prop :=
  ((M.1 322 ≤ x4 → Q x3 M) ∧ (¬ M.1 322 ≤ x4 → vp_in x4 20 ∧ ((x4 ≤ 0 → wb_X2_lengthOfLines_7_1_5_35 k5 Q x4 0 (M.2.1 26 x4.toNatClampNeg) x3 M) ∧ (¬ x4 ≤ 0 → wb_X2_lengthOfLines_7_1_5_35 k5 Q x4 (M.1 67) (M.2.1 26 x4.toNatClampNeg) x3 M))))
set_option maxHeartbeats 4000000 in
set_option maxRecDepth 100000 in
theorem tb_X2_lengthOfLines_7_1_5_5 {g : fx_Geo} {p : Program} {l : Launch} {e : Env} {s : State} {m : MethodId} {args : Array Value} {below : List Frame} {meth : Method} {c : Code} (C : fx_Cx g p s m args meth c RX2 cX2_lengthOfLines 5 (some .int)) (k5 : Int32 → Int32 → fx_Mem → Prop) (Q : Int32 → fx_Mem → Prop) (hk5 : ∀ (x3 : Int32) (x4 : Int32) (M : fx_Mem), k5 x3 x4 M → ∀ (H : Heap) (locs : List Loc) (ls : Array Slot), fx_H g s M H locs → lv_has ls 5 [(0, .ref (fx_a g 7)), (1, .ref (fx_a g 1)), (2, .ref (fx_a g 5)), (3, .int x3), (4, .int x4)] → W p l e rm_X2_lengthOfLines_7_1_5 s m args below meth c H locs 0 0 (MQ below (va_Qi Q (fx_Pw g) (fx_A g)) args s 0 0 (fx_A g)) (F0 m 5 ls [])) (x3 : Int32) (x4 : Int32) (M : fx_Mem) (h : wb_X2_lengthOfLines_7_1_5_5 k5 Q x3 x4 M) (H : Heap) (locs : List Loc) (ls : Array Slot) (hH : fx_H g s M H locs) (hl : lv_has ls 5 [(0, .ref (fx_a g 7)), (1, .ref (fx_a g 1)), (2, .ref (fx_a g 5)), (3, .int x3), (4, .int x4)]) : W p l e rm_X2_lengthOfLines_7_1_5 s m args below meth c H locs 0 0 (MQ below (va_Qi Q (fx_Pw g) (fx_A g)) args s 0 0 (fx_A g)) (F0 m 5 ls []) := by
  obtain ⟨hx, hb, hr, hml, hown, hts, hlocks, hsz, hK, hG, hSt⟩ := id C
  unfold wb_X2_lengthOfLines_7_1_5_5 at h
  refine lv_iload hx hb dX2_lengthOfLines_5 (lv_at hl 4 rfl) ?_
  refine lv_aload_n hx hb dX2_lengthOfLines_7 rfl (lv_at hl 2 rfl) ?_
  refine fx_get C hH (fx_w5 g M) rfl in_X0 2 (by decide) u_133 rfl rfl dX2_lengthOfLines_8 ?_
  refine lv_icmp_ge (tgt := 44) hx hb dX2_lengthOfLines_11 (by decide) (fun c1 => ?_) (fun c1 => ?_)
  · replace h := h.1 c1
    refine lv_iload_n hx hb dX2_lengthOfLines_44 rfl (lv_at hl 3 rfl) ?_
    exact fx_iret C hH h dX2_lengthOfLines_45
  · replace h := h.2 c1
    refine lv_iload_n hx hb dX2_lengthOfLines_14 rfl (lv_at hl 3 rfl) ?_
    refine lv_aload_n hx hb dX2_lengthOfLines_15 rfl (lv_at hl 0 rfl) ?_
    refine fx_get C hH (fx_w7 g M) rfl in_X2 0 (by decide) u_178 rfl rfl dX2_lengthOfLines_16 ?_
    refine lv_iload hx hb dX2_lengthOfLines_19 (lv_at hl 4 rfl) ?_
    obtain ⟨hi2, h⟩ := h
    refine fx_iald (j := x4.toNatClampNeg) C hH 26 (fx_w26 g M) rfl hi2 dX2_lengthOfLines_21 ?_
    refine lv_iload hx hb dX2_lengthOfLines_22 (lv_at hl 4 rfl) ?_
    refine lv_if_le (tgt := 34) hx hb dX2_lengthOfLines_24 (by decide) (fun c3 => ?_) (fun c3 => ?_)
    · replace h := h.1 c3
      refine lv_iconst (v := 0) hx hb dX2_lengthOfLines_34 (by decide) ?_
      exact tb_X2_lengthOfLines_7_1_5_35 C k5 Q hk5 x4 0 (M.2.1 26 x4.toNatClampNeg) x3 M h  H locs ls hH (lv_sub hl [0, 1, 2, 4] rfl)
    · replace h := h.2 c3
      refine lv_aload_n hx hb dX2_lengthOfLines_27 rfl (lv_at hl 1 rfl) ?_
      refine fx_get C hH (fx_w1 g M) rfl in_X1 3 (by decide) u_50 rfl rfl dX2_lengthOfLines_28 ?_
      refine lv_goto (tgt := 35) hx hb dX2_lengthOfLines_31 (by decide) ?_
      exact tb_X2_lengthOfLines_7_1_5_35 C k5 Q hk5 x4 (M.1 67) (M.2.1 26 x4.toNatClampNeg) x3 M h  H locs ls hH (lv_sub hl [0, 1, 2, 4] rfl)
def wl_X2_lengthOfLines_7_1_5_5 (Q : Int32 → fx_Mem → Prop) (n : Nat) (x3 : Int32) (x4 : Int32) (M : fx_Mem) : Prop :=
  fx_lp (α := Int32 × Int32 × fx_Mem) (fun k a => wb_X2_lengthOfLines_7_1_5_5 (fun x3 x4 M => k (x3, x4, M)) Q a.1 a.2.1 a.2.2) n (x3, x4, M)
set_option maxHeartbeats 4000000 in
theorem tl_X2_lengthOfLines_7_1_5_5 {g : fx_Geo} {p : Program} {l : Launch} {e : Env} {s : State} {m : MethodId} {args : Array Value} {below : List Frame} {meth : Method} {c : Code} (C : fx_Cx g p s m args meth c RX2 cX2_lengthOfLines 5 (some .int)) (Q : Int32 → fx_Mem → Prop) : ∀ (n : Nat) (x3 : Int32) (x4 : Int32) (M : fx_Mem), wl_X2_lengthOfLines_7_1_5_5  Q n x3 x4 M → ∀ (H : Heap) (locs : List Loc) (ls : Array Slot), fx_H g s M H locs → lv_has ls 5 [(0, .ref (fx_a g 7)), (1, .ref (fx_a g 1)), (2, .ref (fx_a g 5)), (3, .int x3), (4, .int x4)] → W p l e rm_X2_lengthOfLines_7_1_5 s m args below meth c H locs 0 0 (MQ below (va_Qi Q (fx_Pw g) (fx_A g)) args s 0 0 (fx_A g)) (F0 m 5 ls []) := by
  intro n
  induction n with
  | zero => intro x3 x4 M h; exact False.elim h
  | succ n ih => intro x3 x4 M h  H locs ls hH hl; exact tb_X2_lengthOfLines_7_1_5_5 C (wl_X2_lengthOfLines_7_1_5_5  Q n) Q ih x3 x4 M h  H locs ls hH hl
def wp_X2_lengthOfLines_7_1_5 (M : fx_Mem) (Q : Int32 → fx_Mem → Prop) : Prop :=
  ∃ n5 : Nat, wl_X2_lengthOfLines_7_1_5_5 Q n5 0 0 M
set_option maxHeartbeats 4000000 in
set_option maxRecDepth 100000 in
theorem c_X2_lengthOfLines_7_1_5 (l : Launch) {g : fx_Geo} (hG : fx_Gd g) (M : fx_Mem) (Q : Int32 → fx_Mem → Prop) (h : wp_X2_lengthOfLines_7_1_5 M Q) : Met l yX2_lengthOfLines (.code yX2_lengthOfLines cX2_lengthOfLines 5 (some .int) :: fx_U) rm_X2_lengthOfLines_7_1_5 (va_Pc [.ref (fx_a g 7), .ref (fx_a g 1), .ref (fx_a g 5)] (fx_At g M)) (va_Qi Q (fx_Pw g) (fx_A g)) 0 0 (fx_A g) := by
  refine Met.ofW (cc := cX2_lengthOfLines) (maxL := 5) (ret := (some .int)) (by decide +kernel) rfl ?_
  intro p e s m args below meth c s₁ B hml hv
  obtain ⟨rfl, hv⟩ := hv
  have hts := atoms_spec (ws := .code yX2_lengthOfLines cX2_lengthOfLines 5 (some .int) :: fx_U) B.pre
  obtain ⟨C, hH⟩ := fx_body (own := RX2) B hml rfl (fun w hw => hts w (List.mem_cons_of_mem _ hw)) hG hv
  replace hts := fun w hw => hts w (List.mem_cons_of_mem _ hw)
  obtain ⟨hx, hb, hr, -, hown, -, hlocks, hsz, hK, -, hSt⟩ := id C
  have hl := lv_entry ([.ref (fx_a g 7), .ref (fx_a g 1), .ref (fx_a g 5)]) (n := 5) (Nat.le_of_ble_eq_true rfl)
  rw [lg_entry_eq]
  generalize (lg_sl ([.ref (fx_a g 7), .ref (fx_a g 1), .ref (fx_a g 5)]) ++ List.replicate (5 - (lg_sl ([.ref (fx_a g 7), .ref (fx_a g 1), .ref (fx_a g 5)])).length) Slot.unset).toArray = ls at hl ⊢
  have hl : lv_has ls 5 [(0, .ref (fx_a g 7)), (1, .ref (fx_a g 1)), (2, .ref (fx_a g 5))] := hl
  obtain ⟨H, eH⟩ : ∃ H : Heap, H = s.heap := ⟨_, rfl⟩
  obtain ⟨locs, elocs⟩ : ∃ q : List Loc, q = [] := ⟨_, rfl⟩
  rw [← eH, ← elocs] at hH
  show W p l e rm_X2_lengthOfLines_7_1_5 s m _ below meth c s.heap [] 0 0 _ _
  rw [← eH, ← elocs]
  unfold wp_X2_lengthOfLines_7_1_5 at h
  refine lv_iconst (v := 0) hx hb dX2_lengthOfLines_0 (by decide) ?_
  refine lv_istore_n (lv' := [(3, .int 0), (0, .ref (fx_a g 7)), (1, .ref (fx_a g 1)), (2, .ref (fx_a g 5))]) hx hb dX2_lengthOfLines_1 rfl hl (by decide) rfl (fun ls hl => ?_)
  refine lv_iconst (v := 0) hx hb dX2_lengthOfLines_2 (by decide) ?_
  refine lv_istore (lv' := [(4, .int 0), (3, .int 0), (0, .ref (fx_a g 7)), (1, .ref (fx_a g 1)), (2, .ref (fx_a g 5))]) hx hb dX2_lengthOfLines_3 hl (by decide) rfl (fun ls hl => ?_)
  obtain ⟨n5, h⟩ := h
  exact tl_X2_lengthOfLines_7_1_5_5 C Q  n5 0 0 M h  H locs ls hH (lv_sub hl [2, 3, 4, 1, 0] rfl)
