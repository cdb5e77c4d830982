/-! FlexLayoutModel.findLines(IZ)V (8,) -/
def rm_X7_findLines_8 : Room := { frames := 3, cells := 0, slots := 0, locals := 66 }
def wb_X7_findLines_8_122 (k10 : Int32 → Int32 → Int32 → Int32 → fx_Mem → Prop) (Q : fx_Mem → Prop) (x1 : Int32) (x2 : Int32) (x4 : Int32) (s0 : Int32) (M : fx_Mem) : Prop :=
  vp_in ((M.1 542) - 1) 20 ∧ vp_in ((M.1 542) - 1) 20 ∧ ∀ M3 : fx_Mem, M3 = fx_sa M 48 (((M.1 542) - 1).toNatClampNeg) ((M.2.1 48 (((M.1 542) - 1).toNatClampNeg)) + 1) → vp_in x4 20 ∧ ∀ M5 : fx_Mem, M5 = fx_sa M3 41 x4.toNatClampNeg ((M3.1 542) - 1) → ∀ v6 : Int32, v6 = x4 + 1 → k10 x1 x2 s0 v6 M5
set_option maxHeartbeats 4000000 in
set_option maxRecDepth 100000 in
theorem tb_X7_findLines_8_122 {g : fx_Geo} {p : Program} {l : Launch} {e : Env} {s : State} {m : MethodId} {args : Array Value} {below : List Frame} {meth : Method} {c : Code} (C : fx_Cx g p s m args meth c RX7 cX7_findLines 7 none) (k10 : Int32 → Int32 → Int32 → Int32 → fx_Mem → Prop) (Q : fx_Mem → Prop) (hk10 : ∀ (x1 : Int32) (x2 : Int32) (x3 : Int32) (x4 : Int32) (M : fx_Mem), k10 x1 x2 x3 x4 M → ∀ (H : Heap) (locs : List Loc) (ls : Array Slot), fx_H g s M H locs → lv_has ls 7 [(0, .ref (fx_a g 8)), (1, .int x1), (2, .int x2), (3, .int x3), (4, .int x4)] → W p l e rm_X7_findLines_8 s m args below meth c H locs 0 0 (MQ below (va_Qv Q (fx_Pw g) (fx_A g)) args s 0 0 (fx_A g)) (F0 m 10 ls [])) (x1 : Int32) (x2 : Int32) (x4 : Int32) (s0 : Int32) (M : fx_Mem) (h : wb_X7_findLines_8_122 k10 Q x1 x2 x4 s0 M) (H : Heap) (locs : List Loc) (ls : Array Slot) (hH : fx_H g s M H locs) (hl : lv_has ls 7 [(0, .ref (fx_a g 8)), (1, .int x1), (2, .int x2), (4, .int x4)]) : W p l e rm_X7_findLines_8 s m args below meth c H locs 0 0 (MQ below (va_Qv Q (fx_Pw g) (fx_A g)) args s 0 0 (fx_A g)) (F0 m 122 ls [.int s0]) := by
  obtain ⟨hx, hb, hr, hml, hown, hts, hlocks, hsz, hK, hG, hSt⟩ := id C
  unfold wb_X7_findLines_8_122 at h
  refine lv_istore_n (lv' := [(3, .int s0), (0, .ref (fx_a g 8)), (1, .int x1), (2, .int x2), (4, .int x4)]) hx hb dX7_findLines_122 rfl hl (by decide) rfl (fun ls hl => ?_)
  refine lv_aload_n hx hb dX7_findLines_123 rfl (lv_at hl 1 rfl) ?_
  refine fx_get C hH (fx_w8 g M) rfl in_X7 23 (by decide) u_846 rfl rfl dX7_findLines_124 ?_
  refine lv_aload_n hx hb dX7_findLines_127 rfl (lv_at hl 1 rfl) ?_
  refine fx_get C hH (fx_w8 g M) rfl in_X7 30 (by decide) u_853 rfl rfl dX7_findLines_128 ?_
  refine lv_iconst (v := 1) hx hb dX7_findLines_131 (by decide) ?_
  refine lv_isub hx hb dX7_findLines_132 ?_
  refine lv_dup2_11 hx hb dX7_findLines_133 rfl rfl ?_
  obtain ⟨hi1, h⟩ := h
  refine fx_iald (j := ((M.1 542) - 1).toNatClampNeg) C hH 48 (fx_w48 g M) rfl hi1 dX7_findLines_134 ?_
  refine lv_iconst (v := 1) hx hb dX7_findLines_135 (by decide) ?_
  refine lv_iadd hx hb dX7_findLines_136 ?_
  obtain ⟨hi2, h⟩ := h
  refine fx_iast (j := ((M.1 542) - 1).toNatClampNeg) (M' := fx_sa M 48 (((M.1 542) - 1).toNatClampNeg) ((M.2.1 48 (((M.1 542) - 1).toNatClampNeg)) + 1)) C hH 48 rfl (fx_w48 g M) (fx_p48 g M _) hi2 dX7_findLines_137 (fun H locs hH => ?_)
  generalize eM3 : fx_sa M 48 (((M.1 542) - 1).toNatClampNeg) ((M.2.1 48 (((M.1 542) - 1).toNatClampNeg)) + 1) = M3 at hH
  replace h := h M3 eM3.symm
  refine lv_aload_n hx hb dX7_findLines_138 rfl (lv_at hl 1 rfl) ?_
  refine fx_get C hH (fx_w8 g M3) rfl in_X7 16 (by decide) u_839 rfl rfl dX7_findLines_139 ?_
  refine lv_iload hx hb dX7_findLines_142 (lv_at hl 4 rfl) ?_
  refine lv_aload_n hx hb dX7_findLines_144 rfl (lv_at hl 1 rfl) ?_
  refine fx_get C hH (fx_w8 g M3) rfl in_X7 30 (by decide) u_853 rfl rfl dX7_findLines_145 ?_
  refine lv_iconst (v := 1) hx hb dX7_findLines_148 (by decide) ?_
  refine lv_isub hx hb dX7_findLines_149 ?_
  obtain ⟨hi4, h⟩ := h
  refine fx_iast (j := x4.toNatClampNeg) (M' := fx_sa M3 41 x4.toNatClampNeg ((M3.1 542) - 1)) C hH 41 rfl (fx_w41 g M3) (fx_p41 g M3 _) hi4 dX7_findLines_150 (fun H locs hH => ?_)
  generalize eM5 : fx_sa M3 41 x4.toNatClampNeg ((M3.1 542) - 1) = M5 at hH
  replace h := h M5 eM5.symm
  obtain ⟨v6, ev6⟩ : ∃ z : Int32, z = x4 + 1 := ⟨_, rfl⟩
  refine lv_iinc (v := v6) (lv' := [(4, .int v6), (3, .int s0), (0, .ref (fx_a g 8)), (1, .int x1), (2, .int x2)]) hx hb dX7_findLines_151 hl (k := 4) rfl (by rw [ev6]; rfl) (by decide) rfl (fun ls hl => ?_)
  replace h := h v6 ev6
  refine lv_goto (tgt := 10) hx hb dX7_findLines_154 (by decide) ?_
  exact hk10 x1 x2 s0 v6 M5 h  H locs ls hH (lv_sub hl [2, 3, 4, 1, 0] rfl)
def wb_X7_findLines_8_101 (k10 : Int32 → Int32 → Int32 → Int32 → fx_Mem → Prop) (Q : fx_Mem → Prop) (x1 : Int32) (x2 : Int32) (x3 : Int32) (x4 : Int32) (x5 : Int32) (x6 : Int32) (M : fx_Mem) : Prop :=
  ((x6 = 0 → wb_X7_findLines_8_122 k10 Q x1 x2 x4 ((x3 + (M.2.1 30 2)) + x5) M) ∧ (¬ x6 = 0 → wb_X7_findLines_8_122 k10 Q x1 x2 x4 x5 M))
set_option maxHeartbeats 4000000 in
set_option maxRecDepth 100000 in
theorem tb_X7_findLines_8_101 {g : fx_Geo} {p : Program} {l : Launch} {e : Env} {s : State} {m : MethodId} {args : Array Value} {below : List Frame} {meth : Method} {c : Code} (C : fx_Cx g p s m args meth c RX7 cX7_findLines 7 none) (k10 : Int32 → Int32 → Int32 → Int32 → fx_Mem → Prop) (Q : fx_Mem → Prop) (hk10 : ∀ (x1 : Int32) (x2 : Int32) (x3 : Int32) (x4 : Int32) (M : fx_Mem), k10 x1 x2 x3 x4 M → ∀ (H : Heap) (locs : List Loc) (ls : Array Slot), fx_H g s M H locs → lv_has ls 7 [(0, .ref (fx_a g 8)), (1, .int x1), (2, .int x2), (3, .int x3), (4, .int x4)] → W p l e rm_X7_findLines_8 s m args below meth c H locs 0 0 (MQ below (va_Qv Q (fx_Pw g) (fx_A g)) args s 0 0 (fx_A g)) (F0 m 10 ls [])) (x1 : Int32) (x2 : Int32) (x3 : Int32) (x4 : Int32) (x5 : Int32) (x6 : Int32) (M : fx_Mem) (h : wb_X7_findLines_8_101 k10 Q x1 x2 x3 x4 x5 x6 M) (H : Heap) (locs : List Loc) (ls : Array Slot) (hH : fx_H g s M H locs) (hl : lv_has ls 7 [(0, .ref (fx_a g 8)), (1, .int x1), (2, .int x2), (3, .int x3), (4, .int x4), (5, .int x5), (6, .int x6)]) : W p l e rm_X7_findLines_8 s m args below meth c H locs 0 0 (MQ below (va_Qv Q (fx_Pw g) (fx_A g)) args s 0 0 (fx_A g)) (F0 m 101 ls []) := by
  obtain ⟨hx, hb, hr, hml, hown, hts, hlocks, hsz, hK, hG, hSt⟩ := id C
  unfold wb_X7_findLines_8_101 at h
  refine lv_iload hx hb dX7_findLines_101 (lv_at hl 6 rfl) ?_
  refine lv_if_eq (tgt := 111) hx hb dX7_findLines_103 (by decide) (fun c1 => ?_) (fun c1 => ?_)
  · replace h := h.1 c1
    refine lv_iload_n hx hb dX7_findLines_111 rfl (lv_at hl 3 rfl) ?_
    refine lv_aload_n hx hb dX7_findLines_112 rfl (lv_at hl 0 rfl) ?_
    refine fx_get C hH (fx_w8 g M) rfl in_X7 1 (by decide) u_824 rfl rfl dX7_findLines_113 ?_
    refine lv_iconst (v := 2) hx hb dX7_findLines_116 (by decide) ?_
    refine fx_iald (j := 2) C hH 30 (fx_w30 g M) (by decide) (by unfold vp_in; decide) dX7_findLines_117 ?_
    refine lv_iadd hx hb dX7_findLines_118 ?_
    refine lv_iload hx hb dX7_findLines_119 (lv_at hl 5 rfl) ?_
    refine lv_iadd hx hb dX7_findLines_121 ?_
    exact tb_X7_findLines_8_122 C k10 Q hk10 x1 x2 x4 ((x3 + (M.2.1 30 2)) + x5) M h  H locs ls hH (lv_sub hl [0, 1, 2, 4] rfl)
  · replace h := h.2 c1
    refine lv_iload hx hb dX7_findLines_106 (lv_at hl 5 rfl) ?_
    refine lv_goto (tgt := 122) hx hb dX7_findLines_108 (by decide) ?_
    exact tb_X7_findLines_8_122 C k10 Q hk10 x1 x2 x4 x5 M h  H locs ls hH (lv_sub hl [0, 1, 2, 4] rfl)
def wb_X7_findLines_8_63 (k10 : Int32 → Int32 → Int32 → Int32 → fx_Mem → Prop) (Q : fx_Mem → Prop) (x1 : Int32) (x2 : Int32) (x3 : Int32) (x4 : Int32) (x5 : Int32) (s0 : Int32) (M : fx_Mem) : Prop :=
  ((s0 = 0 → wb_X7_findLines_8_101 k10 Q x1 x2 x3 x4 x5 s0 M) ∧ (¬ s0 = 0 → vp_in (M.1 542) 20 ∧ ∀ M3 : fx_Mem, M3 = fx_sa M 47 ((M.1 542).toNatClampNeg) x4 → vp_in (M3.1 542) 20 ∧ ∀ M5 : fx_Mem, M5 = fx_sa M3 48 ((M3.1 542).toNatClampNeg) 0 → ∀ M6 : fx_Mem, M6 = fx_si M5 542 ((M5.1 542) + 1) → wb_X7_findLines_8_101 k10 Q x1 x2 x3 x4 x5 s0 M6))
set_option maxHeartbeats 4000000 in
set_option maxRecDepth 100000 in
theorem tb_X7_findLines_8_63 {g : fx_Geo} {p : Program} {l : Launch} {e : Env} {s : State} {m : MethodId} {args : Array Value} {below : List Frame} {meth : Method} {c : Code} (C : fx_Cx g p s m args meth c RX7 cX7_findLines 7 none) (k10 : Int32 → Int32 → Int32 → Int32 → fx_Mem → Prop) (Q : fx_Mem → Prop) (hk10 : ∀ (x1 : Int32) (x2 : Int32) (x3 : Int32) (x4 : Int32) (M : fx_Mem), k10 x1 x2 x3 x4 M → ∀ (H : Heap) (locs : List Loc) (ls : Array Slot), fx_H g s M H locs → lv_has ls 7 [(0, .ref (fx_a g 8)), (1, .int x1), (2, .int x2), (3, .int x3), (4, .int x4)] → W p l e rm_X7_findLines_8 s m args below meth c H locs 0 0 (MQ below (va_Qv Q (fx_Pw g) (fx_A g)) args s 0 0 (fx_A g)) (F0 m 10 ls [])) (x1 : Int32) (x2 : Int32) (x3 : Int32) (x4 : Int32) (x5 : Int32) (s0 : Int32) (M : fx_Mem) (h : wb_X7_findLines_8_63 k10 Q x1 x2 x3 x4 x5 s0 M) (H : Heap) (locs : List Loc) (ls : Array Slot) (hH : fx_H g s M H locs) (hl : lv_has ls 7 [(0, .ref (fx_a g 8)), (1, .int x1), (2, .int x2), (3, .int x3), (4, .int x4), (5, .int x5)]) : W p l e rm_X7_findLines_8 s m args below meth c H locs 0 0 (MQ below (va_Qv Q (fx_Pw g) (fx_A g)) args s 0 0 (fx_A g)) (F0 m 63 ls [.int s0]) := by
  obtain ⟨hx, hb, hr, hml, hown, hts, hlocks, hsz, hK, hG, hSt⟩ := id C
  unfold wb_X7_findLines_8_63 at h
  refine lv_istore (lv' := [(6, .int s0), (0, .ref (fx_a g 8)), (1, .int x1), (2, .int x2), (3, .int x3), (4, .int x4), (5, .int x5)]) hx hb dX7_findLines_63 hl (by decide) rfl (fun ls hl => ?_)
  refine lv_iload hx hb dX7_findLines_65 (lv_at hl 0 rfl) ?_
  refine lv_if_eq (tgt := 101) hx hb dX7_findLines_67 (by decide) (fun c1 => ?_) (fun c1 => ?_)
  · replace h := h.1 c1
    exact tb_X7_findLines_8_101 C k10 Q hk10 x1 x2 x3 x4 x5 s0 M h  H locs ls hH (lv_sub hl [1, 2, 3, 4, 5, 6, 0] rfl)
  · replace h := h.2 c1
    refine lv_aload_n hx hb dX7_findLines_70 rfl (lv_at hl 1 rfl) ?_
    refine fx_get C hH (fx_w8 g M) rfl in_X7 22 (by decide) u_845 rfl rfl dX7_findLines_71 ?_
    refine lv_aload_n hx hb dX7_findLines_74 rfl (lv_at hl 1 rfl) ?_
    refine fx_get C hH (fx_w8 g M) rfl in_X7 30 (by decide) u_853 rfl rfl dX7_findLines_75 ?_
    refine lv_iload hx hb dX7_findLines_78 (lv_at hl 5 rfl) ?_
    obtain ⟨hi2, h⟩ := h
    refine fx_iast (j := (M.1 542).toNatClampNeg) (M' := fx_sa M 47 ((M.1 542).toNatClampNeg) x4) C hH 47 rfl (fx_w47 g M) (fx_p47 g M _) hi2 dX7_findLines_80 (fun H locs hH => ?_)
    generalize eM3 : fx_sa M 47 ((M.1 542).toNatClampNeg) x4 = M3 at hH
    replace h := h M3 eM3.symm
    refine lv_aload_n hx hb dX7_findLines_81 rfl (lv_at hl 1 rfl) ?_
    refine fx_get C hH (fx_w8 g M3) rfl in_X7 23 (by decide) u_846 rfl rfl dX7_findLines_82 ?_
    refine lv_aload_n hx hb dX7_findLines_85 rfl (lv_at hl 1 rfl) ?_
    refine fx_get C hH (fx_w8 g M3) rfl in_X7 30 (by decide) u_853 rfl rfl dX7_findLines_86 ?_
    refine lv_iconst (v := 0) hx hb dX7_findLines_89 (by decide) ?_
    obtain ⟨hi4, h⟩ := h
    refine fx_iast (j := (M3.1 542).toNatClampNeg) (M' := fx_sa M3 48 ((M3.1 542).toNatClampNeg) 0) C hH 48 rfl (fx_w48 g M3) (fx_p48 g M3 _) hi4 dX7_findLines_90 (fun H locs hH => ?_)
    generalize eM5 : fx_sa M3 48 ((M3.1 542).toNatClampNeg) 0 = M5 at hH
    replace h := h M5 eM5.symm
    refine lv_aload_n hx hb dX7_findLines_91 rfl (lv_at hl 1 rfl) ?_
    refine lv_dup hx hb dX7_findLines_92 rfl ?_
    refine fx_get C hH (fx_w8 g M5) rfl in_X7 30 (by decide) u_853 rfl rfl dX7_findLines_93 ?_
    refine lv_iconst (v := 1) hx hb dX7_findLines_96 (by decide) ?_
    refine lv_iadd hx hb dX7_findLines_97 ?_
    refine fx_put C hH (fx_w8 g M5) rfl in_X7 tyX7 tyX7_ok nmX7 30 (by decide) u_853 rfl rfl (ty := .int) (by decide +kernel) rfl rfl (Nat.le_of_ble_eq_true rfl) (fx_p8_30 g M5 ((M5.1 542) + 1)) dX7_findLines_98 (fun H locs hH => ?_)
    generalize eM6 : fx_si M5 542 ((M5.1 542) + 1) = M6 at hH
    replace h := h M6 eM6.symm
    exact tb_X7_findLines_8_101 C k10 Q hk10 x1 x2 x3 x4 x5 s0 M6 h  H locs ls hH (lv_sub hl [1, 2, 3, 4, 5, 6, 0] rfl)
def wb_X7_findLines_8_58 (k10 : Int32 → Int32 → Int32 → Int32 → fx_Mem → Prop) (Q : fx_Mem → Prop) (x1 : Int32) (x2 : Int32) (x3 : Int32) (x4 : Int32) (x5 : Int32) (M : fx_Mem) : Prop :=
  wb_X7_findLines_8_63 k10 Q x1 x2 x3 x4 x5 1 M
set_option maxHeartbeats 4000000 in
set_option maxRecDepth 100000 in
theorem tb_X7_findLines_8_58 {g : fx_Geo} {p : Program} {l : Launch} {e : Env} {s : State} {m : MethodId} {args : Array Value} {below : List Frame} {meth : Method} {c : Code} (C : fx_Cx g p s m args meth c RX7 cX7_findLines 7 none) (k10 : Int32 → Int32 → Int32 → Int32 → fx_Mem → Prop) (Q : fx_Mem → Prop) (hk10 : ∀ (x1 : Int32) (x2 : Int32) (x3 : Int32) (x4 : Int32) (M : fx_Mem), k10 x1 x2 x3 x4 M → ∀ (H : Heap) (locs : List Loc) (ls : Array Slot), fx_H g s M H locs → lv_has ls 7 [(0, .ref (fx_a g 8)), (1, .int x1), (2, .int x2), (3, .int x3), (4, .int x4)] → W p l e rm_X7_findLines_8 s m args below meth c H locs 0 0 (MQ below (va_Qv Q (fx_Pw g) (fx_A g)) args s 0 0 (fx_A g)) (F0 m 10 ls [])) (x1 : Int32) (x2 : Int32) (x3 : Int32) (x4 : Int32) (x5 : Int32) (M : fx_Mem) (h : wb_X7_findLines_8_58 k10 Q x1 x2 x3 x4 x5 M) (H : Heap) (locs : List Loc) (ls : Array Slot) (hH : fx_H g s M H locs) (hl : lv_has ls 7 [(0, .ref (fx_a g 8)), (1, .int x1), (2, .int x2), (3, .int x3), (4, .int x4), (5, .int x5)]) : W p l e rm_X7_findLines_8 s m args below meth c H locs 0 0 (MQ below (va_Qv Q (fx_Pw g) (fx_A g)) args s 0 0 (fx_A g)) (F0 m 58 ls []) := by
  obtain ⟨hx, hb, hr, hml, hown, hts, hlocks, hsz, hK, hG, hSt⟩ := id C
  unfold wb_X7_findLines_8_58 at h
  refine lv_iconst (v := 1) hx hb dX7_findLines_58 (by decide) ?_
  refine lv_goto (tgt := 63) hx hb dX7_findLines_59 (by decide) ?_
  exact tb_X7_findLines_8_63 C k10 Q hk10 x1 x2 x3 x4 x5 1 M h  H locs ls hH (lv_sub hl [0, 1, 2, 3, 4, 5] rfl)
def wb_X7_findLines_8_62 (k10 : Int32 → Int32 → Int32 → Int32 → fx_Mem → Prop) (Q : fx_Mem → Prop) (x1 : Int32) (x2 : Int32) (x3 : Int32) (x4 : Int32) (x5 : Int32) (M : fx_Mem) : Prop :=
  wb_X7_findLines_8_63 k10 Q x1 x2 x3 x4 x5 0 M
set_option maxHeartbeats 4000000 in
set_option maxRecDepth 100000 in
theorem tb_X7_findLines_8_62 {g : fx_Geo} {p : Program} {l : Launch} {e : Env} {s : State} {m : MethodId} {args : Array Value} {below : List Frame} {meth : Method} {c : Code} (C : fx_Cx g p s m args meth c RX7 cX7_findLines 7 none) (k10 : Int32 → Int32 → Int32 → Int32 → fx_Mem → Prop) (Q : fx_Mem → Prop) (hk10 : ∀ (x1 : Int32) (x2 : Int32) (x3 : Int32) (x4 : Int32) (M : fx_Mem), k10 x1 x2 x3 x4 M → ∀ (H : Heap) (locs : List Loc) (ls : Array Slot), fx_H g s M H locs → lv_has ls 7 [(0, .ref (fx_a g 8)), (1, .int x1), (2, .int x2), (3, .int x3), (4, .int x4)] → W p l e rm_X7_findLines_8 s m args below meth c H locs 0 0 (MQ below (va_Qv Q (fx_Pw g) (fx_A g)) args s 0 0 (fx_A g)) (F0 m 10 ls [])) (x1 : Int32) (x2 : Int32) (x3 : Int32) (x4 : Int32) (x5 : Int32) (M : fx_Mem) (h : wb_X7_findLines_8_62 k10 Q x1 x2 x3 x4 x5 M) (H : Heap) (locs : List Loc) (ls : Array Slot) (hH : fx_H g s M H locs) (hl : lv_has ls 7 [(0, .ref (fx_a g 8)), (1, .int x1), (2, .int x2), (3, .int x3), (4, .int x4), (5, .int x5)]) : W p l e rm_X7_findLines_8 s m args below meth c H locs 0 0 (MQ below (va_Qv Q (fx_Pw g) (fx_A g)) args s 0 0 (fx_A g)) (F0 m 62 ls []) := by
  obtain ⟨hx, hb, hr, hml, hown, hts, hlocks, hsz, hK, hG, hSt⟩ := id C
  unfold wb_X7_findLines_8_62 at h
  refine lv_iconst (v := 0) hx hb dX7_findLines_62 (by decide) ?_
  exact tb_X7_findLines_8_63 C k10 Q hk10 x1 x2 x3 x4 x5 0 M h  H locs ls hH (lv_sub hl [0, 1, 2, 3, 4, 5] rfl)
def wb_X7_findLines_8_10 (k10 : Int32 → Int32 → Int32 → Int32 → fx_Mem → Prop) (Q : fx_Mem → Prop) (x1 : Int32) (x2 : Int32) (x3 : Int32) (x4 : Int32) (M : fx_Mem) : Prop :=
  ((M.1 515 ≤ x4 → Q M) ∧ (¬ M.1 515 ≤ x4 → vp_in x4 20 ∧ wp_X7_hypothetical_8 (M.2.1 39 x4.toNatClampNeg) M (fun r4 M3 => ((M3.1 542 = 0 → wb_X7_findLines_8_58 k10 Q x1 x2 x3 x4 r4 M3) ∧ (¬ M3.1 542 = 0 → ((x2 = 0 → wb_X7_findLines_8_62 k10 Q x1 x2 x3 x4 r4 M3) ∧ (¬ x2 = 0 → (((x3 + (M3.2.1 30 2)) + r4 ≤ x1 → wb_X7_findLines_8_62 k10 Q x1 x2 x3 x4 r4 M3) ∧ (¬ (x3 + (M3.2.1 30 2)) + r4 ≤ x1 → wb_X7_findLines_8_58 k10 Q x1 x2 x3 x4 r4 M3)))))))))
set_option maxHeartbeats 4000000 in
set_option maxRecDepth 100000 in
theorem tb_X7_findLines_8_10 {g : fx_Geo} {p : Program} {l : Launch} {e : Env} {s : State} {m : MethodId} {args : Array Value} {below : List Frame} {meth : Method} {c : Code} (C : fx_Cx g p s m args meth c RX7 cX7_findLines 7 none) (k10 : Int32 → Int32 → Int32 → Int32 → fx_Mem → Prop) (Q : fx_Mem → Prop) (hk10 : ∀ (x1 : Int32) (x2 : Int32) (x3 : Int32) (x4 : Int32) (M : fx_Mem), k10 x1 x2 x3 x4 M → ∀ (H : Heap) (locs : List Loc) (ls : Array Slot), fx_H g s M H locs → lv_has ls 7 [(0, .ref (fx_a g 8)), (1, .int x1), (2, .int x2), (3, .int x3), (4, .int x4)] → W p l e rm_X7_findLines_8 s m args below meth c H locs 0 0 (MQ below (va_Qv Q (fx_Pw g) (fx_A g)) args s 0 0 (fx_A g)) (F0 m 10 ls [])) (x1 : Int32) (x2 : Int32) (x3 : Int32) (x4 : Int32) (M : fx_Mem) (h : wb_X7_findLines_8_10 k10 Q x1 x2 x3 x4 M) (H : Heap) (locs : List Loc) (ls : Array Slot) (hH : fx_H g s M H locs) (hl : lv_has ls 7 [(0, .ref (fx_a g 8)), (1, .int x1), (2, .int x2), (3, .int x3), (4, .int x4)]) : W p l e rm_X7_findLines_8 s m args below meth c H locs 0 0 (MQ below (va_Qv Q (fx_Pw g) (fx_A g)) args s 0 0 (fx_A g)) (F0 m 10 ls []) := by
  obtain ⟨hx, hb, hr, hml, hown, hts, hlocks, hsz, hK, hG, hSt⟩ := id C
  unfold wb_X7_findLines_8_10 at h
  refine lv_iload hx hb dX7_findLines_10 (lv_at hl 4 rfl) ?_
  refine lv_aload_n hx hb dX7_findLines_12 rfl (lv_at hl 0 rfl) ?_
  refine fx_get C hH (fx_w8 g M) rfl in_X7 3 (by decide) u_826 rfl rfl dX7_findLines_13 ?_
  refine lv_icmp_ge (tgt := 157) hx hb dX7_findLines_16 (by decide) (fun c1 => ?_) (fun c1 => ?_)
  · replace h := h.1 c1
    exact fx_vret C hH h dX7_findLines_157
  · replace h := h.2 c1
    refine lv_aload_n hx hb dX7_findLines_19 rfl (lv_at hl 0 rfl) ?_
    refine lv_aload_n hx hb dX7_findLines_20 rfl (lv_at hl 0 rfl) ?_
    refine fx_get C hH (fx_w8 g M) rfl in_X7 14 (by decide) u_837 rfl rfl dX7_findLines_21 ?_
    refine lv_iload hx hb dX7_findLines_24 (lv_at hl 4 rfl) ?_
    obtain ⟨hi2, h⟩ := h
    refine fx_iald (j := x4.toNatClampNeg) C hH 39 (fx_w39 g M) rfl hi2 dX7_findLines_26 ?_
    refine fx_ci hH (fx_runV (As := [.int (M.2.1 39 x4.toNatClampNeg)]) (rest := []) C hH (c_X7_hypothetical_8 l C.2.2.2.2.2.2.2.2.2.1 (M.2.1 39 x4.toNatClampNeg) M _ h) (fx_cwV 1 hts u_1046 u_1048 us_34 u_8 u_1049 rfl rfl (by decide +kernel) ⟨(Nat.le_of_ble_eq_true rfl), (Nat.le_of_ble_eq_true rfl)⟩) (fx_w8 g M) rfl rfl hl.1 rfl (Nat.le_of_ble_eq_true rfl) dX7_findLines_27 ⟨(Nat.le_of_ble_eq_true rfl), (Nat.le_of_ble_eq_true rfl)⟩) (fun r4 M3 H locs h hH => ?_)
    refine lv_istore (lv' := [(5, .int r4), (0, .ref (fx_a g 8)), (1, .int x1), (2, .int x2), (3, .int x3), (4, .int x4)]) hx hb dX7_findLines_30 hl (by decide) rfl (fun ls hl => ?_)
    refine lv_aload_n hx hb dX7_findLines_32 rfl (lv_at hl 1 rfl) ?_
    refine fx_get C hH (fx_w8 g M3) rfl in_X7 30 (by decide) u_853 rfl rfl dX7_findLines_33 ?_
    refine lv_if_eq (tgt := 58) hx hb dX7_findLines_36 (by decide) (fun c5 => ?_) (fun c5 => ?_)
    · replace h := h.1 c5
      exact tb_X7_findLines_8_58 C k10 Q hk10 x1 x2 x3 x4 r4 M3 h  H locs ls hH (lv_sub hl [1, 2, 3, 4, 5, 0] rfl)
    · replace h := h.2 c5
      refine lv_iload_n hx hb dX7_findLines_39 rfl (lv_at hl 3 rfl) ?_
      refine lv_if_eq (tgt := 62) hx hb dX7_findLines_40 (by decide) (fun c6 => ?_) (fun c6 => ?_)
      · replace h := h.1 c6
        exact tb_X7_findLines_8_62 C k10 Q hk10 x1 x2 x3 x4 r4 M3 h  H locs ls hH (lv_sub hl [1, 2, 3, 4, 5, 0] rfl)
      · replace h := h.2 c6
        refine lv_iload_n hx hb dX7_findLines_43 rfl (lv_at hl 4 rfl) ?_
        refine lv_aload_n hx hb dX7_findLines_44 rfl (lv_at hl 1 rfl) ?_
        refine fx_get C hH (fx_w8 g M3) rfl in_X7 1 (by decide) u_824 rfl rfl dX7_findLines_45 ?_
        refine lv_iconst (v := 2) hx hb dX7_findLines_48 (by decide) ?_
        refine fx_iald (j := 2) C hH 30 (fx_w30 g M3) (by decide) (by unfold vp_in; decide) dX7_findLines_49 ?_
        refine lv_iadd hx hb dX7_findLines_50 ?_
        refine lv_iload hx hb dX7_findLines_51 (lv_at hl 0 rfl) ?_
        refine lv_iadd hx hb dX7_findLines_53 ?_
        refine lv_iload_n hx hb dX7_findLines_54 rfl (lv_at hl 2 rfl) ?_
        refine lv_icmp_le (tgt := 62) hx hb dX7_findLines_55 (by decide) (fun c7 => ?_) (fun c7 => ?_)
        · replace h := h.1 c7
          exact tb_X7_findLines_8_62 C k10 Q hk10 x1 x2 x3 x4 r4 M3 h  H locs ls hH (lv_sub hl [1, 2, 3, 4, 5, 0] rfl)
        · replace h := h.2 c7
          exact tb_X7_findLines_8_58 C k10 Q hk10 x1 x2 x3 x4 r4 M3 h  H locs ls hH (lv_sub hl [1, 2, 3, 4, 5, 0] rfl)
def wl_X7_findLines_8_10 (Q : fx_Mem → Prop) (n : Nat) (x1 : Int32) (x2 : Int32) (x3 : Int32) (x4 : Int32) (M : fx_Mem) : Prop :=
  fx_lp (α := Int32 × Int32 × Int32 × Int32 × fx_Mem) (fun k a => wb_X7_findLines_8_10 (fun x1 x2 x3 x4 M => k (x1, x2, x3, x4, M)) Q a.1 a.2.1 a.2.2.1 a.2.2.2.1 a.2.2.2.2) n (x1, x2, x3, x4, M)
set_option maxHeartbeats 4000000 in
theorem tl_X7_findLines_8_10 {g : fx_Geo} {p : Program} {l : Launch} {e : Env} {s : State} {m : MethodId} {args : Array Value} {below : List Frame} {meth : Method} {c : Code} (C : fx_Cx g p s m args meth c RX7 cX7_findLines 7 none) (Q : fx_Mem → Prop) : ∀ (n : Nat) (x1 : Int32) (x2 : Int32) (x3 : Int32) (x4 : Int32) (M : fx_Mem), wl_X7_findLines_8_10  Q n x1 x2 x3 x4 M → ∀ (H : Heap) (locs : List Loc) (ls : Array Slot), fx_H g s M H locs → lv_has ls 7 [(0, .ref (fx_a g 8)), (1, .int x1), (2, .int x2), (3, .int x3), (4, .int x4)] → W p l e rm_X7_findLines_8 s m args below meth c H locs 0 0 (MQ below (va_Qv Q (fx_Pw g) (fx_A g)) args s 0 0 (fx_A g)) (F0 m 10 ls []) := by
  intro n
  induction n with
  | zero => intro x1 x2 x3 x4 M h; exact False.elim h
  | succ n ih => intro x1 x2 x3 x4 M h  H locs ls hH hl; exact tb_X7_findLines_8_10 C (wl_X7_findLines_8_10  Q n) Q ih x1 x2 x3 x4 M h  H locs ls hH hl
def wp_X7_findLines_8 (a1 : Int32) (a2 : Int32) (M : fx_Mem) (Q : fx_Mem → Prop) : Prop :=
  ∀ M1 : fx_Mem, M1 = fx_si M 542 0 → ∃ n10 : Nat, wl_X7_findLines_8_10 Q n10 a1 a2 0 0 M1
set_option maxHeartbeats 4000000 in
set_option maxRecDepth 100000 in
theorem c_X7_findLines_8 (l : Launch) {g : fx_Geo} (hG : fx_Gd g) (a1 : Int32) (a2 : Int32) (M : fx_Mem) (Q : fx_Mem → Prop) (h : wp_X7_findLines_8 a1 a2 M Q) : Met l yX7_findLines (.code yX7_findLines cX7_findLines 7 none :: fx_U) rm_X7_findLines_8 (va_Pc [.ref (fx_a g 8), .int a1, .int a2] (fx_At g M)) (va_Qv Q (fx_Pw g) (fx_A g)) 0 0 (fx_A g) := by
  refine Met.ofW (cc := cX7_findLines) (maxL := 7) (ret := none) (by decide +kernel) rfl ?_
  intro p e s m args below meth c s₁ B hml hv
  obtain ⟨rfl, hv⟩ := hv
  have hts := atoms_spec (ws := .code yX7_findLines cX7_findLines 7 none :: fx_U) B.pre
  obtain ⟨C, hH⟩ := fx_body (own := RX7) B hml rfl (fun w hw => hts w (List.mem_cons_of_mem _ hw)) hG hv
  replace hts := fun w hw => hts w (List.mem_cons_of_mem _ hw)
  obtain ⟨hx, hb, hr, -, hown, -, hlocks, hsz, hK, -, hSt⟩ := id C
  have hl := lv_entry ([.ref (fx_a g 8), .int a1, .int a2]) (n := 7) (Nat.le_of_ble_eq_true rfl)
  rw [lg_entry_eq]
  generalize (lg_sl ([.ref (fx_a g 8), .int a1, .int a2]) ++ List.replicate (7 - (lg_sl ([.ref (fx_a g 8), .int a1, .int a2])).length) Slot.unset).toArray = ls at hl ⊢
  have hl : lv_has ls 7 [(0, .ref (fx_a g 8)), (1, .int a1), (2, .int a2)] := hl
  obtain ⟨H, eH⟩ : ∃ H : Heap, H = s.heap := ⟨_, rfl⟩
  obtain ⟨locs, elocs⟩ : ∃ q : List Loc, q = [] := ⟨_, rfl⟩
  rw [← eH, ← elocs] at hH
  show W p l e rm_X7_findLines_8 s m _ below meth c s.heap [] 0 0 _ _
  rw [← eH, ← elocs]
  unfold wp_X7_findLines_8 at h
  refine lv_aload_n hx hb dX7_findLines_0 rfl (lv_at hl 0 rfl) ?_
  refine lv_iconst (v := 0) hx hb dX7_findLines_1 (by decide) ?_
  refine fx_put C hH (fx_w8 g M) rfl in_X7 tyX7 tyX7_ok nmX7 30 (by decide) u_853 rfl rfl (ty := .int) (by decide +kernel) rfl rfl (Nat.le_of_ble_eq_true rfl) (fx_p8_30 g M 0) dX7_findLines_2 (fun H locs hH => ?_)
  generalize eM1 : fx_si M 542 0 = M1 at hH
  replace h := h M1 eM1.symm
  refine lv_iconst (v := 0) hx hb dX7_findLines_5 (by decide) ?_
  refine lv_istore_n (lv' := [(3, .int 0), (0, .ref (fx_a g 8)), (1, .int a1), (2, .int a2)]) hx hb dX7_findLines_6 rfl hl (by decide) rfl (fun ls hl => ?_)
  refine lv_iconst (v := 0) hx hb dX7_findLines_7 (by decide) ?_
  refine lv_istore (lv' := [(4, .int 0), (3, .int 0), (0, .ref (fx_a g 8)), (1, .int a1), (2, .int a2)]) hx hb dX7_findLines_8 hl (by decide) rfl (fun ls hl => ?_)
  obtain ⟨n10, h⟩ := h
  exact tl_X7_findLines_8_10 C Q  n10 a1 a2 0 0 M1 h  H locs ls hH (lv_sub hl [2, 3, 4, 1, 0] rfl)
/-! FlexLayoutModel.available(I)I (8,) -/
def rm_X7_available_8 : Room := { frames := 0, cells := 0, slots := 0, locals := 0 }
def wp_X7_available_8 (a1 : Int32) (M : fx_Mem) (Q : Int32 → fx_Mem → Prop) : Prop :=
  vp_in a1 20 ∧ Q ((M.2.1 30 0) - ((M.2.1 30 2) * ((M.2.1 48 a1.toNatClampNeg) - 1))) M
set_option maxHeartbeats 4000000 in
set_option maxRecDepth 100000 in
theorem c_X7_available_8 (l : Launch) {g : fx_Geo} (hG : fx_Gd g) (a1 : Int32) (M : fx_Mem) (Q : Int32 → fx_Mem → Prop) (h : wp_X7_available_8 a1 M Q) : Met l yX7_available (.code yX7_available cX7_available 2 (some .int) :: fx_U) rm_X7_available_8 (va_Pc [.ref (fx_a g 8), .int a1] (fx_At g M)) (va_Qi Q (fx_Pw g) (fx_A g)) 0 0 (fx_A g) := by
  refine Met.ofW (cc := cX7_available) (maxL := 2) (ret := (some .int)) (by decide +kernel) rfl ?_
  intro p e s m args below meth c s₁ B hml hv
  obtain ⟨rfl, hv⟩ := hv
  have hts := atoms_spec (ws := .code yX7_available cX7_available 2 (some .int) :: fx_U) B.pre
  obtain ⟨C, hH⟩ := fx_body (own := RX7) B hml rfl (fun w hw => hts w (List.mem_cons_of_mem _ hw)) hG hv
  replace hts := fun w hw => hts w (List.mem_cons_of_mem _ hw)
  obtain ⟨hx, hb, hr, -, hown, -, hlocks, hsz, hK, -, hSt⟩ := id C
  have hl := lv_entry ([.ref (fx_a g 8), .int a1]) (n := 2) (Nat.le_of_ble_eq_true rfl)
  rw [lg_entry_eq]
  generalize (lg_sl ([.ref (fx_a g 8), .int a1]) ++ List.replicate (2 - (lg_sl ([.ref (fx_a g 8), .int a1])).length) Slot.unset).toArray = ls at hl ⊢
  have hl : lv_has ls 2 [(0, .ref (fx_a g 8)), (1, .int a1)] := hl
  obtain ⟨H, eH⟩ : ∃ H : Heap, H = s.heap := ⟨_, rfl⟩
  obtain ⟨locs, elocs⟩ : ∃ q : List Loc, q = [] := ⟨_, rfl⟩
  rw [← eH, ← elocs] at hH
  show W p l e rm_X7_available_8 s m _ below meth c s.heap [] 0 0 _ _
  rw [← eH, ← elocs]
  unfold wp_X7_available_8 at h
  refine lv_aload_n hx hb dX7_available_0 rfl (lv_at hl 0 rfl) ?_
  refine fx_get C hH (fx_w8 g M) rfl in_X7 1 (by decide) u_824 rfl rfl dX7_available_1 ?_
  refine lv_iconst (v := 0) hx hb dX7_available_4 (by decide) ?_
  refine fx_iald (j := 0) C hH 30 (fx_w30 g M) (by decide) (by unfold vp_in; decide) dX7_available_5 ?_
  refine lv_aload_n hx hb dX7_available_6 rfl (lv_at hl 0 rfl) ?_
  refine fx_get C hH (fx_w8 g M) rfl in_X7 1 (by decide) u_824 rfl rfl dX7_available_7 ?_
  refine lv_iconst (v := 2) hx hb dX7_available_10 (by decide) ?_
  refine fx_iald (j := 2) C hH 30 (fx_w30 g M) (by decide) (by unfold vp_in; decide) dX7_available_11 ?_
  refine lv_aload_n hx hb dX7_available_12 rfl (lv_at hl 0 rfl) ?_
  refine fx_get C hH (fx_w8 g M) rfl in_X7 23 (by decide) u_846 rfl rfl dX7_available_13 ?_
  refine lv_iload_n hx hb dX7_available_16 rfl (lv_at hl 1 rfl) ?_
  obtain ⟨hi1, h⟩ := h
  refine fx_iald (j := a1.toNatClampNeg) C hH 48 (fx_w48 g M) rfl hi1 dX7_available_17 ?_
  refine lv_iconst (v := 1) hx hb dX7_available_18 (by decide) ?_
  refine lv_isub hx hb dX7_available_19 ?_
  refine lv_imul hx hb dX7_available_20 ?_
  refine lv_isub hx hb dX7_available_21 ?_
  exact fx_iret C hH h dX7_available_22
/-! FlexLayoutModel.leftOf(I)I (8,) -/
def rm_X7_leftOf_8 : Room := { frames := 1, cells := 0, slots := 0, locals := 22 }
def wb_X7_leftOf_8_60 (k13 : Int32 → Int32 → Int32 → fx_Mem → Prop) (Q : Int32 → fx_Mem → Prop) (x1 : Int32) (x3 : Int32) (s0 : Int32) (s1 : Int32) (M : fx_Mem) : Prop :=
  ∀ v1 : Int32, v1 = s1 - s0 → ∀ v2 : Int32, v2 = x3 + 1 → k13 x1 v1 v2 M
set_option maxHeartbeats 4000000 in
set_option maxRecDepth 100000 in
theorem tb_X7_leftOf_8_60 {g : fx_Geo} {p : Program} {l : Launch} {e : Env} {s : State} {m : MethodId} {args : Array Value} {below : List Frame} {meth : Method} {c : Code} (C : fx_Cx g p s m args meth c RX7 cX7_leftOf 4 (some .int)) (k13 : Int32 → Int32 → Int32 → fx_Mem → Prop) (Q : Int32 → fx_Mem → Prop) (hk13 : ∀ (x1 : Int32) (x2 : Int32) (x3 : Int32) (M : fx_Mem), k13 x1 x2 x3 M → ∀ (H : Heap) (locs : List Loc) (ls : Array Slot), fx_H g s M H locs → lv_has ls 4 [(0, .ref (fx_a g 8)), (1, .int x1), (2, .int x2), (3, .int x3)] → W p l e rm_X7_leftOf_8 s m args below meth c H locs 0 0 (MQ below (va_Qi Q (fx_Pw g) (fx_A g)) args s 0 0 (fx_A g)) (F0 m 13 ls [])) (x1 : Int32) (x3 : Int32) (s0 : Int32) (s1 : Int32) (M : fx_Mem) (h : wb_X7_leftOf_8_60 k13 Q x1 x3 s0 s1 M) (H : Heap) (locs : List Loc) (ls : Array Slot) (hH : fx_H g s M H locs) (hl : lv_has ls 4 [(0, .ref (fx_a g 8)), (1, .int x1), (3, .int x3)]) : W p l e rm_X7_leftOf_8 s m args below meth c H locs 0 0 (MQ below (va_Qi Q (fx_Pw g) (fx_A g)) args s 0 0 (fx_A g)) (F0 m 60 ls [.int s0, .int s1]) := by
  obtain ⟨hx, hb, hr, hml, hown, hts, hlocks, hsz, hK, hG, hSt⟩ := id C
  unfold wb_X7_leftOf_8_60 at h
  refine lv_isub hx hb dX7_leftOf_60 ?_
  refine lv_topi (fun v1 ev1 => ?_)
  replace h := h v1 ev1
  refine lv_istore_n (lv' := [(2, .int v1), (0, .ref (fx_a g 8)), (1, .int x1), (3, .int x3)]) hx hb dX7_leftOf_61 rfl hl (by decide) rfl (fun ls hl => ?_)
  obtain ⟨v2, ev2⟩ : ∃ z : Int32, z = x3 + 1 := ⟨_, rfl⟩
  refine lv_iinc (v := v2) (lv' := [(3, .int v2), (2, .int v1), (0, .ref (fx_a g 8)), (1, .int x1)]) hx hb dX7_leftOf_62 hl (k := 3) rfl (by rw [ev2]; rfl) (by decide) rfl (fun ls hl => ?_)
  replace h := h v2 ev2
  refine lv_goto (tgt := 13) hx hb dX7_leftOf_65 (by decide) ?_
  exact hk13 x1 v1 v2 M h  H locs ls hH (lv_sub hl [2, 3, 1, 0] rfl)
def wb_X7_leftOf_8_13 (k13 : Int32 → Int32 → Int32 → fx_Mem → Prop) (Q : Int32 → fx_Mem → Prop) (x1 : Int32) (x2 : Int32) (x3 : Int32) (M : fx_Mem) : Prop :=
  vp_in x1 20 ∧ vp_in x1 20 ∧ (((M.2.1 47 x1.toNatClampNeg) + (M.2.1 48 x1.toNatClampNeg) ≤ x3 → Q x2 M) ∧ (¬ (M.2.1 47 x1.toNatClampNeg) + (M.2.1 48 x1.toNatClampNeg) ≤ x3 → vp_in x3 20 ∧ ((M.2.1 46 x3.toNatClampNeg = 0 → vp_in x3 20 ∧ wp_X7_of_8 (M.2.1 39 x3.toNatClampNeg) 0 M (fun r8 M7 => wb_X7_leftOf_8_60 k13 Q x1 x3 r8 x2 M7)) ∧ (¬ M.2.1 46 x3.toNatClampNeg = 0 → vp_in x3 20 ∧ wb_X7_leftOf_8_60 k13 Q x1 x3 (M.2.1 40 x3.toNatClampNeg) x2 M))))
set_option maxHeartbeats 4000000 in
set_option maxRecDepth 100000 in
theorem tb_X7_leftOf_8_13 {g : fx_Geo} {p : Program} {l : Launch} {e : Env} {s : State} {m : MethodId} {args : Array Value} {below : List Frame} {meth : Method} {c : Code} (C : fx_Cx g p s m args meth c RX7 cX7_leftOf 4 (some .int)) (k13 : Int32 → Int32 → Int32 → fx_Mem → Prop) (Q : Int32 → fx_Mem → Prop) (hk13 : ∀ (x1 : Int32) (x2 : Int32) (x3 : Int32) (M : fx_Mem), k13 x1 x2 x3 M → ∀ (H : Heap) (locs : List Loc) (ls : Array Slot), fx_H g s M H locs → lv_has ls 4 [(0, .ref (fx_a g 8)), (1, .int x1), (2, .int x2), (3, .int x3)] → W p l e rm_X7_leftOf_8 s m args below meth c H locs 0 0 (MQ below (va_Qi Q (fx_Pw g) (fx_A g)) args s 0 0 (fx_A g)) (F0 m 13 ls [])) (x1 : Int32) (x2 : Int32) (x3 : Int32) (M : fx_Mem) (h : wb_X7_leftOf_8_13 k13 Q x1 x2 x3 M) (H : Heap) (locs : List Loc) (ls : Array Slot) (hH : fx_H g s M H locs) (hl : lv_has ls 4 [(0, .ref (fx_a g 8)), (1, .int x1), (2, .int x2), (3, .int x3)]) : W p l e rm_X7_leftOf_8 s m args below meth c H locs 0 0 (MQ below (va_Qi Q (fx_Pw g) (fx_A g)) args s 0 0 (fx_A g)) (F0 m 13 ls []) := by
  obtain ⟨hx, hb, hr, hml, hown, hts, hlocks, hsz, hK, hG, hSt⟩ := id C
  unfold wb_X7_leftOf_8_13 at h
  refine lv_iload_n hx hb dX7_leftOf_13 rfl (lv_at hl 3 rfl) ?_
  refine lv_aload_n hx hb dX7_leftOf_14 rfl (lv_at hl 0 rfl) ?_
  refine fx_get C hH (fx_w8 g M) rfl in_X7 22 (by decide) u_845 rfl rfl dX7_leftOf_15 ?_
  refine lv_iload_n hx hb dX7_leftOf_18 rfl (lv_at hl 1 rfl) ?_
  obtain ⟨hi1, h⟩ := h
  refine fx_iald (j := x1.toNatClampNeg) C hH 47 (fx_w47 g M) rfl hi1 dX7_leftOf_19 ?_
  refine lv_aload_n hx hb dX7_leftOf_20 rfl (lv_at hl 0 rfl) ?_
  refine fx_get C hH (fx_w8 g M) rfl in_X7 23 (by decide) u_846 rfl rfl dX7_leftOf_21 ?_
  refine lv_iload_n hx hb dX7_leftOf_24 rfl (lv_at hl 1 rfl) ?_
  obtain ⟨hi2, h⟩ := h
  refine fx_iald (j := x1.toNatClampNeg) C hH 48 (fx_w48 g M) rfl hi2 dX7_leftOf_25 ?_
  refine lv_iadd hx hb dX7_leftOf_26 ?_
  refine lv_icmp_ge (tgt := 68) hx hb dX7_leftOf_27 (by decide) (fun c3 => ?_) (fun c3 => ?_)
  · replace h := h.1 c3
    refine lv_iload_n hx hb dX7_leftOf_68 rfl (lv_at hl 2 rfl) ?_
    exact fx_iret C hH h dX7_leftOf_69
  · replace h := h.2 c3
    refine lv_iload_n hx hb dX7_leftOf_30 rfl (lv_at hl 2 rfl) ?_
    refine lv_aload_n hx hb dX7_leftOf_31 rfl (lv_at hl 0 rfl) ?_
    refine fx_get C hH (fx_w8 g M) rfl in_X7 21 (by decide) u_844 rfl rfl dX7_leftOf_32 ?_
    refine lv_iload_n hx hb dX7_leftOf_35 rfl (lv_at hl 3 rfl) ?_
    obtain ⟨hi4, h⟩ := h
    refine fx_zald (j := x3.toNatClampNeg) C hH 46 (fx_w46 g M) rfl hi4 dX7_leftOf_36 ?_
    refine lv_if_eq (tgt := 49) hx hb dX7_leftOf_37 (by decide) (fun c5 => ?_) (fun c5 => ?_)
    · replace h := h.1 c5
      refine lv_aload_n hx hb dX7_leftOf_49 rfl (lv_at hl 0 rfl) ?_
      refine lv_aload_n hx hb dX7_leftOf_50 rfl (lv_at hl 0 rfl) ?_
      refine fx_get C hH (fx_w8 g M) rfl in_X7 14 (by decide) u_837 rfl rfl dX7_leftOf_51 ?_
      refine lv_iload_n hx hb dX7_leftOf_54 rfl (lv_at hl 3 rfl) ?_
      obtain ⟨hi6, h⟩ := h
      refine fx_iald (j := x3.toNatClampNeg) C hH 39 (fx_w39 g M) rfl hi6 dX7_leftOf_55 ?_
      refine lv_iconst (v := 0) hx hb dX7_leftOf_56 (by decide) ?_
      refine fx_ci hH (fx_runV (As := [.int (M.2.1 39 x3.toNatClampNeg), .int 0]) (rest := [.int x2]) C hH (c_X7_of_8 l C.2.2.2.2.2.2.2.2.2.1 (M.2.1 39 x3.toNatClampNeg) 0 M _ h) (fx_cwV 2 hts u_997 u_999 us_27 u_8 u_1000 rfl rfl (by decide +kernel) ⟨(Nat.le_of_ble_eq_true rfl), (Nat.le_of_ble_eq_true rfl)⟩) (fx_w8 g M) rfl rfl hl.1 rfl (Nat.le_of_ble_eq_true rfl) dX7_leftOf_57 ⟨(Nat.le_of_ble_eq_true rfl), (Nat.le_of_ble_eq_true rfl)⟩) (fun r8 M7 H locs h hH => ?_)
      exact tb_X7_leftOf_8_60 C k13 Q hk13 x1 x3 r8 x2 M7 h  H locs ls hH (lv_sub hl [0, 1, 3] rfl)
    · replace h := h.2 c5
      refine lv_aload_n hx hb dX7_leftOf_40 rfl (lv_at hl 0 rfl) ?_
      refine fx_get C hH (fx_w8 g M) rfl in_X7 15 (by decide) u_838 rfl rfl dX7_leftOf_41 ?_
      refine lv_iload_n hx hb dX7_leftOf_44 rfl (lv_at hl 3 rfl) ?_
      obtain ⟨hi9, h⟩ := h
      refine fx_iald (j := x3.toNatClampNeg) C hH 40 (fx_w40 g M) rfl hi9 dX7_leftOf_45 ?_
      refine lv_goto (tgt := 60) hx hb dX7_leftOf_46 (by decide) ?_
      exact tb_X7_leftOf_8_60 C k13 Q hk13 x1 x3 (M.2.1 40 x3.toNatClampNeg) x2 M h  H locs ls hH (lv_sub hl [0, 1, 3] rfl)
def wl_X7_leftOf_8_13 (Q : Int32 → fx_Mem → Prop) (n : Nat) (x1 : Int32) (x2 : Int32) (x3 : Int32) (M : fx_Mem) : Prop :=
  fx_lp (α := Int32 × Int32 × Int32 × fx_Mem) (fun k a => wb_X7_leftOf_8_13 (fun x1 x2 x3 M => k (x1, x2, x3, M)) Q a.1 a.2.1 a.2.2.1 a.2.2.2) n (x1, x2, x3, M)
set_option maxHeartbeats 4000000 in
theorem tl_X7_leftOf_8_13 {g : fx_Geo} {p : Program} {l : Launch} {e : Env} {s : State} {m : MethodId} {args : Array Value} {below : List Frame} {meth : Method} {c : Code} (C : fx_Cx g p s m args meth c RX7 cX7_leftOf 4 (some .int)) (Q : Int32 → fx_Mem → Prop) : ∀ (n : Nat) (x1 : Int32) (x2 : Int32) (x3 : Int32) (M : fx_Mem), wl_X7_leftOf_8_13  Q n x1 x2 x3 M → ∀ (H : Heap) (locs : List Loc) (ls : Array Slot), fx_H g s M H locs → lv_has ls 4 [(0, .ref (fx_a g 8)), (1, .int x1), (2, .int x2), (3, .int x3)] → W p l e rm_X7_leftOf_8 s m args below meth c H locs 0 0 (MQ below (va_Qi Q (fx_Pw g) (fx_A g)) args s 0 0 (fx_A g)) (F0 m 13 ls []) := by
  intro n
  induction n with
  | zero => intro x1 x2 x3 M h; exact False.elim h
  | succ n ih => intro x1 x2 x3 M h  H locs ls hH hl; exact tb_X7_leftOf_8_13 C (wl_X7_leftOf_8_13  Q n) Q ih x1 x2 x3 M h  H locs ls hH hl
def wp_X7_leftOf_8 (a1 : Int32) (M : fx_Mem) (Q : Int32 → fx_Mem → Prop) : Prop :=
  wp_X7_available_8 a1 M (fun r2 M1 => vp_in a1 20 ∧ ∀ v4 : Int32, v4 = M1.2.1 47 a1.toNatClampNeg → ∃ n13 : Nat, wl_X7_leftOf_8_13 Q n13 a1 r2 v4 M1)
set_option maxHeartbeats 4000000 in
set_option maxRecDepth 100000 in
theorem c_X7_leftOf_8 (l : Launch) {g : fx_Geo} (hG : fx_Gd g) (a1 : Int32) (M : fx_Mem) (Q : Int32 → fx_Mem → Prop) (h : wp_X7_leftOf_8 a1 M Q) : Met l yX7_leftOf (.code yX7_leftOf cX7_leftOf 4 (some .int) :: fx_U) rm_X7_leftOf_8 (va_Pc [.ref (fx_a g 8), .int a1] (fx_At g M)) (va_Qi Q (fx_Pw g) (fx_A g)) 0 0 (fx_A g) := by
  refine Met.ofW (cc := cX7_leftOf) (maxL := 4) (ret := (some .int)) (by decide +kernel) rfl ?_
  intro p e s m args below meth c s₁ B hml hv
  obtain ⟨rfl, hv⟩ := hv
  have hts := atoms_spec (ws := .code yX7_leftOf cX7_leftOf 4 (some .int) :: fx_U) B.pre
  obtain ⟨C, hH⟩ := fx_body (own := RX7) B hml rfl (fun w hw => hts w (List.mem_cons_of_mem _ hw)) hG hv
  replace hts := fun w hw => hts w (List.mem_cons_of_mem _ hw)
  obtain ⟨hx, hb, hr, -, hown, -, hlocks, hsz, hK, -, hSt⟩ := id C
  have hl := lv_entry ([.ref (fx_a g 8), .int a1]) (n := 4) (Nat.le_of_ble_eq_true rfl)
  rw [lg_entry_eq]
  generalize (lg_sl ([.ref (fx_a g 8), .int a1]) ++ List.replicate (4 - (lg_sl ([.ref (fx_a g 8), .int a1])).length) Slot.unset).toArray = ls at hl ⊢
  have hl : lv_has ls 4 [(0, .ref (fx_a g 8)), (1, .int a1)] := hl
  obtain ⟨H, eH⟩ : ∃ H : Heap, H = s.heap := ⟨_, rfl⟩
  obtain ⟨locs, elocs⟩ : ∃ q : List Loc, q = [] := ⟨_, rfl⟩
  rw [← eH, ← elocs] at hH
  show W p l e rm_X7_leftOf_8 s m _ below meth c s.heap [] 0 0 _ _
  rw [← eH, ← elocs]
  unfold wp_X7_leftOf_8 at h
  refine lv_aload_n hx hb dX7_leftOf_0 rfl (lv_at hl 0 rfl) ?_
  refine lv_iload_n hx hb dX7_leftOf_1 rfl (lv_at hl 1 rfl) ?_
  refine fx_ci hH (fx_runV (As := [.int a1]) (rest := []) C hH (c_X7_available_8 l C.2.2.2.2.2.2.2.2.2.1 a1 M _ h) (fx_cwV 1 hts u_1058 u_1060 us_37 u_8 u_1061 rfl rfl (by decide +kernel) ⟨(Nat.le_of_ble_eq_true rfl), (Nat.le_of_ble_eq_true rfl)⟩) (fx_w8 g M) rfl rfl hl.1 rfl (Nat.le_of_ble_eq_true rfl) dX7_leftOf_2 ⟨(Nat.le_of_ble_eq_true rfl), (Nat.le_of_ble_eq_true rfl)⟩) (fun r2 M1 H locs h hH => ?_)
  refine lv_istore_n (lv' := [(2, .int r2), (0, .ref (fx_a g 8)), (1, .int a1)]) hx hb dX7_leftOf_5 rfl hl (by decide) rfl (fun ls hl => ?_)
  refine lv_aload_n hx hb dX7_leftOf_6 rfl (lv_at hl 1 rfl) ?_
  refine fx_get C hH (fx_w8 g M1) rfl in_X7 22 (by decide) u_845 rfl rfl dX7_leftOf_7 ?_
  refine lv_iload_n hx hb dX7_leftOf_10 rfl (lv_at hl 2 rfl) ?_
  obtain ⟨hi3, h⟩ := h
  refine fx_iald (j := a1.toNatClampNeg) C hH 47 (fx_w47 g M1) rfl hi3 dX7_leftOf_11 ?_
  refine lv_topi (fun v4 ev4 => ?_)
  replace h := h v4 ev4
  refine lv_istore_n (lv' := [(3, .int v4), (2, .int r2), (0, .ref (fx_a g 8)), (1, .int a1)]) hx hb dX7_leftOf_12 rfl hl (by decide) rfl (fun ls hl => ?_)
  obtain ⟨n13, h⟩ := h
  exact tl_X7_leftOf_8_13 C Q  n13 a1 r2 v4 M1 h  H locs ls hH (lv_sub hl [2, 3, 1, 0] rfl)
/-! FlexLayoutModel.hasShares(IIZ)Z (8,) -/
def rm_X7_hasShares_8 : Room := { frames := 1, cells := 0, slots := 0, locals := 29 }
def wb_X7_hasShares_8_92 (k6 : Int32 → Int32 → Int32 → Int64 → Int32 → fx_Mem → Prop) (k111 : Int32 → Int32 → Int32 → Int64 → fx_Mem → Prop) (Q : Int32 → fx_Mem → Prop) (x1 : Int32) (x2 : Int32) (x3 : Int32) (y4 : Int64) (x6 : Int32) (s0 : Int64) (s1 : Int32) (M : fx_Mem) : Prop :=
  vp_in s1 20 ∧ ∀ M2 : fx_Mem, M2 = fx_sl M 36 s1.toNatClampNeg s0 → vp_in x6 20 ∧ ∀ w4 : Int64, w4 = y4 + (M2.2.2 36 x6.toNatClampNeg) → ∀ v5 : Int32, v5 = x6 + 1 → k6 x1 x2 x3 w4 v5 M2
set_option maxHeartbeats 4000000 in
set_option maxRecDepth 100000 in
theorem tb_X7_hasShares_8_92 {g : fx_Geo} {p : Program} {l : Launch} {e : Env} {s : State} {m : MethodId} {args : Array Value} {below : List Frame} {meth : Method} {c : Code} (C : fx_Cx g p s m args meth c RX7 cX7_hasShares 8 (some .boolean)) (k6 : Int32 → Int32 → Int32 → Int64 → Int32 → fx_Mem → Prop) (k111 : Int32 → Int32 → Int32 → Int64 → fx_Mem → Prop) (Q : Int32 → fx_Mem → Prop) (hk6 : ∀ (x1 : Int32) (x2 : Int32) (x3 : Int32) (y4 : Int64) (x6 : Int32) (M : fx_Mem), k6 x1 x2 x3 y4 x6 M → ∀ (H : Heap) (locs : List Loc) (ls : Array Slot), fx_H g s M H locs → lv_has ls 8 [(0, .ref (fx_a g 8)), (1, .int x1), (2, .int x2), (3, .int x3), (4, .long y4), (6, .int x6)] → W p l e rm_X7_hasShares_8 s m args below meth c H locs 0 0 (MQ below (va_Qi Q (fx_Pw g) (fx_A g)) args s 0 0 (fx_A g)) (F0 m 6 ls [])) (hk111 : ∀ (x1 : Int32) (x2 : Int32) (x3 : Int32) (y4 : Int64) (M : fx_Mem), k111 x1 x2 x3 y4 M → ∀ (H : Heap) (locs : List Loc) (ls : Array Slot), fx_H g s M H locs → lv_has ls 8 [(0, .ref (fx_a g 8)), (1, .int x1), (2, .int x2), (3, .int x3), (4, .long y4)] → W p l e rm_X7_hasShares_8 s m args below meth c H locs 0 0 (MQ below (va_Qi Q (fx_Pw g) (fx_A g)) args s 0 0 (fx_A g)) (F0 m 111 ls [])) (x1 : Int32) (x2 : Int32) (x3 : Int32) (y4 : Int64) (x6 : Int32) (s0 : Int64) (s1 : Int32) (M : fx_Mem) (h : wb_X7_hasShares_8_92 k6 k111 Q x1 x2 x3 y4 x6 s0 s1 M) (H : Heap) (locs : List Loc) (ls : Array Slot) (hH : fx_H g s M H locs) (hl : lv_has ls 8 [(0, .ref (fx_a g 8)), (1, .int x1), (2, .int x2), (3, .int x3), (4, .long y4), (6, .int x6)]) : W p l e rm_X7_hasShares_8 s m args below meth c H locs 0 0 (MQ below (va_Qi Q (fx_Pw g) (fx_A g)) args s 0 0 (fx_A g)) (F0 m 92 ls [.long s0, .int s1, .ref (fx_a g 36)]) := by
  obtain ⟨hx, hb, hr, hml, hown, hts, hlocks, hsz, hK, hG, hSt⟩ := id C
  unfold wb_X7_hasShares_8_92 at h
  obtain ⟨hi1, h⟩ := h
  refine fx_last (j := s1.toNatClampNeg) (M' := fx_sl M 36 s1.toNatClampNeg s0) C hH 36 rfl (fx_w36 g M) (fx_p36 g M _ _) hi1 dX7_hasShares_92 (fun H locs hH => ?_)
  generalize eM2 : fx_sl M 36 s1.toNatClampNeg s0 = M2 at hH
  replace h := h M2 eM2.symm
  refine lv_lload hx hb dX7_hasShares_93 (lv_at hl 4 rfl) ?_
  refine lv_aload_n hx hb dX7_hasShares_95 rfl (lv_at hl 0 rfl) ?_
  refine fx_get C hH (fx_w8 g M2) rfl in_X7 11 (by decide) u_834 rfl rfl dX7_hasShares_96 ?_
  refine lv_iload hx hb dX7_hasShares_99 (lv_at hl 5 rfl) ?_
  obtain ⟨hi3, h⟩ := h
  refine fx_lald (j := x6.toNatClampNeg) C hH 36 (fx_w36 g M2) rfl hi3 dX7_hasShares_101 ?_
  refine lv_ladd hx hb dX7_hasShares_102 ?_
  refine lv_topl (fun w4 ew4 => ?_)
  replace h := h w4 ew4
  refine lv_lstore (lv' := [(4, .long w4), (0, .ref (fx_a g 8)), (1, .int x1), (2, .int x2), (3, .int x3), (6, .int x6)]) hx hb dX7_hasShares_103 hl (by decide) rfl (fun ls hl => ?_)
  obtain ⟨v5, ev5⟩ : ∃ z : Int32, z = x6 + 1 := ⟨_, rfl⟩
  refine lv_iinc (v := v5) (lv' := [(6, .int v5), (4, .long w4), (0, .ref (fx_a g 8)), (1, .int x1), (2, .int x2), (3, .int x3)]) hx hb dX7_hasShares_105 hl (k := 5) rfl (by rw [ev5]; rfl) (by decide) rfl (fun ls hl => ?_)
  replace h := h v5 ev5
  refine lv_goto (tgt := 6) hx hb dX7_hasShares_108 (by decide) ?_
  exact hk6 x1 x2 x3 w4 v5 M2 h  H locs ls hH (lv_sub hl [2, 3, 4, 5, 1, 0] rfl)
def wb_X7_hasShares_8_6 (k6 : Int32 → Int32 → Int32 → Int64 → Int32 → fx_Mem → Prop) (k111 : Int32 → Int32 → Int32 → Int64 → fx_Mem → Prop) (Q : Int32 → fx_Mem → Prop) (x1 : Int32) (x2 : Int32) (x3 : Int32) (y4 : Int64) (x6 : Int32) (M : fx_Mem) : Prop :=
  vp_in x1 20 ∧ ((M.2.1 48 x1.toNatClampNeg ≤ x6 → k111 x1 x2 x3 y4 M) ∧ (¬ M.2.1 48 x1.toNatClampNeg ≤ x6 → vp_in x1 20 ∧ vp_in ((M.2.1 47 x1.toNatClampNeg) + x6) 20 ∧ ∀ v5 : Int32, v5 = M.2.1 39 (((M.2.1 47 x1.toNatClampNeg) + x6).toNatClampNeg) → vp_in x1 20 ∧ vp_in ((M.2.1 47 x1.toNatClampNeg) + x6) 20 ∧ ((M.2.1 46 (((M.2.1 47 x1.toNatClampNeg) + x6).toNatClampNeg) = 0 → ((x3 = 0 → wp_X7_of_8 v5 2 M (fun r11 M10 => wp_X7_of_8 v5 0 M10 (fun r13 M12 => wb_X7_hasShares_8_92 k6 k111 Q x1 x2 x3 y4 x6 (r11.toInt64 * r13.toInt64) x6 M12))) ∧ (¬ x3 = 0 → wp_X7_of_8 v5 1 M (fun r15 M14 => wb_X7_hasShares_8_92 k6 k111 Q x1 x2 x3 y4 x6 r15.toInt64 x6 M14)))) ∧ (¬ M.2.1 46 (((M.2.1 47 x1.toNatClampNeg) + x6).toNatClampNeg) = 0 → wb_X7_hasShares_8_92 k6 k111 Q x1 x2 x3 y4 x6 0 x6 M))))
set_option maxHeartbeats 4000000 in
set_option maxRecDepth 100000 in
theorem tb_X7_hasShares_8_6 {g : fx_Geo} {p : Program} {l : Launch} {e : Env} {s : State} {m : MethodId} {args : Array Value} {below : List Frame} {meth : Method} {c : Code} (C : fx_Cx g p s m args meth c RX7 cX7_hasShares 8 (some .boolean)) (k6 : Int32 → Int32 → Int32 → Int64 → Int32 → fx_Mem → Prop) (k111 : Int32 → Int32 → Int32 → Int64 → fx_Mem → Prop) (Q : Int32 → fx_Mem → Prop) (hk6 : ∀ (x1 : Int32) (x2 : Int32) (x3 : Int32) (y4 : Int64) (x6 : Int32) (M : fx_Mem), k6 x1 x2 x3 y4 x6 M → ∀ (H : Heap) (locs : List Loc) (ls : Array Slot), fx_H g s M H locs → lv_has ls 8 [(0, .ref (fx_a g 8)), (1, .int x1), (2, .int x2), (3, .int x3), (4, .long y4), (6, .int x6)] → W p l e rm_X7_hasShares_8 s m args below meth c H locs 0 0 (MQ below (va_Qi Q (fx_Pw g) (fx_A g)) args s 0 0 (fx_A g)) (F0 m 6 ls [])) (hk111 : ∀ (x1 : Int32) (x2 : Int32) (x3 : Int32) (y4 : Int64) (M : fx_Mem), k111 x1 x2 x3 y4 M → ∀ (H : Heap) (locs : List Loc) (ls : Array Slot), fx_H g s M H locs → lv_has ls 8 [(0, .ref (fx_a g 8)), (1, .int x1), (2, .int x2), (3, .int x3), (4, .long y4)] → W p l e rm_X7_hasShares_8 s m args below meth c H locs 0 0 (MQ below (va_Qi Q (fx_Pw g) (fx_A g)) args s 0 0 (fx_A g)) (F0 m 111 ls [])) (x1 : Int32) (x2 : Int32) (x3 : Int32) (y4 : Int64) (x6 : Int32) (M : fx_Mem) (h : wb_X7_hasShares_8_6 k6 k111 Q x1 x2 x3 y4 x6 M) (H : Heap) (locs : List Loc) (ls : Array Slot) (hH : fx_H g s M H locs) (hl : lv_has ls 8 [(0, .ref (fx_a g 8)), (1, .int x1), (2, .int x2), (3, .int x3), (4, .long y4), (6, .int x6)]) : W p l e rm_X7_hasShares_8 s m args below meth c H locs 0 0 (MQ below (va_Qi Q (fx_Pw g) (fx_A g)) args s 0 0 (fx_A g)) (F0 m 6 ls []) := by
  obtain ⟨hx, hb, hr, hml, hown, hts, hlocks, hsz, hK, hG, hSt⟩ := id C
  unfold wb_X7_hasShares_8_6 at h
  refine lv_iload hx hb dX7_hasShares_6 (lv_at hl 5 rfl) ?_
  refine lv_aload_n hx hb dX7_hasShares_8 rfl (lv_at hl 0 rfl) ?_
  refine fx_get C hH (fx_w8 g M) rfl in_X7 23 (by decide) u_846 rfl rfl dX7_hasShares_9 ?_
  refine lv_iload_n hx hb dX7_hasShares_12 rfl (lv_at hl 1 rfl) ?_
  obtain ⟨hi1, h⟩ := h
  refine fx_iald (j := x1.toNatClampNeg) C hH 48 (fx_w48 g M) rfl hi1 dX7_hasShares_13 ?_
  refine lv_icmp_ge (tgt := 111) hx hb dX7_hasShares_14 (by decide) (fun c2 => ?_) (fun c2 => ?_)
  · replace h := h.1 c2
    exact hk111 x1 x2 x3 y4 M h  H locs ls hH (lv_sub hl [0, 1, 2, 3, 4] rfl)
  · replace h := h.2 c2
    refine lv_aload_n hx hb dX7_hasShares_17 rfl (lv_at hl 0 rfl) ?_
    refine fx_get C hH (fx_w8 g M) rfl in_X7 14 (by decide) u_837 rfl rfl dX7_hasShares_18 ?_
    refine lv_aload_n hx hb dX7_hasShares_21 rfl (lv_at hl 0 rfl) ?_
    refine fx_get C hH (fx_w8 g M) rfl in_X7 22 (by decide) u_845 rfl rfl dX7_hasShares_22 ?_
    refine lv_iload_n hx hb dX7_hasShares_25 rfl (lv_at hl 1 rfl) ?_
    obtain ⟨hi3, h⟩ := h
    refine fx_iald (j := x1.toNatClampNeg) C hH 47 (fx_w47 g M) rfl hi3 dX7_hasShares_26 ?_
    refine lv_iload hx hb dX7_hasShares_27 (lv_at hl 5 rfl) ?_
    refine lv_iadd hx hb dX7_hasShares_29 ?_
    obtain ⟨hi4, h⟩ := h
    refine fx_iald (j := ((M.2.1 47 x1.toNatClampNeg) + x6).toNatClampNeg) C hH 39 (fx_w39 g M) rfl hi4 dX7_hasShares_30 ?_
    refine lv_topi (fun v5 ev5 => ?_)
    replace h := h v5 ev5
    refine lv_istore (lv' := [(7, .int v5), (0, .ref (fx_a g 8)), (1, .int x1), (2, .int x2), (3, .int x3), (4, .long y4), (6, .int x6)]) hx hb dX7_hasShares_31 hl (by decide) rfl (fun ls hl => ?_)
    refine lv_aload_n hx hb dX7_hasShares_33 rfl (lv_at hl 1 rfl) ?_
    refine fx_get C hH (fx_w8 g M) rfl in_X7 11 (by decide) u_834 rfl rfl dX7_hasShares_34 ?_
    refine lv_iload hx hb dX7_hasShares_37 (lv_at hl 6 rfl) ?_
    refine lv_aload_n hx hb dX7_hasShares_39 rfl (lv_at hl 1 rfl) ?_
    refine fx_get C hH (fx_w8 g M) rfl in_X7 21 (by decide) u_844 rfl rfl dX7_hasShares_40 ?_
    refine lv_aload_n hx hb dX7_hasShares_43 rfl (lv_at hl 1 rfl) ?_
    refine fx_get C hH (fx_w8 g M) rfl in_X7 22 (by decide) u_845 rfl rfl dX7_hasShares_44 ?_
    refine lv_iload_n hx hb dX7_hasShares_47 rfl (lv_at hl 2 rfl) ?_
    obtain ⟨hi6, h⟩ := h
    refine fx_iald (j := x1.toNatClampNeg) C hH 47 (fx_w47 g M) rfl hi6 dX7_hasShares_48 ?_
    refine lv_iload hx hb dX7_hasShares_49 (lv_at hl 6 rfl) ?_
    refine lv_iadd hx hb dX7_hasShares_51 ?_
    obtain ⟨hi7, h⟩ := h
    refine fx_zald (j := ((M.2.1 47 x1.toNatClampNeg) + x6).toNatClampNeg) C hH 46 (fx_w46 g M) rfl hi7 dX7_hasShares_52 ?_
    refine lv_if_eq (tgt := 60) hx hb dX7_hasShares_53 (by decide) (fun c8 => ?_) (fun c8 => ?_)
    · replace h := h.1 c8
      refine lv_iload_n hx hb dX7_hasShares_60 rfl (lv_at hl 4 rfl) ?_
      refine lv_if_eq (tgt := 75) hx hb dX7_hasShares_61 (by decide) (fun c9 => ?_) (fun c9 => ?_)
      · replace h := h.1 c9
        refine lv_aload_n hx hb dX7_hasShares_75 rfl (lv_at hl 1 rfl) ?_
        refine lv_iload hx hb dX7_hasShares_76 (lv_at hl 0 rfl) ?_
        refine lv_iconst (v := 2) hx hb dX7_hasShares_78 (by decide) ?_
        refine fx_ci hH (fx_runV (As := [.int v5, .int 2]) (rest := [.int x6, .ref (fx_a g 36)]) C hH (c_X7_of_8 l C.2.2.2.2.2.2.2.2.2.1 v5 2 M _ h) (fx_cwV 2 hts u_997 u_999 us_27 u_8 u_1000 rfl rfl (by decide +kernel) ⟨(Nat.le_of_ble_eq_true rfl), (Nat.le_of_ble_eq_true rfl)⟩) (fx_w8 g M) rfl rfl hl.1 rfl (Nat.le_of_ble_eq_true rfl) dX7_hasShares_79 ⟨(Nat.le_of_ble_eq_true rfl), (Nat.le_of_ble_eq_true rfl)⟩) (fun r11 M10 H locs h hH => ?_)
        refine lv_i2l hx hb dX7_hasShares_82 rfl ?_
        refine lv_aload_n hx hb dX7_hasShares_83 rfl (lv_at hl 1 rfl) ?_
        refine lv_iload hx hb dX7_hasShares_84 (lv_at hl 0 rfl) ?_
        refine lv_iconst (v := 0) hx hb dX7_hasShares_86 (by decide) ?_
        refine fx_ci hH (fx_runV (As := [.int v5, .int 0]) (rest := [.long r11.toInt64, .int x6, .ref (fx_a g 36)]) C hH (c_X7_of_8 l C.2.2.2.2.2.2.2.2.2.1 v5 0 M10 _ h) (fx_cwV 2 hts u_997 u_999 us_27 u_8 u_1000 rfl rfl (by decide +kernel) ⟨(Nat.le_of_ble_eq_true rfl), (Nat.le_of_ble_eq_true rfl)⟩) (fx_w8 g M10) rfl rfl hl.1 rfl (Nat.le_of_ble_eq_true rfl) dX7_hasShares_87 ⟨(Nat.le_of_ble_eq_true rfl), (Nat.le_of_ble_eq_true rfl)⟩) (fun r13 M12 H locs h hH => ?_)
        refine lv_i2l hx hb dX7_hasShares_90 rfl ?_
        refine lv_lmul hx hb dX7_hasShares_91 ?_
        exact tb_X7_hasShares_8_92 C k6 k111 Q hk6 hk111 x1 x2 x3 y4 x6 (r11.toInt64 * r13.toInt64) x6 M12 h  H locs ls hH (lv_sub hl [1, 2, 3, 4, 5, 6] rfl)
      · replace h := h.2 c9
        refine lv_aload_n hx hb dX7_hasShares_64 rfl (lv_at hl 1 rfl) ?_
        refine lv_iload hx hb dX7_hasShares_65 (lv_at hl 0 rfl) ?_
        refine lv_iconst (v := 1) hx hb dX7_hasShares_67 (by decide) ?_
        refine fx_ci hH (fx_runV (As := [.int v5, .int 1]) (rest := [.int x6, .ref (fx_a g 36)]) C hH (c_X7_of_8 l C.2.2.2.2.2.2.2.2.2.1 v5 1 M _ h) (fx_cwV 2 hts u_997 u_999 us_27 u_8 u_1000 rfl rfl (by decide +kernel) ⟨(Nat.le_of_ble_eq_true rfl), (Nat.le_of_ble_eq_true rfl)⟩) (fx_w8 g M) rfl rfl hl.1 rfl (Nat.le_of_ble_eq_true rfl) dX7_hasShares_68 ⟨(Nat.le_of_ble_eq_true rfl), (Nat.le_of_ble_eq_true rfl)⟩) (fun r15 M14 H locs h hH => ?_)
        refine lv_i2l hx hb dX7_hasShares_71 rfl ?_
        refine lv_goto (tgt := 92) hx hb dX7_hasShares_72 (by decide) ?_
        exact tb_X7_hasShares_8_92 C k6 k111 Q hk6 hk111 x1 x2 x3 y4 x6 r15.toInt64 x6 M14 h  H locs ls hH (lv_sub hl [1, 2, 3, 4, 5, 6] rfl)
    · replace h := h.2 c8
      refine lv_lconst (v := 0) hx hb dX7_hasShares_56 (by decide) ?_
      refine lv_goto (tgt := 92) hx hb dX7_hasShares_57 (by decide) ?_
      exact tb_X7_hasShares_8_92 C k6 k111 Q hk6 hk111 x1 x2 x3 y4 x6 0 x6 M h  H locs ls hH (lv_sub hl [1, 2, 3, 4, 5, 6] rfl)
def wl_X7_hasShares_8_6 (k111 : Int32 → Int32 → Int32 → Int64 → fx_Mem → Prop) (Q : Int32 → fx_Mem → Prop) (n : Nat) (x1 : Int32) (x2 : Int32) (x3 : Int32) (y4 : Int64) (x6 : Int32) (M : fx_Mem) : Prop :=
  fx_lp (α := Int32 × Int32 × Int32 × Int64 × Int32 × fx_Mem) (fun k a => wb_X7_hasShares_8_6 (fun x1 x2 x3 y4 x6 M => k (x1, x2, x3, y4, x6, M)) k111 Q a.1 a.2.1 a.2.2.1 a.2.2.2.1 a.2.2.2.2.1 a.2.2.2.2.2) n (x1, x2, x3, y4, x6, M)
set_option maxHeartbeats 4000000 in
theorem tl_X7_hasShares_8_6 {g : fx_Geo} {p : Program} {l : Launch} {e : Env} {s : State} {m : MethodId} {args : Array Value} {below : List Frame} {meth : Method} {c : Code} (C : fx_Cx g p s m args meth c RX7 cX7_hasShares 8 (some .boolean)) (k111 : Int32 → Int32 → Int32 → Int64 → fx_Mem → Prop) (Q : Int32 → fx_Mem → Prop) (hk111 : ∀ (x1 : Int32) (x2 : Int32) (x3 : Int32) (y4 : Int64) (M : fx_Mem), k111 x1 x2 x3 y4 M → ∀ (H : Heap) (locs : List Loc) (ls : Array Slot), fx_H g s M H locs → lv_has ls 8 [(0, .ref (fx_a g 8)), (1, .int x1), (2, .int x2), (3, .int x3), (4, .long y4)] → W p l e rm_X7_hasShares_8 s m args below meth c H locs 0 0 (MQ below (va_Qi Q (fx_Pw g) (fx_A g)) args s 0 0 (fx_A g)) (F0 m 111 ls [])) : ∀ (n : Nat) (x1 : Int32) (x2 : Int32) (x3 : Int32) (y4 : Int64) (x6 : Int32) (M : fx_Mem), wl_X7_hasShares_8_6 k111 Q n x1 x2 x3 y4 x6 M → ∀ (H : Heap) (locs : List Loc) (ls : Array Slot), fx_H g s M H locs → lv_has ls 8 [(0, .ref (fx_a g 8)), (1, .int x1), (2, .int x2), (3, .int x3), (4, .long y4), (6, .int x6)] → W p l e rm_X7_hasShares_8 s m args below meth c H locs 0 0 (MQ below (va_Qi Q (fx_Pw g) (fx_A g)) args s 0 0 (fx_A g)) (F0 m 6 ls []) := by
  intro n
  induction n with
  | zero => intro x1 x2 x3 y4 x6 M h; exact False.elim h
  | succ n ih => intro x1 x2 x3 y4 x6 M h  H locs ls hH hl; exact tb_X7_hasShares_8_6 C (wl_X7_hasShares_8_6 k111 Q n) k111 Q ih hk111 x1 x2 x3 y4 x6 M h  H locs ls hH hl
def wb_X7_hasShares_8_148 (Q : Int32 → fx_Mem → Prop) (x1 : Int32) (s0 : Int64) (M : fx_Mem) : Prop :=
  vp_in x1 20 ∧ wp_X7_divides_8 s0 (M.2.1 48 x1.toNatClampNeg) M (fun M2 => Q 1 M2)
set_option maxHeartbeats 4000000 in
set_option maxRecDepth 100000 in
theorem tb_X7_hasShares_8_148 {g : fx_Geo} {p : Program} {l : Launch} {e : Env} {s : State} {m : MethodId} {args : Array Value} {below : List Frame} {meth : Method} {c : Code} (C : fx_Cx g p s m args meth c RX7 cX7_hasShares 8 (some .boolean)) (Q : Int32 → fx_Mem → Prop) (x1 : Int32) (s0 : Int64) (M : fx_Mem) (h : wb_X7_hasShares_8_148 Q x1 s0 M) (H : Heap) (locs : List Loc) (ls : Array Slot) (hH : fx_H g s M H locs) (hl : lv_has ls 8 [(0, .ref (fx_a g 8)), (1, .int x1)]) : W p l e rm_X7_hasShares_8 s m args below meth c H locs 0 0 (MQ below (va_Qi Q (fx_Pw g) (fx_A g)) args s 0 0 (fx_A g)) (F0 m 148 ls [.long s0, .ref (fx_a g 8)]) := by
  obtain ⟨hx, hb, hr, hml, hown, hts, hlocks, hsz, hK, hG, hSt⟩ := id C
  unfold wb_X7_hasShares_8_148 at h
  refine lv_aload_n hx hb dX7_hasShares_148 rfl (lv_at hl 0 rfl) ?_
  refine fx_get C hH (fx_w8 g M) rfl in_X7 23 (by decide) u_846 rfl rfl dX7_hasShares_149 ?_
  refine lv_iload_n hx hb dX7_hasShares_152 rfl (lv_at hl 1 rfl) ?_
  obtain ⟨hi1, h⟩ := h
  refine fx_iald (j := x1.toNatClampNeg) C hH 48 (fx_w48 g M) rfl hi1 dX7_hasShares_153 ?_
  refine fx_cv hH (fx_runV (As := [.long s0, .int (M.2.1 48 x1.toNatClampNeg)]) (rest := []) C hH (c_X7_divides_8 l C.2.2.2.2.2.2.2.2.2.1 s0 (M.2.1 48 x1.toNatClampNeg) M _ h) (fx_cwV 2 hts u_1078 u_1080 us_42 u_8 u_1081 rfl rfl (by decide +kernel) ⟨(Nat.le_of_ble_eq_true rfl), (Nat.le_of_ble_eq_true rfl)⟩) (fx_w8 g M) rfl rfl hl.1 rfl (Nat.le_of_ble_eq_true rfl) dX7_hasShares_154 ⟨(Nat.le_of_ble_eq_true rfl), (Nat.le_of_ble_eq_true rfl)⟩) (fun M2 H locs h hH => ?_)
  refine lv_iconst (v := 1) hx hb dX7_hasShares_157 (by decide) ?_
  exact fx_zret C hH (by decide) h dX7_hasShares_158
def wb_X7_hasShares_8_135 (Q : Int32 → fx_Mem → Prop) (x1 : Int32) (x2 : Int32) (x3 : Int32) (M : fx_Mem) : Prop :=
  ((x3 = 0 → wb_X7_hasShares_8_148 Q x1 ((-x2).toInt64) M) ∧ (¬ x3 = 0 → wb_X7_hasShares_8_148 Q x1 x2.toInt64 M))
set_option maxHeartbeats 4000000 in
set_option maxRecDepth 100000 in
theorem tb_X7_hasShares_8_135 {g : fx_Geo} {p : Program} {l : Launch} {e : Env} {s : State} {m : MethodId} {args : Array Value} {below : List Frame} {meth : Method} {c : Code} (C : fx_Cx g p s m args meth c RX7 cX7_hasShares 8 (some .boolean)) (Q : Int32 → fx_Mem → Prop) (x1 : Int32) (x2 : Int32) (x3 : Int32) (M : fx_Mem) (h : wb_X7_hasShares_8_135 Q x1 x2 x3 M) (H : Heap) (locs : List Loc) (ls : Array Slot) (hH : fx_H g s M H locs) (hl : lv_has ls 8 [(0, .ref (fx_a g 8)), (1, .int x1), (2, .int x2), (3, .int x3)]) : W p l e rm_X7_hasShares_8 s m args below meth c H locs 0 0 (MQ below (va_Qi Q (fx_Pw g) (fx_A g)) args s 0 0 (fx_A g)) (F0 m 135 ls []) := by
  obtain ⟨hx, hb, hr, hml, hown, hts, hlocks, hsz, hK, hG, hSt⟩ := id C
  unfold wb_X7_hasShares_8_135 at h
  refine lv_aload_n hx hb dX7_hasShares_135 rfl (lv_at hl 0 rfl) ?_
  refine lv_iload_n hx hb dX7_hasShares_136 rfl (lv_at hl 3 rfl) ?_
  refine lv_if_eq (tgt := 145) hx hb dX7_hasShares_137 (by decide) (fun c1 => ?_) (fun c1 => ?_)
  · replace h := h.1 c1
    refine lv_iload_n hx hb dX7_hasShares_145 rfl (lv_at hl 2 rfl) ?_
    refine lv_ineg hx hb dX7_hasShares_146 ?_
    refine lv_i2l hx hb dX7_hasShares_147 rfl ?_
    exact tb_X7_hasShares_8_148 C Q  x1 ((-x2).toInt64) M h  H locs ls hH (lv_sub hl [0, 1] rfl)
  · replace h := h.2 c1
    refine lv_iload_n hx hb dX7_hasShares_140 rfl (lv_at hl 2 rfl) ?_
    refine lv_i2l hx hb dX7_hasShares_141 rfl ?_
    refine lv_goto (tgt := 148) hx hb dX7_hasShares_142 (by decide) ?_
    exact tb_X7_hasShares_8_148 C Q  x1 x2.toInt64 M h  H locs ls hH (lv_sub hl [0, 1] rfl)
def wb_X7_hasShares_8_111 (Q : Int32 → fx_Mem → Prop) (x1 : Int32) (x2 : Int32) (x3 : Int32) (y4 : Int64) (M : fx_Mem) : Prop :=
  ((lg_cmp y4 0 = 0 → Q 0 M) ∧ (¬ lg_cmp y4 0 = 0 → ((x3 = 0 → ((x2 < 0 → wb_X7_hasShares_8_135 Q x1 x2 x3 M) ∧ (¬ x2 < 0 → Q 0 M))) ∧ (¬ x3 = 0 → ((0 < x2 → wb_X7_hasShares_8_135 Q x1 x2 x3 M) ∧ (¬ 0 < x2 → Q 0 M))))))
set_option maxHeartbeats 4000000 in
set_option maxRecDepth 100000 in
theorem tb_X7_hasShares_8_111 {g : fx_Geo} {p : Program} {l : Launch} {e : Env} {s : State} {m : MethodId} {args : Array Value} {below : List Frame} {meth : Method} {c : Code} (C : fx_Cx g p s m args meth c RX7 cX7_hasShares 8 (some .boolean)) (Q : Int32 → fx_Mem → Prop) (x1 : Int32) (x2 : Int32) (x3 : Int32) (y4 : Int64) (M : fx_Mem) (h : wb_X7_hasShares_8_111 Q x1 x2 x3 y4 M) (H : Heap) (locs : List Loc) (ls : Array Slot) (hH : fx_H g s M H locs) (hl : lv_has ls 8 [(0, .ref (fx_a g 8)), (1, .int x1), (2, .int x2), (3, .int x3), (4, .long y4)]) : W p l e rm_X7_hasShares_8 s m args below meth c H locs 0 0 (MQ below (va_Qi Q (fx_Pw g) (fx_A g)) args s 0 0 (fx_A g)) (F0 m 111 ls []) := by
  obtain ⟨hx, hb, hr, hml, hown, hts, hlocks, hsz, hK, hG, hSt⟩ := id C
  unfold wb_X7_hasShares_8_111 at h
  refine lv_lload hx hb dX7_hasShares_111 (lv_at hl 4 rfl) ?_
  refine lv_lconst (v := 0) hx hb dX7_hasShares_113 (by decide) ?_
  refine W.lcmp hx hb dX7_hasShares_114 ?_
  refine lv_if_eq (tgt := 133) hx hb dX7_hasShares_115 (by decide) (fun c1 => ?_) (fun c1 => ?_)
  · replace h := h.1 c1
    refine lv_iconst (v := 0) hx hb dX7_hasShares_133 (by decide) ?_
    exact fx_zret C hH (by decide) h dX7_hasShares_134
  · replace h := h.2 c1
    refine lv_iload_n hx hb dX7_hasShares_118 rfl (lv_at hl 3 rfl) ?_
    refine lv_if_eq (tgt := 129) hx hb dX7_hasShares_119 (by decide) (fun c2 => ?_) (fun c2 => ?_)
    · replace h := h.1 c2
      refine lv_iload_n hx hb dX7_hasShares_129 rfl (lv_at hl 2 rfl) ?_
      refine lv_if_lt (tgt := 135) hx hb dX7_hasShares_130 (by decide) (fun c3 => ?_) (fun c3 => ?_)
      · replace h := h.1 c3
        exact tb_X7_hasShares_8_135 C Q  x1 x2 x3 M h  H locs ls hH (lv_sub hl [0, 1, 2, 3] rfl)
      · replace h := h.2 c3
        refine lv_iconst (v := 0) hx hb dX7_hasShares_133 (by decide) ?_
        exact fx_zret C hH (by decide) h dX7_hasShares_134
    · replace h := h.2 c2
      refine lv_iload_n hx hb dX7_hasShares_122 rfl (lv_at hl 2 rfl) ?_
      refine lv_if_gt (tgt := 135) hx hb dX7_hasShares_123 (by decide) (fun c4 => ?_) (fun c4 => ?_)
      · replace h := h.1 c4
        exact tb_X7_hasShares_8_135 C Q  x1 x2 x3 M h  H locs ls hH (lv_sub hl [0, 1, 2, 3] rfl)
      · replace h := h.2 c4
        refine lv_goto (tgt := 133) hx hb dX7_hasShares_126 (by decide) ?_
        refine lv_iconst (v := 0) hx hb dX7_hasShares_133 (by decide) ?_
        exact fx_zret C hH (by decide) h dX7_hasShares_134
def wp_X7_hasShares_8 (a1 : Int32) (a2 : Int32) (a3 : Int32) (M : fx_Mem) (Q : Int32 → fx_Mem → Prop) : Prop :=
  ∃ n6 : Nat, wl_X7_hasShares_8_6 (wb_X7_hasShares_8_111 Q) Q n6 a1 a2 a3 0 0 M
set_option maxHeartbeats 4000000 in
set_option maxRecDepth 100000 in
theorem c_X7_hasShares_8 (l : Launch) {g : fx_Geo} (hG : fx_Gd g) (a1 : Int32) (a2 : Int32) (a3 : Int32) (M : fx_Mem) (Q : Int32 → fx_Mem → Prop) (h : wp_X7_hasShares_8 a1 a2 a3 M Q) : Met l yX7_hasShares (.code yX7_hasShares cX7_hasShares 8 (some .boolean) :: fx_U) rm_X7_hasShares_8 (va_Pc [.ref (fx_a g 8), .int a1, .int a2, .int a3] (fx_At g M)) (va_Qi Q (fx_Pw g) (fx_A g)) 0 0 (fx_A g) := by
  refine Met.ofW (cc := cX7_hasShares) (maxL := 8) (ret := (some .boolean)) (by decide +kernel) rfl ?_
  intro p e s m args below meth c s₁ B hml hv
  obtain ⟨rfl, hv⟩ := hv
  have hts := atoms_spec (ws := .code yX7_hasShares cX7_hasShares 8 (some .boolean) :: fx_U) B.pre
  obtain ⟨C, hH⟩ := fx_body (own := RX7) B hml rfl (fun w hw => hts w (List.mem_cons_of_mem _ hw)) hG hv
  replace hts := fun w hw => hts w (List.mem_cons_of_mem _ hw)
  obtain ⟨hx, hb, hr, -, hown, -, hlocks, hsz, hK, -, hSt⟩ := id C
  have hl := lv_entry ([.ref (fx_a g 8), .int a1, .int a2, .int a3]) (n := 8) (Nat.le_of_ble_eq_true rfl)
  rw [lg_entry_eq]
  generalize (lg_sl ([.ref (fx_a g 8), .int a1, .int a2, .int a3]) ++ List.replicate (8 - (lg_sl ([.ref (fx_a g 8), .int a1, .int a2, .int a3])).length) Slot.unset).toArray = ls at hl ⊢
  have hl : lv_has ls 8 [(0, .ref (fx_a g 8)), (1, .int a1), (2, .int a2), (3, .int a3)] := hl
  obtain ⟨H, eH⟩ : ∃ H : Heap, H = s.heap := ⟨_, rfl⟩
  obtain ⟨locs, elocs⟩ : ∃ q : List Loc, q = [] := ⟨_, rfl⟩
  rw [← eH, ← elocs] at hH
  show W p l e rm_X7_hasShares_8 s m _ below meth c s.heap [] 0 0 _ _
  rw [← eH, ← elocs]
  unfold wp_X7_hasShares_8 at h
  refine lv_lconst (v := 0) hx hb dX7_hasShares_0 (by decide) ?_
  refine lv_lstore (lv' := [(4, .long 0), (0, .ref (fx_a g 8)), (1, .int a1), (2, .int a2), (3, .int a3)]) hx hb dX7_hasShares_1 hl (by decide) rfl (fun ls hl => ?_)
  refine lv_iconst (v := 0) hx hb dX7_hasShares_3 (by decide) ?_
  refine lv_istore (lv' := [(6, .int 0), (4, .long 0), (0, .ref (fx_a g 8)), (1, .int a1), (2, .int a2), (3, .int a3)]) hx hb dX7_hasShares_4 hl (by decide) rfl (fun ls hl => ?_)
  obtain ⟨n6, h⟩ := h
  exact tl_X7_hasShares_8_6 C (wb_X7_hasShares_8_111 Q) Q (tb_X7_hasShares_8_111 C Q ) n6 a1 a2 a3 0 0 M h  H locs ls hH (lv_sub hl [2, 3, 4, 5, 1, 0] rfl)
/-! FlexLayoutModel.areFrozen(I)Z (8,) -/
def rm_X7_areFrozen_8 : Room := { frames := 0, cells := 0, slots := 0, locals := 0 }
def wb_X7_areFrozen_8_44 (k9 : Int32 → Int32 → Int32 → fx_Mem → Prop) (Q : Int32 → fx_Mem → Prop) (x1 : Int32) (x3 : Int32) (s0 : Int32) (M : fx_Mem) : Prop :=
  ∀ v1 : Int32, v1 = x3 + 1 → k9 x1 s0 v1 M
set_option maxHeartbeats 4000000 in
set_option maxRecDepth 100000 in
theorem tb_X7_areFrozen_8_44 {g : fx_Geo} {p : Program} {l : Launch} {e : Env} {s : State} {m : MethodId} {args : Array Value} {below : List Frame} {meth : Method} {c : Code} (C : fx_Cx g p s m args meth c RX7 cX7_areFrozen 4 (some .boolean)) (k9 : Int32 → Int32 → Int32 → fx_Mem → Prop) (Q : Int32 → fx_Mem → Prop) (hk9 : ∀ (x1 : Int32) (x2 : Int32) (x3 : Int32) (M : fx_Mem), k9 x1 x2 x3 M → ∀ (H : Heap) (locs : List Loc) (ls : Array Slot), fx_H g s M H locs → lv_has ls 4 [(0, .ref (fx_a g 8)), (1, .int x1), (2, .int x2), (3, .int x3)] → W p l e rm_X7_areFrozen_8 s m args below meth c H locs 0 0 (MQ below (va_Qi Q (fx_Pw g) (fx_A g)) args s 0 0 (fx_A g)) (F0 m 9 ls [])) (x1 : Int32) (x3 : Int32) (s0 : Int32) (M : fx_Mem) (h : wb_X7_areFrozen_8_44 k9 Q x1 x3 s0 M) (H : Heap) (locs : List Loc) (ls : Array Slot) (hH : fx_H g s M H locs) (hl : lv_has ls 4 [(0, .ref (fx_a g 8)), (1, .int x1), (3, .int x3)]) : W p l e rm_X7_areFrozen_8 s m args below meth c H locs 0 0 (MQ below (va_Qi Q (fx_Pw g) (fx_A g)) args s 0 0 (fx_A g)) (F0 m 44 ls [.int s0]) := by
  obtain ⟨hx, hb, hr, hml, hown, hts, hlocks, hsz, hK, hG, hSt⟩ := id C
  unfold wb_X7_areFrozen_8_44 at h
  refine lv_istore_n (lv' := [(2, .int s0), (0, .ref (fx_a g 8)), (1, .int x1), (3, .int x3)]) hx hb dX7_areFrozen_44 rfl hl (by decide) rfl (fun ls hl => ?_)
  obtain ⟨v1, ev1⟩ : ∃ z : Int32, z = x3 + 1 := ⟨_, rfl⟩
  refine lv_iinc (v := v1) (lv' := [(3, .int v1), (2, .int s0), (0, .ref (fx_a g 8)), (1, .int x1)]) hx hb dX7_areFrozen_45 hl (k := 3) rfl (by rw [ev1]; rfl) (by decide) rfl (fun ls hl => ?_)
  replace h := h v1 ev1
  refine lv_goto (tgt := 9) hx hb dX7_areFrozen_48 (by decide) ?_
  exact hk9 x1 s0 v1 M h  H locs ls hH (lv_sub hl [2, 3, 1, 0] rfl)
def wb_X7_areFrozen_8_43 (k9 : Int32 → Int32 → Int32 → fx_Mem → Prop) (Q : Int32 → fx_Mem → Prop) (x1 : Int32) (x3 : Int32) (M : fx_Mem) : Prop :=
  wb_X7_areFrozen_8_44 k9 Q x1 x3 0 M
set_option maxHeartbeats 4000000 in
set_option maxRecDepth 100000 in
theorem tb_X7_areFrozen_8_43 {g : fx_Geo} {p : Program} {l : Launch} {e : Env} {s : State} {m : MethodId} {args : Array Value} {below : List Frame} {meth : Method} {c : Code} (C : fx_Cx g p s m args meth c RX7 cX7_areFrozen 4 (some .boolean)) (k9 : Int32 → Int32 → Int32 → fx_Mem → Prop) (Q : Int32 → fx_Mem → Prop) (hk9 : ∀ (x1 : Int32) (x2 : Int32) (x3 : Int32) (M : fx_Mem), k9 x1 x2 x3 M → ∀ (H : Heap) (locs : List Loc) (ls : Array Slot), fx_H g s M H locs → lv_has ls 4 [(0, .ref (fx_a g 8)), (1, .int x1), (2, .int x2), (3, .int x3)] → W p l e rm_X7_areFrozen_8 s m args below meth c H locs 0 0 (MQ below (va_Qi Q (fx_Pw g) (fx_A g)) args s 0 0 (fx_A g)) (F0 m 9 ls [])) (x1 : Int32) (x3 : Int32) (M : fx_Mem) (h : wb_X7_areFrozen_8_43 k9 Q x1 x3 M) (H : Heap) (locs : List Loc) (ls : Array Slot) (hH : fx_H g s M H locs) (hl : lv_has ls 4 [(0, .ref (fx_a g 8)), (1, .int x1), (3, .int x3)]) : W p l e rm_X7_areFrozen_8 s m args below meth c H locs 0 0 (MQ below (va_Qi Q (fx_Pw g) (fx_A g)) args s 0 0 (fx_A g)) (F0 m 43 ls []) := by
  obtain ⟨hx, hb, hr, hml, hown, hts, hlocks, hsz, hK, hG, hSt⟩ := id C
  unfold wb_X7_areFrozen_8_43 at h
  refine lv_iconst (v := 0) hx hb dX7_areFrozen_43 (by decide) ?_
  exact tb_X7_areFrozen_8_44 C k9 Q hk9 x1 x3 0 M h  H locs ls hH (lv_sub hl [0, 1, 2] rfl)
def wb_X7_areFrozen_8_9 (k9 : Int32 → Int32 → Int32 → fx_Mem → Prop) (Q : Int32 → fx_Mem → Prop) (x1 : Int32) (x2 : Int32) (x3 : Int32) (M : fx_Mem) : Prop :=
  vp_in x1 20 ∧ vp_in x1 20 ∧ (((M.2.1 47 x1.toNatClampNeg) + (M.2.1 48 x1.toNatClampNeg) ≤ x3 → (x2 = 0 ∨ x2 = 1) ∧ Q x2 M) ∧ (¬ (M.2.1 47 x1.toNatClampNeg) + (M.2.1 48 x1.toNatClampNeg) ≤ x3 → ((x2 = 0 → wb_X7_areFrozen_8_43 k9 Q x1 x3 M) ∧ (¬ x2 = 0 → vp_in x3 20 ∧ ((M.2.1 46 x3.toNatClampNeg = 0 → wb_X7_areFrozen_8_43 k9 Q x1 x3 M) ∧ (¬ M.2.1 46 x3.toNatClampNeg = 0 → wb_X7_areFrozen_8_44 k9 Q x1 x3 1 M))))))
set_option maxHeartbeats 4000000 in
set_option maxRecDepth 100000 in
theorem tb_X7_areFrozen_8_9 {g : fx_Geo} {p : Program} {l : Launch} {e : Env} {s : State} {m : MethodId} {args : Array Value} {below : List Frame} {meth : Method} {c : Code} (C : fx_Cx g p s m args meth c RX7 cX7_areFrozen 4 (some .boolean)) (k9 : Int32 → Int32 → Int32 → fx_Mem → Prop) (Q : Int32 → fx_Mem → Prop) (hk9 : ∀ (x1 : Int32) (x2 : Int32) (x3 : Int32) (M : fx_Mem), k9 x1 x2 x3 M → ∀ (H : Heap) (locs : List Loc) (ls : Array Slot), fx_H g s M H locs → lv_has ls 4 [(0, .ref (fx_a g 8)), (1, .int x1), (2, .int x2), (3, .int x3)] → W p l e rm_X7_areFrozen_8 s m args below meth c H locs 0 0 (MQ below (va_Qi Q (fx_Pw g) (fx_A g)) args s 0 0 (fx_A g)) (F0 m 9 ls [])) (x1 : Int32) (x2 : Int32) (x3 : Int32) (M : fx_Mem) (h : wb_X7_areFrozen_8_9 k9 Q x1 x2 x3 M) (H : Heap) (locs : List Loc) (ls : Array Slot) (hH : fx_H g s M H locs) (hl : lv_has ls 4 [(0, .ref (fx_a g 8)), (1, .int x1), (2, .int x2), (3, .int x3)]) : W p l e rm_X7_areFrozen_8 s m args below meth c H locs 0 0 (MQ below (va_Qi Q (fx_Pw g) (fx_A g)) args s 0 0 (fx_A g)) (F0 m 9 ls []) := by
  obtain ⟨hx, hb, hr, hml, hown, hts, hlocks, hsz, hK, hG, hSt⟩ := id C
  unfold wb_X7_areFrozen_8_9 at h
  refine lv_iload_n hx hb dX7_areFrozen_9 rfl (lv_at hl 3 rfl) ?_
  refine lv_aload_n hx hb dX7_areFrozen_10 rfl (lv_at hl 0 rfl) ?_
  refine fx_get C hH (fx_w8 g M) rfl in_X7 22 (by decide) u_845 rfl rfl dX7_areFrozen_11 ?_
  refine lv_iload_n hx hb dX7_areFrozen_14 rfl (lv_at hl 1 rfl) ?_
  obtain ⟨hi1, h⟩ := h
  refine fx_iald (j := x1.toNatClampNeg) C hH 47 (fx_w47 g M) rfl hi1 dX7_areFrozen_15 ?_
  refine lv_aload_n hx hb dX7_areFrozen_16 rfl (lv_at hl 0 rfl) ?_
  refine fx_get C hH (fx_w8 g M) rfl in_X7 23 (by decide) u_846 rfl rfl dX7_areFrozen_17 ?_
  refine lv_iload_n hx hb dX7_areFrozen_20 rfl (lv_at hl 1 rfl) ?_
  obtain ⟨hi2, h⟩ := h
  refine fx_iald (j := x1.toNatClampNeg) C hH 48 (fx_w48 g M) rfl hi2 dX7_areFrozen_21 ?_
  refine lv_iadd hx hb dX7_areFrozen_22 ?_
  refine lv_icmp_ge (tgt := 51) hx hb dX7_areFrozen_23 (by decide) (fun c3 => ?_) (fun c3 => ?_)
  · replace h := h.1 c3
    refine lv_iload_n hx hb dX7_areFrozen_51 rfl (lv_at hl 2 rfl) ?_
    exact fx_zret C hH h.1 h.2 dX7_areFrozen_52
  · replace h := h.2 c3
    refine lv_iload_n hx hb dX7_areFrozen_26 rfl (lv_at hl 2 rfl) ?_
    refine lv_if_eq (tgt := 43) hx hb dX7_areFrozen_27 (by decide) (fun c4 => ?_) (fun c4 => ?_)
    · replace h := h.1 c4
      exact tb_X7_areFrozen_8_43 C k9 Q hk9 x1 x3 M h  H locs ls hH (lv_sub hl [0, 1, 3] rfl)
    · replace h := h.2 c4
      refine lv_aload_n hx hb dX7_areFrozen_30 rfl (lv_at hl 0 rfl) ?_
      refine fx_get C hH (fx_w8 g M) rfl in_X7 21 (by decide) u_844 rfl rfl dX7_areFrozen_31 ?_
      refine lv_iload_n hx hb dX7_areFrozen_34 rfl (lv_at hl 3 rfl) ?_
      obtain ⟨hi5, h⟩ := h
      refine fx_zald (j := x3.toNatClampNeg) C hH 46 (fx_w46 g M) rfl hi5 dX7_areFrozen_35 ?_
      refine lv_if_eq (tgt := 43) hx hb dX7_areFrozen_36 (by decide) (fun c6 => ?_) (fun c6 => ?_)
      · replace h := h.1 c6
        exact tb_X7_areFrozen_8_43 C k9 Q hk9 x1 x3 M h  H locs ls hH (lv_sub hl [0, 1, 3] rfl)
      · replace h := h.2 c6
        refine lv_iconst (v := 1) hx hb dX7_areFrozen_39 (by decide) ?_
        refine lv_goto (tgt := 44) hx hb dX7_areFrozen_40 (by decide) ?_
        exact tb_X7_areFrozen_8_44 C k9 Q hk9 x1 x3 1 M h  H locs ls hH (lv_sub hl [0, 1, 3] rfl)
def wl_X7_areFrozen_8_9 (Q : Int32 → fx_Mem → Prop) (n : Nat) (x1 : Int32) (x2 : Int32) (x3 : Int32) (M : fx_Mem) : Prop :=
  fx_lp (α := Int32 × Int32 × Int32 × fx_Mem) (fun k a => wb_X7_areFrozen_8_9 (fun x1 x2 x3 M => k (x1, x2, x3, M)) Q a.1 a.2.1 a.2.2.1 a.2.2.2) n (x1, x2, x3, M)
set_option maxHeartbeats 4000000 in
theorem tl_X7_areFrozen_8_9 {g : fx_Geo} {p : Program} {l : Launch} {e : Env} {s : State} {m : MethodId} {args : Array Value} {below : List Frame} {meth : Method} {c : Code} (C : fx_Cx g p s m args meth c RX7 cX7_areFrozen 4 (some .boolean)) (Q : Int32 → fx_Mem → Prop) : ∀ (n : Nat) (x1 : Int32) (x2 : Int32) (x3 : Int32) (M : fx_Mem), wl_X7_areFrozen_8_9  Q n x1 x2 x3 M → ∀ (H : Heap) (locs : List Loc) (ls : Array Slot), fx_H g s M H locs → lv_has ls 4 [(0, .ref (fx_a g 8)), (1, .int x1), (2, .int x2), (3, .int x3)] → W p l e rm_X7_areFrozen_8 s m args below meth c H locs 0 0 (MQ below (va_Qi Q (fx_Pw g) (fx_A g)) args s 0 0 (fx_A g)) (F0 m 9 ls []) := by
  intro n
  induction n with
  | zero => intro x1 x2 x3 M h; exact False.elim h
  | succ n ih => intro x1 x2 x3 M h  H locs ls hH hl; exact tb_X7_areFrozen_8_9 C (wl_X7_areFrozen_8_9  Q n) Q ih x1 x2 x3 M h  H locs ls hH hl
def wp_X7_areFrozen_8 (a1 : Int32) (M : fx_Mem) (Q : Int32 → fx_Mem → Prop) : Prop :=
  vp_in a1 20 ∧ ∀ v2 : Int32, v2 = M.2.1 47 a1.toNatClampNeg → ∃ n9 : Nat, wl_X7_areFrozen_8_9 Q n9 a1 1 v2 M
set_option maxHeartbeats 4000000 in
set_option maxRecDepth 100000 in
theorem c_X7_areFrozen_8 (l : Launch) {g : fx_Geo} (hG : fx_Gd g) (a1 : Int32) (M : fx_Mem) (Q : Int32 → fx_Mem → Prop) (h : wp_X7_areFrozen_8 a1 M Q) : Met l yX7_areFrozen (.code yX7_areFrozen cX7_areFrozen 4 (some .boolean) :: fx_U) rm_X7_areFrozen_8 (va_Pc [.ref (fx_a g 8), .int a1] (fx_At g M)) (va_Qi Q (fx_Pw g) (fx_A g)) 0 0 (fx_A g) := by
  refine Met.ofW (cc := cX7_areFrozen) (maxL := 4) (ret := (some .boolean)) (by decide +kernel) rfl ?_
  intro p e s m args below meth c s₁ B hml hv
  obtain ⟨rfl, hv⟩ := hv
  have hts := atoms_spec (ws := .code yX7_areFrozen cX7_areFrozen 4 (some .boolean) :: fx_U) B.pre
  obtain ⟨C, hH⟩ := fx_body (own := RX7) B hml rfl (fun w hw => hts w (List.mem_cons_of_mem _ hw)) hG hv
  replace hts := fun w hw => hts w (List.mem_cons_of_mem _ hw)
  obtain ⟨hx, hb, hr, -, hown, -, hlocks, hsz, hK, -, hSt⟩ := id C
  have hl := lv_entry ([.ref (fx_a g 8), .int a1]) (n := 4) (Nat.le_of_ble_eq_true rfl)
  rw [lg_entry_eq]
  generalize (lg_sl ([.ref (fx_a g 8), .int a1]) ++ List.replicate (4 - (lg_sl ([.ref (fx_a g 8), .int a1])).length) Slot.unset).toArray = ls at hl ⊢
  have hl : lv_has ls 4 [(0, .ref (fx_a g 8)), (1, .int a1)] := hl
  obtain ⟨H, eH⟩ : ∃ H : Heap, H = s.heap := ⟨_, rfl⟩
  obtain ⟨locs, elocs⟩ : ∃ q : List Loc, q = [] := ⟨_, rfl⟩
  rw [← eH, ← elocs] at hH
  show W p l e rm_X7_areFrozen_8 s m _ below meth c s.heap [] 0 0 _ _
  rw [← eH, ← elocs]
  unfold wp_X7_areFrozen_8 at h
  refine lv_iconst (v := 1) hx hb dX7_areFrozen_0 (by decide) ?_
  refine lv_istore_n (lv' := [(2, .int 1), (0, .ref (fx_a g 8)), (1, .int a1)]) hx hb dX7_areFrozen_1 rfl hl (by decide) rfl (fun ls hl => ?_)
  refine lv_aload_n hx hb dX7_areFrozen_2 rfl (lv_at hl 1 rfl) ?_
  refine fx_get C hH (fx_w8 g M) rfl in_X7 22 (by decide) u_845 rfl rfl dX7_areFrozen_3 ?_
  refine lv_iload_n hx hb dX7_areFrozen_6 rfl (lv_at hl 2 rfl) ?_
  obtain ⟨hi1, h⟩ := h
  refine fx_iald (j := a1.toNatClampNeg) C hH 47 (fx_w47 g M) rfl hi1 dX7_areFrozen_7 ?_
  refine lv_topi (fun v2 ev2 => ?_)
  replace h := h v2 ev2
  refine lv_istore_n (lv' := [(3, .int v2), (2, .int 1), (0, .ref (fx_a g 8)), (1, .int a1)]) hx hb dX7_areFrozen_8 rfl hl (by decide) rfl (fun ls hl => ?_)
  obtain ⟨n9, h⟩ := h
  exact tl_X7_areFrozen_8_9 C Q  n9 a1 1 v2 M h  H locs ls hH (lv_sub hl [2, 3, 1, 0] rfl)
/-! FlexLayoutModel.round(IZ)V (8,) -/
def rm_X7_round_8 : Room := { frames := 2, cells := 0, slots := 0, locals := 56 }
def wb_X7_round_8_155 (k23 : Int32 → Int32 → Int32 → Int32 → Int32 → fx_Mem → Prop) (k161 : Int32 → Int32 → fx_Mem → Prop) (Q : fx_Mem → Prop) (x1 : Int32) (x2 : Int32) (x3 : Int32) (x4 : Int32) (x5 : Int32) (M : fx_Mem) : Prop :=
  ∀ v1 : Int32, v1 = x5 + 1 → k23 x1 x2 x3 x4 v1 M
set_option maxHeartbeats 4000000 in
set_option maxRecDepth 100000 in
theorem tb_X7_round_8_155 {g : fx_Geo} {p : Program} {l : Launch} {e : Env} {s : State} {m : MethodId} {args : Array Value} {below : List Frame} {meth : Method} {c : Code} (C : fx_Cx g p s m args meth c RX7 cX7_round 8 none) (k23 : Int32 → Int32 → Int32 → Int32 → Int32 → fx_Mem → Prop) (k161 : Int32 → Int32 → fx_Mem → Prop) (Q : fx_Mem → Prop) (hk23 : ∀ (x1 : Int32) (x2 : Int32) (x3 : Int32) (x4 : Int32) (x5 : Int32) (M : fx_Mem), k23 x1 x2 x3 x4 x5 M → ∀ (H : Heap) (locs : List Loc) (ls : Array Slot), fx_H g s M H locs → lv_has ls 8 [(0, .ref (fx_a g 8)), (1, .int x1), (2, .int x2), (3, .int x3), (4, .int x4), (5, .int x5)] → W p l e rm_X7_round_8 s m args below meth c H locs 0 0 (MQ below (va_Qv Q (fx_Pw g) (fx_A g)) args s 0 0 (fx_A g)) (F0 m 23 ls [])) (hk161 : ∀ (x1 : Int32) (x4 : Int32) (M : fx_Mem), k161 x1 x4 M → ∀ (H : Heap) (locs : List Loc) (ls : Array Slot), fx_H g s M H locs → lv_has ls 8 [(0, .ref (fx_a g 8)), (1, .int x1), (4, .int x4)] → W p l e rm_X7_round_8 s m args below meth c H locs 0 0 (MQ below (va_Qv Q (fx_Pw g) (fx_A g)) args s 0 0 (fx_A g)) (F0 m 161 ls [])) (x1 : Int32) (x2 : Int32) (x3 : Int32) (x4 : Int32) (x5 : Int32) (M : fx_Mem) (h : wb_X7_round_8_155 k23 k161 Q x1 x2 x3 x4 x5 M) (H : Heap) (locs : List Loc) (ls : Array Slot) (hH : fx_H g s M H locs) (hl : lv_has ls 8 [(0, .ref (fx_a g 8)), (1, .int x1), (2, .int x2), (3, .int x3), (4, .int x4), (5, .int x5)]) : W p l e rm_X7_round_8 s m args below meth c H locs 0 0 (MQ below (va_Qv Q (fx_Pw g) (fx_A g)) args s 0 0 (fx_A g)) (F0 m 155 ls []) := by
  obtain ⟨hx, hb, hr, hml, hown, hts, hlocks, hsz, hK, hG, hSt⟩ := id C
  unfold wb_X7_round_8_155 at h
  obtain ⟨v1, ev1⟩ : ∃ z : Int32, z = x5 + 1 := ⟨_, rfl⟩
  refine lv_iinc (v := v1) (lv' := [(5, .int v1), (0, .ref (fx_a g 8)), (1, .int x1), (2, .int x2), (3, .int x3), (4, .int x4)]) hx hb dX7_round_155 hl (k := 5) rfl (by rw [ev1]; rfl) (by decide) rfl (fun ls hl => ?_)
  replace h := h v1 ev1
  refine lv_goto (tgt := 23) hx hb dX7_round_158 (by decide) ?_
  exact hk23 x1 x2 x3 x4 v1 M h  H locs ls hH (lv_sub hl [1, 2, 3, 4, 5, 0] rfl)
def wb_X7_round_8_103 (k23 : Int32 → Int32 → Int32 → Int32 → Int32 → fx_Mem → Prop) (k161 : Int32 → Int32 → fx_Mem → Prop) (Q : fx_Mem → Prop) (x1 : Int32) (x2 : Int32) (x3 : Int32) (x4 : Int32) (x5 : Int32) (s0 : Int32) (s1 : Int32) (M : fx_Mem) : Prop :=
  ∀ v1 : Int32, v1 = s1 + s0 → vp_in x5 20 ∧ wp_X7_clamped_8 (M.2.1 39 x5.toNatClampNeg) v1 M (fun r4 M3 => vp_in x5 20 ∧ ∀ M6 : fx_Mem, M6 = fx_sa M3 40 x5.toNatClampNeg r4 → vp_in x5 20 ∧ vp_in x5 20 ∧ ∀ M9 : fx_Mem, M9 = fx_sa M6 55 x5.toNatClampNeg ((M6.2.1 40 x5.toNatClampNeg) - v1) → vp_in x5 20 ∧ ∀ v11 : Int32, v11 = x4 + (M9.2.1 55 x5.toNatClampNeg) → wb_X7_round_8_155 k23 k161 Q x1 x2 x3 v11 x5 M9)
set_option maxHeartbeats 4000000 in
set_option maxRecDepth 100000 in
theorem tb_X7_round_8_103 {g : fx_Geo} {p : Program} {l : Launch} {e : Env} {s : State} {m : MethodId} {args : Array Value} {below : List Frame} {meth : Method} {c : Code} (C : fx_Cx g p s m args meth c RX7 cX7_round 8 none) (k23 : Int32 → Int32 → Int32 → Int32 → Int32 → fx_Mem → Prop) (k161 : Int32 → Int32 → fx_Mem → Prop) (Q : fx_Mem → Prop) (hk23 : ∀ (x1 : Int32) (x2 : Int32) (x3 : Int32) (x4 : Int32) (x5 : Int32) (M : fx_Mem), k23 x1 x2 x3 x4 x5 M → ∀ (H : Heap) (locs : List Loc) (ls : Array Slot), fx_H g s M H locs → lv_has ls 8 [(0, .ref (fx_a g 8)), (1, .int x1), (2, .int x2), (3, .int x3), (4, .int x4), (5, .int x5)] → W p l e rm_X7_round_8 s m args below meth c H locs 0 0 (MQ below (va_Qv Q (fx_Pw g) (fx_A g)) args s 0 0 (fx_A g)) (F0 m 23 ls [])) (hk161 : ∀ (x1 : Int32) (x4 : Int32) (M : fx_Mem), k161 x1 x4 M → ∀ (H : Heap) (locs : List Loc) (ls : Array Slot), fx_H g s M H locs → lv_has ls 8 [(0, .ref (fx_a g 8)), (1, .int x1), (4, .int x4)] → W p l e rm_X7_round_8 s m args below meth c H locs 0 0 (MQ below (va_Qv Q (fx_Pw g) (fx_A g)) args s 0 0 (fx_A g)) (F0 m 161 ls [])) (x1 : Int32) (x2 : Int32) (x3 : Int32) (x4 : Int32) (x5 : Int32) (s0 : Int32) (s1 : Int32) (M : fx_Mem) (h : wb_X7_round_8_103 k23 k161 Q x1 x2 x3 x4 x5 s0 s1 M) (H : Heap) (locs : List Loc) (ls : Array Slot) (hH : fx_H g s M H locs) (hl : lv_has ls 8 [(0, .ref (fx_a g 8)), (1, .int x1), (2, .int x2), (3, .int x3), (4, .int x4), (5, .int x5)]) : W p l e rm_X7_round_8 s m args below meth c H locs 0 0 (MQ below (va_Qv Q (fx_Pw g) (fx_A g)) args s 0 0 (fx_A g)) (F0 m 103 ls [.int s0, .int s1]) := by
  obtain ⟨hx, hb, hr, hml, hown, hts, hlocks, hsz, hK, hG, hSt⟩ := id C
  unfold wb_X7_round_8_103 at h
  refine lv_iadd hx hb dX7_round_103 ?_
  refine lv_topi (fun v1 ev1 => ?_)
  replace h := h v1 ev1
  refine lv_istore (lv' := [(7, .int v1), (0, .ref (fx_a g 8)), (1, .int x1), (2, .int x2), (3, .int x3), (4, .int x4), (5, .int x5)]) hx hb dX7_round_104 hl (by decide) rfl (fun ls hl => ?_)
  refine lv_aload_n hx hb dX7_round_106 rfl (lv_at hl 1 rfl) ?_
  refine fx_get C hH (fx_w8 g M) rfl in_X7 15 (by decide) u_838 rfl rfl dX7_round_107 ?_
  refine lv_iload hx hb dX7_round_110 (lv_at hl 6 rfl) ?_
  refine lv_aload_n hx hb dX7_round_112 rfl (lv_at hl 1 rfl) ?_
  refine lv_aload_n hx hb dX7_round_113 rfl (lv_at hl 1 rfl) ?_
  refine fx_get C hH (fx_w8 g M) rfl in_X7 14 (by decide) u_837 rfl rfl dX7_round_114 ?_
  refine lv_iload hx hb dX7_round_117 (lv_at hl 6 rfl) ?_
  obtain ⟨hi2, h⟩ := h
  refine fx_iald (j := x5.toNatClampNeg) C hH 39 (fx_w39 g M) rfl hi2 dX7_round_119 ?_
  refine lv_iload hx hb dX7_round_120 (lv_at hl 0 rfl) ?_
  refine fx_ci hH (fx_runV (As := [.int (M.2.1 39 x5.toNatClampNeg), .int v1]) (rest := [.int x5, .ref (fx_a g 40)]) C hH (c_X7_clamped_8 l C.2.2.2.2.2.2.2.2.2.1 (M.2.1 39 x5.toNatClampNeg) v1 M _ h) (fx_cwV 2 hts u_1050 u_1052 us_35 u_8 u_1053 rfl rfl (by decide +kernel) ⟨(Nat.le_of_ble_eq_true rfl), (Nat.le_of_ble_eq_true rfl)⟩) (fx_w8 g M) rfl rfl hl.1 rfl (Nat.le_of_ble_eq_true rfl) dX7_round_122 ⟨(Nat.le_of_ble_eq_true rfl), (Nat.le_of_ble_eq_true rfl)⟩) (fun r4 M3 H locs h hH => ?_)
  obtain ⟨hi5, h⟩ := h
  refine fx_iast (j := x5.toNatClampNeg) (M' := fx_sa M3 40 x5.toNatClampNeg r4) C hH 40 rfl (fx_w40 g M3) (fx_p40 g M3 _) hi5 dX7_round_125 (fun H locs hH => ?_)
  generalize eM6 : fx_sa M3 40 x5.toNatClampNeg r4 = M6 at hH
  replace h := h M6 eM6.symm
  refine lv_aload_n hx hb dX7_round_126 rfl (lv_at hl 1 rfl) ?_
  refine fx_get C hH (fx_w8 g M6) rfl in_X7 32 (by decide) u_855 rfl rfl dX7_round_127 ?_
  refine lv_iload hx hb dX7_round_130 (lv_at hl 6 rfl) ?_
  refine lv_aload_n hx hb dX7_round_132 rfl (lv_at hl 1 rfl) ?_
  refine fx_get C hH (fx_w8 g M6) rfl in_X7 15 (by decide) u_838 rfl rfl dX7_round_133 ?_
  refine lv_iload hx hb dX7_round_136 (lv_at hl 6 rfl) ?_
  obtain ⟨hi7, h⟩ := h
  refine fx_iald (j := x5.toNatClampNeg) C hH 40 (fx_w40 g M6) rfl hi7 dX7_round_138 ?_
  refine lv_iload hx hb dX7_round_139 (lv_at hl 0 rfl) ?_
  refine lv_isub hx hb dX7_round_141 ?_
  obtain ⟨hi8, h⟩ := h
  refine fx_iast (j := x5.toNatClampNeg) (M' := fx_sa M6 55 x5.toNatClampNeg ((M6.2.1 40 x5.toNatClampNeg) - v1)) C hH 55 rfl (fx_w55 g M6) (fx_p55 g M6 _) hi8 dX7_round_142 (fun H locs hH => ?_)
  generalize eM9 : fx_sa M6 55 x5.toNatClampNeg ((M6.2.1 40 x5.toNatClampNeg) - v1) = M9 at hH
  replace h := h M9 eM9.symm
  refine lv_iload hx hb dX7_round_143 (lv_at hl 5 rfl) ?_
  refine lv_aload_n hx hb dX7_round_145 rfl (lv_at hl 1 rfl) ?_
  refine fx_get C hH (fx_w8 g M9) rfl in_X7 32 (by decide) u_855 rfl rfl dX7_round_146 ?_
  refine lv_iload hx hb dX7_round_149 (lv_at hl 6 rfl) ?_
  obtain ⟨hi10, h⟩ := h
  refine fx_iald (j := x5.toNatClampNeg) C hH 55 (fx_w55 g M9) rfl hi10 dX7_round_151 ?_
  refine lv_iadd hx hb dX7_round_152 ?_
  refine lv_topi (fun v11 ev11 => ?_)
  replace h := h v11 ev11
  refine lv_istore (lv' := [(4, .int v11), (7, .int v1), (0, .ref (fx_a g 8)), (1, .int x1), (2, .int x2), (3, .int x3), (5, .int x5)]) hx hb dX7_round_153 hl (by decide) rfl (fun ls hl => ?_)
  exact tb_X7_round_8_155 C k23 k161 Q hk23 hk161 x1 x2 x3 v11 x5 M9 h  H locs ls hH (lv_sub hl [2, 3, 4, 5, 0, 6] rfl)
def wb_X7_round_8_77 (k23 : Int32 → Int32 → Int32 → Int32 → Int32 → fx_Mem → Prop) (k161 : Int32 → Int32 → fx_Mem → Prop) (Q : fx_Mem → Prop) (x1 : Int32) (x2 : Int32) (x3 : Int32) (x4 : Int32) (x5 : Int32) (s0 : Int32) (M : fx_Mem) : Prop :=
  vp_in x5 20 ∧ wp_X7_of_8 (M.2.1 39 x5.toNatClampNeg) 0 M (fun r3 M2 => ((x2 = 0 → wb_X7_round_8_103 k23 k161 Q x1 x2 x3 x4 x5 (-s0) r3 M2) ∧ (¬ x2 = 0 → wb_X7_round_8_103 k23 k161 Q x1 x2 x3 x4 x5 s0 r3 M2)))
set_option maxHeartbeats 4000000 in
set_option maxRecDepth 100000 in
theorem tb_X7_round_8_77 {g : fx_Geo} {p : Program} {l : Launch} {e : Env} {s : State} {m : MethodId} {args : Array Value} {below : List Frame} {meth : Method} {c : Code} (C : fx_Cx g p s m args meth c RX7 cX7_round 8 none) (k23 : Int32 → Int32 → Int32 → Int32 → Int32 → fx_Mem → Prop) (k161 : Int32 → Int32 → fx_Mem → Prop) (Q : fx_Mem → Prop) (hk23 : ∀ (x1 : Int32) (x2 : Int32) (x3 : Int32) (x4 : Int32) (x5 : Int32) (M : fx_Mem), k23 x1 x2 x3 x4 x5 M → ∀ (H : Heap) (locs : List Loc) (ls : Array Slot), fx_H g s M H locs → lv_has ls 8 [(0, .ref (fx_a g 8)), (1, .int x1), (2, .int x2), (3, .int x3), (4, .int x4), (5, .int x5)] → W p l e rm_X7_round_8 s m args below meth c H locs 0 0 (MQ below (va_Qv Q (fx_Pw g) (fx_A g)) args s 0 0 (fx_A g)) (F0 m 23 ls [])) (hk161 : ∀ (x1 : Int32) (x4 : Int32) (M : fx_Mem), k161 x1 x4 M → ∀ (H : Heap) (locs : List Loc) (ls : Array Slot), fx_H g s M H locs → lv_has ls 8 [(0, .ref (fx_a g 8)), (1, .int x1), (4, .int x4)] → W p l e rm_X7_round_8 s m args below meth c H locs 0 0 (MQ below (va_Qv Q (fx_Pw g) (fx_A g)) args s 0 0 (fx_A g)) (F0 m 161 ls [])) (x1 : Int32) (x2 : Int32) (x3 : Int32) (x4 : Int32) (x5 : Int32) (s0 : Int32) (M : fx_Mem) (h : wb_X7_round_8_77 k23 k161 Q x1 x2 x3 x4 x5 s0 M) (H : Heap) (locs : List Loc) (ls : Array Slot) (hH : fx_H g s M H locs) (hl : lv_has ls 8 [(0, .ref (fx_a g 8)), (1, .int x1), (2, .int x2), (3, .int x3), (4, .int x4), (5, .int x5)]) : W p l e rm_X7_round_8 s m args below meth c H locs 0 0 (MQ below (va_Qv Q (fx_Pw g) (fx_A g)) args s 0 0 (fx_A g)) (F0 m 77 ls [.int s0]) := by
  obtain ⟨hx, hb, hr, hml, hown, hts, hlocks, hsz, hK, hG, hSt⟩ := id C
  unfold wb_X7_round_8_77 at h
  refine lv_istore (lv' := [(6, .int s0), (0, .ref (fx_a g 8)), (1, .int x1), (2, .int x2), (3, .int x3), (4, .int x4), (5, .int x5)]) hx hb dX7_round_77 hl (by decide) rfl (fun ls hl => ?_)
  refine lv_aload_n hx hb dX7_round_79 rfl (lv_at hl 1 rfl) ?_
  refine lv_aload_n hx hb dX7_round_80 rfl (lv_at hl 1 rfl) ?_
  refine fx_get C hH (fx_w8 g M) rfl in_X7 14 (by decide) u_837 rfl rfl dX7_round_81 ?_
  refine lv_iload hx hb dX7_round_84 (lv_at hl 6 rfl) ?_
  obtain ⟨hi1, h⟩ := h
  refine fx_iald (j := x5.toNatClampNeg) C hH 39 (fx_w39 g M) rfl hi1 dX7_round_86 ?_
  refine lv_iconst (v := 0) hx hb dX7_round_87 (by decide) ?_
  refine fx_ci hH (fx_runV (As := [.int (M.2.1 39 x5.toNatClampNeg), .int 0]) (rest := []) C hH (c_X7_of_8 l C.2.2.2.2.2.2.2.2.2.1 (M.2.1 39 x5.toNatClampNeg) 0 M _ h) (fx_cwV 2 hts u_997 u_999 us_27 u_8 u_1000 rfl rfl (by decide +kernel) ⟨(Nat.le_of_ble_eq_true rfl), (Nat.le_of_ble_eq_true rfl)⟩) (fx_w8 g M) rfl rfl hl.1 rfl (Nat.le_of_ble_eq_true rfl) dX7_round_88 ⟨(Nat.le_of_ble_eq_true rfl), (Nat.le_of_ble_eq_true rfl)⟩) (fun r3 M2 H locs h hH => ?_)
  refine lv_iload_n hx hb dX7_round_91 rfl (lv_at hl 3 rfl) ?_
  refine lv_if_eq (tgt := 100) hx hb dX7_round_92 (by decide) (fun c4 => ?_) (fun c4 => ?_)
  · replace h := h.1 c4
    refine lv_iload hx hb dX7_round_100 (lv_at hl 0 rfl) ?_
    refine lv_ineg hx hb dX7_round_102 ?_
    exact tb_X7_round_8_103 C k23 k161 Q hk23 hk161 x1 x2 x3 x4 x5 (-s0) r3 M2 h  H locs ls hH (lv_sub hl [1, 2, 3, 4, 5, 6] rfl)
  · replace h := h.2 c4
    refine lv_iload hx hb dX7_round_95 (lv_at hl 0 rfl) ?_
    refine lv_goto (tgt := 103) hx hb dX7_round_97 (by decide) ?_
    exact tb_X7_round_8_103 C k23 k161 Q hk23 hk161 x1 x2 x3 x4 x5 s0 r3 M2 h  H locs ls hH (lv_sub hl [1, 2, 3, 4, 5, 6] rfl)
def wb_X7_round_8_23 (k23 : Int32 → Int32 → Int32 → Int32 → Int32 → fx_Mem → Prop) (k161 : Int32 → Int32 → fx_Mem → Prop) (Q : fx_Mem → Prop) (x1 : Int32) (x2 : Int32) (x3 : Int32) (x4 : Int32) (x5 : Int32) (M : fx_Mem) : Prop :=
  vp_in x1 20 ∧ vp_in x1 20 ∧ (((M.2.1 47 x1.toNatClampNeg) + (M.2.1 48 x1.toNatClampNeg) ≤ x5 → k161 x1 x4 M) ∧ (¬ (M.2.1 47 x1.toNatClampNeg) + (M.2.1 48 x1.toNatClampNeg) ≤ x5 → vp_in x5 20 ∧ ((M.2.1 46 x5.toNatClampNeg = 0 → ((x3 = 0 → wb_X7_round_8_77 k23 k161 Q x1 x2 x3 x4 x5 0 M) ∧ (¬ x3 = 0 → vp_in x1 20 ∧ vp_in (x5 - (M.2.1 47 x1.toNatClampNeg)) 20 ∧ wb_X7_round_8_77 k23 k161 Q x1 x2 x3 x4 x5 ((M.2.2 37 ((x5 - (M.2.1 47 x1.toNatClampNeg)).toNatClampNeg)).toInt32) M))) ∧ (¬ M.2.1 46 x5.toNatClampNeg = 0 → wb_X7_round_8_155 k23 k161 Q x1 x2 x3 x4 x5 M))))
set_option maxHeartbeats 4000000 in
set_option maxRecDepth 100000 in
theorem tb_X7_round_8_23 {g : fx_Geo} {p : Program} {l : Launch} {e : Env} {s : State} {m : MethodId} {args : Array Value} {below : List Frame} {meth : Method} {c : Code} (C : fx_Cx g p s m args meth c RX7 cX7_round 8 none) (k23 : Int32 → Int32 → Int32 → Int32 → Int32 → fx_Mem → Prop) (k161 : Int32 → Int32 → fx_Mem → Prop) (Q : fx_Mem → Prop) (hk23 : ∀ (x1 : Int32) (x2 : Int32) (x3 : Int32) (x4 : Int32) (x5 : Int32) (M : fx_Mem), k23 x1 x2 x3 x4 x5 M → ∀ (H : Heap) (locs : List Loc) (ls : Array Slot), fx_H g s M H locs → lv_has ls 8 [(0, .ref (fx_a g 8)), (1, .int x1), (2, .int x2), (3, .int x3), (4, .int x4), (5, .int x5)] → W p l e rm_X7_round_8 s m args below meth c H locs 0 0 (MQ below (va_Qv Q (fx_Pw g) (fx_A g)) args s 0 0 (fx_A g)) (F0 m 23 ls [])) (hk161 : ∀ (x1 : Int32) (x4 : Int32) (M : fx_Mem), k161 x1 x4 M → ∀ (H : Heap) (locs : List Loc) (ls : Array Slot), fx_H g s M H locs → lv_has ls 8 [(0, .ref (fx_a g 8)), (1, .int x1), (4, .int x4)] → W p l e rm_X7_round_8 s m args below meth c H locs 0 0 (MQ below (va_Qv Q (fx_Pw g) (fx_A g)) args s 0 0 (fx_A g)) (F0 m 161 ls [])) (x1 : Int32) (x2 : Int32) (x3 : Int32) (x4 : Int32) (x5 : Int32) (M : fx_Mem) (h : wb_X7_round_8_23 k23 k161 Q x1 x2 x3 x4 x5 M) (H : Heap) (locs : List Loc) (ls : Array Slot) (hH : fx_H g s M H locs) (hl : lv_has ls 8 [(0, .ref (fx_a g 8)), (1, .int x1), (2, .int x2), (3, .int x3), (4, .int x4), (5, .int x5)]) : W p l e rm_X7_round_8 s m args below meth c H locs 0 0 (MQ below (va_Qv Q (fx_Pw g) (fx_A g)) args s 0 0 (fx_A g)) (F0 m 23 ls []) := by
  obtain ⟨hx, hb, hr, hml, hown, hts, hlocks, hsz, hK, hG, hSt⟩ := id C
  unfold wb_X7_round_8_23 at h
  refine lv_iload hx hb dX7_round_23 (lv_at hl 5 rfl) ?_
  refine lv_aload_n hx hb dX7_round_25 rfl (lv_at hl 0 rfl) ?_
  refine fx_get C hH (fx_w8 g M) rfl in_X7 22 (by decide) u_845 rfl rfl dX7_round_26 ?_
  refine lv_iload_n hx hb dX7_round_29 rfl (lv_at hl 1 rfl) ?_
  obtain ⟨hi1, h⟩ := h
  refine fx_iald (j := x1.toNatClampNeg) C hH 47 (fx_w47 g M) rfl hi1 dX7_round_30 ?_
  refine lv_aload_n hx hb dX7_round_31 rfl (lv_at hl 0 rfl) ?_
  refine fx_get C hH (fx_w8 g M) rfl in_X7 23 (by decide) u_846 rfl rfl dX7_round_32 ?_
  refine lv_iload_n hx hb dX7_round_35 rfl (lv_at hl 1 rfl) ?_
  obtain ⟨hi2, h⟩ := h
  refine fx_iald (j := x1.toNatClampNeg) C hH 48 (fx_w48 g M) rfl hi2 dX7_round_36 ?_
  refine lv_iadd hx hb dX7_round_37 ?_
  refine lv_icmp_ge (tgt := 161) hx hb dX7_round_38 (by decide) (fun c3 => ?_) (fun c3 => ?_)
  · replace h := h.1 c3
    exact hk161 x1 x4 M h  H locs ls hH (lv_sub hl [0, 1, 4] rfl)
  · replace h := h.2 c3
    refine lv_aload_n hx hb dX7_round_41 rfl (lv_at hl 0 rfl) ?_
    refine fx_get C hH (fx_w8 g M) rfl in_X7 21 (by decide) u_844 rfl rfl dX7_round_42 ?_
    refine lv_iload hx hb dX7_round_45 (lv_at hl 5 rfl) ?_
    obtain ⟨hi4, h⟩ := h
    refine fx_zald (j := x5.toNatClampNeg) C hH 46 (fx_w46 g M) rfl hi4 dX7_round_47 ?_
    refine lv_if_eq (tgt := 54) hx hb dX7_round_48 (by decide) (fun c5 => ?_) (fun c5 => ?_)
    · replace h := h.1 c5
      refine lv_iload_n hx hb dX7_round_54 rfl (lv_at hl 3 rfl) ?_
      refine lv_if_eq (tgt := 76) hx hb dX7_round_55 (by decide) (fun c6 => ?_) (fun c6 => ?_)
      · replace h := h.1 c6
        refine lv_iconst (v := 0) hx hb dX7_round_76 (by decide) ?_
        exact tb_X7_round_8_77 C k23 k161 Q hk23 hk161 x1 x2 x3 x4 x5 0 M h  H locs ls hH (lv_sub hl [0, 1, 2, 3, 4, 5] rfl)
      · replace h := h.2 c6
        refine lv_aload_n hx hb dX7_round_58 rfl (lv_at hl 0 rfl) ?_
        refine fx_get C hH (fx_w8 g M) rfl in_X7 12 (by decide) u_835 rfl rfl dX7_round_59 ?_
        refine lv_iload hx hb dX7_round_62 (lv_at hl 5 rfl) ?_
        refine lv_aload_n hx hb dX7_round_64 rfl (lv_at hl 0 rfl) ?_
        refine fx_get C hH (fx_w8 g M) rfl in_X7 22 (by decide) u_845 rfl rfl dX7_round_65 ?_
        refine lv_iload_n hx hb dX7_round_68 rfl (lv_at hl 1 rfl) ?_
        obtain ⟨hi7, h⟩ := h
        refine fx_iald (j := x1.toNatClampNeg) C hH 47 (fx_w47 g M) rfl hi7 dX7_round_69 ?_
        refine lv_isub hx hb dX7_round_70 ?_
        obtain ⟨hi8, h⟩ := h
        refine fx_lald (j := (x5 - (M.2.1 47 x1.toNatClampNeg)).toNatClampNeg) C hH 37 (fx_w37 g M) rfl hi8 dX7_round_71 ?_
        refine lv_l2i hx hb dX7_round_72 rfl ?_
        refine lv_goto (tgt := 77) hx hb dX7_round_73 (by decide) ?_
        exact tb_X7_round_8_77 C k23 k161 Q hk23 hk161 x1 x2 x3 x4 x5 ((M.2.2 37 ((x5 - (M.2.1 47 x1.toNatClampNeg)).toNatClampNeg)).toInt32) M h  H locs ls hH (lv_sub hl [0, 1, 2, 3, 4, 5] rfl)
    · replace h := h.2 c5
      refine lv_goto (tgt := 155) hx hb dX7_round_51 (by decide) ?_
      exact tb_X7_round_8_155 C k23 k161 Q hk23 hk161 x1 x2 x3 x4 x5 M h  H locs ls hH (lv_sub hl [0, 1, 2, 3, 4, 5] rfl)
def wl_X7_round_8_23 (k161 : Int32 → Int32 → fx_Mem → Prop) (Q : fx_Mem → Prop) (n : Nat) (x1 : Int32) (x2 : Int32) (x3 : Int32) (x4 : Int32) (x5 : Int32) (M : fx_Mem) : Prop :=
  fx_lp (α := Int32 × Int32 × Int32 × Int32 × Int32 × fx_Mem) (fun k a => wb_X7_round_8_23 (fun x1 x2 x3 x4 x5 M => k (x1, x2, x3, x4, x5, M)) k161 Q a.1 a.2.1 a.2.2.1 a.2.2.2.1 a.2.2.2.2.1 a.2.2.2.2.2) n (x1, x2, x3, x4, x5, M)
set_option maxHeartbeats 4000000 in
theorem tl_X7_round_8_23 {g : fx_Geo} {p : Program} {l : Launch} {e : Env} {s : State} {m : MethodId} {args : Array Value} {below : List Frame} {meth : Method} {c : Code} (C : fx_Cx g p s m args meth c RX7 cX7_round 8 none) (k161 : Int32 → Int32 → fx_Mem → Prop) (Q : fx_Mem → Prop) (hk161 : ∀ (x1 : Int32) (x4 : Int32) (M : fx_Mem), k161 x1 x4 M → ∀ (H : Heap) (locs : List Loc) (ls : Array Slot), fx_H g s M H locs → lv_has ls 8 [(0, .ref (fx_a g 8)), (1, .int x1), (4, .int x4)] → W p l e rm_X7_round_8 s m args below meth c H locs 0 0 (MQ below (va_Qv Q (fx_Pw g) (fx_A g)) args s 0 0 (fx_A g)) (F0 m 161 ls [])) : ∀ (n : Nat) (x1 : Int32) (x2 : Int32) (x3 : Int32) (x4 : Int32) (x5 : Int32) (M : fx_Mem), wl_X7_round_8_23 k161 Q n x1 x2 x3 x4 x5 M → ∀ (H : Heap) (locs : List Loc) (ls : Array Slot), fx_H g s M H locs → lv_has ls 8 [(0, .ref (fx_a g 8)), (1, .int x1), (2, .int x2), (3, .int x3), (4, .int x4), (5, .int x5)] → W p l e rm_X7_round_8 s m args below meth c H locs 0 0 (MQ below (va_Qv Q (fx_Pw g) (fx_A g)) args s 0 0 (fx_A g)) (F0 m 23 ls []) := by
  intro n
  induction n with
  | zero => intro x1 x2 x3 x4 x5 M h; exact False.elim h
  | succ n ih => intro x1 x2 x3 x4 x5 M h  H locs ls hH hl; exact tb_X7_round_8_23 C (wl_X7_round_8_23 k161 Q n) k161 Q ih hk161 x1 x2 x3 x4 x5 M h  H locs ls hH hl
def wb_X7_round_8_242 (k169 : Int32 → Int32 → Int32 → fx_Mem → Prop) (Q : fx_Mem → Prop) (x1 : Int32) (x4 : Int32) (x5 : Int32) (M : fx_Mem) : Prop :=
  ∀ v1 : Int32, v1 = x5 + 1 → k169 x1 x4 v1 M
set_option maxHeartbeats 4000000 in
set_option maxRecDepth 100000 in
theorem tb_X7_round_8_242 {g : fx_Geo} {p : Program} {l : Launch} {e : Env} {s : State} {m : MethodId} {args : Array Value} {below : List Frame} {meth : Method} {c : Code} (C : fx_Cx g p s m args meth c RX7 cX7_round 8 none) (k169 : Int32 → Int32 → Int32 → fx_Mem → Prop) (Q : fx_Mem → Prop) (hk169 : ∀ (x1 : Int32) (x4 : Int32) (x5 : Int32) (M : fx_Mem), k169 x1 x4 x5 M → ∀ (H : Heap) (locs : List Loc) (ls : Array Slot), fx_H g s M H locs → lv_has ls 8 [(0, .ref (fx_a g 8)), (1, .int x1), (4, .int x4), (5, .int x5)] → W p l e rm_X7_round_8 s m args below meth c H locs 0 0 (MQ below (va_Qv Q (fx_Pw g) (fx_A g)) args s 0 0 (fx_A g)) (F0 m 169 ls [])) (x1 : Int32) (x4 : Int32) (x5 : Int32) (M : fx_Mem) (h : wb_X7_round_8_242 k169 Q x1 x4 x5 M) (H : Heap) (locs : List Loc) (ls : Array Slot) (hH : fx_H g s M H locs) (hl : lv_has ls 8 [(0, .ref (fx_a g 8)), (1, .int x1), (4, .int x4), (5, .int x5)]) : W p l e rm_X7_round_8 s m args below meth c H locs 0 0 (MQ below (va_Qv Q (fx_Pw g) (fx_A g)) args s 0 0 (fx_A g)) (F0 m 242 ls []) := by
  obtain ⟨hx, hb, hr, hml, hown, hts, hlocks, hsz, hK, hG, hSt⟩ := id C
  unfold wb_X7_round_8_242 at h
  obtain ⟨v1, ev1⟩ : ∃ z : Int32, z = x5 + 1 := ⟨_, rfl⟩
  refine lv_iinc (v := v1) (lv' := [(5, .int v1), (0, .ref (fx_a g 8)), (1, .int x1), (4, .int x4)]) hx hb dX7_round_242 hl (k := 3) rfl (by rw [ev1]; rfl) (by decide) rfl (fun ls hl => ?_)
  replace h := h v1 ev1
  refine lv_goto (tgt := 169) hx hb dX7_round_245 (by decide) ?_
  exact hk169 x1 x4 v1 M h  H locs ls hH (lv_sub hl [1, 2, 3, 0] rfl)
def wb_X7_round_8_241 (k169 : Int32 → Int32 → Int32 → fx_Mem → Prop) (Q : fx_Mem → Prop) (x1 : Int32) (x4 : Int32) (x5 : Int32) (s0 : Int32) (s1 : Int32) (M : fx_Mem) : Prop :=
  vp_in s1 20 ∧ ∀ M2 : fx_Mem, M2 = fx_sa M 46 s1.toNatClampNeg (vp_nar .boolean s0) → wb_X7_round_8_242 k169 Q x1 x4 x5 M2
set_option maxHeartbeats 4000000 in
set_option maxRecDepth 100000 in
theorem tb_X7_round_8_241 {g : fx_Geo} {p : Program} {l : Launch} {e : Env} {s : State} {m : MethodId} {args : Array Value} {below : List Frame} {meth : Method} {c : Code} (C : fx_Cx g p s m args meth c RX7 cX7_round 8 none) (k169 : Int32 → Int32 → Int32 → fx_Mem → Prop) (Q : fx_Mem → Prop) (hk169 : ∀ (x1 : Int32) (x4 : Int32) (x5 : Int32) (M : fx_Mem), k169 x1 x4 x5 M → ∀ (H : Heap) (locs : List Loc) (ls : Array Slot), fx_H g s M H locs → lv_has ls 8 [(0, .ref (fx_a g 8)), (1, .int x1), (4, .int x4), (5, .int x5)] → W p l e rm_X7_round_8 s m args below meth c H locs 0 0 (MQ below (va_Qv Q (fx_Pw g) (fx_A g)) args s 0 0 (fx_A g)) (F0 m 169 ls [])) (x1 : Int32) (x4 : Int32) (x5 : Int32) (s0 : Int32) (s1 : Int32) (M : fx_Mem) (h : wb_X7_round_8_241 k169 Q x1 x4 x5 s0 s1 M) (H : Heap) (locs : List Loc) (ls : Array Slot) (hH : fx_H g s M H locs) (hl : lv_has ls 8 [(0, .ref (fx_a g 8)), (1, .int x1), (4, .int x4), (5, .int x5)]) : W p l e rm_X7_round_8 s m args below meth c H locs 0 0 (MQ below (va_Qv Q (fx_Pw g) (fx_A g)) args s 0 0 (fx_A g)) (F0 m 241 ls [.int s0, .int s1, .ref (fx_a g 46)]) := by
  obtain ⟨hx, hb, hr, hml, hown, hts, hlocks, hsz, hK, hG, hSt⟩ := id C
  unfold wb_X7_round_8_241 at h
  obtain ⟨hi1, h⟩ := h
  refine fx_zast (j := s1.toNatClampNeg) (M' := fx_sa M 46 s1.toNatClampNeg (vp_nar .boolean s0)) C hH 46 rfl (fx_w46 g M) (fx_p46 g M _) hi1 dX7_round_241 (fun H locs hH => ?_)
  generalize eM2 : fx_sa M 46 s1.toNatClampNeg (vp_nar .boolean s0) = M2 at hH
  replace h := h M2 eM2.symm
  exact tb_X7_round_8_242 C k169 Q hk169 x1 x4 x5 M2 h  H locs ls hH (lv_sub hl [0, 1, 2, 3] rfl)
def wb_X7_round_8_236 (k169 : Int32 → Int32 → Int32 → fx_Mem → Prop) (Q : fx_Mem → Prop) (x1 : Int32) (x4 : Int32) (x5 : Int32) (s0 : Int32) (M : fx_Mem) : Prop :=
  wb_X7_round_8_241 k169 Q x1 x4 x5 1 s0 M
set_option maxHeartbeats 4000000 in
set_option maxRecDepth 100000 in
theorem tb_X7_round_8_236 {g : fx_Geo} {p : Program} {l : Launch} {e : Env} {s : State} {m : MethodId} {args : Array Value} {below : List Frame} {meth : Method} {c : Code} (C : fx_Cx g p s m args meth c RX7 cX7_round 8 none) (k169 : Int32 → Int32 → Int32 → fx_Mem → Prop) (Q : fx_Mem → Prop) (hk169 : ∀ (x1 : Int32) (x4 : Int32) (x5 : Int32) (M : fx_Mem), k169 x1 x4 x5 M → ∀ (H : Heap) (locs : List Loc) (ls : Array Slot), fx_H g s M H locs → lv_has ls 8 [(0, .ref (fx_a g 8)), (1, .int x1), (4, .int x4), (5, .int x5)] → W p l e rm_X7_round_8 s m args below meth c H locs 0 0 (MQ below (va_Qv Q (fx_Pw g) (fx_A g)) args s 0 0 (fx_A g)) (F0 m 169 ls [])) (x1 : Int32) (x4 : Int32) (x5 : Int32) (s0 : Int32) (M : fx_Mem) (h : wb_X7_round_8_236 k169 Q x1 x4 x5 s0 M) (H : Heap) (locs : List Loc) (ls : Array Slot) (hH : fx_H g s M H locs) (hl : lv_has ls 8 [(0, .ref (fx_a g 8)), (1, .int x1), (4, .int x4), (5, .int x5)]) : W p l e rm_X7_round_8 s m args below meth c H locs 0 0 (MQ below (va_Qv Q (fx_Pw g) (fx_A g)) args s 0 0 (fx_A g)) (F0 m 236 ls [.int s0, .ref (fx_a g 46)]) := by
  obtain ⟨hx, hb, hr, hml, hown, hts, hlocks, hsz, hK, hG, hSt⟩ := id C
  unfold wb_X7_round_8_236 at h
  refine lv_iconst (v := 1) hx hb dX7_round_236 (by decide) ?_
  refine lv_goto (tgt := 241) hx hb dX7_round_237 (by decide) ?_
  exact tb_X7_round_8_241 C k169 Q hk169 x1 x4 x5 1 s0 M h  H locs ls hH (lv_sub hl [0, 1, 2, 3] rfl)
def wb_X7_round_8_240 (k169 : Int32 → Int32 → Int32 → fx_Mem → Prop) (Q : fx_Mem → Prop) (x1 : Int32) (x4 : Int32) (x5 : Int32) (s0 : Int32) (M : fx_Mem) : Prop :=
  wb_X7_round_8_241 k169 Q x1 x4 x5 0 s0 M
set_option maxHeartbeats 4000000 in
set_option maxRecDepth 100000 in
theorem tb_X7_round_8_240 {g : fx_Geo} {p : Program} {l : Launch} {e : Env} {s : State} {m : MethodId} {args : Array Value} {below : List Frame} {meth : Method} {c : Code} (C : fx_Cx g p s m args meth c RX7 cX7_round 8 none) (k169 : Int32 → Int32 → Int32 → fx_Mem → Prop) (Q : fx_Mem → Prop) (hk169 : ∀ (x1 : Int32) (x4 : Int32) (x5 : Int32) (M : fx_Mem), k169 x1 x4 x5 M → ∀ (H : Heap) (locs : List Loc) (ls : Array Slot), fx_H g s M H locs → lv_has ls 8 [(0, .ref (fx_a g 8)), (1, .int x1), (4, .int x4), (5, .int x5)] → W p l e rm_X7_round_8 s m args below meth c H locs 0 0 (MQ below (va_Qv Q (fx_Pw g) (fx_A g)) args s 0 0 (fx_A g)) (F0 m 169 ls [])) (x1 : Int32) (x4 : Int32) (x5 : Int32) (s0 : Int32) (M : fx_Mem) (h : wb_X7_round_8_240 k169 Q x1 x4 x5 s0 M) (H : Heap) (locs : List Loc) (ls : Array Slot) (hH : fx_H g s M H locs) (hl : lv_has ls 8 [(0, .ref (fx_a g 8)), (1, .int x1), (4, .int x4), (5, .int x5)]) : W p l e rm_X7_round_8 s m args below meth c H locs 0 0 (MQ below (va_Qv Q (fx_Pw g) (fx_A g)) args s 0 0 (fx_A g)) (F0 m 240 ls [.int s0, .ref (fx_a g 46)]) := by
  obtain ⟨hx, hb, hr, hml, hown, hts, hlocks, hsz, hK, hG, hSt⟩ := id C
  unfold wb_X7_round_8_240 at h
  refine lv_iconst (v := 0) hx hb dX7_round_240 (by decide) ?_
  exact tb_X7_round_8_241 C k169 Q hk169 x1 x4 x5 0 s0 M h  H locs ls hH (lv_sub hl [0, 1, 2, 3] rfl)
def wb_X7_round_8_169 (k169 : Int32 → Int32 → Int32 → fx_Mem → Prop) (Q : fx_Mem → Prop) (x1 : Int32) (x4 : Int32) (x5 : Int32) (M : fx_Mem) : Prop :=
  vp_in x1 20 ∧ vp_in x1 20 ∧ (((M.2.1 47 x1.toNatClampNeg) + (M.2.1 48 x1.toNatClampNeg) ≤ x5 → Q M) ∧ (¬ (M.2.1 47 x1.toNatClampNeg) + (M.2.1 48 x1.toNatClampNeg) ≤ x5 → vp_in x5 20 ∧ ((M.2.1 46 x5.toNatClampNeg = 0 → ((x4 = 0 → wb_X7_round_8_236 k169 Q x1 x4 x5 x5 M) ∧ (¬ x4 = 0 → ((x4 ≤ 0 → vp_in x5 20 ∧ ((0 ≤ M.2.1 55 x5.toNatClampNeg → wb_X7_round_8_240 k169 Q x1 x4 x5 x5 M) ∧ (¬ 0 ≤ M.2.1 55 x5.toNatClampNeg → wb_X7_round_8_236 k169 Q x1 x4 x5 x5 M))) ∧ (¬ x4 ≤ 0 → vp_in x5 20 ∧ ((M.2.1 55 x5.toNatClampNeg ≤ 0 → wb_X7_round_8_240 k169 Q x1 x4 x5 x5 M) ∧ (¬ M.2.1 55 x5.toNatClampNeg ≤ 0 → wb_X7_round_8_236 k169 Q x1 x4 x5 x5 M))))))) ∧ (¬ M.2.1 46 x5.toNatClampNeg = 0 → wb_X7_round_8_242 k169 Q x1 x4 x5 M))))
set_option maxHeartbeats 4000000 in
set_option maxRecDepth 100000 in
theorem tb_X7_round_8_169 {g : fx_Geo} {p : Program} {l : Launch} {e : Env} {s : State} {m : MethodId} {args : Array Value} {below : List Frame} {meth : Method} {c : Code} (C : fx_Cx g p s m args meth c RX7 cX7_round 8 none) (k169 : Int32 → Int32 → Int32 → fx_Mem → Prop) (Q : fx_Mem → Prop) (hk169 : ∀ (x1 : Int32) (x4 : Int32) (x5 : Int32) (M : fx_Mem), k169 x1 x4 x5 M → ∀ (H : Heap) (locs : List Loc) (ls : Array Slot), fx_H g s M H locs → lv_has ls 8 [(0, .ref (fx_a g 8)), (1, .int x1), (4, .int x4), (5, .int x5)] → W p l e rm_X7_round_8 s m args below meth c H locs 0 0 (MQ below (va_Qv Q (fx_Pw g) (fx_A g)) args s 0 0 (fx_A g)) (F0 m 169 ls [])) (x1 : Int32) (x4 : Int32) (x5 : Int32) (M : fx_Mem) (h : wb_X7_round_8_169 k169 Q x1 x4 x5 M) (H : Heap) (locs : List Loc) (ls : Array Slot) (hH : fx_H g s M H locs) (hl : lv_has ls 8 [(0, .ref (fx_a g 8)), (1, .int x1), (4, .int x4), (5, .int x5)]) : W p l e rm_X7_round_8 s m args below meth c H locs 0 0 (MQ below (va_Qv Q (fx_Pw g) (fx_A g)) args s 0 0 (fx_A g)) (F0 m 169 ls []) := by
  obtain ⟨hx, hb, hr, hml, hown, hts, hlocks, hsz, hK, hG, hSt⟩ := id C
  unfold wb_X7_round_8_169 at h
  refine lv_iload hx hb dX7_round_169 (lv_at hl 3 rfl) ?_
  refine lv_aload_n hx hb dX7_round_171 rfl (lv_at hl 0 rfl) ?_
  refine fx_get C hH (fx_w8 g M) rfl in_X7 22 (by decide) u_845 rfl rfl dX7_round_172 ?_
  refine lv_iload_n hx hb dX7_round_175 rfl (lv_at hl 1 rfl) ?_
  obtain ⟨hi1, h⟩ := h
  refine fx_iald (j := x1.toNatClampNeg) C hH 47 (fx_w47 g M) rfl hi1 dX7_round_176 ?_
  refine lv_aload_n hx hb dX7_round_177 rfl (lv_at hl 0 rfl) ?_
  refine fx_get C hH (fx_w8 g M) rfl in_X7 23 (by decide) u_846 rfl rfl dX7_round_178 ?_
  refine lv_iload_n hx hb dX7_round_181 rfl (lv_at hl 1 rfl) ?_
  obtain ⟨hi2, h⟩ := h
  refine fx_iald (j := x1.toNatClampNeg) C hH 48 (fx_w48 g M) rfl hi2 dX7_round_182 ?_
  refine lv_iadd hx hb dX7_round_183 ?_
  refine lv_icmp_ge (tgt := 248) hx hb dX7_round_184 (by decide) (fun c3 => ?_) (fun c3 => ?_)
  · replace h := h.1 c3
    exact fx_vret C hH h dX7_round_248
  · replace h := h.2 c3
    refine lv_aload_n hx hb dX7_round_187 rfl (lv_at hl 0 rfl) ?_
    refine fx_get C hH (fx_w8 g M) rfl in_X7 21 (by decide) u_844 rfl rfl dX7_round_188 ?_
    refine lv_iload hx hb dX7_round_191 (lv_at hl 3 rfl) ?_
    obtain ⟨hi4, h⟩ := h
    refine fx_zald (j := x5.toNatClampNeg) C hH 46 (fx_w46 g M) rfl hi4 dX7_round_193 ?_
    refine lv_if_ne (tgt := 242) hx hb dX7_round_194 (by decide) (fun c5 => ?_) (fun c5 => ?_)
    · replace h := h.2 c5
      exact tb_X7_round_8_242 C k169 Q hk169 x1 x4 x5 M h  H locs ls hH (lv_sub hl [0, 1, 2, 3] rfl)
    · replace h := h.1 c5
      refine lv_aload_n hx hb dX7_round_197 rfl (lv_at hl 0 rfl) ?_
      refine fx_get C hH (fx_w8 g M) rfl in_X7 21 (by decide) u_844 rfl rfl dX7_round_198 ?_
      refine lv_iload hx hb dX7_round_201 (lv_at hl 3 rfl) ?_
      refine lv_iload hx hb dX7_round_203 (lv_at hl 2 rfl) ?_
      refine lv_if_eq (tgt := 236) hx hb dX7_round_205 (by decide) (fun c6 => ?_) (fun c6 => ?_)
      · replace h := h.1 c6
        exact tb_X7_round_8_236 C k169 Q hk169 x1 x4 x5 x5 M h  H locs ls hH (lv_sub hl [0, 1, 2, 3] rfl)
      · replace h := h.2 c6
        refine lv_iload hx hb dX7_round_208 (lv_at hl 2 rfl) ?_
        refine lv_if_le (tgt := 226) hx hb dX7_round_210 (by decide) (fun c7 => ?_) (fun c7 => ?_)
        · replace h := h.1 c7
          refine lv_aload_n hx hb dX7_round_226 rfl (lv_at hl 0 rfl) ?_
          refine fx_get C hH (fx_w8 g M) rfl in_X7 32 (by decide) u_855 rfl rfl dX7_round_227 ?_
          refine lv_iload hx hb dX7_round_230 (lv_at hl 3 rfl) ?_
          obtain ⟨hi8, h⟩ := h
          refine fx_iald (j := x5.toNatClampNeg) C hH 55 (fx_w55 g M) rfl hi8 dX7_round_232 ?_
          refine lv_if_ge (tgt := 240) hx hb dX7_round_233 (by decide) (fun c9 => ?_) (fun c9 => ?_)
          · replace h := h.1 c9
            exact tb_X7_round_8_240 C k169 Q hk169 x1 x4 x5 x5 M h  H locs ls hH (lv_sub hl [0, 1, 2, 3] rfl)
          · replace h := h.2 c9
            exact tb_X7_round_8_236 C k169 Q hk169 x1 x4 x5 x5 M h  H locs ls hH (lv_sub hl [0, 1, 2, 3] rfl)
        · replace h := h.2 c7
          refine lv_aload_n hx hb dX7_round_213 rfl (lv_at hl 0 rfl) ?_
          refine fx_get C hH (fx_w8 g M) rfl in_X7 32 (by decide) u_855 rfl rfl dX7_round_214 ?_
          refine lv_iload hx hb dX7_round_217 (lv_at hl 3 rfl) ?_
          obtain ⟨hi10, h⟩ := h
          refine fx_iald (j := x5.toNatClampNeg) C hH 55 (fx_w55 g M) rfl hi10 dX7_round_219 ?_
          refine lv_if_le (tgt := 240) hx hb dX7_round_220 (by decide) (fun c11 => ?_) (fun c11 => ?_)
          · replace h := h.1 c11
            exact tb_X7_round_8_240 C k169 Q hk169 x1 x4 x5 x5 M h  H locs ls hH (lv_sub hl [0, 1, 2, 3] rfl)
          · replace h := h.2 c11
            refine lv_goto (tgt := 236) hx hb dX7_round_223 (by decide) ?_
            exact tb_X7_round_8_236 C k169 Q hk169 x1 x4 x5 x5 M h  H locs ls hH (lv_sub hl [0, 1, 2, 3] rfl)
def wl_X7_round_8_169 (Q : fx_Mem → Prop) (n : Nat) (x1 : Int32) (x4 : Int32) (x5 : Int32) (M : fx_Mem) : Prop :=
  fx_lp (α := Int32 × Int32 × Int32 × fx_Mem) (fun k a => wb_X7_round_8_169 (fun x1 x4 x5 M => k (x1, x4, x5, M)) Q a.1 a.2.1 a.2.2.1 a.2.2.2) n (x1, x4, x5, M)
set_option maxHeartbeats 4000000 in
theorem tl_X7_round_8_169 {g : fx_Geo} {p : Program} {l : Launch} {e : Env} {s : State} {m : MethodId} {args : Array Value} {below : List Frame} {meth : Method} {c : Code} (C : fx_Cx g p s m args meth c RX7 cX7_round 8 none) (Q : fx_Mem → Prop) : ∀ (n : Nat) (x1 : Int32) (x4 : Int32) (x5 : Int32) (M : fx_Mem), wl_X7_round_8_169  Q n x1 x4 x5 M → ∀ (H : Heap) (locs : List Loc) (ls : Array Slot), fx_H g s M H locs → lv_has ls 8 [(0, .ref (fx_a g 8)), (1, .int x1), (4, .int x4), (5, .int x5)] → W p l e rm_X7_round_8 s m args below meth c H locs 0 0 (MQ below (va_Qv Q (fx_Pw g) (fx_A g)) args s 0 0 (fx_A g)) (F0 m 169 ls []) := by
  intro n
  induction n with
  | zero => intro x1 x4 x5 M h; exact False.elim h
  | succ n ih => intro x1 x4 x5 M h  H locs ls hH hl; exact tb_X7_round_8_169 C (wl_X7_round_8_169  Q n) Q ih x1 x4 x5 M h  H locs ls hH hl
def wb_X7_round_8_161 (Q : fx_Mem → Prop) (x1 : Int32) (x4 : Int32) (M : fx_Mem) : Prop :=
  vp_in x1 20 ∧ ∀ v2 : Int32, v2 = M.2.1 47 x1.toNatClampNeg → ∃ n169 : Nat, wl_X7_round_8_169 Q n169 x1 x4 v2 M
set_option maxHeartbeats 4000000 in
set_option maxRecDepth 100000 in
theorem tb_X7_round_8_161 {g : fx_Geo} {p : Program} {l : Launch} {e : Env} {s : State} {m : MethodId} {args : Array Value} {below : List Frame} {meth : Method} {c : Code} (C : fx_Cx g p s m args meth c RX7 cX7_round 8 none) (Q : fx_Mem → Prop) (x1 : Int32) (x4 : Int32) (M : fx_Mem) (h : wb_X7_round_8_161 Q x1 x4 M) (H : Heap) (locs : List Loc) (ls : Array Slot) (hH : fx_H g s M H locs) (hl : lv_has ls 8 [(0, .ref (fx_a g 8)), (1, .int x1), (4, .int x4)]) : W p l e rm_X7_round_8 s m args below meth c H locs 0 0 (MQ below (va_Qv Q (fx_Pw g) (fx_A g)) args s 0 0 (fx_A g)) (F0 m 161 ls []) := by
  obtain ⟨hx, hb, hr, hml, hown, hts, hlocks, hsz, hK, hG, hSt⟩ := id C
  unfold wb_X7_round_8_161 at h
  refine lv_aload_n hx hb dX7_round_161 rfl (lv_at hl 0 rfl) ?_
  refine fx_get C hH (fx_w8 g M) rfl in_X7 22 (by decide) u_845 rfl rfl dX7_round_162 ?_
  refine lv_iload_n hx hb dX7_round_165 rfl (lv_at hl 1 rfl) ?_
  obtain ⟨hi1, h⟩ := h
  refine fx_iald (j := x1.toNatClampNeg) C hH 47 (fx_w47 g M) rfl hi1 dX7_round_166 ?_
  refine lv_topi (fun v2 ev2 => ?_)
  replace h := h v2 ev2
  refine lv_istore (lv' := [(5, .int v2), (0, .ref (fx_a g 8)), (1, .int x1), (4, .int x4)]) hx hb dX7_round_167 hl (by decide) rfl (fun ls hl => ?_)
  obtain ⟨n169, h⟩ := h
  exact tl_X7_round_8_169 C Q  n169 x1 x4 v2 M h  H locs ls hH (lv_sub hl [1, 2, 3, 0] rfl)
def wp_X7_round_8 (a1 : Int32) (a2 : Int32) (M : fx_Mem) (Q : fx_Mem → Prop) : Prop :=
  wp_X7_leftOf_8 a1 M (fun r2 M1 => wp_X7_hasShares_8 a1 r2 a2 M1 (fun r4 M3 => vp_in a1 20 ∧ ∀ v6 : Int32, v6 = M3.2.1 47 a1.toNatClampNeg → ∃ n23 : Nat, wl_X7_round_8_23 (wb_X7_round_8_161 Q) Q n23 a1 a2 r4 0 v6 M3))
set_option maxHeartbeats 4000000 in
set_option maxRecDepth 100000 in
theorem c_X7_round_8 (l : Launch) {g : fx_Geo} (hG : fx_Gd g) (a1 : Int32) (a2 : Int32) (M : fx_Mem) (Q : fx_Mem → Prop) (h : wp_X7_round_8 a1 a2 M Q) : Met l yX7_round (.code yX7_round cX7_round 8 none :: fx_U) rm_X7_round_8 (va_Pc [.ref (fx_a g 8), .int a1, .int a2] (fx_At g M)) (va_Qv Q (fx_Pw g) (fx_A g)) 0 0 (fx_A g) := by
  refine Met.ofW (cc := cX7_round) (maxL := 8) (ret := none) (by decide +kernel) rfl ?_
  intro p e s m args below meth c s₁ B hml hv
  obtain ⟨rfl, hv⟩ := hv
  have hts := atoms_spec (ws := .code yX7_round cX7_round 8 none :: fx_U) B.pre
  obtain ⟨C, hH⟩ := fx_body (own := RX7) B hml rfl (fun w hw => hts w (List.mem_cons_of_mem _ hw)) hG hv
  replace hts := fun w hw => hts w (List.mem_cons_of_mem _ hw)
  obtain ⟨hx, hb, hr, -, hown, -, hlocks, hsz, hK, -, hSt⟩ := id C
  have hl := lv_entry ([.ref (fx_a g 8), .int a1, .int a2]) (n := 8) (Nat.le_of_ble_eq_true rfl)
  rw [lg_entry_eq]
  generalize (lg_sl ([.ref (fx_a g 8), .int a1, .int a2]) ++ List.replicate (8 - (lg_sl ([.ref (fx_a g 8), .int a1, .int a2])).length) Slot.unset).toArray = ls at hl ⊢
  have hl : lv_has ls 8 [(0, .ref (fx_a g 8)), (1, .int a1), (2, .int a2)] := hl
  obtain ⟨H, eH⟩ : ∃ H : Heap, H = s.heap := ⟨_, rfl⟩
  obtain ⟨locs, elocs⟩ : ∃ q : List Loc, q = [] := ⟨_, rfl⟩
  rw [← eH, ← elocs] at hH
  show W p l e rm_X7_round_8 s m _ below meth c s.heap [] 0 0 _ _
  rw [← eH, ← elocs]
  unfold wp_X7_round_8 at h
  refine lv_aload_n hx hb dX7_round_0 rfl (lv_at hl 0 rfl) ?_
  refine lv_iload_n hx hb dX7_round_1 rfl (lv_at hl 1 rfl) ?_
  refine lv_aload_n hx hb dX7_round_2 rfl (lv_at hl 0 rfl) ?_
  refine lv_iload_n hx hb dX7_round_3 rfl (lv_at hl 1 rfl) ?_
  refine fx_ci hH (fx_runV (As := [.int a1]) (rest := [.int a1, .ref (fx_a g 8)]) C hH (c_X7_leftOf_8 l C.2.2.2.2.2.2.2.2.2.1 a1 M _ h) (fx_cwV 1 hts u_1070 u_1072 us_40 u_8 u_1073 rfl rfl (by decide +kernel) ⟨(Nat.le_of_ble_eq_true rfl), (Nat.le_of_ble_eq_true rfl)⟩) (fx_w8 g M) rfl rfl hl.1 rfl (Nat.le_of_ble_eq_true rfl) dX7_round_4 ⟨(Nat.le_of_ble_eq_true rfl), (Nat.le_of_ble_eq_true rfl)⟩) (fun r2 M1 H locs h hH => ?_)
  refine lv_iload_n hx hb dX7_round_7 rfl (lv_at hl 2 rfl) ?_
  refine fx_ci hH (fx_runV (As := [.int a1, .int r2, .int a2]) (rest := []) C hH (c_X7_hasShares_8 l C.2.2.2.2.2.2.2.2.2.1 a1 r2 a2 M1 _ h) (fx_cwV 3 hts u_1074 u_1076 us_41 u_8 u_1077 rfl rfl (by decide +kernel) ⟨(Nat.le_of_ble_eq_true rfl), (Nat.le_of_ble_eq_true rfl)⟩) (fx_w8 g M1) rfl rfl hl.1 rfl (Nat.le_of_ble_eq_true rfl) dX7_round_8 ⟨(Nat.le_of_ble_eq_true rfl), (Nat.le_of_ble_eq_true rfl)⟩) (fun r4 M3 H locs h hH => ?_)
  refine lv_istore_n (lv' := [(3, .int r4), (0, .ref (fx_a g 8)), (1, .int a1), (2, .int a2)]) hx hb dX7_round_11 rfl hl (by decide) rfl (fun ls hl => ?_)
  refine lv_iconst (v := 0) hx hb dX7_round_12 (by decide) ?_
  refine lv_istore (lv' := [(4, .int 0), (3, .int r4), (0, .ref (fx_a g 8)), (1, .int a1), (2, .int a2)]) hx hb dX7_round_13 hl (by decide) rfl (fun ls hl => ?_)
  refine lv_aload_n hx hb dX7_round_15 rfl (lv_at hl 2 rfl) ?_
  refine fx_get C hH (fx_w8 g M3) rfl in_X7 22 (by decide) u_845 rfl rfl dX7_round_16 ?_
  refine lv_iload_n hx hb dX7_round_19 rfl (lv_at hl 3 rfl) ?_
  obtain ⟨hi5, h⟩ := h
  refine fx_iald (j := a1.toNatClampNeg) C hH 47 (fx_w47 g M3) rfl hi5 dX7_round_20 ?_
  refine lv_topi (fun v6 ev6 => ?_)
  replace h := h v6 ev6
  refine lv_istore (lv' := [(5, .int v6), (4, .int 0), (3, .int r4), (0, .ref (fx_a g 8)), (1, .int a1), (2, .int a2)]) hx hb dX7_round_21 hl (by decide) rfl (fun ls hl => ?_)
  obtain ⟨n23, h⟩ := h
  exact tl_X7_round_8_23 C (wb_X7_round_8_161 Q) Q (tb_X7_round_8_161 C Q ) n23 a1 a2 r4 0 v6 M3 h  H locs ls hH (lv_sub hl [3, 4, 5, 2, 1, 0] rfl)
