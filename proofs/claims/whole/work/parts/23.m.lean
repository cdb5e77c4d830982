/-! FlexLayoutModel.findLineCrosses()V (8,) -/
def rm_X7_findLineCrosses_8 : Room := { frames := 3, cells := 0, slots := 0, locals := 70 }
def wb_X7_findLineCrosses_8_2 (k2 : Int32 → fx_Mem → Prop) (k33 : fx_Mem → Prop) (Q : fx_Mem → Prop) (x1 : Int32) (M : fx_Mem) : Prop :=
  ((M.1 542 ≤ x1 → k33  M) ∧ (¬ M.1 542 ≤ x1 → wp_X7_findNatural_8 x1 M (fun M2 => vp_in x1 20 ∧ vp_in x1 20 ∧ ∀ M5 : fx_Mem, M5 = fx_sa M2 51 x1.toNatClampNeg (M2.2.1 53 x1.toNatClampNeg) → ∀ v6 : Int32, v6 = x1 + 1 → k2 v6 M5)))
set_option maxHeartbeats 4000000 in
set_option maxRecDepth 100000 in
theorem tb_X7_findLineCrosses_8_2 {g : fx_Geo} {p : Program} {l : Launch} {e : Env} {s : State} {m : MethodId} {args : Array Value} {below : List Frame} {meth : Method} {c : Code} (C : fx_Cx g p s m args meth c RX7 cX7_findLineCrosses 2 none) (k2 : Int32 → fx_Mem → Prop) (k33 : fx_Mem → Prop) (Q : fx_Mem → Prop) (hk2 : ∀ (x1 : Int32) (M : fx_Mem), k2 x1 M → ∀ (H : Heap) (locs : List Loc) (ls : Array Slot), fx_H g s M H locs → lv_has ls 2 [(0, .ref (fx_a g 8)), (1, .int x1)] → W p l e rm_X7_findLineCrosses_8 s m args below meth c H locs 0 0 (MQ below (va_Qv Q (fx_Pw g) (fx_A g)) args s 0 0 (fx_A g)) (F0 m 2 ls [])) (hk33 : ∀ (M : fx_Mem), k33 M → ∀ (H : Heap) (locs : List Loc) (ls : Array Slot), fx_H g s M H locs → lv_has ls 2 [(0, .ref (fx_a g 8))] → W p l e rm_X7_findLineCrosses_8 s m args below meth c H locs 0 0 (MQ below (va_Qv Q (fx_Pw g) (fx_A g)) args s 0 0 (fx_A g)) (F0 m 33 ls [])) (x1 : Int32) (M : fx_Mem) (h : wb_X7_findLineCrosses_8_2 k2 k33 Q x1 M) (H : Heap) (locs : List Loc) (ls : Array Slot) (hH : fx_H g s M H locs) (hl : lv_has ls 2 [(0, .ref (fx_a g 8)), (1, .int x1)]) : W p l e rm_X7_findLineCrosses_8 s m args below meth c H locs 0 0 (MQ below (va_Qv Q (fx_Pw g) (fx_A g)) args s 0 0 (fx_A g)) (F0 m 2 ls []) := by
  obtain ⟨hx, hb, hr, hml, hown, hts, hlocks, hsz, hK, hG, hSt⟩ := id C
  unfold wb_X7_findLineCrosses_8_2 at h
  refine lv_iload_n hx hb dX7_findLineCrosses_2 rfl (lv_at hl 1 rfl) ?_
  refine lv_aload_n hx hb dX7_findLineCrosses_3 rfl (lv_at hl 0 rfl) ?_
  refine fx_get C hH (fx_w8 g M) rfl in_X7 30 (by decide) u_853 rfl rfl dX7_findLineCrosses_4 ?_
  refine lv_icmp_ge (tgt := 33) hx hb dX7_findLineCrosses_7 (by decide) (fun c1 => ?_) (fun c1 => ?_)
  · replace h := h.1 c1
    exact hk33  M h  H locs ls hH (lv_sub hl [0] rfl)
  · replace h := h.2 c1
    refine lv_aload_n hx hb dX7_findLineCrosses_10 rfl (lv_at hl 0 rfl) ?_
    refine lv_iload_n hx hb dX7_findLineCrosses_11 rfl (lv_at hl 1 rfl) ?_
    refine fx_cv hH (fx_runV (As := [.int x1]) (rest := []) C hH (c_X7_findNatural_8 l C.2.2.2.2.2.2.2.2.2.1 x1 M _ h) (fx_cwV 1 hts u_1086 u_1088 us_44 u_8 u_1089 rfl rfl (by decide +kernel) ⟨(Nat.le_of_ble_eq_true rfl), (Nat.le_of_ble_eq_true rfl)⟩) (fx_w8 g M) rfl rfl hl.1 rfl (Nat.le_of_ble_eq_true rfl) dX7_findLineCrosses_12 ⟨(Nat.le_of_ble_eq_true rfl), (Nat.le_of_ble_eq_true rfl)⟩) (fun M2 H locs h hH => ?_)
    refine lv_aload_n hx hb dX7_findLineCrosses_15 rfl (lv_at hl 0 rfl) ?_
    refine fx_get C hH (fx_w8 g M2) rfl in_X7 26 (by decide) u_849 rfl rfl dX7_findLineCrosses_16 ?_
    refine lv_iload_n hx hb dX7_findLineCrosses_19 rfl (lv_at hl 1 rfl) ?_
    refine lv_aload_n hx hb dX7_findLineCrosses_20 rfl (lv_at hl 0 rfl) ?_
    refine fx_get C hH (fx_w8 g M2) rfl in_X7 28 (by decide) u_851 rfl rfl dX7_findLineCrosses_21 ?_
    refine lv_iload_n hx hb dX7_findLineCrosses_24 rfl (lv_at hl 1 rfl) ?_
    obtain ⟨hi3, h⟩ := h
    refine fx_iald (j := x1.toNatClampNeg) C hH 53 (fx_w53 g M2) rfl hi3 dX7_findLineCrosses_25 ?_
    obtain ⟨hi4, h⟩ := h
    refine fx_iast (j := x1.toNatClampNeg) (M' := fx_sa M2 51 x1.toNatClampNeg (M2.2.1 53 x1.toNatClampNeg)) C hH 51 rfl (fx_w51 g M2) (fx_p51 g M2 _) hi4 dX7_findLineCrosses_26 (fun H locs hH => ?_)
    generalize eM5 : fx_sa M2 51 x1.toNatClampNeg (M2.2.1 53 x1.toNatClampNeg) = M5 at hH
    replace h := h M5 eM5.symm
    obtain ⟨v6, ev6⟩ : ∃ z : Int32, z = x1 + 1 := ⟨_, rfl⟩
    refine lv_iinc (v := v6) (lv' := [(1, .int v6), (0, .ref (fx_a g 8))]) hx hb dX7_findLineCrosses_27 hl (k := 1) rfl (by rw [ev6]; rfl) (by decide) rfl (fun ls hl => ?_)
    replace h := h v6 ev6
    refine lv_goto (tgt := 2) hx hb dX7_findLineCrosses_30 (by decide) ?_
    exact hk2 v6 M5 h  H locs ls hH (lv_sub hl [1, 0] rfl)
def wl_X7_findLineCrosses_8_2 (k33 : fx_Mem → Prop) (Q : fx_Mem → Prop) (n : Nat) (x1 : Int32) (M : fx_Mem) : Prop :=
  fx_lp (α := Int32 × fx_Mem) (fun k a => wb_X7_findLineCrosses_8_2 (fun x1 M => k (x1, M)) k33 Q a.1 a.2) n (x1, M)
set_option maxHeartbeats 4000000 in
theorem tl_X7_findLineCrosses_8_2 {g : fx_Geo} {p : Program} {l : Launch} {e : Env} {s : State} {m : MethodId} {args : Array Value} {below : List Frame} {meth : Method} {c : Code} (C : fx_Cx g p s m args meth c RX7 cX7_findLineCrosses 2 none) (k33 : fx_Mem → Prop) (Q : fx_Mem → Prop) (hk33 : ∀ (M : fx_Mem), k33  M → ∀ (H : Heap) (locs : List Loc) (ls : Array Slot), fx_H g s M H locs → lv_has ls 2 [(0, .ref (fx_a g 8))] → W p l e rm_X7_findLineCrosses_8 s m args below meth c H locs 0 0 (MQ below (va_Qv Q (fx_Pw g) (fx_A g)) args s 0 0 (fx_A g)) (F0 m 33 ls [])) : ∀ (n : Nat) (x1 : Int32) (M : fx_Mem), wl_X7_findLineCrosses_8_2 k33 Q n x1 M → ∀ (H : Heap) (locs : List Loc) (ls : Array Slot), fx_H g s M H locs → lv_has ls 2 [(0, .ref (fx_a g 8)), (1, .int x1)] → W p l e rm_X7_findLineCrosses_8 s m args below meth c H locs 0 0 (MQ below (va_Qv Q (fx_Pw g) (fx_A g)) args s 0 0 (fx_A g)) (F0 m 2 ls []) := by
  intro n
  induction n with
  | zero => intro x1 M h; exact False.elim h
  | succ n ih => intro x1 M h  H locs ls hH hl; exact tb_X7_findLineCrosses_8_2 C (wl_X7_findLineCrosses_8_2 k33 Q n) k33 Q ih hk33 x1 M h  H locs ls hH hl
def wb_X7_findLineCrosses_8_104 (k104 : Int32 → fx_Mem → Prop) (k125 : fx_Mem → Prop) (Q : fx_Mem → Prop) (x1 : Int32) (M : fx_Mem) : Prop :=
  ((M.1 542 ≤ x1 → k125  M) ∧ (¬ M.1 542 ≤ x1 → vp_in x1 20 ∧ ∀ M3 : fx_Mem, M3 = fx_sl M 36 x1.toNatClampNeg 1 → ∀ v4 : Int32, v4 = x1 + 1 → k104 v4 M3))
set_option maxHeartbeats 4000000 in
set_option maxRecDepth 100000 in
theorem tb_X7_findLineCrosses_8_104 {g : fx_Geo} {p : Program} {l : Launch} {e : Env} {s : State} {m : MethodId} {args : Array Value} {below : List Frame} {meth : Method} {c : Code} (C : fx_Cx g p s m args meth c RX7 cX7_findLineCrosses 2 none) (k104 : Int32 → fx_Mem → Prop) (k125 : fx_Mem → Prop) (Q : fx_Mem → Prop) (hk104 : ∀ (x1 : Int32) (M : fx_Mem), k104 x1 M → ∀ (H : Heap) (locs : List Loc) (ls : Array Slot), fx_H g s M H locs → lv_has ls 2 [(0, .ref (fx_a g 8)), (1, .int x1)] → W p l e rm_X7_findLineCrosses_8 s m args below meth c H locs 0 0 (MQ below (va_Qv Q (fx_Pw g) (fx_A g)) args s 0 0 (fx_A g)) (F0 m 104 ls [])) (hk125 : ∀ (M : fx_Mem), k125 M → ∀ (H : Heap) (locs : List Loc) (ls : Array Slot), fx_H g s M H locs → lv_has ls 2 [(0, .ref (fx_a g 8))] → W p l e rm_X7_findLineCrosses_8 s m args below meth c H locs 0 0 (MQ below (va_Qv Q (fx_Pw g) (fx_A g)) args s 0 0 (fx_A g)) (F0 m 125 ls [])) (x1 : Int32) (M : fx_Mem) (h : wb_X7_findLineCrosses_8_104 k104 k125 Q x1 M) (H : Heap) (locs : List Loc) (ls : Array Slot) (hH : fx_H g s M H locs) (hl : lv_has ls 2 [(0, .ref (fx_a g 8)), (1, .int x1)]) : W p l e rm_X7_findLineCrosses_8 s m args below meth c H locs 0 0 (MQ below (va_Qv Q (fx_Pw g) (fx_A g)) args s 0 0 (fx_A g)) (F0 m 104 ls []) := by
  obtain ⟨hx, hb, hr, hml, hown, hts, hlocks, hsz, hK, hG, hSt⟩ := id C
  unfold wb_X7_findLineCrosses_8_104 at h
  refine lv_iload_n hx hb dX7_findLineCrosses_104 rfl (lv_at hl 1 rfl) ?_
  refine lv_aload_n hx hb dX7_findLineCrosses_105 rfl (lv_at hl 0 rfl) ?_
  refine fx_get C hH (fx_w8 g M) rfl in_X7 30 (by decide) u_853 rfl rfl dX7_findLineCrosses_106 ?_
  refine lv_icmp_ge (tgt := 125) hx hb dX7_findLineCrosses_109 (by decide) (fun c1 => ?_) (fun c1 => ?_)
  · replace h := h.1 c1
    exact hk125  M h  H locs ls hH (lv_sub hl [0] rfl)
  · replace h := h.2 c1
    refine lv_aload_n hx hb dX7_findLineCrosses_112 rfl (lv_at hl 0 rfl) ?_
    refine fx_get C hH (fx_w8 g M) rfl in_X7 11 (by decide) u_834 rfl rfl dX7_findLineCrosses_113 ?_
    refine lv_iload_n hx hb dX7_findLineCrosses_116 rfl (lv_at hl 1 rfl) ?_
    refine lv_lconst (v := 1) hx hb dX7_findLineCrosses_117 (by decide) ?_
    obtain ⟨hi2, h⟩ := h
    refine fx_last (j := x1.toNatClampNeg) (M' := fx_sl M 36 x1.toNatClampNeg 1) C hH 36 rfl (fx_w36 g M) (fx_p36 g M _ _) hi2 dX7_findLineCrosses_118 (fun H locs hH => ?_)
    generalize eM3 : fx_sl M 36 x1.toNatClampNeg 1 = M3 at hH
    replace h := h M3 eM3.symm
    obtain ⟨v4, ev4⟩ : ∃ z : Int32, z = x1 + 1 := ⟨_, rfl⟩
    refine lv_iinc (v := v4) (lv' := [(1, .int v4), (0, .ref (fx_a g 8))]) hx hb dX7_findLineCrosses_119 hl (k := 1) rfl (by rw [ev4]; rfl) (by decide) rfl (fun ls hl => ?_)
    replace h := h v4 ev4
    refine lv_goto (tgt := 104) hx hb dX7_findLineCrosses_122 (by decide) ?_
    exact hk104 v4 M3 h  H locs ls hH (lv_sub hl [1, 0] rfl)
def wl_X7_findLineCrosses_8_104 (k125 : fx_Mem → Prop) (Q : fx_Mem → Prop) (n : Nat) (x1 : Int32) (M : fx_Mem) : Prop :=
  fx_lp (α := Int32 × fx_Mem) (fun k a => wb_X7_findLineCrosses_8_104 (fun x1 M => k (x1, M)) k125 Q a.1 a.2) n (x1, M)
set_option maxHeartbeats 4000000 in
theorem tl_X7_findLineCrosses_8_104 {g : fx_Geo} {p : Program} {l : Launch} {e : Env} {s : State} {m : MethodId} {args : Array Value} {below : List Frame} {meth : Method} {c : Code} (C : fx_Cx g p s m args meth c RX7 cX7_findLineCrosses 2 none) (k125 : fx_Mem → Prop) (Q : fx_Mem → Prop) (hk125 : ∀ (M : fx_Mem), k125  M → ∀ (H : Heap) (locs : List Loc) (ls : Array Slot), fx_H g s M H locs → lv_has ls 2 [(0, .ref (fx_a g 8))] → W p l e rm_X7_findLineCrosses_8 s m args below meth c H locs 0 0 (MQ below (va_Qv Q (fx_Pw g) (fx_A g)) args s 0 0 (fx_A g)) (F0 m 125 ls [])) : ∀ (n : Nat) (x1 : Int32) (M : fx_Mem), wl_X7_findLineCrosses_8_104 k125 Q n x1 M → ∀ (H : Heap) (locs : List Loc) (ls : Array Slot), fx_H g s M H locs → lv_has ls 2 [(0, .ref (fx_a g 8)), (1, .int x1)] → W p l e rm_X7_findLineCrosses_8 s m args below meth c H locs 0 0 (MQ below (va_Qv Q (fx_Pw g) (fx_A g)) args s 0 0 (fx_A g)) (F0 m 104 ls []) := by
  intro n
  induction n with
  | zero => intro x1 M h; exact False.elim h
  | succ n ih => intro x1 M h  H locs ls hH hl; exact tb_X7_findLineCrosses_8_104 C (wl_X7_findLineCrosses_8_104 k125 Q n) k125 Q ih hk125 x1 M h  H locs ls hH hl
def wb_X7_findLineCrosses_8_140 (k140 : Int32 → fx_Mem → Prop) (k170 : fx_Mem → Prop) (Q : fx_Mem → Prop) (x1 : Int32) (M : fx_Mem) : Prop :=
  ((M.1 542 ≤ x1 → k170  M) ∧ (¬ M.1 542 ≤ x1 → vp_in x1 20 ∧ vp_in x1 20 ∧ vp_in x1 20 ∧ ∀ M5 : fx_Mem, M5 = fx_sa M 51 x1.toNatClampNeg ((M.2.1 51 x1.toNatClampNeg) + ((M.2.2 37 x1.toNatClampNeg).toInt32)) → ∀ v6 : Int32, v6 = x1 + 1 → k140 v6 M5))
set_option maxHeartbeats 4000000 in
set_option maxRecDepth 100000 in
theorem tb_X7_findLineCrosses_8_140 {g : fx_Geo} {p : Program} {l : Launch} {e : Env} {s : State} {m : MethodId} {args : Array Value} {below : List Frame} {meth : Method} {c : Code} (C : fx_Cx g p s m args meth c RX7 cX7_findLineCrosses 2 none) (k140 : Int32 → fx_Mem → Prop) (k170 : fx_Mem → Prop) (Q : fx_Mem → Prop) (hk140 : ∀ (x1 : Int32) (M : fx_Mem), k140 x1 M → ∀ (H : Heap) (locs : List Loc) (ls : Array Slot), fx_H g s M H locs → lv_has ls 2 [(0, .ref (fx_a g 8)), (1, .int x1)] → W p l e rm_X7_findLineCrosses_8 s m args below meth c H locs 0 0 (MQ below (va_Qv Q (fx_Pw g) (fx_A g)) args s 0 0 (fx_A g)) (F0 m 140 ls [])) (hk170 : ∀ (M : fx_Mem), k170 M → ∀ (H : Heap) (locs : List Loc) (ls : Array Slot), fx_H g s M H locs → lv_has ls 2 [(0, .ref (fx_a g 8))] → W p l e rm_X7_findLineCrosses_8 s m args below meth c H locs 0 0 (MQ below (va_Qv Q (fx_Pw g) (fx_A g)) args s 0 0 (fx_A g)) (F0 m 170 ls [])) (x1 : Int32) (M : fx_Mem) (h : wb_X7_findLineCrosses_8_140 k140 k170 Q x1 M) (H : Heap) (locs : List Loc) (ls : Array Slot) (hH : fx_H g s M H locs) (hl : lv_has ls 2 [(0, .ref (fx_a g 8)), (1, .int x1)]) : W p l e rm_X7_findLineCrosses_8 s m args below meth c H locs 0 0 (MQ below (va_Qv Q (fx_Pw g) (fx_A g)) args s 0 0 (fx_A g)) (F0 m 140 ls []) := by
  obtain ⟨hx, hb, hr, hml, hown, hts, hlocks, hsz, hK, hG, hSt⟩ := id C
  unfold wb_X7_findLineCrosses_8_140 at h
  refine lv_iload_n hx hb dX7_findLineCrosses_140 rfl (lv_at hl 1 rfl) ?_
  refine lv_aload_n hx hb dX7_findLineCrosses_141 rfl (lv_at hl 0 rfl) ?_
  refine fx_get C hH (fx_w8 g M) rfl in_X7 30 (by decide) u_853 rfl rfl dX7_findLineCrosses_142 ?_
  refine lv_icmp_ge (tgt := 170) hx hb dX7_findLineCrosses_145 (by decide) (fun c1 => ?_) (fun c1 => ?_)
  · replace h := h.1 c1
    exact hk170  M h  H locs ls hH (lv_sub hl [0] rfl)
  · replace h := h.2 c1
    refine lv_aload_n hx hb dX7_findLineCrosses_148 rfl (lv_at hl 0 rfl) ?_
    refine fx_get C hH (fx_w8 g M) rfl in_X7 26 (by decide) u_849 rfl rfl dX7_findLineCrosses_149 ?_
    refine lv_iload_n hx hb dX7_findLineCrosses_152 rfl (lv_at hl 1 rfl) ?_
    refine lv_dup2_11 hx hb dX7_findLineCrosses_153 rfl rfl ?_
    obtain ⟨hi2, h⟩ := h
    refine fx_iald (j := x1.toNatClampNeg) C hH 51 (fx_w51 g M) rfl hi2 dX7_findLineCrosses_154 ?_
    refine lv_aload_n hx hb dX7_findLineCrosses_155 rfl (lv_at hl 0 rfl) ?_
    refine fx_get C hH (fx_w8 g M) rfl in_X7 12 (by decide) u_835 rfl rfl dX7_findLineCrosses_156 ?_
    refine lv_iload_n hx hb dX7_findLineCrosses_159 rfl (lv_at hl 1 rfl) ?_
    obtain ⟨hi3, h⟩ := h
    refine fx_lald (j := x1.toNatClampNeg) C hH 37 (fx_w37 g M) rfl hi3 dX7_findLineCrosses_160 ?_
    refine lv_l2i hx hb dX7_findLineCrosses_161 rfl ?_
    refine lv_iadd hx hb dX7_findLineCrosses_162 ?_
    obtain ⟨hi4, h⟩ := h
    refine fx_iast (j := x1.toNatClampNeg) (M' := fx_sa M 51 x1.toNatClampNeg ((M.2.1 51 x1.toNatClampNeg) + ((M.2.2 37 x1.toNatClampNeg).toInt32))) C hH 51 rfl (fx_w51 g M) (fx_p51 g M _) hi4 dX7_findLineCrosses_163 (fun H locs hH => ?_)
    generalize eM5 : fx_sa M 51 x1.toNatClampNeg ((M.2.1 51 x1.toNatClampNeg) + ((M.2.2 37 x1.toNatClampNeg).toInt32)) = M5 at hH
    replace h := h M5 eM5.symm
    obtain ⟨v6, ev6⟩ : ∃ z : Int32, z = x1 + 1 := ⟨_, rfl⟩
    refine lv_iinc (v := v6) (lv' := [(1, .int v6), (0, .ref (fx_a g 8))]) hx hb dX7_findLineCrosses_164 hl (k := 1) rfl (by rw [ev6]; rfl) (by decide) rfl (fun ls hl => ?_)
    replace h := h v6 ev6
    refine lv_goto (tgt := 140) hx hb dX7_findLineCrosses_167 (by decide) ?_
    exact hk140 v6 M5 h  H locs ls hH (lv_sub hl [1, 0] rfl)
def wl_X7_findLineCrosses_8_140 (k170 : fx_Mem → Prop) (Q : fx_Mem → Prop) (n : Nat) (x1 : Int32) (M : fx_Mem) : Prop :=
  fx_lp (α := Int32 × fx_Mem) (fun k a => wb_X7_findLineCrosses_8_140 (fun x1 M => k (x1, M)) k170 Q a.1 a.2) n (x1, M)
set_option maxHeartbeats 4000000 in
theorem tl_X7_findLineCrosses_8_140 {g : fx_Geo} {p : Program} {l : Launch} {e : Env} {s : State} {m : MethodId} {args : Array Value} {below : List Frame} {meth : Method} {c : Code} (C : fx_Cx g p s m args meth c RX7 cX7_findLineCrosses 2 none) (k170 : fx_Mem → Prop) (Q : fx_Mem → Prop) (hk170 : ∀ (M : fx_Mem), k170  M → ∀ (H : Heap) (locs : List Loc) (ls : Array Slot), fx_H g s M H locs → lv_has ls 2 [(0, .ref (fx_a g 8))] → W p l e rm_X7_findLineCrosses_8 s m args below meth c H locs 0 0 (MQ below (va_Qv Q (fx_Pw g) (fx_A g)) args s 0 0 (fx_A g)) (F0 m 170 ls [])) : ∀ (n : Nat) (x1 : Int32) (M : fx_Mem), wl_X7_findLineCrosses_8_140 k170 Q n x1 M → ∀ (H : Heap) (locs : List Loc) (ls : Array Slot), fx_H g s M H locs → lv_has ls 2 [(0, .ref (fx_a g 8)), (1, .int x1)] → W p l e rm_X7_findLineCrosses_8 s m args below meth c H locs 0 0 (MQ below (va_Qv Q (fx_Pw g) (fx_A g)) args s 0 0 (fx_A g)) (F0 m 140 ls []) := by
  intro n
  induction n with
  | zero => intro x1 M h; exact False.elim h
  | succ n ih => intro x1 M h  H locs ls hH hl; exact tb_X7_findLineCrosses_8_140 C (wl_X7_findLineCrosses_8_140 k170 Q n) k170 Q ih hk170 x1 M h  H locs ls hH hl
def wb_X7_findLineCrosses_8_221 (k221 : Int32 → fx_Mem → Prop) (Q : fx_Mem → Prop) (x1 : Int32) (M : fx_Mem) : Prop :=
  ((M.1 542 ≤ x1 → Q M) ∧ (¬ M.1 542 ≤ x1 → vp_in x1 20 ∧ ∀ M3 : fx_Mem, M3 = fx_si M 543 ((M.1 543) + (M.2.1 51 x1.toNatClampNeg)) → ∀ v4 : Int32, v4 = x1 + 1 → k221 v4 M3))
set_option maxHeartbeats 4000000 in
set_option maxRecDepth 100000 in
theorem tb_X7_findLineCrosses_8_221 {g : fx_Geo} {p : Program} {l : Launch} {e : Env} {s : State} {m : MethodId} {args : Array Value} {below : List Frame} {meth : Method} {c : Code} (C : fx_Cx g p s m args meth c RX7 cX7_findLineCrosses 2 none) (k221 : Int32 → fx_Mem → Prop) (Q : fx_Mem → Prop) (hk221 : ∀ (x1 : Int32) (M : fx_Mem), k221 x1 M → ∀ (H : Heap) (locs : List Loc) (ls : Array Slot), fx_H g s M H locs → lv_has ls 2 [(0, .ref (fx_a g 8)), (1, .int x1)] → W p l e rm_X7_findLineCrosses_8 s m args below meth c H locs 0 0 (MQ below (va_Qv Q (fx_Pw g) (fx_A g)) args s 0 0 (fx_A g)) (F0 m 221 ls [])) (x1 : Int32) (M : fx_Mem) (h : wb_X7_findLineCrosses_8_221 k221 Q x1 M) (H : Heap) (locs : List Loc) (ls : Array Slot) (hH : fx_H g s M H locs) (hl : lv_has ls 2 [(0, .ref (fx_a g 8)), (1, .int x1)]) : W p l e rm_X7_findLineCrosses_8 s m args below meth c H locs 0 0 (MQ below (va_Qv Q (fx_Pw g) (fx_A g)) args s 0 0 (fx_A g)) (F0 m 221 ls []) := by
  obtain ⟨hx, hb, hr, hml, hown, hts, hlocks, hsz, hK, hG, hSt⟩ := id C
  unfold wb_X7_findLineCrosses_8_221 at h
  refine lv_iload_n hx hb dX7_findLineCrosses_221 rfl (lv_at hl 1 rfl) ?_
  refine lv_aload_n hx hb dX7_findLineCrosses_222 rfl (lv_at hl 0 rfl) ?_
  refine fx_get C hH (fx_w8 g M) rfl in_X7 30 (by decide) u_853 rfl rfl dX7_findLineCrosses_223 ?_
  refine lv_icmp_ge (tgt := 250) hx hb dX7_findLineCrosses_226 (by decide) (fun c1 => ?_) (fun c1 => ?_)
  · replace h := h.1 c1
    exact fx_vret C hH h dX7_findLineCrosses_250
  · replace h := h.2 c1
    refine lv_aload_n hx hb dX7_findLineCrosses_229 rfl (lv_at hl 0 rfl) ?_
    refine lv_dup hx hb dX7_findLineCrosses_230 rfl ?_
    refine fx_get C hH (fx_w8 g M) rfl in_X7 31 (by decide) u_854 rfl rfl dX7_findLineCrosses_231 ?_
    refine lv_aload_n hx hb dX7_findLineCrosses_234 rfl (lv_at hl 0 rfl) ?_
    refine fx_get C hH (fx_w8 g M) rfl in_X7 26 (by decide) u_849 rfl rfl dX7_findLineCrosses_235 ?_
    refine lv_iload_n hx hb dX7_findLineCrosses_238 rfl (lv_at hl 1 rfl) ?_
    obtain ⟨hi2, h⟩ := h
    refine fx_iald (j := x1.toNatClampNeg) C hH 51 (fx_w51 g M) rfl hi2 dX7_findLineCrosses_239 ?_
    refine lv_iadd hx hb dX7_findLineCrosses_240 ?_
    refine fx_put C hH (fx_w8 g M) rfl in_X7 tyX7 tyX7_ok nmX7 31 (by decide) u_854 rfl rfl (ty := .int) (by decide +kernel) rfl rfl (Nat.le_of_ble_eq_true rfl) (fx_p8_31 g M ((M.1 543) + (M.2.1 51 x1.toNatClampNeg))) dX7_findLineCrosses_241 (fun H locs hH => ?_)
    generalize eM3 : fx_si M 543 ((M.1 543) + (M.2.1 51 x1.toNatClampNeg)) = M3 at hH
    replace h := h M3 eM3.symm
    obtain ⟨v4, ev4⟩ : ∃ z : Int32, z = x1 + 1 := ⟨_, rfl⟩
    refine lv_iinc (v := v4) (lv' := [(1, .int v4), (0, .ref (fx_a g 8))]) hx hb dX7_findLineCrosses_244 hl (k := 1) rfl (by rw [ev4]; rfl) (by decide) rfl (fun ls hl => ?_)
    replace h := h v4 ev4
    refine lv_goto (tgt := 221) hx hb dX7_findLineCrosses_247 (by decide) ?_
    exact hk221 v4 M3 h  H locs ls hH (lv_sub hl [1, 0] rfl)
def wl_X7_findLineCrosses_8_221 (Q : fx_Mem → Prop) (n : Nat) (x1 : Int32) (M : fx_Mem) : Prop :=
  fx_lp (α := Int32 × fx_Mem) (fun k a => wb_X7_findLineCrosses_8_221 (fun x1 M => k (x1, M)) Q a.1 a.2) n (x1, M)
set_option maxHeartbeats 4000000 in
theorem tl_X7_findLineCrosses_8_221 {g : fx_Geo} {p : Program} {l : Launch} {e : Env} {s : State} {m : MethodId} {args : Array Value} {below : List Frame} {meth : Method} {c : Code} (C : fx_Cx g p s m args meth c RX7 cX7_findLineCrosses 2 none) (Q : fx_Mem → Prop) : ∀ (n : Nat) (x1 : Int32) (M : fx_Mem), wl_X7_findLineCrosses_8_221  Q n x1 M → ∀ (H : Heap) (locs : List Loc) (ls : Array Slot), fx_H g s M H locs → lv_has ls 2 [(0, .ref (fx_a g 8)), (1, .int x1)] → W p l e rm_X7_findLineCrosses_8 s m args below meth c H locs 0 0 (MQ below (va_Qv Q (fx_Pw g) (fx_A g)) args s 0 0 (fx_A g)) (F0 m 221 ls []) := by
  intro n
  induction n with
  | zero => intro x1 M h; exact False.elim h
  | succ n ih => intro x1 M h  H locs ls hH hl; exact tb_X7_findLineCrosses_8_221 C (wl_X7_findLineCrosses_8_221  Q n) Q ih x1 M h  H locs ls hH hl
def wb_X7_findLineCrosses_8_216 (Q : fx_Mem → Prop) (s0 : Int32) (M : fx_Mem) : Prop :=
  ∀ M1 : fx_Mem, M1 = fx_si M 543 s0 → ∃ n221 : Nat, wl_X7_findLineCrosses_8_221 Q n221 0 M1
set_option maxHeartbeats 4000000 in
set_option maxRecDepth 100000 in
theorem tb_X7_findLineCrosses_8_216 {g : fx_Geo} {p : Program} {l : Launch} {e : Env} {s : State} {m : MethodId} {args : Array Value} {below : List Frame} {meth : Method} {c : Code} (C : fx_Cx g p s m args meth c RX7 cX7_findLineCrosses 2 none) (Q : fx_Mem → Prop) (s0 : Int32) (M : fx_Mem) (h : wb_X7_findLineCrosses_8_216 Q s0 M) (H : Heap) (locs : List Loc) (ls : Array Slot) (hH : fx_H g s M H locs) (hl : lv_has ls 2 [(0, .ref (fx_a g 8))]) : W p l e rm_X7_findLineCrosses_8 s m args below meth c H locs 0 0 (MQ below (va_Qv Q (fx_Pw g) (fx_A g)) args s 0 0 (fx_A g)) (F0 m 216 ls [.int s0, .ref (fx_a g 8)]) := by
  obtain ⟨hx, hb, hr, hml, hown, hts, hlocks, hsz, hK, hG, hSt⟩ := id C
  unfold wb_X7_findLineCrosses_8_216 at h
  refine fx_put C hH (fx_w8 g M) rfl in_X7 tyX7 tyX7_ok nmX7 31 (by decide) u_854 rfl rfl (ty := .int) (by decide +kernel) rfl rfl (Nat.le_of_ble_eq_true rfl) (fx_p8_31 g M s0) dX7_findLineCrosses_216 (fun H locs hH => ?_)
  generalize eM1 : fx_si M 543 s0 = M1 at hH
  replace h := h M1 eM1.symm
  refine lv_iconst (v := 0) hx hb dX7_findLineCrosses_219 (by decide) ?_
  refine lv_istore_n (lv' := [(1, .int 0), (0, .ref (fx_a g 8))]) hx hb dX7_findLineCrosses_220 rfl hl (by decide) rfl (fun ls hl => ?_)
  obtain ⟨n221, h⟩ := h
  exact tl_X7_findLineCrosses_8_221 C Q  n221 0 M1 h  H locs ls hH (lv_sub hl [1, 0] rfl)
def wb_X7_findLineCrosses_8_170 (Q : fx_Mem → Prop) (M : fx_Mem) : Prop :=
  ∀ M1 : fx_Mem, M1 = fx_si M 543 (M.2.1 30 1) → ((M1.2.1 30 1 = (-1) → ((M1.1 542 = 0 → wb_X7_findLineCrosses_8_216 Q 0 M1) ∧ (¬ M1.1 542 = 0 → wb_X7_findLineCrosses_8_216 Q ((M1.2.1 30 3) * ((M1.1 542) - 1)) M1))) ∧ (¬ M1.2.1 30 1 = (-1) → Q M1))
set_option maxHeartbeats 4000000 in
set_option maxRecDepth 100000 in
theorem tb_X7_findLineCrosses_8_170 {g : fx_Geo} {p : Program} {l : Launch} {e : Env} {s : State} {m : MethodId} {args : Array Value} {below : List Frame} {meth : Method} {c : Code} (C : fx_Cx g p s m args meth c RX7 cX7_findLineCrosses 2 none) (Q : fx_Mem → Prop) (M : fx_Mem) (h : wb_X7_findLineCrosses_8_170 Q M) (H : Heap) (locs : List Loc) (ls : Array Slot) (hH : fx_H g s M H locs) (hl : lv_has ls 2 [(0, .ref (fx_a g 8))]) : W p l e rm_X7_findLineCrosses_8 s m args below meth c H locs 0 0 (MQ below (va_Qv Q (fx_Pw g) (fx_A g)) args s 0 0 (fx_A g)) (F0 m 170 ls []) := by
  obtain ⟨hx, hb, hr, hml, hown, hts, hlocks, hsz, hK, hG, hSt⟩ := id C
  unfold wb_X7_findLineCrosses_8_170 at h
  refine lv_aload_n hx hb dX7_findLineCrosses_170 rfl (lv_at hl 0 rfl) ?_
  refine lv_aload_n hx hb dX7_findLineCrosses_171 rfl (lv_at hl 0 rfl) ?_
  refine fx_get C hH (fx_w8 g M) rfl in_X7 1 (by decide) u_824 rfl rfl dX7_findLineCrosses_172 ?_
  refine lv_iconst (v := 1) hx hb dX7_findLineCrosses_175 (by decide) ?_
  refine fx_iald (j := 1) C hH 30 (fx_w30 g M) (by decide) (by unfold vp_in; decide) dX7_findLineCrosses_176 ?_
  refine fx_put C hH (fx_w8 g M) rfl in_X7 tyX7 tyX7_ok nmX7 31 (by decide) u_854 rfl rfl (ty := .int) (by decide +kernel) rfl rfl (Nat.le_of_ble_eq_true rfl) (fx_p8_31 g M (M.2.1 30 1)) dX7_findLineCrosses_177 (fun H locs hH => ?_)
  generalize eM1 : fx_si M 543 (M.2.1 30 1) = M1 at hH
  replace h := h M1 eM1.symm
  refine lv_aload_n hx hb dX7_findLineCrosses_180 rfl (lv_at hl 0 rfl) ?_
  refine fx_get C hH (fx_w8 g M1) rfl in_X7 1 (by decide) u_824 rfl rfl dX7_findLineCrosses_181 ?_
  refine lv_iconst (v := 1) hx hb dX7_findLineCrosses_184 (by decide) ?_
  refine fx_iald (j := 1) C hH 30 (fx_w30 g M1) (by decide) (by unfold vp_in; decide) dX7_findLineCrosses_185 ?_
  refine lv_iconst (v := -1) hx hb dX7_findLineCrosses_186 (by decide) ?_
  refine lv_icmp_eq (tgt := 191) hx hb dX7_findLineCrosses_187 (by decide) (fun c2 => ?_) (fun c2 => ?_)
  · replace h := h.1 c2
    refine lv_aload_n hx hb dX7_findLineCrosses_191 rfl (lv_at hl 0 rfl) ?_
    refine lv_aload_n hx hb dX7_findLineCrosses_192 rfl (lv_at hl 0 rfl) ?_
    refine fx_get C hH (fx_w8 g M1) rfl in_X7 30 (by decide) u_853 rfl rfl dX7_findLineCrosses_193 ?_
    refine lv_if_ne (tgt := 203) hx hb dX7_findLineCrosses_196 (by decide) (fun c3 => ?_) (fun c3 => ?_)
    · replace h := h.2 c3
      refine lv_aload_n hx hb dX7_findLineCrosses_203 rfl (lv_at hl 0 rfl) ?_
      refine fx_get C hH (fx_w8 g M1) rfl in_X7 1 (by decide) u_824 rfl rfl dX7_findLineCrosses_204 ?_
      refine lv_iconst (v := 3) hx hb dX7_findLineCrosses_207 (by decide) ?_
      refine fx_iald (j := 3) C hH 30 (fx_w30 g M1) (by decide) (by unfold vp_in; decide) dX7_findLineCrosses_208 ?_
      refine lv_aload_n hx hb dX7_findLineCrosses_209 rfl (lv_at hl 0 rfl) ?_
      refine fx_get C hH (fx_w8 g M1) rfl in_X7 30 (by decide) u_853 rfl rfl dX7_findLineCrosses_210 ?_
      refine lv_iconst (v := 1) hx hb dX7_findLineCrosses_213 (by decide) ?_
      refine lv_isub hx hb dX7_findLineCrosses_214 ?_
      refine lv_imul hx hb dX7_findLineCrosses_215 ?_
      exact tb_X7_findLineCrosses_8_216 C Q  ((M1.2.1 30 3) * ((M1.1 542) - 1)) M1 h  H locs ls hH (lv_sub hl [0] rfl)
    · replace h := h.1 c3
      refine lv_iconst (v := 0) hx hb dX7_findLineCrosses_199 (by decide) ?_
      refine lv_goto (tgt := 216) hx hb dX7_findLineCrosses_200 (by decide) ?_
      exact tb_X7_findLineCrosses_8_216 C Q  0 M1 h  H locs ls hH (lv_sub hl [0] rfl)
  · replace h := h.2 c2
    exact fx_vret C hH h dX7_findLineCrosses_190
def wb_X7_findLineCrosses_8_125 (Q : fx_Mem → Prop) (M : fx_Mem) : Prop :=
  wp_X7_crossLeft_8  M (fun r2 M1 => wp_X7_divides_8 r2.toInt64 (M1.1 542) M1 (fun M3 => ∃ n140 : Nat, wl_X7_findLineCrosses_8_140 (wb_X7_findLineCrosses_8_170 Q) Q n140 0 M3))
set_option maxHeartbeats 4000000 in
set_option maxRecDepth 100000 in
theorem tb_X7_findLineCrosses_8_125 {g : fx_Geo} {p : Program} {l : Launch} {e : Env} {s : State} {m : MethodId} {args : Array Value} {below : List Frame} {meth : Method} {c : Code} (C : fx_Cx g p s m args meth c RX7 cX7_findLineCrosses 2 none) (Q : fx_Mem → Prop) (M : fx_Mem) (h : wb_X7_findLineCrosses_8_125 Q M) (H : Heap) (locs : List Loc) (ls : Array Slot) (hH : fx_H g s M H locs) (hl : lv_has ls 2 [(0, .ref (fx_a g 8))]) : W p l e rm_X7_findLineCrosses_8 s m args below meth c H locs 0 0 (MQ below (va_Qv Q (fx_Pw g) (fx_A g)) args s 0 0 (fx_A g)) (F0 m 125 ls []) := by
  obtain ⟨hx, hb, hr, hml, hown, hts, hlocks, hsz, hK, hG, hSt⟩ := id C
  unfold wb_X7_findLineCrosses_8_125 at h
  refine lv_aload_n hx hb dX7_findLineCrosses_125 rfl (lv_at hl 0 rfl) ?_
  refine lv_aload_n hx hb dX7_findLineCrosses_126 rfl (lv_at hl 0 rfl) ?_
  refine fx_ci hH (fx_runV (As := []) (rest := [.ref (fx_a g 8)]) C hH (c_X7_crossLeft_8 l C.2.2.2.2.2.2.2.2.2.1  M _ h) (fx_cwV 0 hts u_1094 u_1096 us_46 u_8 u_1097 rfl rfl (by decide +kernel) ⟨(Nat.le_of_ble_eq_true rfl), (Nat.le_of_ble_eq_true rfl)⟩) (fx_w8 g M) rfl rfl hl.1 rfl (Nat.le_of_ble_eq_true rfl) dX7_findLineCrosses_127 ⟨(Nat.le_of_ble_eq_true rfl), (Nat.le_of_ble_eq_true rfl)⟩) (fun r2 M1 H locs h hH => ?_)
  refine lv_i2l hx hb dX7_findLineCrosses_130 rfl ?_
  refine lv_aload_n hx hb dX7_findLineCrosses_131 rfl (lv_at hl 0 rfl) ?_
  refine fx_get C hH (fx_w8 g M1) rfl in_X7 30 (by decide) u_853 rfl rfl dX7_findLineCrosses_132 ?_
  refine fx_cv hH (fx_runV (As := [.long r2.toInt64, .int (M1.1 542)]) (rest := []) C hH (c_X7_divides_8 l C.2.2.2.2.2.2.2.2.2.1 r2.toInt64 (M1.1 542) M1 _ h) (fx_cwV 2 hts u_1078 u_1080 us_42 u_8 u_1081 rfl rfl (by decide +kernel) ⟨(Nat.le_of_ble_eq_true rfl), (Nat.le_of_ble_eq_true rfl)⟩) (fx_w8 g M1) rfl rfl hl.1 rfl (Nat.le_of_ble_eq_true rfl) dX7_findLineCrosses_135 ⟨(Nat.le_of_ble_eq_true rfl), (Nat.le_of_ble_eq_true rfl)⟩) (fun M3 H locs h hH => ?_)
  refine lv_iconst (v := 0) hx hb dX7_findLineCrosses_138 (by decide) ?_
  refine lv_istore_n (lv' := [(1, .int 0), (0, .ref (fx_a g 8))]) hx hb dX7_findLineCrosses_139 rfl hl (by decide) rfl (fun ls hl => ?_)
  obtain ⟨n140, h⟩ := h
  exact tl_X7_findLineCrosses_8_140 C (wb_X7_findLineCrosses_8_170 Q) Q (tb_X7_findLineCrosses_8_170 C Q ) n140 0 M3 h  H locs ls hH (lv_sub hl [1, 0] rfl)
def wb_X7_findLineCrosses_8_75 (Q : fx_Mem → Prop) (M : fx_Mem) : Prop :=
  ((M.2.1 30 1 = (-1) → wb_X7_findLineCrosses_8_170 Q  M) ∧ (¬ M.2.1 30 1 = (-1) → ((M.2.1 30 8 = 0 → wp_X7_crossLeft_8  M (fun r4 M3 => ((r4 ≤ 0 → wb_X7_findLineCrosses_8_170 Q  M3) ∧ (¬ r4 ≤ 0 → ∃ n104 : Nat, wl_X7_findLineCrosses_8_104 (wb_X7_findLineCrosses_8_125 Q) Q n104 0 M3)))) ∧ (¬ M.2.1 30 8 = 0 → wb_X7_findLineCrosses_8_170 Q  M))))
set_option maxHeartbeats 4000000 in
set_option maxRecDepth 100000 in
theorem tb_X7_findLineCrosses_8_75 {g : fx_Geo} {p : Program} {l : Launch} {e : Env} {s : State} {m : MethodId} {args : Array Value} {below : List Frame} {meth : Method} {c : Code} (C : fx_Cx g p s m args meth c RX7 cX7_findLineCrosses 2 none) (Q : fx_Mem → Prop) (M : fx_Mem) (h : wb_X7_findLineCrosses_8_75 Q M) (H : Heap) (locs : List Loc) (ls : Array Slot) (hH : fx_H g s M H locs) (hl : lv_has ls 2 [(0, .ref (fx_a g 8))]) : W p l e rm_X7_findLineCrosses_8 s m args below meth c H locs 0 0 (MQ below (va_Qv Q (fx_Pw g) (fx_A g)) args s 0 0 (fx_A g)) (F0 m 75 ls []) := by
  obtain ⟨hx, hb, hr, hml, hown, hts, hlocks, hsz, hK, hG, hSt⟩ := id C
  unfold wb_X7_findLineCrosses_8_75 at h
  refine lv_aload_n hx hb dX7_findLineCrosses_75 rfl (lv_at hl 0 rfl) ?_
  refine fx_get C hH (fx_w8 g M) rfl in_X7 1 (by decide) u_824 rfl rfl dX7_findLineCrosses_76 ?_
  refine lv_iconst (v := 1) hx hb dX7_findLineCrosses_79 (by decide) ?_
  refine fx_iald (j := 1) C hH 30 (fx_w30 g M) (by decide) (by unfold vp_in; decide) dX7_findLineCrosses_80 ?_
  refine lv_iconst (v := -1) hx hb dX7_findLineCrosses_81 (by decide) ?_
  refine lv_icmp_eq (tgt := 170) hx hb dX7_findLineCrosses_82 (by decide) (fun c1 => ?_) (fun c1 => ?_)
  · replace h := h.1 c1
    exact tb_X7_findLineCrosses_8_170 C Q   M h  H locs ls hH (lv_sub hl [0] rfl)
  · replace h := h.2 c1
    refine lv_aload_n hx hb dX7_findLineCrosses_85 rfl (lv_at hl 0 rfl) ?_
    refine fx_get C hH (fx_w8 g M) rfl in_X7 1 (by decide) u_824 rfl rfl dX7_findLineCrosses_86 ?_
    refine lv_bipush (v := 8) hx hb dX7_findLineCrosses_89 (by decide) ?_
    refine fx_iald (j := 8) C hH 30 (fx_w30 g M) (by decide) (by unfold vp_in; decide) dX7_findLineCrosses_91 ?_
    refine lv_if_ne (tgt := 170) hx hb dX7_findLineCrosses_92 (by decide) (fun c2 => ?_) (fun c2 => ?_)
    · replace h := h.2 c2
      exact tb_X7_findLineCrosses_8_170 C Q   M h  H locs ls hH (lv_sub hl [0] rfl)
    · replace h := h.1 c2
      refine lv_aload_n hx hb dX7_findLineCrosses_95 rfl (lv_at hl 0 rfl) ?_
      refine fx_ci hH (fx_runV (As := []) (rest := []) C hH (c_X7_crossLeft_8 l C.2.2.2.2.2.2.2.2.2.1  M _ h) (fx_cwV 0 hts u_1094 u_1096 us_46 u_8 u_1097 rfl rfl (by decide +kernel) ⟨(Nat.le_of_ble_eq_true rfl), (Nat.le_of_ble_eq_true rfl)⟩) (fx_w8 g M) rfl rfl hl.1 rfl (Nat.le_of_ble_eq_true rfl) dX7_findLineCrosses_96 ⟨(Nat.le_of_ble_eq_true rfl), (Nat.le_of_ble_eq_true rfl)⟩) (fun r4 M3 H locs h hH => ?_)
      refine lv_if_le (tgt := 170) hx hb dX7_findLineCrosses_99 (by decide) (fun c5 => ?_) (fun c5 => ?_)
      · replace h := h.1 c5
        exact tb_X7_findLineCrosses_8_170 C Q   M3 h  H locs ls hH (lv_sub hl [0] rfl)
      · replace h := h.2 c5
        refine lv_iconst (v := 0) hx hb dX7_findLineCrosses_102 (by decide) ?_
        refine lv_istore_n (lv' := [(1, .int 0), (0, .ref (fx_a g 8))]) hx hb dX7_findLineCrosses_103 rfl hl (by decide) rfl (fun ls hl => ?_)
        obtain ⟨n104, h⟩ := h
        exact tl_X7_findLineCrosses_8_104 C (wb_X7_findLineCrosses_8_125 Q) Q (tb_X7_findLineCrosses_8_125 C Q ) n104 0 M3 h  H locs ls hH (lv_sub hl [1, 0] rfl)
def wb_X7_findLineCrosses_8_33 (Q : fx_Mem → Prop) (M : fx_Mem) : Prop :=
  ((M.1 542 = 1 → ((M.2.1 30 5 = 0 → ((M.2.1 30 1 = (-1) → wb_X7_findLineCrosses_8_75 Q  M) ∧ (¬ M.2.1 30 1 = (-1) → ∀ M4 : fx_Mem, M4 = fx_sa M 51 0 (M.2.1 30 1) → wb_X7_findLineCrosses_8_170 Q  M4))) ∧ (¬ M.2.1 30 5 = 0 → wb_X7_findLineCrosses_8_75 Q  M))) ∧ (¬ M.1 542 = 1 → wb_X7_findLineCrosses_8_75 Q  M))
set_option maxHeartbeats 4000000 in
set_option maxRecDepth 100000 in
theorem tb_X7_findLineCrosses_8_33 {g : fx_Geo} {p : Program} {l : Launch} {e : Env} {s : State} {m : MethodId} {args : Array Value} {below : List Frame} {meth : Method} {c : Code} (C : fx_Cx g p s m args meth c RX7 cX7_findLineCrosses 2 none) (Q : fx_Mem → Prop) (M : fx_Mem) (h : wb_X7_findLineCrosses_8_33 Q M) (H : Heap) (locs : List Loc) (ls : Array Slot) (hH : fx_H g s M H locs) (hl : lv_has ls 2 [(0, .ref (fx_a g 8))]) : W p l e rm_X7_findLineCrosses_8 s m args below meth c H locs 0 0 (MQ below (va_Qv Q (fx_Pw g) (fx_A g)) args s 0 0 (fx_A g)) (F0 m 33 ls []) := by
  obtain ⟨hx, hb, hr, hml, hown, hts, hlocks, hsz, hK, hG, hSt⟩ := id C
  unfold wb_X7_findLineCrosses_8_33 at h
  refine lv_aload_n hx hb dX7_findLineCrosses_33 rfl (lv_at hl 0 rfl) ?_
  refine fx_get C hH (fx_w8 g M) rfl in_X7 30 (by decide) u_853 rfl rfl dX7_findLineCrosses_34 ?_
  refine lv_iconst (v := 1) hx hb dX7_findLineCrosses_37 (by decide) ?_
  refine lv_icmp_ne (tgt := 75) hx hb dX7_findLineCrosses_38 (by decide) (fun c1 => ?_) (fun c1 => ?_)
  · replace h := h.2 c1
    exact tb_X7_findLineCrosses_8_75 C Q   M h  H locs ls hH (lv_sub hl [0] rfl)
  · replace h := h.1 c1
    refine lv_aload_n hx hb dX7_findLineCrosses_41 rfl (lv_at hl 0 rfl) ?_
    refine fx_get C hH (fx_w8 g M) rfl in_X7 1 (by decide) u_824 rfl rfl dX7_findLineCrosses_42 ?_
    refine lv_iconst (v := 5) hx hb dX7_findLineCrosses_45 (by decide) ?_
    refine fx_iald (j := 5) C hH 30 (fx_w30 g M) (by decide) (by unfold vp_in; decide) dX7_findLineCrosses_46 ?_
    refine lv_if_ne (tgt := 75) hx hb dX7_findLineCrosses_47 (by decide) (fun c2 => ?_) (fun c2 => ?_)
    · replace h := h.2 c2
      exact tb_X7_findLineCrosses_8_75 C Q   M h  H locs ls hH (lv_sub hl [0] rfl)
    · replace h := h.1 c2
      refine lv_aload_n hx hb dX7_findLineCrosses_50 rfl (lv_at hl 0 rfl) ?_
      refine fx_get C hH (fx_w8 g M) rfl in_X7 1 (by decide) u_824 rfl rfl dX7_findLineCrosses_51 ?_
      refine lv_iconst (v := 1) hx hb dX7_findLineCrosses_54 (by decide) ?_
      refine fx_iald (j := 1) C hH 30 (fx_w30 g M) (by decide) (by unfold vp_in; decide) dX7_findLineCrosses_55 ?_
      refine lv_iconst (v := -1) hx hb dX7_findLineCrosses_56 (by decide) ?_
      refine lv_icmp_eq (tgt := 75) hx hb dX7_findLineCrosses_57 (by decide) (fun c3 => ?_) (fun c3 => ?_)
      · replace h := h.1 c3
        exact tb_X7_findLineCrosses_8_75 C Q   M h  H locs ls hH (lv_sub hl [0] rfl)
      · replace h := h.2 c3
        refine lv_aload_n hx hb dX7_findLineCrosses_60 rfl (lv_at hl 0 rfl) ?_
        refine fx_get C hH (fx_w8 g M) rfl in_X7 26 (by decide) u_849 rfl rfl dX7_findLineCrosses_61 ?_
        refine lv_iconst (v := 0) hx hb dX7_findLineCrosses_64 (by decide) ?_
        refine lv_aload_n hx hb dX7_findLineCrosses_65 rfl (lv_at hl 0 rfl) ?_
        refine fx_get C hH (fx_w8 g M) rfl in_X7 1 (by decide) u_824 rfl rfl dX7_findLineCrosses_66 ?_
        refine lv_iconst (v := 1) hx hb dX7_findLineCrosses_69 (by decide) ?_
        refine fx_iald (j := 1) C hH 30 (fx_w30 g M) (by decide) (by unfold vp_in; decide) dX7_findLineCrosses_70 ?_
        refine fx_iast (j := 0) (M' := fx_sa M 51 0 (M.2.1 30 1)) C hH 51 (by decide) (fx_w51 g M) (fx_p51 g M _) (by unfold vp_in; decide) dX7_findLineCrosses_71 (fun H locs hH => ?_)
        generalize eM4 : fx_sa M 51 0 (M.2.1 30 1) = M4 at hH
        replace h := h M4 eM4.symm
        refine lv_goto (tgt := 170) hx hb dX7_findLineCrosses_72 (by decide) ?_
        exact tb_X7_findLineCrosses_8_170 C Q   M4 h  H locs ls hH (lv_sub hl [0] rfl)
def wp_X7_findLineCrosses_8 (M : fx_Mem) (Q : fx_Mem → Prop) : Prop :=
  ∃ n2 : Nat, wl_X7_findLineCrosses_8_2 (wb_X7_findLineCrosses_8_33 Q) Q n2 0 M
set_option maxHeartbeats 4000000 in
set_option maxRecDepth 100000 in
theorem c_X7_findLineCrosses_8 (l : Launch) {g : fx_Geo} (hG : fx_Gd g) (M : fx_Mem) (Q : fx_Mem → Prop) (h : wp_X7_findLineCrosses_8 M Q) : Met l yX7_findLineCrosses (.code yX7_findLineCrosses cX7_findLineCrosses 2 none :: fx_U) rm_X7_findLineCrosses_8 (va_Pc [.ref (fx_a g 8)] (fx_At g M)) (va_Qv Q (fx_Pw g) (fx_A g)) 0 0 (fx_A g) := by
  refine Met.ofW (cc := cX7_findLineCrosses) (maxL := 2) (ret := none) (by decide +kernel) rfl ?_
  intro p e s m args below meth c s₁ B hml hv
  obtain ⟨rfl, hv⟩ := hv
  have hts := atoms_spec (ws := .code yX7_findLineCrosses cX7_findLineCrosses 2 none :: fx_U) B.pre
  obtain ⟨C, hH⟩ := fx_body (own := RX7) B hml rfl (fun w hw => hts w (List.mem_cons_of_mem _ hw)) hG hv
  replace hts := fun w hw => hts w (List.mem_cons_of_mem _ hw)
  obtain ⟨hx, hb, hr, -, hown, -, hlocks, hsz, hK, -, hSt⟩ := id C
  have hl := lv_entry ([.ref (fx_a g 8)]) (n := 2) (Nat.le_of_ble_eq_true rfl)
  rw [lg_entry_eq]
  generalize (lg_sl ([.ref (fx_a g 8)]) ++ List.replicate (2 - (lg_sl ([.ref (fx_a g 8)])).length) Slot.unset).toArray = ls at hl ⊢
  have hl : lv_has ls 2 [(0, .ref (fx_a g 8))] := hl
  obtain ⟨H, eH⟩ : ∃ H : Heap, H = s.heap := ⟨_, rfl⟩
  obtain ⟨locs, elocs⟩ : ∃ q : List Loc, q = [] := ⟨_, rfl⟩
  rw [← eH, ← elocs] at hH
  show W p l e rm_X7_findLineCrosses_8 s m _ below meth c s.heap [] 0 0 _ _
  rw [← eH, ← elocs]
  unfold wp_X7_findLineCrosses_8 at h
  refine lv_iconst (v := 0) hx hb dX7_findLineCrosses_0 (by decide) ?_
  refine lv_istore_n (lv' := [(1, .int 0), (0, .ref (fx_a g 8))]) hx hb dX7_findLineCrosses_1 rfl hl (by decide) rfl (fun ls hl => ?_)
  obtain ⟨n2, h⟩ := h
  exact tl_X7_findLineCrosses_8_2 C (wb_X7_findLineCrosses_8_33 Q) Q (tb_X7_findLineCrosses_8_33 C Q ) n2 0 M h  H locs ls hH (lv_sub hl [1, 0] rfl)
/-! FlexLayoutModel.floor(II)I () -/
def rm_X7_floor : Room := { frames := 0, cells := 0, slots := 0, locals := 0 }
def wp_X7_floor (a0 : Int32) (a1 : Int32) (M : fx_Mem) (Q : Int32 → fx_Mem → Prop) : Prop :=
  ((a0 < 0 → (¬ a1 = 0) ∧ Q (-(((a1 - 1) - a0) / a1)) M) ∧ (¬ a0 < 0 → (¬ a1 = 0) ∧ Q (a0 / a1) M))
set_option maxHeartbeats 4000000 in
set_option maxRecDepth 100000 in
theorem c_X7_floor (l : Launch) {g : fx_Geo} (hG : fx_Gd g) (a0 : Int32) (a1 : Int32) (M : fx_Mem) (Q : Int32 → fx_Mem → Prop) (h : wp_X7_floor a0 a1 M Q) : Met l yX7_floor (.code yX7_floor cX7_floor 2 (some .int) :: fx_U) rm_X7_floor (va_Pc [.int a0, .int a1] (fx_At g M)) (va_Qi Q (fx_Pw g) (fx_A g)) 0 0 (fx_A g) := by
  refine Met.ofW (cc := cX7_floor) (maxL := 2) (ret := (some .int)) (by decide +kernel) rfl ?_
  intro p e s m args below meth c s₁ B hml hv
  obtain ⟨rfl, hv⟩ := hv
  have hts := atoms_spec (ws := .code yX7_floor cX7_floor 2 (some .int) :: fx_U) B.pre
  obtain ⟨C, hH⟩ := fx_body (own := RX7) B hml rfl (fun w hw => hts w (List.mem_cons_of_mem _ hw)) hG hv
  replace hts := fun w hw => hts w (List.mem_cons_of_mem _ hw)
  obtain ⟨hx, hb, hr, -, hown, -, hlocks, hsz, hK, -, hSt⟩ := id C
  have hl := lv_entry ([.int a0, .int a1]) (n := 2) (Nat.le_of_ble_eq_true rfl)
  rw [lg_entry_eq]
  generalize (lg_sl ([.int a0, .int a1]) ++ List.replicate (2 - (lg_sl ([.int a0, .int a1])).length) Slot.unset).toArray = ls at hl ⊢
  have hl : lv_has ls 2 [(0, .int a0), (1, .int a1)] := hl
  obtain ⟨H, eH⟩ : ∃ H : Heap, H = s.heap := ⟨_, rfl⟩
  obtain ⟨locs, elocs⟩ : ∃ q : List Loc, q = [] := ⟨_, rfl⟩
  rw [← eH, ← elocs] at hH
  show W p l e rm_X7_floor s m _ below meth c s.heap [] 0 0 _ _
  rw [← eH, ← elocs]
  unfold wp_X7_floor at h
  refine lv_iload_n hx hb dX7_floor_0 rfl (lv_at hl 0 rfl) ?_
  refine lv_if_lt (tgt := 10) hx hb dX7_floor_1 (by decide) (fun c1 => ?_) (fun c1 => ?_)
  · replace h := h.1 c1
    refine lv_iload_n hx hb dX7_floor_10 rfl (lv_at hl 1 rfl) ?_
    refine lv_iconst (v := 1) hx hb dX7_floor_11 (by decide) ?_
    refine lv_isub hx hb dX7_floor_12 ?_
    refine lv_iload_n hx hb dX7_floor_13 rfl (lv_at hl 0 rfl) ?_
    refine lv_isub hx hb dX7_floor_14 ?_
    refine lv_iload_n hx hb dX7_floor_15 rfl (lv_at hl 1 rfl) ?_
    obtain ⟨hz2, h⟩ := h
    refine lv_idiv hx hb dX7_floor_16 hz2 ?_
    refine lv_ineg hx hb dX7_floor_17 ?_
    exact fx_iret C hH h dX7_floor_18
  · replace h := h.2 c1
    refine lv_iload_n hx hb dX7_floor_4 rfl (lv_at hl 0 rfl) ?_
    refine lv_iload_n hx hb dX7_floor_5 rfl (lv_at hl 1 rfl) ?_
    obtain ⟨hz3, h⟩ := h
    refine lv_idiv hx hb dX7_floor_6 hz3 ?_
    refine lv_goto (tgt := 18) hx hb dX7_floor_7 (by decide) ?_
    exact fx_iret C hH h dX7_floor_18
/-! FlexLayoutModel.offset(IIII)I () -/
def rm_X7_offset : Room := { frames := 1, cells := 0, slots := 0, locals := 21 }
def wb_X7_offset_23 (Q : Int32 → fx_Mem → Prop) (x1 : Int32) (x2 : Int32) (x3 : Int32) (s0 : Int32) (M : fx_Mem) : Prop :=
  ((s0 = 1 → Q x1 M) ∧ (s0 = 2 → wp_X7_floor x1 2 M (fun r3 M2 => Q r3 M2)) ∧ (s0 = 3 → ((x3 = 1 → Q 0 M) ∧ (¬ x3 = 1 → (¬ x3 - 1 = 0) ∧ Q ((x1 * x2) / (x3 - 1)) M))) ∧ (s0 = 4 → (¬ 2 * x3 = 0) ∧ Q ((x1 * ((2 * x2) + 1)) / (2 * x3)) M) ∧ (s0 = 5 → (¬ x3 + 1 = 0) ∧ Q ((x1 * (x2 + 1)) / (x3 + 1)) M) ∧ (¬ s0 = 1 → ¬ s0 = 2 → ¬ s0 = 3 → ¬ s0 = 4 → ¬ s0 = 5 → Q 0 M))
set_option maxHeartbeats 4000000 in
set_option maxRecDepth 100000 in
theorem tb_X7_offset_23 {g : fx_Geo} {p : Program} {l : Launch} {e : Env} {s : State} {m : MethodId} {args : Array Value} {below : List Frame} {meth : Method} {c : Code} (C : fx_Cx g p s m args meth c RX7 cX7_offset 5 (some .int)) (Q : Int32 → fx_Mem → Prop) (x1 : Int32) (x2 : Int32) (x3 : Int32) (s0 : Int32) (M : fx_Mem) (h : wb_X7_offset_23 Q x1 x2 x3 s0 M) (H : Heap) (locs : List Loc) (ls : Array Slot) (hH : fx_H g s M H locs) (hl : lv_has ls 5 [(1, .int x1), (2, .int x2), (3, .int x3)]) : W p l e rm_X7_offset s m args below meth c H locs 0 0 (MQ below (va_Qi Q (fx_Pw g) (fx_A g)) args s 0 0 (fx_A g)) (F0 m 23 ls [.int s0]) := by
  obtain ⟨hx, hb, hr, hml, hown, hts, hlocks, hsz, hK, hG, hSt⟩ := id C
  unfold wb_X7_offset_23 at h
  refine lv_istore (lv' := [(4, .int s0), (1, .int x1), (2, .int x2), (3, .int x3)]) hx hb dX7_offset_23 hl (by decide) rfl (fun ls hl => ?_)
  refine lv_iload hx hb dX7_offset_25 (lv_at hl 0 rfl) ?_
  by_cases c1 : s0 = 1
  · replace h := h.1 c1
    refine lv_tableIn (off := 33) (tgt := 60) hx hb dX7_offset_27 (by rw [c1]; decide) (by rw [c1]; decide) (by rw [c1]; rfl) (by decide) ?_
    refine lv_iload_n hx hb dX7_offset_60 rfl (lv_at hl 1 rfl) ?_
    exact fx_iret C hH h dX7_offset_61
  by_cases c4 : s0 = 2
  · replace h := h.2.1 c4
    refine lv_tableIn (off := 35) (tgt := 62) hx hb dX7_offset_27 (by rw [c4]; decide) (by rw [c4]; decide) (by rw [c4]; rfl) (by decide) ?_
    refine lv_iload_n hx hb dX7_offset_62 rfl (lv_at hl 1 rfl) ?_
    refine lv_iconst (v := 2) hx hb dX7_offset_63 (by decide) ?_
    refine fx_ci hH (fx_runS (As := [.int x1, .int 2]) (rest := []) C hH (c_X7_floor l C.2.2.2.2.2.2.2.2.2.1 x1 2 M _ h) (fx_cwS 2 hts u_1101 u_1102 u_8 u_1103 rfl rfl (by decide +kernel) ⟨(Nat.le_of_ble_eq_true rfl), (Nat.le_of_ble_eq_true rfl)⟩) rfl hl.1 rfl (Nat.le_of_ble_eq_true rfl) dX7_offset_64 ⟨(Nat.le_of_ble_eq_true rfl), (Nat.le_of_ble_eq_true rfl)⟩) (fun r3 M2 H locs h hH => ?_)
    exact fx_iret C hH h dX7_offset_67
  by_cases c7 : s0 = 3
  · replace h := h.2.2.1 c7
    refine lv_tableIn (off := 41) (tgt := 68) hx hb dX7_offset_27 (by rw [c7]; decide) (by rw [c7]; decide) (by rw [c7]; rfl) (by decide) ?_
    refine lv_iload_n hx hb dX7_offset_68 rfl (lv_at hl 3 rfl) ?_
    refine lv_iconst (v := 1) hx hb dX7_offset_69 (by decide) ?_
    refine lv_icmp_ne (tgt := 77) hx hb dX7_offset_70 (by decide) (fun c5 => ?_) (fun c5 => ?_)
    · replace h := h.2 c5
      refine lv_iload_n hx hb dX7_offset_77 rfl (lv_at hl 1 rfl) ?_
      refine lv_iload_n hx hb dX7_offset_78 rfl (lv_at hl 2 rfl) ?_
      refine lv_imul hx hb dX7_offset_79 ?_
      refine lv_iload_n hx hb dX7_offset_80 rfl (lv_at hl 3 rfl) ?_
      refine lv_iconst (v := 1) hx hb dX7_offset_81 (by decide) ?_
      refine lv_isub hx hb dX7_offset_82 ?_
      obtain ⟨hz6, h⟩ := h
      refine lv_idiv hx hb dX7_offset_83 hz6 ?_
      exact fx_iret C hH h dX7_offset_84
    · replace h := h.1 c5
      refine lv_iconst (v := 0) hx hb dX7_offset_73 (by decide) ?_
      refine lv_goto (tgt := 84) hx hb dX7_offset_74 (by decide) ?_
      exact fx_iret C hH h dX7_offset_84
  by_cases c9 : s0 = 4
  · replace h := h.2.2.2.1 c9
    refine lv_tableIn (off := 58) (tgt := 85) hx hb dX7_offset_27 (by rw [c9]; decide) (by rw [c9]; decide) (by rw [c9]; rfl) (by decide) ?_
    refine lv_iload_n hx hb dX7_offset_85 rfl (lv_at hl 1 rfl) ?_
    refine lv_iconst (v := 2) hx hb dX7_offset_86 (by decide) ?_
    refine lv_iload_n hx hb dX7_offset_87 rfl (lv_at hl 2 rfl) ?_
    refine lv_imul hx hb dX7_offset_88 ?_
    refine lv_iconst (v := 1) hx hb dX7_offset_89 (by decide) ?_
    refine lv_iadd hx hb dX7_offset_90 ?_
    refine lv_imul hx hb dX7_offset_91 ?_
    refine lv_iconst (v := 2) hx hb dX7_offset_92 (by decide) ?_
    refine lv_iload_n hx hb dX7_offset_93 rfl (lv_at hl 3 rfl) ?_
    refine lv_imul hx hb dX7_offset_94 ?_
    obtain ⟨hz8, h⟩ := h
    refine lv_idiv hx hb dX7_offset_95 hz8 ?_
    exact fx_iret C hH h dX7_offset_96
  by_cases c11 : s0 = 5
  · replace h := h.2.2.2.2.1 c11
    refine lv_tableIn (off := 70) (tgt := 97) hx hb dX7_offset_27 (by rw [c11]; decide) (by rw [c11]; decide) (by rw [c11]; rfl) (by decide) ?_
    refine lv_iload_n hx hb dX7_offset_97 rfl (lv_at hl 1 rfl) ?_
    refine lv_iload_n hx hb dX7_offset_98 rfl (lv_at hl 2 rfl) ?_
    refine lv_iconst (v := 1) hx hb dX7_offset_99 (by decide) ?_
    refine lv_iadd hx hb dX7_offset_100 ?_
    refine lv_imul hx hb dX7_offset_101 ?_
    refine lv_iload_n hx hb dX7_offset_102 rfl (lv_at hl 3 rfl) ?_
    refine lv_iconst (v := 1) hx hb dX7_offset_103 (by decide) ?_
    refine lv_iadd hx hb dX7_offset_104 ?_
    obtain ⟨hz10, h⟩ := h
    refine lv_idiv hx hb dX7_offset_105 hz10 ?_
    exact fx_iret C hH h dX7_offset_106
  replace h := h.2.2.2.2.2 c1 c4 c7 c9 c11
  refine lv_tableOut (tgt := 107) hx hb dX7_offset_27 (by have t0 := lv_neT (a := 1) c1 (by decide); have t1 := lv_neT (a := 2) c4 (by decide); have t2 := lv_neT (a := 3) c7 (by decide); have t3 := lv_neT (a := 4) c9 (by decide); have t4 := lv_neT (a := 5) c11 (by decide); omega) (by decide) ?_
  refine lv_iconst (v := 0) hx hb dX7_offset_107 (by decide) ?_
  exact fx_iret C hH h dX7_offset_108
def wb_X7_offset_9 (Q : Int32 → fx_Mem → Prop) (x0 : Int32) (x1 : Int32) (x2 : Int32) (x3 : Int32) (M : fx_Mem) : Prop :=
  wb_X7_offset_23 Q x1 x2 x3 x0 M
set_option maxHeartbeats 4000000 in
set_option maxRecDepth 100000 in
theorem tb_X7_offset_9 {g : fx_Geo} {p : Program} {l : Launch} {e : Env} {s : State} {m : MethodId} {args : Array Value} {below : List Frame} {meth : Method} {c : Code} (C : fx_Cx g p s m args meth c RX7 cX7_offset 5 (some .int)) (Q : Int32 → fx_Mem → Prop) (x0 : Int32) (x1 : Int32) (x2 : Int32) (x3 : Int32) (M : fx_Mem) (h : wb_X7_offset_9 Q x0 x1 x2 x3 M) (H : Heap) (locs : List Loc) (ls : Array Slot) (hH : fx_H g s M H locs) (hl : lv_has ls 5 [(0, .int x0), (1, .int x1), (2, .int x2), (3, .int x3)]) : W p l e rm_X7_offset s m args below meth c H locs 0 0 (MQ below (va_Qi Q (fx_Pw g) (fx_A g)) args s 0 0 (fx_A g)) (F0 m 9 ls []) := by
  obtain ⟨hx, hb, hr, hml, hown, hts, hlocks, hsz, hK, hG, hSt⟩ := id C
  unfold wb_X7_offset_9 at h
  refine lv_iload_n hx hb dX7_offset_9 rfl (lv_at hl 0 rfl) ?_
  refine lv_goto (tgt := 23) hx hb dX7_offset_10 (by decide) ?_
  exact tb_X7_offset_23 C Q  x1 x2 x3 x0 M h  H locs ls hH (lv_sub hl [1, 2, 3] rfl)
def wp_X7_offset (a0 : Int32) (a1 : Int32) (a2 : Int32) (a3 : Int32) (M : fx_Mem) (Q : Int32 → fx_Mem → Prop) : Prop :=
  ((0 ≤ a1 → wb_X7_offset_9 Q a0 a1 a2 a3 M) ∧ (¬ 0 ≤ a1 → ((3 ≤ a0 → ((a0 = 3 → wb_X7_offset_23 Q a1 a2 a3 0 M) ∧ (¬ a0 = 3 → wb_X7_offset_23 Q a1 a2 a3 2 M))) ∧ (¬ 3 ≤ a0 → wb_X7_offset_9 Q a0 a1 a2 a3 M))))
set_option maxHeartbeats 4000000 in
set_option maxRecDepth 100000 in
theorem c_X7_offset (l : Launch) {g : fx_Geo} (hG : fx_Gd g) (a0 : Int32) (a1 : Int32) (a2 : Int32) (a3 : Int32) (M : fx_Mem) (Q : Int32 → fx_Mem → Prop) (h : wp_X7_offset a0 a1 a2 a3 M Q) : Met l yX7_offset (.code yX7_offset cX7_offset 5 (some .int) :: fx_U) rm_X7_offset (va_Pc [.int a0, .int a1, .int a2, .int a3] (fx_At g M)) (va_Qi Q (fx_Pw g) (fx_A g)) 0 0 (fx_A g) := by
  refine Met.ofW (cc := cX7_offset) (maxL := 5) (ret := (some .int)) (by decide +kernel) rfl ?_
  intro p e s m args below meth c s₁ B hml hv
  obtain ⟨rfl, hv⟩ := hv
  have hts := atoms_spec (ws := .code yX7_offset cX7_offset 5 (some .int) :: fx_U) B.pre
  obtain ⟨C, hH⟩ := fx_body (own := RX7) B hml rfl (fun w hw => hts w (List.mem_cons_of_mem _ hw)) hG hv
  replace hts := fun w hw => hts w (List.mem_cons_of_mem _ hw)
  obtain ⟨hx, hb, hr, -, hown, -, hlocks, hsz, hK, -, hSt⟩ := id C
  have hl := lv_entry ([.int a0, .int a1, .int a2, .int a3]) (n := 5) (Nat.le_of_ble_eq_true rfl)
  rw [lg_entry_eq]
  generalize (lg_sl ([.int a0, .int a1, .int a2, .int a3]) ++ List.replicate (5 - (lg_sl ([.int a0, .int a1, .int a2, .int a3])).length) Slot.unset).toArray = ls at hl ⊢
  have hl : lv_has ls 5 [(0, .int a0), (1, .int a1), (2, .int a2), (3, .int a3)] := hl
  obtain ⟨H, eH⟩ : ∃ H : Heap, H = s.heap := ⟨_, rfl⟩
  obtain ⟨locs, elocs⟩ : ∃ q : List Loc, q = [] := ⟨_, rfl⟩
  rw [← eH, ← elocs] at hH
  show W p l e rm_X7_offset s m _ below meth c s.heap [] 0 0 _ _
  rw [← eH, ← elocs]
  unfold wp_X7_offset at h
  refine lv_iload_n hx hb dX7_offset_0 rfl (lv_at hl 1 rfl) ?_
  refine lv_if_ge (tgt := 9) hx hb dX7_offset_1 (by decide) (fun c1 => ?_) (fun c1 => ?_)
  · replace h := h.1 c1
    exact tb_X7_offset_9 C Q  a0 a1 a2 a3 M h  H locs ls hH (lv_sub hl [0, 1, 2, 3] rfl)
  · replace h := h.2 c1
    refine lv_iload_n hx hb dX7_offset_4 rfl (lv_at hl 0 rfl) ?_
    refine lv_iconst (v := 3) hx hb dX7_offset_5 (by decide) ?_
    refine lv_icmp_ge (tgt := 13) hx hb dX7_offset_6 (by decide) (fun c2 => ?_) (fun c2 => ?_)
    · replace h := h.1 c2
      refine lv_iload_n hx hb dX7_offset_13 rfl (lv_at hl 0 rfl) ?_
      refine lv_iconst (v := 3) hx hb dX7_offset_14 (by decide) ?_
      refine lv_icmp_ne (tgt := 22) hx hb dX7_offset_15 (by decide) (fun c3 => ?_) (fun c3 => ?_)
      · replace h := h.2 c3
        refine lv_iconst (v := 2) hx hb dX7_offset_22 (by decide) ?_
        exact tb_X7_offset_23 C Q  a1 a2 a3 2 M h  H locs ls hH (lv_sub hl [1, 2, 3] rfl)
      · replace h := h.1 c3
        refine lv_iconst (v := 0) hx hb dX7_offset_18 (by decide) ?_
        refine lv_goto (tgt := 23) hx hb dX7_offset_19 (by decide) ?_
        exact tb_X7_offset_23 C Q  a1 a2 a3 0 M h  H locs ls hH (lv_sub hl [1, 2, 3] rfl)
    · replace h := h.2 c2
      exact tb_X7_offset_9 C Q  a0 a1 a2 a3 M h  H locs ls hH (lv_sub hl [0, 1, 2, 3] rfl)
/-! FlexLayoutModel.findPlaces(I)V (8,) -/
def rm_X7_findPlaces_8 : Room := { frames := 2, cells := 0, slots := 0, locals := 45 }
def wb_X7_findPlaces_8_293 (k4 : Int32 → Int32 → Int32 → fx_Mem → Prop) (Q : fx_Mem → Prop) (x1 : Int32) (x2 : Int32) (x3 : Int32) (M : fx_Mem) : Prop :=
  ∀ v1 : Int32, v1 = x3 + 1 → k4 x1 x2 v1 M
set_option maxHeartbeats 4000000 in
set_option maxRecDepth 100000 in
theorem tb_X7_findPlaces_8_293 {g : fx_Geo} {p : Program} {l : Launch} {e : Env} {s : State} {m : MethodId} {args : Array Value} {below : List Frame} {meth : Method} {c : Code} (C : fx_Cx g p s m args meth c RX7 cX7_findPlaces 9 none) (k4 : Int32 → Int32 → Int32 → fx_Mem → Prop) (Q : fx_Mem → Prop) (hk4 : ∀ (x1 : Int32) (x2 : Int32) (x3 : Int32) (M : fx_Mem), k4 x1 x2 x3 M → ∀ (H : Heap) (locs : List Loc) (ls : Array Slot), fx_H g s M H locs → lv_has ls 9 [(0, .ref (fx_a g 8)), (1, .int x1), (2, .int x2), (3, .int x3)] → W p l e rm_X7_findPlaces_8 s m args below meth c H locs 0 0 (MQ below (va_Qv Q (fx_Pw g) (fx_A g)) args s 0 0 (fx_A g)) (F0 m 4 ls [])) (x1 : Int32) (x2 : Int32) (x3 : Int32) (M : fx_Mem) (h : wb_X7_findPlaces_8_293 k4 Q x1 x2 x3 M) (H : Heap) (locs : List Loc) (ls : Array Slot) (hH : fx_H g s M H locs) (hl : lv_has ls 9 [(0, .ref (fx_a g 8)), (1, .int x1), (2, .int x2), (3, .int x3)]) : W p l e rm_X7_findPlaces_8 s m args below meth c H locs 0 0 (MQ below (va_Qv Q (fx_Pw g) (fx_A g)) args s 0 0 (fx_A g)) (F0 m 293 ls []) := by
  obtain ⟨hx, hb, hr, hml, hown, hts, hlocks, hsz, hK, hG, hSt⟩ := id C
  unfold wb_X7_findPlaces_8_293 at h
  obtain ⟨v1, ev1⟩ : ∃ z : Int32, z = x3 + 1 := ⟨_, rfl⟩
  refine lv_iinc (v := v1) (lv' := [(3, .int v1), (0, .ref (fx_a g 8)), (1, .int x1), (2, .int x2)]) hx hb dX7_findPlaces_293 hl (k := 3) rfl (by rw [ev1]; rfl) (by decide) rfl (fun ls hl => ?_)
  replace h := h v1 ev1
  refine lv_goto (tgt := 4) hx hb dX7_findPlaces_296 (by decide) ?_
  exact hk4 x1 x2 v1 M h  H locs ls hH (lv_sub hl [1, 2, 3, 0] rfl)
def wb_X7_findPlaces_8_256 (k4 : Int32 → Int32 → Int32 → fx_Mem → Prop) (Q : fx_Mem → Prop) (x1 : Int32) (x2 : Int32) (x3 : Int32) (x4 : Int32) (M : fx_Mem) : Prop :=
  ((M.2.1 30 5 = 2 → vp_in x4 20 ∧ vp_in x4 20 ∧ vp_in x4 20 ∧ ∀ M5 : fx_Mem, M5 = fx_sa M 44 x4.toNatClampNeg (((M.1 543) - (M.2.1 44 x4.toNatClampNeg)) - (M.2.1 42 x4.toNatClampNeg)) → wb_X7_findPlaces_8_293 k4 Q x1 x2 x3 M5) ∧ (¬ M.2.1 30 5 = 2 → wb_X7_findPlaces_8_293 k4 Q x1 x2 x3 M))
set_option maxHeartbeats 4000000 in
set_option maxRecDepth 100000 in
theorem tb_X7_findPlaces_8_256 {g : fx_Geo} {p : Program} {l : Launch} {e : Env} {s : State} {m : MethodId} {args : Array Value} {below : List Frame} {meth : Method} {c : Code} (C : fx_Cx g p s m args meth c RX7 cX7_findPlaces 9 none) (k4 : Int32 → Int32 → Int32 → fx_Mem → Prop) (Q : fx_Mem → Prop) (hk4 : ∀ (x1 : Int32) (x2 : Int32) (x3 : Int32) (M : fx_Mem), k4 x1 x2 x3 M → ∀ (H : Heap) (locs : List Loc) (ls : Array Slot), fx_H g s M H locs → lv_has ls 9 [(0, .ref (fx_a g 8)), (1, .int x1), (2, .int x2), (3, .int x3)] → W p l e rm_X7_findPlaces_8 s m args below meth c H locs 0 0 (MQ below (va_Qv Q (fx_Pw g) (fx_A g)) args s 0 0 (fx_A g)) (F0 m 4 ls [])) (x1 : Int32) (x2 : Int32) (x3 : Int32) (x4 : Int32) (M : fx_Mem) (h : wb_X7_findPlaces_8_256 k4 Q x1 x2 x3 x4 M) (H : Heap) (locs : List Loc) (ls : Array Slot) (hH : fx_H g s M H locs) (hl : lv_has ls 9 [(0, .ref (fx_a g 8)), (1, .int x1), (2, .int x2), (3, .int x3), (4, .int x4)]) : W p l e rm_X7_findPlaces_8 s m args below meth c H locs 0 0 (MQ below (va_Qv Q (fx_Pw g) (fx_A g)) args s 0 0 (fx_A g)) (F0 m 256 ls []) := by
  obtain ⟨hx, hb, hr, hml, hown, hts, hlocks, hsz, hK, hG, hSt⟩ := id C
  unfold wb_X7_findPlaces_8_256 at h
  refine lv_aload_n hx hb dX7_findPlaces_256 rfl (lv_at hl 0 rfl) ?_
  refine fx_get C hH (fx_w8 g M) rfl in_X7 1 (by decide) u_824 rfl rfl dX7_findPlaces_257 ?_
  refine lv_iconst (v := 5) hx hb dX7_findPlaces_260 (by decide) ?_
  refine fx_iald (j := 5) C hH 30 (fx_w30 g M) (by decide) (by unfold vp_in; decide) dX7_findPlaces_261 ?_
  refine lv_iconst (v := 2) hx hb dX7_findPlaces_262 (by decide) ?_
  refine lv_icmp_ne (tgt := 293) hx hb dX7_findPlaces_263 (by decide) (fun c1 => ?_) (fun c1 => ?_)
  · replace h := h.2 c1
    exact tb_X7_findPlaces_8_293 C k4 Q hk4 x1 x2 x3 M h  H locs ls hH (lv_sub hl [0, 1, 2, 3] rfl)
  · replace h := h.1 c1
    refine lv_aload_n hx hb dX7_findPlaces_266 rfl (lv_at hl 0 rfl) ?_
    refine fx_get C hH (fx_w8 g M) rfl in_X7 19 (by decide) u_842 rfl rfl dX7_findPlaces_267 ?_
    refine lv_iload hx hb dX7_findPlaces_270 (lv_at hl 4 rfl) ?_
    refine lv_aload_n hx hb dX7_findPlaces_272 rfl (lv_at hl 0 rfl) ?_
    refine fx_get C hH (fx_w8 g M) rfl in_X7 31 (by decide) u_854 rfl rfl dX7_findPlaces_273 ?_
    refine lv_aload_n hx hb dX7_findPlaces_276 rfl (lv_at hl 0 rfl) ?_
    refine fx_get C hH (fx_w8 g M) rfl in_X7 19 (by decide) u_842 rfl rfl dX7_findPlaces_277 ?_
    refine lv_iload hx hb dX7_findPlaces_280 (lv_at hl 4 rfl) ?_
    obtain ⟨hi2, h⟩ := h
    refine fx_iald (j := x4.toNatClampNeg) C hH 44 (fx_w44 g M) rfl hi2 dX7_findPlaces_282 ?_
    refine lv_isub hx hb dX7_findPlaces_283 ?_
    refine lv_aload_n hx hb dX7_findPlaces_284 rfl (lv_at hl 0 rfl) ?_
    refine fx_get C hH (fx_w8 g M) rfl in_X7 17 (by decide) u_840 rfl rfl dX7_findPlaces_285 ?_
    refine lv_iload hx hb dX7_findPlaces_288 (lv_at hl 4 rfl) ?_
    obtain ⟨hi3, h⟩ := h
    refine fx_iald (j := x4.toNatClampNeg) C hH 42 (fx_w42 g M) rfl hi3 dX7_findPlaces_290 ?_
    refine lv_isub hx hb dX7_findPlaces_291 ?_
    obtain ⟨hi4, h⟩ := h
    refine fx_iast (j := x4.toNatClampNeg) (M' := fx_sa M 44 x4.toNatClampNeg (((M.1 543) - (M.2.1 44 x4.toNatClampNeg)) - (M.2.1 42 x4.toNatClampNeg))) C hH 44 rfl (fx_w44 g M) (fx_p44 g M _) hi4 dX7_findPlaces_292 (fun H locs hH => ?_)
    generalize eM5 : fx_sa M 44 x4.toNatClampNeg (((M.1 543) - (M.2.1 44 x4.toNatClampNeg)) - (M.2.1 42 x4.toNatClampNeg)) = M5 at hH
    replace h := h M5 eM5.symm
    exact tb_X7_findPlaces_8_293 C k4 Q hk4 x1 x2 x3 M5 h  H locs ls hH (lv_sub hl [0, 1, 2, 3] rfl)
def wb_X7_findPlaces_8_197 (k4 : Int32 → Int32 → Int32 → fx_Mem → Prop) (Q : fx_Mem → Prop) (x1 : Int32) (x2 : Int32) (x3 : Int32) (x4 : Int32) (s0 : Int32) (M : fx_Mem) : Prop :=
  vp_in x1 20 ∧ vp_in x4 20 ∧ ∀ M3 : fx_Mem, M3 = fx_sa M 44 x4.toNatClampNeg ((M.2.1 54 x1.toNatClampNeg) + s0) → (((M3.2.1 30 4) - (M3.2.1 30 4) / 2 * 2 = 1 → vp_in x4 20 ∧ vp_in x4 20 ∧ vp_in x4 20 ∧ ∀ M8 : fx_Mem, M8 = fx_sa M3 43 x4.toNatClampNeg (((M3.2.1 30 0) - (M3.2.1 43 x4.toNatClampNeg)) - (M3.2.1 40 x4.toNatClampNeg)) → wb_X7_findPlaces_8_256 k4 Q x1 x2 x3 x4 M8) ∧ (¬ (M3.2.1 30 4) - (M3.2.1 30 4) / 2 * 2 = 1 → wb_X7_findPlaces_8_256 k4 Q x1 x2 x3 x4 M3))
set_option maxHeartbeats 4000000 in
set_option maxRecDepth 100000 in
theorem tb_X7_findPlaces_8_197 {g : fx_Geo} {p : Program} {l : Launch} {e : Env} {s : State} {m : MethodId} {args : Array Value} {below : List Frame} {meth : Method} {c : Code} (C : fx_Cx g p s m args meth c RX7 cX7_findPlaces 9 none) (k4 : Int32 → Int32 → Int32 → fx_Mem → Prop) (Q : fx_Mem → Prop) (hk4 : ∀ (x1 : Int32) (x2 : Int32) (x3 : Int32) (M : fx_Mem), k4 x1 x2 x3 M → ∀ (H : Heap) (locs : List Loc) (ls : Array Slot), fx_H g s M H locs → lv_has ls 9 [(0, .ref (fx_a g 8)), (1, .int x1), (2, .int x2), (3, .int x3)] → W p l e rm_X7_findPlaces_8 s m args below meth c H locs 0 0 (MQ below (va_Qv Q (fx_Pw g) (fx_A g)) args s 0 0 (fx_A g)) (F0 m 4 ls [])) (x1 : Int32) (x2 : Int32) (x3 : Int32) (x4 : Int32) (s0 : Int32) (M : fx_Mem) (h : wb_X7_findPlaces_8_197 k4 Q x1 x2 x3 x4 s0 M) (H : Heap) (locs : List Loc) (ls : Array Slot) (hH : fx_H g s M H locs) (hl : lv_has ls 9 [(0, .ref (fx_a g 8)), (1, .int x1), (2, .int x2), (3, .int x3), (4, .int x4)]) : W p l e rm_X7_findPlaces_8 s m args below meth c H locs 0 0 (MQ below (va_Qv Q (fx_Pw g) (fx_A g)) args s 0 0 (fx_A g)) (F0 m 197 ls [.int s0]) := by
  obtain ⟨hx, hb, hr, hml, hown, hts, hlocks, hsz, hK, hG, hSt⟩ := id C
  unfold wb_X7_findPlaces_8_197 at h
  refine lv_istore (lv' := [(8, .int s0), (0, .ref (fx_a g 8)), (1, .int x1), (2, .int x2), (3, .int x3), (4, .int x4)]) hx hb dX7_findPlaces_197 hl (by decide) rfl (fun ls hl => ?_)
  refine lv_aload_n hx hb dX7_findPlaces_199 rfl (lv_at hl 1 rfl) ?_
  refine fx_get C hH (fx_w8 g M) rfl in_X7 19 (by decide) u_842 rfl rfl dX7_findPlaces_200 ?_
  refine lv_iload hx hb dX7_findPlaces_203 (lv_at hl 5 rfl) ?_
  refine lv_aload_n hx hb dX7_findPlaces_205 rfl (lv_at hl 1 rfl) ?_
  refine fx_get C hH (fx_w8 g M) rfl in_X7 29 (by decide) u_852 rfl rfl dX7_findPlaces_206 ?_
  refine lv_iload_n hx hb dX7_findPlaces_209 rfl (lv_at hl 2 rfl) ?_
  obtain ⟨hi1, h⟩ := h
  refine fx_iald (j := x1.toNatClampNeg) C hH 54 (fx_w54 g M) rfl hi1 dX7_findPlaces_210 ?_
  refine lv_iload hx hb dX7_findPlaces_211 (lv_at hl 0 rfl) ?_
  refine lv_iadd hx hb dX7_findPlaces_213 ?_
  obtain ⟨hi2, h⟩ := h
  refine fx_iast (j := x4.toNatClampNeg) (M' := fx_sa M 44 x4.toNatClampNeg ((M.2.1 54 x1.toNatClampNeg) + s0)) C hH 44 rfl (fx_w44 g M) (fx_p44 g M _) hi2 dX7_findPlaces_214 (fun H locs hH => ?_)
  generalize eM3 : fx_sa M 44 x4.toNatClampNeg ((M.2.1 54 x1.toNatClampNeg) + s0) = M3 at hH
  replace h := h M3 eM3.symm
  refine lv_aload_n hx hb dX7_findPlaces_215 rfl (lv_at hl 1 rfl) ?_
  refine fx_get C hH (fx_w8 g M3) rfl in_X7 1 (by decide) u_824 rfl rfl dX7_findPlaces_216 ?_
  refine lv_iconst (v := 4) hx hb dX7_findPlaces_219 (by decide) ?_
  refine fx_iald (j := 4) C hH 30 (fx_w30 g M3) (by decide) (by unfold vp_in; decide) dX7_findPlaces_220 ?_
  refine lv_iconst (v := 2) hx hb dX7_findPlaces_221 (by decide) ?_
  refine lv_irem hx hb dX7_findPlaces_222 (by decide) ?_
  refine lv_iconst (v := 1) hx hb dX7_findPlaces_223 (by decide) ?_
  refine lv_icmp_ne (tgt := 256) hx hb dX7_findPlaces_224 (by decide) (fun c4 => ?_) (fun c4 => ?_)
  · replace h := h.2 c4
    exact tb_X7_findPlaces_8_256 C k4 Q hk4 x1 x2 x3 x4 M3 h  H locs ls hH (lv_sub hl [1, 2, 3, 4, 5] rfl)
  · replace h := h.1 c4
    refine lv_aload_n hx hb dX7_findPlaces_227 rfl (lv_at hl 1 rfl) ?_
    refine fx_get C hH (fx_w8 g M3) rfl in_X7 18 (by decide) u_841 rfl rfl dX7_findPlaces_228 ?_
    refine lv_iload hx hb dX7_findPlaces_231 (lv_at hl 5 rfl) ?_
    refine lv_aload_n hx hb dX7_findPlaces_233 rfl (lv_at hl 1 rfl) ?_
    refine fx_get C hH (fx_w8 g M3) rfl in_X7 1 (by decide) u_824 rfl rfl dX7_findPlaces_234 ?_
    refine lv_iconst (v := 0) hx hb dX7_findPlaces_237 (by decide) ?_
    refine fx_iald (j := 0) C hH 30 (fx_w30 g M3) (by decide) (by unfold vp_in; decide) dX7_findPlaces_238 ?_
    refine lv_aload_n hx hb dX7_findPlaces_239 rfl (lv_at hl 1 rfl) ?_
    refine fx_get C hH (fx_w8 g M3) rfl in_X7 18 (by decide) u_841 rfl rfl dX7_findPlaces_240 ?_
    refine lv_iload hx hb dX7_findPlaces_243 (lv_at hl 5 rfl) ?_
    obtain ⟨hi5, h⟩ := h
    refine fx_iald (j := x4.toNatClampNeg) C hH 43 (fx_w43 g M3) rfl hi5 dX7_findPlaces_245 ?_
    refine lv_isub hx hb dX7_findPlaces_246 ?_
    refine lv_aload_n hx hb dX7_findPlaces_247 rfl (lv_at hl 1 rfl) ?_
    refine fx_get C hH (fx_w8 g M3) rfl in_X7 15 (by decide) u_838 rfl rfl dX7_findPlaces_248 ?_
    refine lv_iload hx hb dX7_findPlaces_251 (lv_at hl 5 rfl) ?_
    obtain ⟨hi6, h⟩ := h
    refine fx_iald (j := x4.toNatClampNeg) C hH 40 (fx_w40 g M3) rfl hi6 dX7_findPlaces_253 ?_
    refine lv_isub hx hb dX7_findPlaces_254 ?_
    obtain ⟨hi7, h⟩ := h
    refine fx_iast (j := x4.toNatClampNeg) (M' := fx_sa M3 43 x4.toNatClampNeg (((M3.2.1 30 0) - (M3.2.1 43 x4.toNatClampNeg)) - (M3.2.1 40 x4.toNatClampNeg))) C hH 43 rfl (fx_w43 g M3) (fx_p43 g M3 _) hi7 dX7_findPlaces_255 (fun H locs hH => ?_)
    generalize eM8 : fx_sa M3 43 x4.toNatClampNeg (((M3.2.1 30 0) - (M3.2.1 43 x4.toNatClampNeg)) - (M3.2.1 40 x4.toNatClampNeg)) = M8 at hH
    replace h := h M8 eM8.symm
    exact tb_X7_findPlaces_8_256 C k4 Q hk4 x1 x2 x3 x4 M8 h  H locs ls hH (lv_sub hl [1, 2, 3, 4, 5] rfl)
def wb_X7_findPlaces_8_129 (k4 : Int32 → Int32 → Int32 → fx_Mem → Prop) (Q : fx_Mem → Prop) (x1 : Int32) (x2 : Int32) (x3 : Int32) (x4 : Int32) (x5 : Int32) (x6 : Int32) (s0 : Int32) (s1 : Int32) (M : fx_Mem) : Prop :=
  vp_in s1 20 ∧ ∀ M2 : fx_Mem, M2 = fx_sa M 42 s1.toNatClampNeg s0 → vp_in x1 20 ∧ vp_in x4 20 ∧ ∀ v5 : Int32, v5 = (M2.2.1 51 x1.toNatClampNeg) - (M2.2.1 42 x4.toNatClampNeg) → ((x6 = 2 → wb_X7_findPlaces_8_197 k4 Q x1 x2 x3 x4 v5 M2) ∧ (¬ x6 = 2 → ((x6 = 3 → wp_X7_floor v5 2 M2 (fun r13 M12 => wb_X7_findPlaces_8_197 k4 Q x1 x2 x3 x4 r13 M12)) ∧ (¬ x6 = 3 → ((x6 = 4 → vp_in x1 20 ∧ wp_X7_of_8 x5 6 M2 (fun r11 M10 => wb_X7_findPlaces_8_197 k4 Q x1 x2 x3 x4 ((M2.2.1 52 x1.toNatClampNeg) - r11) M10)) ∧ (¬ x6 = 4 → wb_X7_findPlaces_8_197 k4 Q x1 x2 x3 x4 0 M2))))))
set_option maxHeartbeats 4000000 in
set_option maxRecDepth 100000 in
theorem tb_X7_findPlaces_8_129 {g : fx_Geo} {p : Program} {l : Launch} {e : Env} {s : State} {m : MethodId} {args : Array Value} {below : List Frame} {meth : Method} {c : Code} (C : fx_Cx g p s m args meth c RX7 cX7_findPlaces 9 none) (k4 : Int32 → Int32 → Int32 → fx_Mem → Prop) (Q : fx_Mem → Prop) (hk4 : ∀ (x1 : Int32) (x2 : Int32) (x3 : Int32) (M : fx_Mem), k4 x1 x2 x3 M → ∀ (H : Heap) (locs : List Loc) (ls : Array Slot), fx_H g s M H locs → lv_has ls 9 [(0, .ref (fx_a g 8)), (1, .int x1), (2, .int x2), (3, .int x3)] → W p l e rm_X7_findPlaces_8 s m args below meth c H locs 0 0 (MQ below (va_Qv Q (fx_Pw g) (fx_A g)) args s 0 0 (fx_A g)) (F0 m 4 ls [])) (x1 : Int32) (x2 : Int32) (x3 : Int32) (x4 : Int32) (x5 : Int32) (x6 : Int32) (s0 : Int32) (s1 : Int32) (M : fx_Mem) (h : wb_X7_findPlaces_8_129 k4 Q x1 x2 x3 x4 x5 x6 s0 s1 M) (H : Heap) (locs : List Loc) (ls : Array Slot) (hH : fx_H g s M H locs) (hl : lv_has ls 9 [(0, .ref (fx_a g 8)), (1, .int x1), (2, .int x2), (3, .int x3), (4, .int x4), (5, .int x5), (6, .int x6)]) : W p l e rm_X7_findPlaces_8 s m args below meth c H locs 0 0 (MQ below (va_Qv Q (fx_Pw g) (fx_A g)) args s 0 0 (fx_A g)) (F0 m 129 ls [.int s0, .int s1, .ref (fx_a g 42)]) := by
  obtain ⟨hx, hb, hr, hml, hown, hts, hlocks, hsz, hK, hG, hSt⟩ := id C
  unfold wb_X7_findPlaces_8_129 at h
  obtain ⟨hi1, h⟩ := h
  refine fx_iast (j := s1.toNatClampNeg) (M' := fx_sa M 42 s1.toNatClampNeg s0) C hH 42 rfl (fx_w42 g M) (fx_p42 g M _) hi1 dX7_findPlaces_129 (fun H locs hH => ?_)
  generalize eM2 : fx_sa M 42 s1.toNatClampNeg s0 = M2 at hH
  replace h := h M2 eM2.symm
  refine lv_aload_n hx hb dX7_findPlaces_130 rfl (lv_at hl 0 rfl) ?_
  refine fx_get C hH (fx_w8 g M2) rfl in_X7 26 (by decide) u_849 rfl rfl dX7_findPlaces_131 ?_
  refine lv_iload_n hx hb dX7_findPlaces_134 rfl (lv_at hl 1 rfl) ?_
  obtain ⟨hi3, h⟩ := h
  refine fx_iald (j := x1.toNatClampNeg) C hH 51 (fx_w51 g M2) rfl hi3 dX7_findPlaces_135 ?_
  refine lv_aload_n hx hb dX7_findPlaces_136 rfl (lv_at hl 0 rfl) ?_
  refine fx_get C hH (fx_w8 g M2) rfl in_X7 17 (by decide) u_840 rfl rfl dX7_findPlaces_137 ?_
  refine lv_iload hx hb dX7_findPlaces_140 (lv_at hl 4 rfl) ?_
  obtain ⟨hi4, h⟩ := h
  refine fx_iald (j := x4.toNatClampNeg) C hH 42 (fx_w42 g M2) rfl hi4 dX7_findPlaces_142 ?_
  refine lv_isub hx hb dX7_findPlaces_143 ?_
  refine lv_topi (fun v5 ev5 => ?_)
  replace h := h v5 ev5
  refine lv_istore (lv' := [(7, .int v5), (0, .ref (fx_a g 8)), (1, .int x1), (2, .int x2), (3, .int x3), (4, .int x4), (5, .int x5), (6, .int x6)]) hx hb dX7_findPlaces_144 hl (by decide) rfl (fun ls hl => ?_)
  refine lv_iload hx hb dX7_findPlaces_146 (lv_at hl 7 rfl) ?_
  refine lv_iconst (v := 2) hx hb dX7_findPlaces_148 (by decide) ?_
  refine lv_icmp_ne (tgt := 157) hx hb dX7_findPlaces_149 (by decide) (fun c6 => ?_) (fun c6 => ?_)
  · replace h := h.2 c6
    refine lv_iload hx hb dX7_findPlaces_157 (lv_at hl 7 rfl) ?_
    refine lv_iconst (v := 3) hx hb dX7_findPlaces_159 (by decide) ?_
    refine lv_icmp_ne (tgt := 172) hx hb dX7_findPlaces_160 (by decide) (fun c7 => ?_) (fun c7 => ?_)
    · replace h := h.2 c7
      refine lv_iload hx hb dX7_findPlaces_172 (lv_at hl 7 rfl) ?_
      refine lv_iconst (v := 4) hx hb dX7_findPlaces_174 (by decide) ?_
      refine lv_icmp_ne (tgt := 196) hx hb dX7_findPlaces_175 (by decide) (fun c8 => ?_) (fun c8 => ?_)
      · replace h := h.2 c8
        refine lv_iconst (v := 0) hx hb dX7_findPlaces_196 (by decide) ?_
        exact tb_X7_findPlaces_8_197 C k4 Q hk4 x1 x2 x3 x4 0 M2 h  H locs ls hH (lv_sub hl [1, 2, 3, 4, 5] rfl)
      · replace h := h.1 c8
        refine lv_aload_n hx hb dX7_findPlaces_178 rfl (lv_at hl 1 rfl) ?_
        refine fx_get C hH (fx_w8 g M2) rfl in_X7 27 (by decide) u_850 rfl rfl dX7_findPlaces_179 ?_
        refine lv_iload_n hx hb dX7_findPlaces_182 rfl (lv_at hl 2 rfl) ?_
        obtain ⟨hi9, h⟩ := h
        refine fx_iald (j := x1.toNatClampNeg) C hH 52 (fx_w52 g M2) rfl hi9 dX7_findPlaces_183 ?_
        refine lv_aload_n hx hb dX7_findPlaces_184 rfl (lv_at hl 1 rfl) ?_
        refine lv_iload hx hb dX7_findPlaces_185 (lv_at hl 6 rfl) ?_
        refine lv_bipush (v := 6) hx hb dX7_findPlaces_187 (by decide) ?_
        refine fx_ci hH (fx_runV (As := [.int x5, .int 6]) (rest := [.int (M2.2.1 52 x1.toNatClampNeg)]) C hH (c_X7_of_8 l C.2.2.2.2.2.2.2.2.2.1 x5 6 M2 _ h) (fx_cwV 2 hts u_997 u_999 us_27 u_8 u_1000 rfl rfl (by decide +kernel) ⟨(Nat.le_of_ble_eq_true rfl), (Nat.le_of_ble_eq_true rfl)⟩) (fx_w8 g M2) rfl rfl hl.1 rfl (Nat.le_of_ble_eq_true rfl) dX7_findPlaces_189 ⟨(Nat.le_of_ble_eq_true rfl), (Nat.le_of_ble_eq_true rfl)⟩) (fun r11 M10 H locs h hH => ?_)
        refine lv_isub hx hb dX7_findPlaces_192 ?_
        refine lv_goto (tgt := 197) hx hb dX7_findPlaces_193 (by decide) ?_
        exact tb_X7_findPlaces_8_197 C k4 Q hk4 x1 x2 x3 x4 ((M2.2.1 52 x1.toNatClampNeg) - r11) M10 h  H locs ls hH (lv_sub hl [1, 2, 3, 4, 5] rfl)
    · replace h := h.1 c7
      refine lv_iload hx hb dX7_findPlaces_163 (lv_at hl 0 rfl) ?_
      refine lv_iconst (v := 2) hx hb dX7_findPlaces_165 (by decide) ?_
      refine fx_ci hH (fx_runS (As := [.int v5, .int 2]) (rest := []) C hH (c_X7_floor l C.2.2.2.2.2.2.2.2.2.1 v5 2 M2 _ h) (fx_cwS 2 hts u_1101 u_1102 u_8 u_1103 rfl rfl (by decide +kernel) ⟨(Nat.le_of_ble_eq_true rfl), (Nat.le_of_ble_eq_true rfl)⟩) rfl hl.1 rfl (Nat.le_of_ble_eq_true rfl) dX7_findPlaces_166 ⟨(Nat.le_of_ble_eq_true rfl), (Nat.le_of_ble_eq_true rfl)⟩) (fun r13 M12 H locs h hH => ?_)
      refine lv_goto (tgt := 197) hx hb dX7_findPlaces_169 (by decide) ?_
      exact tb_X7_findPlaces_8_197 C k4 Q hk4 x1 x2 x3 x4 r13 M12 h  H locs ls hH (lv_sub hl [1, 2, 3, 4, 5] rfl)
  · replace h := h.1 c6
    refine lv_iload hx hb dX7_findPlaces_152 (lv_at hl 0 rfl) ?_
    refine lv_goto (tgt := 197) hx hb dX7_findPlaces_154 (by decide) ?_
    exact tb_X7_findPlaces_8_197 C k4 Q hk4 x1 x2 x3 x4 v5 M2 h  H locs ls hH (lv_sub hl [1, 2, 3, 4, 5] rfl)
def wb_X7_findPlaces_8_122 (k4 : Int32 → Int32 → Int32 → fx_Mem → Prop) (Q : fx_Mem → Prop) (x1 : Int32) (x2 : Int32) (x3 : Int32) (x4 : Int32) (x5 : Int32) (x6 : Int32) (s0 : Int32) (M : fx_Mem) : Prop :=
  wp_X7_of_8 x5 5 M (fun r2 M1 => wb_X7_findPlaces_8_129 k4 Q x1 x2 x3 x4 x5 x6 r2 s0 M1)
set_option maxHeartbeats 4000000 in
set_option maxRecDepth 100000 in
theorem tb_X7_findPlaces_8_122 {g : fx_Geo} {p : Program} {l : Launch} {e : Env} {s : State} {m : MethodId} {args : Array Value} {below : List Frame} {meth : Method} {c : Code} (C : fx_Cx g p s m args meth c RX7 cX7_findPlaces 9 none) (k4 : Int32 → Int32 → Int32 → fx_Mem → Prop) (Q : fx_Mem → Prop) (hk4 : ∀ (x1 : Int32) (x2 : Int32) (x3 : Int32) (M : fx_Mem), k4 x1 x2 x3 M → ∀ (H : Heap) (locs : List Loc) (ls : Array Slot), fx_H g s M H locs → lv_has ls 9 [(0, .ref (fx_a g 8)), (1, .int x1), (2, .int x2), (3, .int x3)] → W p l e rm_X7_findPlaces_8 s m args below meth c H locs 0 0 (MQ below (va_Qv Q (fx_Pw g) (fx_A g)) args s 0 0 (fx_A g)) (F0 m 4 ls [])) (x1 : Int32) (x2 : Int32) (x3 : Int32) (x4 : Int32) (x5 : Int32) (x6 : Int32) (s0 : Int32) (M : fx_Mem) (h : wb_X7_findPlaces_8_122 k4 Q x1 x2 x3 x4 x5 x6 s0 M) (H : Heap) (locs : List Loc) (ls : Array Slot) (hH : fx_H g s M H locs) (hl : lv_has ls 9 [(0, .ref (fx_a g 8)), (1, .int x1), (2, .int x2), (3, .int x3), (4, .int x4), (5, .int x5), (6, .int x6)]) : W p l e rm_X7_findPlaces_8 s m args below meth c H locs 0 0 (MQ below (va_Qv Q (fx_Pw g) (fx_A g)) args s 0 0 (fx_A g)) (F0 m 122 ls [.int s0, .ref (fx_a g 42)]) := by
  obtain ⟨hx, hb, hr, hml, hown, hts, hlocks, hsz, hK, hG, hSt⟩ := id C
  unfold wb_X7_findPlaces_8_122 at h
  refine lv_aload_n hx hb dX7_findPlaces_122 rfl (lv_at hl 0 rfl) ?_
  refine lv_iload hx hb dX7_findPlaces_123 (lv_at hl 5 rfl) ?_
  refine lv_iconst (v := 5) hx hb dX7_findPlaces_125 (by decide) ?_
  refine fx_ci hH (fx_runV (As := [.int x5, .int 5]) (rest := [.int s0, .ref (fx_a g 42)]) C hH (c_X7_of_8 l C.2.2.2.2.2.2.2.2.2.1 x5 5 M _ h) (fx_cwV 2 hts u_997 u_999 us_27 u_8 u_1000 rfl rfl (by decide +kernel) ⟨(Nat.le_of_ble_eq_true rfl), (Nat.le_of_ble_eq_true rfl)⟩) (fx_w8 g M) rfl rfl hl.1 rfl (Nat.le_of_ble_eq_true rfl) dX7_findPlaces_126 ⟨(Nat.le_of_ble_eq_true rfl), (Nat.le_of_ble_eq_true rfl)⟩) (fun r2 M1 H locs h hH => ?_)
  exact tb_X7_findPlaces_8_129 C k4 Q hk4 x1 x2 x3 x4 x5 x6 r2 s0 M1 h  H locs ls hH (lv_sub hl [0, 1, 2, 3, 4, 5, 6] rfl)
def wb_X7_findPlaces_8_4 (k4 : Int32 → Int32 → Int32 → fx_Mem → Prop) (Q : fx_Mem → Prop) (x1 : Int32) (x2 : Int32) (x3 : Int32) (M : fx_Mem) : Prop :=
  vp_in x1 20 ∧ ((M.2.1 48 x1.toNatClampNeg ≤ x3 → Q M) ∧ (¬ M.2.1 48 x1.toNatClampNeg ≤ x3 → vp_in x1 20 ∧ ∀ v4 : Int32, v4 = (M.2.1 47 x1.toNatClampNeg) + x3 → vp_in v4 20 ∧ ∀ v6 : Int32, v6 = M.2.1 39 v4.toNatClampNeg → wp_X7_alignmentOf_8 v6 M (fun r8 M7 => vp_in x1 20 ∧ vp_in x1 20 ∧ wp_X7_offset (M7.2.1 30 6) (M7.2.1 50 x1.toNatClampNeg) x3 (M7.2.1 48 x1.toNatClampNeg) M7 (fun r12 M11 => vp_in v4 20 ∧ ∀ M14 : fx_Mem, M14 = fx_sa M11 43 v4.toNatClampNeg (x2 + r12) → vp_in v4 20 ∧ ∀ v16 : Int32, v16 = x2 + ((M14.2.1 40 v4.toNatClampNeg) + (M14.2.1 30 2)) → ((r8 = 0 → wp_X7_of_8 v6 9 M14 (fun r19 M18 => ((r19 = 1 → vp_in x1 20 ∧ wb_X7_findPlaces_8_129 k4 Q x1 v16 x3 v4 v6 r8 (M18.2.1 51 x1.toNatClampNeg) v4 M18) ∧ (¬ r19 = 1 → wb_X7_findPlaces_8_122 k4 Q x1 v16 x3 v4 v6 r8 v4 M18)))) ∧ (¬ r8 = 0 → wb_X7_findPlaces_8_122 k4 Q x1 v16 x3 v4 v6 r8 v4 M14))))))
set_option maxHeartbeats 4000000 in
set_option maxRecDepth 100000 in
theorem tb_X7_findPlaces_8_4 {g : fx_Geo} {p : Program} {l : Launch} {e : Env} {s : State} {m : MethodId} {args : Array Value} {below : List Frame} {meth : Method} {c : Code} (C : fx_Cx g p s m args meth c RX7 cX7_findPlaces 9 none) (k4 : Int32 → Int32 → Int32 → fx_Mem → Prop) (Q : fx_Mem → Prop) (hk4 : ∀ (x1 : Int32) (x2 : Int32) (x3 : Int32) (M : fx_Mem), k4 x1 x2 x3 M → ∀ (H : Heap) (locs : List Loc) (ls : Array Slot), fx_H g s M H locs → lv_has ls 9 [(0, .ref (fx_a g 8)), (1, .int x1), (2, .int x2), (3, .int x3)] → W p l e rm_X7_findPlaces_8 s m args below meth c H locs 0 0 (MQ below (va_Qv Q (fx_Pw g) (fx_A g)) args s 0 0 (fx_A g)) (F0 m 4 ls [])) (x1 : Int32) (x2 : Int32) (x3 : Int32) (M : fx_Mem) (h : wb_X7_findPlaces_8_4 k4 Q x1 x2 x3 M) (H : Heap) (locs : List Loc) (ls : Array Slot) (hH : fx_H g s M H locs) (hl : lv_has ls 9 [(0, .ref (fx_a g 8)), (1, .int x1), (2, .int x2), (3, .int x3)]) : W p l e rm_X7_findPlaces_8 s m args below meth c H locs 0 0 (MQ below (va_Qv Q (fx_Pw g) (fx_A g)) args s 0 0 (fx_A g)) (F0 m 4 ls []) := by
  obtain ⟨hx, hb, hr, hml, hown, hts, hlocks, hsz, hK, hG, hSt⟩ := id C
  unfold wb_X7_findPlaces_8_4 at h
  refine lv_iload_n hx hb dX7_findPlaces_4 rfl (lv_at hl 3 rfl) ?_
  refine lv_aload_n hx hb dX7_findPlaces_5 rfl (lv_at hl 0 rfl) ?_
  refine fx_get C hH (fx_w8 g M) rfl in_X7 23 (by decide) u_846 rfl rfl dX7_findPlaces_6 ?_
  refine lv_iload_n hx hb dX7_findPlaces_9 rfl (lv_at hl 1 rfl) ?_
  obtain ⟨hi1, h⟩ := h
  refine fx_iald (j := x1.toNatClampNeg) C hH 48 (fx_w48 g M) rfl hi1 dX7_findPlaces_10 ?_
  refine lv_icmp_ge (tgt := 299) hx hb dX7_findPlaces_11 (by decide) (fun c2 => ?_) (fun c2 => ?_)
  · replace h := h.1 c2
    exact fx_vret C hH h dX7_findPlaces_299
  · replace h := h.2 c2
    refine lv_aload_n hx hb dX7_findPlaces_14 rfl (lv_at hl 0 rfl) ?_
    refine fx_get C hH (fx_w8 g M) rfl in_X7 22 (by decide) u_845 rfl rfl dX7_findPlaces_15 ?_
    refine lv_iload_n hx hb dX7_findPlaces_18 rfl (lv_at hl 1 rfl) ?_
    obtain ⟨hi3, h⟩ := h
    refine fx_iald (j := x1.toNatClampNeg) C hH 47 (fx_w47 g M) rfl hi3 dX7_findPlaces_19 ?_
    refine lv_iload_n hx hb dX7_findPlaces_20 rfl (lv_at hl 3 rfl) ?_
    refine lv_iadd hx hb dX7_findPlaces_21 ?_
    refine lv_topi (fun v4 ev4 => ?_)
    replace h := h v4 ev4
    refine lv_istore (lv' := [(4, .int v4), (0, .ref (fx_a g 8)), (1, .int x1), (2, .int x2), (3, .int x3)]) hx hb dX7_findPlaces_22 hl (by decide) rfl (fun ls hl => ?_)
    refine lv_aload_n hx hb dX7_findPlaces_24 rfl (lv_at hl 1 rfl) ?_
    refine fx_get C hH (fx_w8 g M) rfl in_X7 14 (by decide) u_837 rfl rfl dX7_findPlaces_25 ?_
    refine lv_iload hx hb dX7_findPlaces_28 (lv_at hl 0 rfl) ?_
    obtain ⟨hi5, h⟩ := h
    refine fx_iald (j := v4.toNatClampNeg) C hH 39 (fx_w39 g M) rfl hi5 dX7_findPlaces_30 ?_
    refine lv_topi (fun v6 ev6 => ?_)
    replace h := h v6 ev6
    refine lv_istore (lv' := [(5, .int v6), (4, .int v4), (0, .ref (fx_a g 8)), (1, .int x1), (2, .int x2), (3, .int x3)]) hx hb dX7_findPlaces_31 hl (by decide) rfl (fun ls hl => ?_)
    refine lv_aload_n hx hb dX7_findPlaces_33 rfl (lv_at hl 2 rfl) ?_
    refine lv_iload hx hb dX7_findPlaces_34 (lv_at hl 0 rfl) ?_
    refine fx_ci hH (fx_runV (As := [.int v6]) (rest := []) C hH (c_X7_alignmentOf_8 l C.2.2.2.2.2.2.2.2.2.1 v6 M _ h) (fx_cwV 1 hts u_1090 u_1092 us_45 u_8 u_1093 rfl rfl (by decide +kernel) ⟨(Nat.le_of_ble_eq_true rfl), (Nat.le_of_ble_eq_true rfl)⟩) (fx_w8 g M) rfl rfl hl.1 rfl (Nat.le_of_ble_eq_true rfl) dX7_findPlaces_36 ⟨(Nat.le_of_ble_eq_true rfl), (Nat.le_of_ble_eq_true rfl)⟩) (fun r8 M7 H locs h hH => ?_)
    refine lv_istore (lv' := [(6, .int r8), (5, .int v6), (4, .int v4), (0, .ref (fx_a g 8)), (1, .int x1), (2, .int x2), (3, .int x3)]) hx hb dX7_findPlaces_39 hl (by decide) rfl (fun ls hl => ?_)
    refine lv_aload_n hx hb dX7_findPlaces_41 rfl (lv_at hl 3 rfl) ?_
    refine fx_get C hH (fx_w8 g M7) rfl in_X7 18 (by decide) u_841 rfl rfl dX7_findPlaces_42 ?_
    refine lv_iload hx hb dX7_findPlaces_45 (lv_at hl 2 rfl) ?_
    refine lv_iload_n hx hb dX7_findPlaces_47 rfl (lv_at hl 5 rfl) ?_
    refine lv_aload_n hx hb dX7_findPlaces_48 rfl (lv_at hl 3 rfl) ?_
    refine fx_get C hH (fx_w8 g M7) rfl in_X7 1 (by decide) u_824 rfl rfl dX7_findPlaces_49 ?_
    refine lv_bipush (v := 6) hx hb dX7_findPlaces_52 (by decide) ?_
    refine fx_iald (j := 6) C hH 30 (fx_w30 g M7) (by decide) (by unfold vp_in; decide) dX7_findPlaces_54 ?_
    refine lv_aload_n hx hb dX7_findPlaces_55 rfl (lv_at hl 3 rfl) ?_
    refine fx_get C hH (fx_w8 g M7) rfl in_X7 25 (by decide) u_848 rfl rfl dX7_findPlaces_56 ?_
    refine lv_iload_n hx hb dX7_findPlaces_59 rfl (lv_at hl 4 rfl) ?_
    obtain ⟨hi9, h⟩ := h
    refine fx_iald (j := x1.toNatClampNeg) C hH 50 (fx_w50 g M7) rfl hi9 dX7_findPlaces_60 ?_
    refine lv_iload_n hx hb dX7_findPlaces_61 rfl (lv_at hl 6 rfl) ?_
    refine lv_aload_n hx hb dX7_findPlaces_62 rfl (lv_at hl 3 rfl) ?_
    refine fx_get C hH (fx_w8 g M7) rfl in_X7 23 (by decide) u_846 rfl rfl dX7_findPlaces_63 ?_
    refine lv_iload_n hx hb dX7_findPlaces_66 rfl (lv_at hl 4 rfl) ?_
    obtain ⟨hi10, h⟩ := h
    refine fx_iald (j := x1.toNatClampNeg) C hH 48 (fx_w48 g M7) rfl hi10 dX7_findPlaces_67 ?_
    refine fx_ci hH (fx_runS (As := [.int (M7.2.1 30 6), .int (M7.2.1 50 x1.toNatClampNeg), .int x3, .int (M7.2.1 48 x1.toNatClampNeg)]) (rest := [.int x2, .int v4, .ref (fx_a g 43)]) C hH (c_X7_offset l C.2.2.2.2.2.2.2.2.2.1 (M7.2.1 30 6) (M7.2.1 50 x1.toNatClampNeg) x3 (M7.2.1 48 x1.toNatClampNeg) M7 _ h) (fx_cwS 4 hts u_1098 u_1099 u_8 u_1100 rfl rfl (by decide +kernel) ⟨(Nat.le_of_ble_eq_true rfl), (Nat.le_of_ble_eq_true rfl)⟩) rfl hl.1 rfl (Nat.le_of_ble_eq_true rfl) dX7_findPlaces_68 ⟨(Nat.le_of_ble_eq_true rfl), (Nat.le_of_ble_eq_true rfl)⟩) (fun r12 M11 H locs h hH => ?_)
    refine lv_iadd hx hb dX7_findPlaces_71 ?_
    obtain ⟨hi13, h⟩ := h
    refine fx_iast (j := v4.toNatClampNeg) (M' := fx_sa M11 43 v4.toNatClampNeg (x2 + r12)) C hH 43 rfl (fx_w43 g M11) (fx_p43 g M11 _) hi13 dX7_findPlaces_72 (fun H locs hH => ?_)
    generalize eM14 : fx_sa M11 43 v4.toNatClampNeg (x2 + r12) = M14 at hH
    replace h := h M14 eM14.symm
    refine lv_iload_n hx hb dX7_findPlaces_73 rfl (lv_at hl 5 rfl) ?_
    refine lv_aload_n hx hb dX7_findPlaces_74 rfl (lv_at hl 3 rfl) ?_
    refine fx_get C hH (fx_w8 g M14) rfl in_X7 15 (by decide) u_838 rfl rfl dX7_findPlaces_75 ?_
    refine lv_iload hx hb dX7_findPlaces_78 (lv_at hl 2 rfl) ?_
    obtain ⟨hi15, h⟩ := h
    refine fx_iald (j := v4.toNatClampNeg) C hH 40 (fx_w40 g M14) rfl hi15 dX7_findPlaces_80 ?_
    refine lv_aload_n hx hb dX7_findPlaces_81 rfl (lv_at hl 3 rfl) ?_
    refine fx_get C hH (fx_w8 g M14) rfl in_X7 1 (by decide) u_824 rfl rfl dX7_findPlaces_82 ?_
    refine lv_iconst (v := 2) hx hb dX7_findPlaces_85 (by decide) ?_
    refine fx_iald (j := 2) C hH 30 (fx_w30 g M14) (by decide) (by unfold vp_in; decide) dX7_findPlaces_86 ?_
    refine lv_iadd hx hb dX7_findPlaces_87 ?_
    refine lv_iadd hx hb dX7_findPlaces_88 ?_
    refine lv_topi (fun v16 ev16 => ?_)
    replace h := h v16 ev16
    refine lv_istore_n (lv' := [(2, .int v16), (6, .int r8), (5, .int v6), (4, .int v4), (0, .ref (fx_a g 8)), (1, .int x1), (3, .int x3)]) hx hb dX7_findPlaces_89 rfl hl (by decide) rfl (fun ls hl => ?_)
    refine lv_aload_n hx hb dX7_findPlaces_90 rfl (lv_at hl 4 rfl) ?_
    refine fx_get C hH (fx_w8 g M14) rfl in_X7 17 (by decide) u_840 rfl rfl dX7_findPlaces_91 ?_
    refine lv_iload hx hb dX7_findPlaces_94 (lv_at hl 3 rfl) ?_
    refine lv_iload hx hb dX7_findPlaces_96 (lv_at hl 1 rfl) ?_
    refine lv_if_ne (tgt := 122) hx hb dX7_findPlaces_98 (by decide) (fun c17 => ?_) (fun c17 => ?_)
    · replace h := h.2 c17
      exact tb_X7_findPlaces_8_122 C k4 Q hk4 x1 v16 x3 v4 v6 r8 v4 M14 h  H locs ls hH (lv_sub hl [4, 5, 0, 6, 3, 2, 1] rfl)
    · replace h := h.1 c17
      refine lv_aload_n hx hb dX7_findPlaces_101 rfl (lv_at hl 4 rfl) ?_
      refine lv_iload hx hb dX7_findPlaces_102 (lv_at hl 2 rfl) ?_
      refine lv_bipush (v := 9) hx hb dX7_findPlaces_104 (by decide) ?_
      refine fx_ci hH (fx_runV (As := [.int v6, .int 9]) (rest := [.int v4, .ref (fx_a g 42)]) C hH (c_X7_of_8 l C.2.2.2.2.2.2.2.2.2.1 v6 9 M14 _ h) (fx_cwV 2 hts u_997 u_999 us_27 u_8 u_1000 rfl rfl (by decide +kernel) ⟨(Nat.le_of_ble_eq_true rfl), (Nat.le_of_ble_eq_true rfl)⟩) (fx_w8 g M14) rfl rfl hl.1 rfl (Nat.le_of_ble_eq_true rfl) dX7_findPlaces_106 ⟨(Nat.le_of_ble_eq_true rfl), (Nat.le_of_ble_eq_true rfl)⟩) (fun r19 M18 H locs h hH => ?_)
      refine lv_iconst (v := 1) hx hb dX7_findPlaces_109 (by decide) ?_
      refine lv_icmp_ne (tgt := 122) hx hb dX7_findPlaces_110 (by decide) (fun c20 => ?_) (fun c20 => ?_)
      · replace h := h.2 c20
        exact tb_X7_findPlaces_8_122 C k4 Q hk4 x1 v16 x3 v4 v6 r8 v4 M18 h  H locs ls hH (lv_sub hl [4, 5, 0, 6, 3, 2, 1] rfl)
      · replace h := h.1 c20
        refine lv_aload_n hx hb dX7_findPlaces_113 rfl (lv_at hl 4 rfl) ?_
        refine fx_get C hH (fx_w8 g M18) rfl in_X7 26 (by decide) u_849 rfl rfl dX7_findPlaces_114 ?_
        refine lv_iload_n hx hb dX7_findPlaces_117 rfl (lv_at hl 5 rfl) ?_
        obtain ⟨hi21, h⟩ := h
        refine fx_iald (j := x1.toNatClampNeg) C hH 51 (fx_w51 g M18) rfl hi21 dX7_findPlaces_118 ?_
        refine lv_goto (tgt := 129) hx hb dX7_findPlaces_119 (by decide) ?_
        exact tb_X7_findPlaces_8_129 C k4 Q hk4 x1 v16 x3 v4 v6 r8 (M18.2.1 51 x1.toNatClampNeg) v4 M18 h  H locs ls hH (lv_sub hl [4, 5, 0, 6, 3, 2, 1] rfl)
def wl_X7_findPlaces_8_4 (Q : fx_Mem → Prop) (n : Nat) (x1 : Int32) (x2 : Int32) (x3 : Int32) (M : fx_Mem) : Prop :=
  fx_lp (α := Int32 × Int32 × Int32 × fx_Mem) (fun k a => wb_X7_findPlaces_8_4 (fun x1 x2 x3 M => k (x1, x2, x3, M)) Q a.1 a.2.1 a.2.2.1 a.2.2.2) n (x1, x2, x3, M)
set_option maxHeartbeats 4000000 in
theorem tl_X7_findPlaces_8_4 {g : fx_Geo} {p : Program} {l : Launch} {e : Env} {s : State} {m : MethodId} {args : Array Value} {below : List Frame} {meth : Method} {c : Code} (C : fx_Cx g p s m args meth c RX7 cX7_findPlaces 9 none) (Q : fx_Mem → Prop) : ∀ (n : Nat) (x1 : Int32) (x2 : Int32) (x3 : Int32) (M : fx_Mem), wl_X7_findPlaces_8_4  Q n x1 x2 x3 M → ∀ (H : Heap) (locs : List Loc) (ls : Array Slot), fx_H g s M H locs → lv_has ls 9 [(0, .ref (fx_a g 8)), (1, .int x1), (2, .int x2), (3, .int x3)] → W p l e rm_X7_findPlaces_8 s m args below meth c H locs 0 0 (MQ below (va_Qv Q (fx_Pw g) (fx_A g)) args s 0 0 (fx_A g)) (F0 m 4 ls []) := by
  intro n
  induction n with
  | zero => intro x1 x2 x3 M h; exact False.elim h
  | succ n ih => intro x1 x2 x3 M h  H locs ls hH hl; exact tb_X7_findPlaces_8_4 C (wl_X7_findPlaces_8_4  Q n) Q ih x1 x2 x3 M h  H locs ls hH hl
def wp_X7_findPlaces_8 (a1 : Int32) (M : fx_Mem) (Q : fx_Mem → Prop) : Prop :=
  ∃ n4 : Nat, wl_X7_findPlaces_8_4 Q n4 a1 0 0 M
set_option maxHeartbeats 4000000 in
set_option maxRecDepth 100000 in
theorem c_X7_findPlaces_8 (l : Launch) {g : fx_Geo} (hG : fx_Gd g) (a1 : Int32) (M : fx_Mem) (Q : fx_Mem → Prop) (h : wp_X7_findPlaces_8 a1 M Q) : Met l yX7_findPlaces (.code yX7_findPlaces cX7_findPlaces 9 none :: fx_U) rm_X7_findPlaces_8 (va_Pc [.ref (fx_a g 8), .int a1] (fx_At g M)) (va_Qv Q (fx_Pw g) (fx_A g)) 0 0 (fx_A g) := by
  refine Met.ofW (cc := cX7_findPlaces) (maxL := 9) (ret := none) (by decide +kernel) rfl ?_
  intro p e s m args below meth c s₁ B hml hv
  obtain ⟨rfl, hv⟩ := hv
  have hts := atoms_spec (ws := .code yX7_findPlaces cX7_findPlaces 9 none :: fx_U) B.pre
  obtain ⟨C, hH⟩ := fx_body (own := RX7) B hml rfl (fun w hw => hts w (List.mem_cons_of_mem _ hw)) hG hv
  replace hts := fun w hw => hts w (List.mem_cons_of_mem _ hw)
  obtain ⟨hx, hb, hr, -, hown, -, hlocks, hsz, hK, -, hSt⟩ := id C
  have hl := lv_entry ([.ref (fx_a g 8), .int a1]) (n := 9) (Nat.le_of_ble_eq_true rfl)
  rw [lg_entry_eq]
  generalize (lg_sl ([.ref (fx_a g 8), .int a1]) ++ List.replicate (9 - (lg_sl ([.ref (fx_a g 8), .int a1])).length) Slot.unset).toArray = ls at hl ⊢
  have hl : lv_has ls 9 [(0, .ref (fx_a g 8)), (1, .int a1)] := hl
  obtain ⟨H, eH⟩ : ∃ H : Heap, H = s.heap := ⟨_, rfl⟩
  obtain ⟨locs, elocs⟩ : ∃ q : List Loc, q = [] := ⟨_, rfl⟩
  rw [← eH, ← elocs] at hH
  show W p l e rm_X7_findPlaces_8 s m _ below meth c s.heap [] 0 0 _ _
  rw [← eH, ← elocs]
  unfold wp_X7_findPlaces_8 at h
  refine lv_iconst (v := 0) hx hb dX7_findPlaces_0 (by decide) ?_
  refine lv_istore_n (lv' := [(2, .int 0), (0, .ref (fx_a g 8)), (1, .int a1)]) hx hb dX7_findPlaces_1 rfl hl (by decide) rfl (fun ls hl => ?_)
  refine lv_iconst (v := 0) hx hb dX7_findPlaces_2 (by decide) ?_
  refine lv_istore_n (lv' := [(3, .int 0), (2, .int 0), (0, .ref (fx_a g 8)), (1, .int a1)]) hx hb dX7_findPlaces_3 rfl hl (by decide) rfl (fun ls hl => ?_)
  obtain ⟨n4, h⟩ := h
  exact tl_X7_findPlaces_8_4 C Q  n4 a1 0 0 M h  H locs ls hH (lv_sub hl [2, 3, 1, 0] rfl)
/-! FlexLayoutModel.findLayout()V (8,) -/
def rm_X7_findLayout_8 : Room := { frames := 4, cells := 0, slots := 0, locals := 108 }
def wb_X7_findLayout_8_30 (k30 : Int32 → fx_Mem → Prop) (k49 : fx_Mem → Prop) (Q : fx_Mem → Prop) (x1 : Int32) (M : fx_Mem) : Prop :=
  ((M.1 542 ≤ x1 → k49  M) ∧ (¬ M.1 542 ≤ x1 → wp_X7_findSizes_8 x1 M (fun M2 => ∀ v3 : Int32, v3 = x1 + 1 → k30 v3 M2)))
set_option maxHeartbeats 4000000 in
set_option maxRecDepth 100000 in
theorem tb_X7_findLayout_8_30 {g : fx_Geo} {p : Program} {l : Launch} {e : Env} {s : State} {m : MethodId} {args : Array Value} {below : List Frame} {meth : Method} {c : Code} (C : fx_Cx g p s m args meth c RX7 cX7_findLayout 4 none) (k30 : Int32 → fx_Mem → Prop) (k49 : fx_Mem → Prop) (Q : fx_Mem → Prop) (hk30 : ∀ (x1 : Int32) (M : fx_Mem), k30 x1 M → ∀ (H : Heap) (locs : List Loc) (ls : Array Slot), fx_H g s M H locs → lv_has ls 4 [(0, .ref (fx_a g 8)), (1, .int x1)] → W p l e rm_X7_findLayout_8 s m args below meth c H locs 0 0 (MQ below (va_Qv Q (fx_Pw g) (fx_A g)) args s 0 0 (fx_A g)) (F0 m 30 ls [])) (hk49 : ∀ (M : fx_Mem), k49 M → ∀ (H : Heap) (locs : List Loc) (ls : Array Slot), fx_H g s M H locs → lv_has ls 4 [(0, .ref (fx_a g 8))] → W p l e rm_X7_findLayout_8 s m args below meth c H locs 0 0 (MQ below (va_Qv Q (fx_Pw g) (fx_A g)) args s 0 0 (fx_A g)) (F0 m 49 ls [])) (x1 : Int32) (M : fx_Mem) (h : wb_X7_findLayout_8_30 k30 k49 Q x1 M) (H : Heap) (locs : List Loc) (ls : Array Slot) (hH : fx_H g s M H locs) (hl : lv_has ls 4 [(0, .ref (fx_a g 8)), (1, .int x1)]) : W p l e rm_X7_findLayout_8 s m args below meth c H locs 0 0 (MQ below (va_Qv Q (fx_Pw g) (fx_A g)) args s 0 0 (fx_A g)) (F0 m 30 ls []) := by
  obtain ⟨hx, hb, hr, hml, hown, hts, hlocks, hsz, hK, hG, hSt⟩ := id C
  unfold wb_X7_findLayout_8_30 at h
  refine lv_iload_n hx hb dX7_findLayout_30 rfl (lv_at hl 1 rfl) ?_
  refine lv_aload_n hx hb dX7_findLayout_31 rfl (lv_at hl 0 rfl) ?_
  refine fx_get C hH (fx_w8 g M) rfl in_X7 30 (by decide) u_853 rfl rfl dX7_findLayout_32 ?_
  refine lv_icmp_ge (tgt := 49) hx hb dX7_findLayout_35 (by decide) (fun c1 => ?_) (fun c1 => ?_)
  · replace h := h.1 c1
    exact hk49  M h  H locs ls hH (lv_sub hl [0] rfl)
  · replace h := h.2 c1
    refine lv_aload_n hx hb dX7_findLayout_38 rfl (lv_at hl 0 rfl) ?_
    refine lv_iload_n hx hb dX7_findLayout_39 rfl (lv_at hl 1 rfl) ?_
    refine fx_cv hH (fx_runV (As := [.int x1]) (rest := []) C hH (c_X7_findSizes_8 l C.2.2.2.2.2.2.2.2.2.1 x1 M _ h) (fx_cwV 1 hts u_1054 u_1056 us_36 u_8 u_1057 rfl rfl (by decide +kernel) ⟨(Nat.le_of_ble_eq_true rfl), (Nat.le_of_ble_eq_true rfl)⟩) (fx_w8 g M) rfl rfl hl.1 rfl (Nat.le_of_ble_eq_true rfl) dX7_findLayout_40 ⟨(Nat.le_of_ble_eq_true rfl), (Nat.le_of_ble_eq_true rfl)⟩) (fun M2 H locs h hH => ?_)
    obtain ⟨v3, ev3⟩ : ∃ z : Int32, z = x1 + 1 := ⟨_, rfl⟩
    refine lv_iinc (v := v3) (lv' := [(1, .int v3), (0, .ref (fx_a g 8))]) hx hb dX7_findLayout_43 hl (k := 1) rfl (by rw [ev3]; rfl) (by decide) rfl (fun ls hl => ?_)
    replace h := h v3 ev3
    refine lv_goto (tgt := 30) hx hb dX7_findLayout_46 (by decide) ?_
    exact hk30 v3 M2 h  H locs ls hH (lv_sub hl [1, 0] rfl)
def wl_X7_findLayout_8_30 (k49 : fx_Mem → Prop) (Q : fx_Mem → Prop) (n : Nat) (x1 : Int32) (M : fx_Mem) : Prop :=
  fx_lp (α := Int32 × fx_Mem) (fun k a => wb_X7_findLayout_8_30 (fun x1 M => k (x1, M)) k49 Q a.1 a.2) n (x1, M)
set_option maxHeartbeats 4000000 in
theorem tl_X7_findLayout_8_30 {g : fx_Geo} {p : Program} {l : Launch} {e : Env} {s : State} {m : MethodId} {args : Array Value} {below : List Frame} {meth : Method} {c : Code} (C : fx_Cx g p s m args meth c RX7 cX7_findLayout 4 none) (k49 : fx_Mem → Prop) (Q : fx_Mem → Prop) (hk49 : ∀ (M : fx_Mem), k49  M → ∀ (H : Heap) (locs : List Loc) (ls : Array Slot), fx_H g s M H locs → lv_has ls 4 [(0, .ref (fx_a g 8))] → W p l e rm_X7_findLayout_8 s m args below meth c H locs 0 0 (MQ below (va_Qv Q (fx_Pw g) (fx_A g)) args s 0 0 (fx_A g)) (F0 m 49 ls [])) : ∀ (n : Nat) (x1 : Int32) (M : fx_Mem), wl_X7_findLayout_8_30 k49 Q n x1 M → ∀ (H : Heap) (locs : List Loc) (ls : Array Slot), fx_H g s M H locs → lv_has ls 4 [(0, .ref (fx_a g 8)), (1, .int x1)] → W p l e rm_X7_findLayout_8 s m args below meth c H locs 0 0 (MQ below (va_Qv Q (fx_Pw g) (fx_A g)) args s 0 0 (fx_A g)) (F0 m 30 ls []) := by
  intro n
  induction n with
  | zero => intro x1 M h; exact False.elim h
  | succ n ih => intro x1 M h  H locs ls hH hl; exact tb_X7_findLayout_8_30 C (wl_X7_findLayout_8_30 k49 Q n) k49 Q ih hk49 x1 M h  H locs ls hH hl
def wb_X7_findLayout_8_99 (k62 : Int32 → Int32 → Int32 → fx_Mem → Prop) (k132 : fx_Mem → Prop) (Q : fx_Mem → Prop) (x1 : Int32) (x2 : Int32) (x3 : Int32) (s0 : Int32) (s1 : Int32) (s2 : Int32) (M : fx_Mem) : Prop :=
  wp_X7_offset s0 x1 x3 (M.1 542) M (fun r2 M1 => vp_in s2 20 ∧ ∀ M4 : fx_Mem, M4 = fx_sa M1 54 s2.toNatClampNeg (s1 + r2) → vp_in x3 20 ∧ ∀ v6 : Int32, v6 = x2 + ((M4.2.1 51 x3.toNatClampNeg) + (M4.2.1 30 3)) → ∀ v7 : Int32, v7 = x3 + 1 → k62 x1 v6 v7 M4)
set_option maxHeartbeats 4000000 in
set_option maxRecDepth 100000 in
theorem tb_X7_findLayout_8_99 {g : fx_Geo} {p : Program} {l : Launch} {e : Env} {s : State} {m : MethodId} {args : Array Value} {below : List Frame} {meth : Method} {c : Code} (C : fx_Cx g p s m args meth c RX7 cX7_findLayout 4 none) (k62 : Int32 → Int32 → Int32 → fx_Mem → Prop) (k132 : fx_Mem → Prop) (Q : fx_Mem → Prop) (hk62 : ∀ (x1 : Int32) (x2 : Int32) (x3 : Int32) (M : fx_Mem), k62 x1 x2 x3 M → ∀ (H : Heap) (locs : List Loc) (ls : Array Slot), fx_H g s M H locs → lv_has ls 4 [(0, .ref (fx_a g 8)), (1, .int x1), (2, .int x2), (3, .int x3)] → W p l e rm_X7_findLayout_8 s m args below meth c H locs 0 0 (MQ below (va_Qv Q (fx_Pw g) (fx_A g)) args s 0 0 (fx_A g)) (F0 m 62 ls [])) (hk132 : ∀ (M : fx_Mem), k132 M → ∀ (H : Heap) (locs : List Loc) (ls : Array Slot), fx_H g s M H locs → lv_has ls 4 [(0, .ref (fx_a g 8))] → W p l e rm_X7_findLayout_8 s m args below meth c H locs 0 0 (MQ below (va_Qv Q (fx_Pw g) (fx_A g)) args s 0 0 (fx_A g)) (F0 m 132 ls [])) (x1 : Int32) (x2 : Int32) (x3 : Int32) (s0 : Int32) (s1 : Int32) (s2 : Int32) (M : fx_Mem) (h : wb_X7_findLayout_8_99 k62 k132 Q x1 x2 x3 s0 s1 s2 M) (H : Heap) (locs : List Loc) (ls : Array Slot) (hH : fx_H g s M H locs) (hl : lv_has ls 4 [(0, .ref (fx_a g 8)), (1, .int x1), (2, .int x2), (3, .int x3)]) : W p l e rm_X7_findLayout_8 s m args below meth c H locs 0 0 (MQ below (va_Qv Q (fx_Pw g) (fx_A g)) args s 0 0 (fx_A g)) (F0 m 99 ls [.int s0, .int s1, .int s2, .ref (fx_a g 54)]) := by
  obtain ⟨hx, hb, hr, hml, hown, hts, hlocks, hsz, hK, hG, hSt⟩ := id C
  unfold wb_X7_findLayout_8_99 at h
  refine lv_iload_n hx hb dX7_findLayout_99 rfl (lv_at hl 1 rfl) ?_
  refine lv_iload_n hx hb dX7_findLayout_100 rfl (lv_at hl 3 rfl) ?_
  refine lv_aload_n hx hb dX7_findLayout_101 rfl (lv_at hl 0 rfl) ?_
  refine fx_get C hH (fx_w8 g M) rfl in_X7 30 (by decide) u_853 rfl rfl dX7_findLayout_102 ?_
  refine fx_ci hH (fx_runS (As := [.int s0, .int x1, .int x3, .int (M.1 542)]) (rest := [.int s1, .int s2, .ref (fx_a g 54)]) C hH (c_X7_offset l C.2.2.2.2.2.2.2.2.2.1 s0 x1 x3 (M.1 542) M _ h) (fx_cwS 4 hts u_1098 u_1099 u_8 u_1100 rfl rfl (by decide +kernel) ⟨(Nat.le_of_ble_eq_true rfl), (Nat.le_of_ble_eq_true rfl)⟩) rfl hl.1 rfl (Nat.le_of_ble_eq_true rfl) dX7_findLayout_105 ⟨(Nat.le_of_ble_eq_true rfl), (Nat.le_of_ble_eq_true rfl)⟩) (fun r2 M1 H locs h hH => ?_)
  refine lv_iadd hx hb dX7_findLayout_108 ?_
  obtain ⟨hi3, h⟩ := h
  refine fx_iast (j := s2.toNatClampNeg) (M' := fx_sa M1 54 s2.toNatClampNeg (s1 + r2)) C hH 54 rfl (fx_w54 g M1) (fx_p54 g M1 _) hi3 dX7_findLayout_109 (fun H locs hH => ?_)
  generalize eM4 : fx_sa M1 54 s2.toNatClampNeg (s1 + r2) = M4 at hH
  replace h := h M4 eM4.symm
  refine lv_iload_n hx hb dX7_findLayout_110 rfl (lv_at hl 2 rfl) ?_
  refine lv_aload_n hx hb dX7_findLayout_111 rfl (lv_at hl 0 rfl) ?_
  refine fx_get C hH (fx_w8 g M4) rfl in_X7 26 (by decide) u_849 rfl rfl dX7_findLayout_112 ?_
  refine lv_iload_n hx hb dX7_findLayout_115 rfl (lv_at hl 3 rfl) ?_
  obtain ⟨hi5, h⟩ := h
  refine fx_iald (j := x3.toNatClampNeg) C hH 51 (fx_w51 g M4) rfl hi5 dX7_findLayout_116 ?_
  refine lv_aload_n hx hb dX7_findLayout_117 rfl (lv_at hl 0 rfl) ?_
  refine fx_get C hH (fx_w8 g M4) rfl in_X7 1 (by decide) u_824 rfl rfl dX7_findLayout_118 ?_
  refine lv_iconst (v := 3) hx hb dX7_findLayout_121 (by decide) ?_
  refine fx_iald (j := 3) C hH 30 (fx_w30 g M4) (by decide) (by unfold vp_in; decide) dX7_findLayout_122 ?_
  refine lv_iadd hx hb dX7_findLayout_123 ?_
  refine lv_iadd hx hb dX7_findLayout_124 ?_
  refine lv_topi (fun v6 ev6 => ?_)
  replace h := h v6 ev6
  refine lv_istore_n (lv' := [(2, .int v6), (0, .ref (fx_a g 8)), (1, .int x1), (3, .int x3)]) hx hb dX7_findLayout_125 rfl hl (by decide) rfl (fun ls hl => ?_)
  obtain ⟨v7, ev7⟩ : ∃ z : Int32, z = x3 + 1 := ⟨_, rfl⟩
  refine lv_iinc (v := v7) (lv' := [(3, .int v7), (2, .int v6), (0, .ref (fx_a g 8)), (1, .int x1)]) hx hb dX7_findLayout_126 hl (k := 3) rfl (by rw [ev7]; rfl) (by decide) rfl (fun ls hl => ?_)
  replace h := h v7 ev7
  refine lv_goto (tgt := 62) hx hb dX7_findLayout_129 (by decide) ?_
  exact hk62 x1 v6 v7 M4 h  H locs ls hH (lv_sub hl [2, 3, 1, 0] rfl)
def wb_X7_findLayout_8_62 (k62 : Int32 → Int32 → Int32 → fx_Mem → Prop) (k132 : fx_Mem → Prop) (Q : fx_Mem → Prop) (x1 : Int32) (x2 : Int32) (x3 : Int32) (M : fx_Mem) : Prop :=
  ((M.1 542 ≤ x3 → k132  M) ∧ (¬ M.1 542 ≤ x3 → ((M.2.1 30 8 = 0 → wb_X7_findLayout_8_99 k62 k132 Q x1 x2 x3 0 x2 x3 M) ∧ (¬ M.2.1 30 8 = 0 → wb_X7_findLayout_8_99 k62 k132 Q x1 x2 x3 ((M.2.1 30 8) - 1) x2 x3 M))))
set_option maxHeartbeats 4000000 in
set_option maxRecDepth 100000 in
theorem tb_X7_findLayout_8_62 {g : fx_Geo} {p : Program} {l : Launch} {e : Env} {s : State} {m : MethodId} {args : Array Value} {below : List Frame} {meth : Method} {c : Code} (C : fx_Cx g p s m args meth c RX7 cX7_findLayout 4 none) (k62 : Int32 → Int32 → Int32 → fx_Mem → Prop) (k132 : fx_Mem → Prop) (Q : fx_Mem → Prop) (hk62 : ∀ (x1 : Int32) (x2 : Int32) (x3 : Int32) (M : fx_Mem), k62 x1 x2 x3 M → ∀ (H : Heap) (locs : List Loc) (ls : Array Slot), fx_H g s M H locs → lv_has ls 4 [(0, .ref (fx_a g 8)), (1, .int x1), (2, .int x2), (3, .int x3)] → W p l e rm_X7_findLayout_8 s m args below meth c H locs 0 0 (MQ below (va_Qv Q (fx_Pw g) (fx_A g)) args s 0 0 (fx_A g)) (F0 m 62 ls [])) (hk132 : ∀ (M : fx_Mem), k132 M → ∀ (H : Heap) (locs : List Loc) (ls : Array Slot), fx_H g s M H locs → lv_has ls 4 [(0, .ref (fx_a g 8))] → W p l e rm_X7_findLayout_8 s m args below meth c H locs 0 0 (MQ below (va_Qv Q (fx_Pw g) (fx_A g)) args s 0 0 (fx_A g)) (F0 m 132 ls [])) (x1 : Int32) (x2 : Int32) (x3 : Int32) (M : fx_Mem) (h : wb_X7_findLayout_8_62 k62 k132 Q x1 x2 x3 M) (H : Heap) (locs : List Loc) (ls : Array Slot) (hH : fx_H g s M H locs) (hl : lv_has ls 4 [(0, .ref (fx_a g 8)), (1, .int x1), (2, .int x2), (3, .int x3)]) : W p l e rm_X7_findLayout_8 s m args below meth c H locs 0 0 (MQ below (va_Qv Q (fx_Pw g) (fx_A g)) args s 0 0 (fx_A g)) (F0 m 62 ls []) := by
  obtain ⟨hx, hb, hr, hml, hown, hts, hlocks, hsz, hK, hG, hSt⟩ := id C
  unfold wb_X7_findLayout_8_62 at h
  refine lv_iload_n hx hb dX7_findLayout_62 rfl (lv_at hl 3 rfl) ?_
  refine lv_aload_n hx hb dX7_findLayout_63 rfl (lv_at hl 0 rfl) ?_
  refine fx_get C hH (fx_w8 g M) rfl in_X7 30 (by decide) u_853 rfl rfl dX7_findLayout_64 ?_
  refine lv_icmp_ge (tgt := 132) hx hb dX7_findLayout_67 (by decide) (fun c1 => ?_) (fun c1 => ?_)
  · replace h := h.1 c1
    exact hk132  M h  H locs ls hH (lv_sub hl [0] rfl)
  · replace h := h.2 c1
    refine lv_aload_n hx hb dX7_findLayout_70 rfl (lv_at hl 0 rfl) ?_
    refine fx_get C hH (fx_w8 g M) rfl in_X7 29 (by decide) u_852 rfl rfl dX7_findLayout_71 ?_
    refine lv_iload_n hx hb dX7_findLayout_74 rfl (lv_at hl 3 rfl) ?_
    refine lv_iload_n hx hb dX7_findLayout_75 rfl (lv_at hl 2 rfl) ?_
    refine lv_aload_n hx hb dX7_findLayout_76 rfl (lv_at hl 0 rfl) ?_
    refine fx_get C hH (fx_w8 g M) rfl in_X7 1 (by decide) u_824 rfl rfl dX7_findLayout_77 ?_
    refine lv_bipush (v := 8) hx hb dX7_findLayout_80 (by decide) ?_
    refine fx_iald (j := 8) C hH 30 (fx_w30 g M) (by decide) (by unfold vp_in; decide) dX7_findLayout_82 ?_
    refine lv_if_ne (tgt := 90) hx hb dX7_findLayout_83 (by decide) (fun c2 => ?_) (fun c2 => ?_)
    · replace h := h.2 c2
      refine lv_aload_n hx hb dX7_findLayout_90 rfl (lv_at hl 0 rfl) ?_
      refine fx_get C hH (fx_w8 g M) rfl in_X7 1 (by decide) u_824 rfl rfl dX7_findLayout_91 ?_
      refine lv_bipush (v := 8) hx hb dX7_findLayout_94 (by decide) ?_
      refine fx_iald (j := 8) C hH 30 (fx_w30 g M) (by decide) (by unfold vp_in; decide) dX7_findLayout_96 ?_
      refine lv_iconst (v := 1) hx hb dX7_findLayout_97 (by decide) ?_
      refine lv_isub hx hb dX7_findLayout_98 ?_
      exact tb_X7_findLayout_8_99 C k62 k132 Q hk62 hk132 x1 x2 x3 ((M.2.1 30 8) - 1) x2 x3 M h  H locs ls hH (lv_sub hl [0, 1, 2, 3] rfl)
    · replace h := h.1 c2
      refine lv_iconst (v := 0) hx hb dX7_findLayout_86 (by decide) ?_
      refine lv_goto (tgt := 99) hx hb dX7_findLayout_87 (by decide) ?_
      exact tb_X7_findLayout_8_99 C k62 k132 Q hk62 hk132 x1 x2 x3 0 x2 x3 M h  H locs ls hH (lv_sub hl [0, 1, 2, 3] rfl)
def wl_X7_findLayout_8_62 (k132 : fx_Mem → Prop) (Q : fx_Mem → Prop) (n : Nat) (x1 : Int32) (x2 : Int32) (x3 : Int32) (M : fx_Mem) : Prop :=
  fx_lp (α := Int32 × Int32 × Int32 × fx_Mem) (fun k a => wb_X7_findLayout_8_62 (fun x1 x2 x3 M => k (x1, x2, x3, M)) k132 Q a.1 a.2.1 a.2.2.1 a.2.2.2) n (x1, x2, x3, M)
set_option maxHeartbeats 4000000 in
theorem tl_X7_findLayout_8_62 {g : fx_Geo} {p : Program} {l : Launch} {e : Env} {s : State} {m : MethodId} {args : Array Value} {below : List Frame} {meth : Method} {c : Code} (C : fx_Cx g p s m args meth c RX7 cX7_findLayout 4 none) (k132 : fx_Mem → Prop) (Q : fx_Mem → Prop) (hk132 : ∀ (M : fx_Mem), k132  M → ∀ (H : Heap) (locs : List Loc) (ls : Array Slot), fx_H g s M H locs → lv_has ls 4 [(0, .ref (fx_a g 8))] → W p l e rm_X7_findLayout_8 s m args below meth c H locs 0 0 (MQ below (va_Qv Q (fx_Pw g) (fx_A g)) args s 0 0 (fx_A g)) (F0 m 132 ls [])) : ∀ (n : Nat) (x1 : Int32) (x2 : Int32) (x3 : Int32) (M : fx_Mem), wl_X7_findLayout_8_62 k132 Q n x1 x2 x3 M → ∀ (H : Heap) (locs : List Loc) (ls : Array Slot), fx_H g s M H locs → lv_has ls 4 [(0, .ref (fx_a g 8)), (1, .int x1), (2, .int x2), (3, .int x3)] → W p l e rm_X7_findLayout_8 s m args below meth c H locs 0 0 (MQ below (va_Qv Q (fx_Pw g) (fx_A g)) args s 0 0 (fx_A g)) (F0 m 62 ls []) := by
  intro n
  induction n with
  | zero => intro x1 x2 x3 M h; exact False.elim h
  | succ n ih => intro x1 x2 x3 M h  H locs ls hH hl; exact tb_X7_findLayout_8_62 C (wl_X7_findLayout_8_62 k132 Q n) k132 Q ih hk132 x1 x2 x3 M h  H locs ls hH hl
def wb_X7_findLayout_8_134 (k134 : Int32 → fx_Mem → Prop) (Q : fx_Mem → Prop) (x3 : Int32) (M : fx_Mem) : Prop :=
  ((M.1 542 ≤ x3 → Q M) ∧ (¬ M.1 542 ≤ x3 → wp_X7_findPlaces_8 x3 M (fun M2 => ∀ v3 : Int32, v3 = x3 + 1 → k134 v3 M2)))
set_option maxHeartbeats 4000000 in
set_option maxRecDepth 100000 in
theorem tb_X7_findLayout_8_134 {g : fx_Geo} {p : Program} {l : Launch} {e : Env} {s : State} {m : MethodId} {args : Array Value} {below : List Frame} {meth : Method} {c : Code} (C : fx_Cx g p s m args meth c RX7 cX7_findLayout 4 none) (k134 : Int32 → fx_Mem → Prop) (Q : fx_Mem → Prop) (hk134 : ∀ (x3 : Int32) (M : fx_Mem), k134 x3 M → ∀ (H : Heap) (locs : List Loc) (ls : Array Slot), fx_H g s M H locs → lv_has ls 4 [(0, .ref (fx_a g 8)), (3, .int x3)] → W p l e rm_X7_findLayout_8 s m args below meth c H locs 0 0 (MQ below (va_Qv Q (fx_Pw g) (fx_A g)) args s 0 0 (fx_A g)) (F0 m 134 ls [])) (x3 : Int32) (M : fx_Mem) (h : wb_X7_findLayout_8_134 k134 Q x3 M) (H : Heap) (locs : List Loc) (ls : Array Slot) (hH : fx_H g s M H locs) (hl : lv_has ls 4 [(0, .ref (fx_a g 8)), (3, .int x3)]) : W p l e rm_X7_findLayout_8 s m args below meth c H locs 0 0 (MQ below (va_Qv Q (fx_Pw g) (fx_A g)) args s 0 0 (fx_A g)) (F0 m 134 ls []) := by
  obtain ⟨hx, hb, hr, hml, hown, hts, hlocks, hsz, hK, hG, hSt⟩ := id C
  unfold wb_X7_findLayout_8_134 at h
  refine lv_iload_n hx hb dX7_findLayout_134 rfl (lv_at hl 1 rfl) ?_
  refine lv_aload_n hx hb dX7_findLayout_135 rfl (lv_at hl 0 rfl) ?_
  refine fx_get C hH (fx_w8 g M) rfl in_X7 30 (by decide) u_853 rfl rfl dX7_findLayout_136 ?_
  refine lv_icmp_ge (tgt := 153) hx hb dX7_findLayout_139 (by decide) (fun c1 => ?_) (fun c1 => ?_)
  · replace h := h.1 c1
    exact fx_vret C hH h dX7_findLayout_153
  · replace h := h.2 c1
    refine lv_aload_n hx hb dX7_findLayout_142 rfl (lv_at hl 0 rfl) ?_
    refine lv_iload_n hx hb dX7_findLayout_143 rfl (lv_at hl 1 rfl) ?_
    refine fx_cv hH (fx_runV (As := [.int x3]) (rest := []) C hH (c_X7_findPlaces_8 l C.2.2.2.2.2.2.2.2.2.1 x3 M _ h) (fx_cwV 1 hts u_1104 u_1106 us_47 u_8 u_1107 rfl rfl (by decide +kernel) ⟨(Nat.le_of_ble_eq_true rfl), (Nat.le_of_ble_eq_true rfl)⟩) (fx_w8 g M) rfl rfl hl.1 rfl (Nat.le_of_ble_eq_true rfl) dX7_findLayout_144 ⟨(Nat.le_of_ble_eq_true rfl), (Nat.le_of_ble_eq_true rfl)⟩) (fun M2 H locs h hH => ?_)
    obtain ⟨v3, ev3⟩ : ∃ z : Int32, z = x3 + 1 := ⟨_, rfl⟩
    refine lv_iinc (v := v3) (lv' := [(3, .int v3), (0, .ref (fx_a g 8))]) hx hb dX7_findLayout_147 hl (k := 1) rfl (by rw [ev3]; rfl) (by decide) rfl (fun ls hl => ?_)
    replace h := h v3 ev3
    refine lv_goto (tgt := 134) hx hb dX7_findLayout_150 (by decide) ?_
    exact hk134 v3 M2 h  H locs ls hH (lv_sub hl [1, 0] rfl)
def wl_X7_findLayout_8_134 (Q : fx_Mem → Prop) (n : Nat) (x3 : Int32) (M : fx_Mem) : Prop :=
  fx_lp (α := Int32 × fx_Mem) (fun k a => wb_X7_findLayout_8_134 (fun x3 M => k (x3, M)) Q a.1 a.2) n (x3, M)
set_option maxHeartbeats 4000000 in
theorem tl_X7_findLayout_8_134 {g : fx_Geo} {p : Program} {l : Launch} {e : Env} {s : State} {m : MethodId} {args : Array Value} {below : List Frame} {meth : Method} {c : Code} (C : fx_Cx g p s m args meth c RX7 cX7_findLayout 4 none) (Q : fx_Mem → Prop) : ∀ (n : Nat) (x3 : Int32) (M : fx_Mem), wl_X7_findLayout_8_134  Q n x3 M → ∀ (H : Heap) (locs : List Loc) (ls : Array Slot), fx_H g s M H locs → lv_has ls 4 [(0, .ref (fx_a g 8)), (3, .int x3)] → W p l e rm_X7_findLayout_8 s m args below meth c H locs 0 0 (MQ below (va_Qv Q (fx_Pw g) (fx_A g)) args s 0 0 (fx_A g)) (F0 m 134 ls []) := by
  intro n
  induction n with
  | zero => intro x3 M h; exact False.elim h
  | succ n ih => intro x3 M h  H locs ls hH hl; exact tb_X7_findLayout_8_134 C (wl_X7_findLayout_8_134  Q n) Q ih x3 M h  H locs ls hH hl
def wb_X7_findLayout_8_132 (Q : fx_Mem → Prop) (M : fx_Mem) : Prop :=
  ∃ n134 : Nat, wl_X7_findLayout_8_134 Q n134 0 M
set_option maxHeartbeats 4000000 in
set_option maxRecDepth 100000 in
theorem tb_X7_findLayout_8_132 {g : fx_Geo} {p : Program} {l : Launch} {e : Env} {s : State} {m : MethodId} {args : Array Value} {below : List Frame} {meth : Method} {c : Code} (C : fx_Cx g p s m args meth c RX7 cX7_findLayout 4 none) (Q : fx_Mem → Prop) (M : fx_Mem) (h : wb_X7_findLayout_8_132 Q M) (H : Heap) (locs : List Loc) (ls : Array Slot) (hH : fx_H g s M H locs) (hl : lv_has ls 4 [(0, .ref (fx_a g 8))]) : W p l e rm_X7_findLayout_8 s m args below meth c H locs 0 0 (MQ below (va_Qv Q (fx_Pw g) (fx_A g)) args s 0 0 (fx_A g)) (F0 m 132 ls []) := by
  obtain ⟨hx, hb, hr, hml, hown, hts, hlocks, hsz, hK, hG, hSt⟩ := id C
  unfold wb_X7_findLayout_8_132 at h
  refine lv_iconst (v := 0) hx hb dX7_findLayout_132 (by decide) ?_
  refine lv_istore_n (lv' := [(3, .int 0), (0, .ref (fx_a g 8))]) hx hb dX7_findLayout_133 rfl hl (by decide) rfl (fun ls hl => ?_)
  obtain ⟨n134, h⟩ := h
  exact tl_X7_findLayout_8_134 C Q  n134 0 M h  H locs ls hH (lv_sub hl [1, 0] rfl)
def wb_X7_findLayout_8_49 (Q : fx_Mem → Prop) (M : fx_Mem) : Prop :=
  wp_X7_findLineCrosses_8  M (fun M1 => wp_X7_crossLeft_8  M1 (fun r3 M2 => ∃ n62 : Nat, wl_X7_findLayout_8_62 (wb_X7_findLayout_8_132 Q) Q n62 r3 0 0 M2))
set_option maxHeartbeats 4000000 in
set_option maxRecDepth 100000 in
theorem tb_X7_findLayout_8_49 {g : fx_Geo} {p : Program} {l : Launch} {e : Env} {s : State} {m : MethodId} {args : Array Value} {below : List Frame} {meth : Method} {c : Code} (C : fx_Cx g p s m args meth c RX7 cX7_findLayout 4 none) (Q : fx_Mem → Prop) (M : fx_Mem) (h : wb_X7_findLayout_8_49 Q M) (H : Heap) (locs : List Loc) (ls : Array Slot) (hH : fx_H g s M H locs) (hl : lv_has ls 4 [(0, .ref (fx_a g 8))]) : W p l e rm_X7_findLayout_8 s m args below meth c H locs 0 0 (MQ below (va_Qv Q (fx_Pw g) (fx_A g)) args s 0 0 (fx_A g)) (F0 m 49 ls []) := by
  obtain ⟨hx, hb, hr, hml, hown, hts, hlocks, hsz, hK, hG, hSt⟩ := id C
  unfold wb_X7_findLayout_8_49 at h
  refine lv_aload_n hx hb dX7_findLayout_49 rfl (lv_at hl 0 rfl) ?_
  refine fx_cv hH (fx_runV (As := []) (rest := []) C hH (c_X7_findLineCrosses_8 l C.2.2.2.2.2.2.2.2.2.1  M _ h) (fx_cwV 0 hts u_1082 u_1084 us_43 u_8 u_1085 rfl rfl (by decide +kernel) ⟨(Nat.le_of_ble_eq_true rfl), (Nat.le_of_ble_eq_true rfl)⟩) (fx_w8 g M) rfl rfl hl.1 rfl (Nat.le_of_ble_eq_true rfl) dX7_findLayout_50 ⟨(Nat.le_of_ble_eq_true rfl), (Nat.le_of_ble_eq_true rfl)⟩) (fun M1 H locs h hH => ?_)
  refine lv_aload_n hx hb dX7_findLayout_53 rfl (lv_at hl 0 rfl) ?_
  refine fx_ci hH (fx_runV (As := []) (rest := []) C hH (c_X7_crossLeft_8 l C.2.2.2.2.2.2.2.2.2.1  M1 _ h) (fx_cwV 0 hts u_1094 u_1096 us_46 u_8 u_1097 rfl rfl (by decide +kernel) ⟨(Nat.le_of_ble_eq_true rfl), (Nat.le_of_ble_eq_true rfl)⟩) (fx_w8 g M1) rfl rfl hl.1 rfl (Nat.le_of_ble_eq_true rfl) dX7_findLayout_54 ⟨(Nat.le_of_ble_eq_true rfl), (Nat.le_of_ble_eq_true rfl)⟩) (fun r3 M2 H locs h hH => ?_)
  refine lv_istore_n (lv' := [(1, .int r3), (0, .ref (fx_a g 8))]) hx hb dX7_findLayout_57 rfl hl (by decide) rfl (fun ls hl => ?_)
  refine lv_iconst (v := 0) hx hb dX7_findLayout_58 (by decide) ?_
  refine lv_istore_n (lv' := [(2, .int 0), (1, .int r3), (0, .ref (fx_a g 8))]) hx hb dX7_findLayout_59 rfl hl (by decide) rfl (fun ls hl => ?_)
  refine lv_iconst (v := 0) hx hb dX7_findLayout_60 (by decide) ?_
  refine lv_istore_n (lv' := [(3, .int 0), (2, .int 0), (1, .int r3), (0, .ref (fx_a g 8))]) hx hb dX7_findLayout_61 rfl hl (by decide) rfl (fun ls hl => ?_)
  obtain ⟨n62, h⟩ := h
  exact tl_X7_findLayout_8_62 C (wb_X7_findLayout_8_132 Q) Q (tb_X7_findLayout_8_132 C Q ) n62 r3 0 0 M2 h  H locs ls hH (lv_sub hl [3, 2, 1, 0] rfl)
def wb_X7_findLayout_8_25 (Q : fx_Mem → Prop) (s0 : Int32) (s1 : Int32) (M : fx_Mem) : Prop :=
  wp_X7_findLines_8 s1 s0 M (fun M1 => ∃ n30 : Nat, wl_X7_findLayout_8_30 (wb_X7_findLayout_8_49 Q) Q n30 0 M1)
set_option maxHeartbeats 4000000 in
set_option maxRecDepth 100000 in
theorem tb_X7_findLayout_8_25 {g : fx_Geo} {p : Program} {l : Launch} {e : Env} {s : State} {m : MethodId} {args : Array Value} {below : List Frame} {meth : Method} {c : Code} (C : fx_Cx g p s m args meth c RX7 cX7_findLayout 4 none) (Q : fx_Mem → Prop) (s0 : Int32) (s1 : Int32) (M : fx_Mem) (h : wb_X7_findLayout_8_25 Q s0 s1 M) (H : Heap) (locs : List Loc) (ls : Array Slot) (hH : fx_H g s M H locs) (hl : lv_has ls 4 [(0, .ref (fx_a g 8))]) : W p l e rm_X7_findLayout_8 s m args below meth c H locs 0 0 (MQ below (va_Qv Q (fx_Pw g) (fx_A g)) args s 0 0 (fx_A g)) (F0 m 25 ls [.int s0, .int s1, .ref (fx_a g 8)]) := by
  obtain ⟨hx, hb, hr, hml, hown, hts, hlocks, hsz, hK, hG, hSt⟩ := id C
  unfold wb_X7_findLayout_8_25 at h
  refine fx_cv hH (fx_runV (As := [.int s1, .int s0]) (rest := []) C hH (c_X7_findLines_8 l C.2.2.2.2.2.2.2.2.2.1 s1 s0 M _ h) (fx_cwV 2 hts u_1042 u_1044 us_33 u_8 u_1045 rfl rfl (by decide +kernel) ⟨(Nat.le_of_ble_eq_true rfl), (Nat.le_of_ble_eq_true rfl)⟩) (fx_w8 g M) rfl rfl hl.1 rfl (Nat.le_of_ble_eq_true rfl) dX7_findLayout_25 ⟨(Nat.le_of_ble_eq_true rfl), (Nat.le_of_ble_eq_true rfl)⟩) (fun M1 H locs h hH => ?_)
  refine lv_iconst (v := 0) hx hb dX7_findLayout_28 (by decide) ?_
  refine lv_istore_n (lv' := [(1, .int 0), (0, .ref (fx_a g 8))]) hx hb dX7_findLayout_29 rfl hl (by decide) rfl (fun ls hl => ?_)
  obtain ⟨n30, h⟩ := h
  exact tl_X7_findLayout_8_30 C (wb_X7_findLayout_8_49 Q) Q (tb_X7_findLayout_8_49 C Q ) n30 0 M1 h  H locs ls hH (lv_sub hl [1, 0] rfl)
def wp_X7_findLayout_8 (M : fx_Mem) (Q : fx_Mem → Prop) : Prop :=
  wp_X7_findSequence_8  M (fun M1 => ((M1.2.1 30 5 ≤ 0 → wb_X7_findLayout_8_25 Q 0 (M1.2.1 30 0) M1) ∧ (¬ M1.2.1 30 5 ≤ 0 → wb_X7_findLayout_8_25 Q 1 (M1.2.1 30 0) M1)))
set_option maxHeartbeats 4000000 in
set_option maxRecDepth 100000 in
theorem c_X7_findLayout_8 (l : Launch) {g : fx_Geo} (hG : fx_Gd g) (M : fx_Mem) (Q : fx_Mem → Prop) (h : wp_X7_findLayout_8 M Q) : Met l yX7_findLayout (.code yX7_findLayout cX7_findLayout 4 none :: fx_U) rm_X7_findLayout_8 (va_Pc [.ref (fx_a g 8)] (fx_At g M)) (va_Qv Q (fx_Pw g) (fx_A g)) 0 0 (fx_A g) := by
  refine Met.ofW (cc := cX7_findLayout) (maxL := 4) (ret := none) (by decide +kernel) rfl ?_
  intro p e s m args below meth c s₁ B hml hv
  obtain ⟨rfl, hv⟩ := hv
  have hts := atoms_spec (ws := .code yX7_findLayout cX7_findLayout 4 none :: fx_U) B.pre
  obtain ⟨C, hH⟩ := fx_body (own := RX7) B hml rfl (fun w hw => hts w (List.mem_cons_of_mem _ hw)) hG hv
  replace hts := fun w hw => hts w (List.mem_cons_of_mem _ hw)
  obtain ⟨hx, hb, hr, -, hown, -, hlocks, hsz, hK, -, hSt⟩ := id C
  have hl := lv_entry ([.ref (fx_a g 8)]) (n := 4) (Nat.le_of_ble_eq_true rfl)
  rw [lg_entry_eq]
  generalize (lg_sl ([.ref (fx_a g 8)]) ++ List.replicate (4 - (lg_sl ([.ref (fx_a g 8)])).length) Slot.unset).toArray = ls at hl ⊢
  have hl : lv_has ls 4 [(0, .ref (fx_a g 8))] := hl
  obtain ⟨H, eH⟩ : ∃ H : Heap, H = s.heap := ⟨_, rfl⟩
  obtain ⟨locs, elocs⟩ : ∃ q : List Loc, q = [] := ⟨_, rfl⟩
  rw [← eH, ← elocs] at hH
  show W p l e rm_X7_findLayout_8 s m _ below meth c s.heap [] 0 0 _ _
  rw [← eH, ← elocs]
  unfold wp_X7_findLayout_8 at h
  refine lv_aload_n hx hb dX7_findLayout_0 rfl (lv_at hl 0 rfl) ?_
  refine fx_cv hH (fx_runV (As := []) (rest := []) C hH (c_X7_findSequence_8 l C.2.2.2.2.2.2.2.2.2.1  M _ h) (fx_cwV 0 hts u_1038 u_1040 us_32 u_8 u_1041 rfl rfl (by decide +kernel) ⟨(Nat.le_of_ble_eq_true rfl), (Nat.le_of_ble_eq_true rfl)⟩) (fx_w8 g M) rfl rfl hl.1 rfl (Nat.le_of_ble_eq_true rfl) dX7_findLayout_1 ⟨(Nat.le_of_ble_eq_true rfl), (Nat.le_of_ble_eq_true rfl)⟩) (fun M1 H locs h hH => ?_)
  refine lv_aload_n hx hb dX7_findLayout_4 rfl (lv_at hl 0 rfl) ?_
  refine lv_aload_n hx hb dX7_findLayout_5 rfl (lv_at hl 0 rfl) ?_
  refine fx_get C hH (fx_w8 g M1) rfl in_X7 1 (by decide) u_824 rfl rfl dX7_findLayout_6 ?_
  refine lv_iconst (v := 0) hx hb dX7_findLayout_9 (by decide) ?_
  refine fx_iald (j := 0) C hH 30 (fx_w30 g M1) (by decide) (by unfold vp_in; decide) dX7_findLayout_10 ?_
  refine lv_aload_n hx hb dX7_findLayout_11 rfl (lv_at hl 0 rfl) ?_
  refine fx_get C hH (fx_w8 g M1) rfl in_X7 1 (by decide) u_824 rfl rfl dX7_findLayout_12 ?_
  refine lv_iconst (v := 5) hx hb dX7_findLayout_15 (by decide) ?_
  refine fx_iald (j := 5) C hH 30 (fx_w30 g M1) (by decide) (by unfold vp_in; decide) dX7_findLayout_16 ?_
  refine lv_if_le (tgt := 24) hx hb dX7_findLayout_17 (by decide) (fun c2 => ?_) (fun c2 => ?_)
  · replace h := h.1 c2
    refine lv_iconst (v := 0) hx hb dX7_findLayout_24 (by decide) ?_
    exact tb_X7_findLayout_8_25 C Q  0 (M1.2.1 30 0) M1 h  H locs ls hH (lv_sub hl [0] rfl)
  · replace h := h.2 c2
    refine lv_iconst (v := 1) hx hb dX7_findLayout_20 (by decide) ?_
    refine lv_goto (tgt := 25) hx hb dX7_findLayout_21 (by decide) ?_
    exact tb_X7_findLayout_8_25 C Q  1 (M1.2.1 30 0) M1 h  H locs ls hH (lv_sub hl [0] rfl)
