/-! FlexLayoutModel.findSizes(I)V (8,) -/
def rm_X7_findSizes_8 : Room := { frames := 3, cells := 0, slots := 0, locals := 83 }
def wb_X7_findSizes_8_9 (k9 : Int32 → Int32 → Int32 → fx_Mem → Prop) (k45 : Int32 → Int32 → fx_Mem → Prop) (Q : fx_Mem → Prop) (x1 : Int32) (x2 : Int32) (x3 : Int32) (M : fx_Mem) : Prop :=
  vp_in x1 20 ∧ vp_in x1 20 ∧ (((M.2.1 47 x1.toNatClampNeg) + (M.2.1 48 x1.toNatClampNeg) ≤ x3 → k45 x1 x2 M) ∧ (¬ (M.2.1 47 x1.toNatClampNeg) + (M.2.1 48 x1.toNatClampNeg) ≤ x3 → vp_in x3 20 ∧ wp_X7_hypothetical_8 (M.2.1 39 x3.toNatClampNeg) M (fun r6 M5 => ∀ v7 : Int32, v7 = x2 + r6 → ∀ v8 : Int32, v8 = x3 + 1 → k9 x1 v7 v8 M5)))
set_option maxHeartbeats 4000000 in
set_option maxRecDepth 100000 in
theorem tb_X7_findSizes_8_9 {g : fx_Geo} {p : Program} {l : Launch} {e : Env} {s : State} {m : MethodId} {args : Array Value} {below : List Frame} {meth : Method} {c : Code} (C : fx_Cx g p s m args meth c RX7 cX7_findSizes 6 none) (k9 : Int32 → Int32 → Int32 → fx_Mem → Prop) (k45 : Int32 → Int32 → fx_Mem → Prop) (Q : fx_Mem → Prop) (hk9 : ∀ (x1 : Int32) (x2 : Int32) (x3 : Int32) (M : fx_Mem), k9 x1 x2 x3 M → ∀ (H : Heap) (locs : List Loc) (ls : Array Slot), fx_H g s M H locs → lv_has ls 6 [(0, .ref (fx_a g 8)), (1, .int x1), (2, .int x2), (3, .int x3)] → W p l e rm_X7_findSizes_8 s m args below meth c H locs 0 0 (MQ below (va_Qv Q (fx_Pw g) (fx_A g)) args s 0 0 (fx_A g)) (F0 m 9 ls [])) (hk45 : ∀ (x1 : Int32) (x2 : Int32) (M : fx_Mem), k45 x1 x2 M → ∀ (H : Heap) (locs : List Loc) (ls : Array Slot), fx_H g s M H locs → lv_has ls 6 [(0, .ref (fx_a g 8)), (1, .int x1), (2, .int x2)] → W p l e rm_X7_findSizes_8 s m args below meth c H locs 0 0 (MQ below (va_Qv Q (fx_Pw g) (fx_A g)) args s 0 0 (fx_A g)) (F0 m 45 ls [])) (x1 : Int32) (x2 : Int32) (x3 : Int32) (M : fx_Mem) (h : wb_X7_findSizes_8_9 k9 k45 Q x1 x2 x3 M) (H : Heap) (locs : List Loc) (ls : Array Slot) (hH : fx_H g s M H locs) (hl : lv_has ls 6 [(0, .ref (fx_a g 8)), (1, .int x1), (2, .int x2), (3, .int x3)]) : W p l e rm_X7_findSizes_8 s m args below meth c H locs 0 0 (MQ below (va_Qv Q (fx_Pw g) (fx_A g)) args s 0 0 (fx_A g)) (F0 m 9 ls []) := by
  obtain ⟨hx, hb, hr, hml, hown, hts, hlocks, hsz, hK, hG, hSt⟩ := id C
  unfold wb_X7_findSizes_8_9 at h
  refine lv_iload_n hx hb dX7_findSizes_9 rfl (lv_at hl 3 rfl) ?_
  refine lv_aload_n hx hb dX7_findSizes_10 rfl (lv_at hl 0 rfl) ?_
  refine fx_get C hH (fx_w8 g M) rfl in_X7 22 (by decide) u_845 rfl rfl dX7_findSizes_11 ?_
  refine lv_iload_n hx hb dX7_findSizes_14 rfl (lv_at hl 1 rfl) ?_
  obtain ⟨hi1, h⟩ := h
  refine fx_iald (j := x1.toNatClampNeg) C hH 47 (fx_w47 g M) rfl hi1 dX7_findSizes_15 ?_
  refine lv_aload_n hx hb dX7_findSizes_16 rfl (lv_at hl 0 rfl) ?_
  refine fx_get C hH (fx_w8 g M) rfl in_X7 23 (by decide) u_846 rfl rfl dX7_findSizes_17 ?_
  refine lv_iload_n hx hb dX7_findSizes_20 rfl (lv_at hl 1 rfl) ?_
  obtain ⟨hi2, h⟩ := h
  refine fx_iald (j := x1.toNatClampNeg) C hH 48 (fx_w48 g M) rfl hi2 dX7_findSizes_21 ?_
  refine lv_iadd hx hb dX7_findSizes_22 ?_
  refine lv_icmp_ge (tgt := 45) hx hb dX7_findSizes_23 (by decide) (fun c3 => ?_) (fun c3 => ?_)
  · replace h := h.1 c3
    exact hk45 x1 x2 M h  H locs ls hH (lv_sub hl [0, 1, 2] rfl)
  · replace h := h.2 c3
    refine lv_iload_n hx hb dX7_findSizes_26 rfl (lv_at hl 2 rfl) ?_
    refine lv_aload_n hx hb dX7_findSizes_27 rfl (lv_at hl 0 rfl) ?_
    refine lv_aload_n hx hb dX7_findSizes_28 rfl (lv_at hl 0 rfl) ?_
    refine fx_get C hH (fx_w8 g M) rfl in_X7 14 (by decide) u_837 rfl rfl dX7_findSizes_29 ?_
    refine lv_iload_n hx hb dX7_findSizes_32 rfl (lv_at hl 3 rfl) ?_
    obtain ⟨hi4, h⟩ := h
    refine fx_iald (j := x3.toNatClampNeg) C hH 39 (fx_w39 g M) rfl hi4 dX7_findSizes_33 ?_
    refine fx_ci hH (fx_runV (As := [.int (M.2.1 39 x3.toNatClampNeg)]) (rest := [.int x2]) C hH (c_X7_hypothetical_8 l C.2.2.2.2.2.2.2.2.2.1 (M.2.1 39 x3.toNatClampNeg) M _ h) (fx_cwV 1 hts u_1046 u_1048 us_34 u_8 u_1049 rfl rfl (by decide +kernel) ⟨(Nat.le_of_ble_eq_true rfl), (Nat.le_of_ble_eq_true rfl)⟩) (fx_w8 g M) rfl rfl hl.1 rfl (Nat.le_of_ble_eq_true rfl) dX7_findSizes_34 ⟨(Nat.le_of_ble_eq_true rfl), (Nat.le_of_ble_eq_true rfl)⟩) (fun r6 M5 H locs h hH => ?_)
    refine lv_iadd hx hb dX7_findSizes_37 ?_
    refine lv_topi (fun v7 ev7 => ?_)
    replace h := h v7 ev7
    refine lv_istore_n (lv' := [(2, .int v7), (0, .ref (fx_a g 8)), (1, .int x1), (3, .int x3)]) hx hb dX7_findSizes_38 rfl hl (by decide) rfl (fun ls hl => ?_)
    obtain ⟨v8, ev8⟩ : ∃ z : Int32, z = x3 + 1 := ⟨_, rfl⟩
    refine lv_iinc (v := v8) (lv' := [(3, .int v8), (2, .int v7), (0, .ref (fx_a g 8)), (1, .int x1)]) hx hb dX7_findSizes_39 hl (k := 3) rfl (by rw [ev8]; rfl) (by decide) rfl (fun ls hl => ?_)
    replace h := h v8 ev8
    refine lv_goto (tgt := 9) hx hb dX7_findSizes_42 (by decide) ?_
    exact hk9 x1 v7 v8 M5 h  H locs ls hH (lv_sub hl [2, 3, 1, 0] rfl)
def wl_X7_findSizes_8_9 (k45 : Int32 → Int32 → fx_Mem → Prop) (Q : fx_Mem → Prop) (n : Nat) (x1 : Int32) (x2 : Int32) (x3 : Int32) (M : fx_Mem) : Prop :=
  fx_lp (α := Int32 × Int32 × Int32 × fx_Mem) (fun k a => wb_X7_findSizes_8_9 (fun x1 x2 x3 M => k (x1, x2, x3, M)) k45 Q a.1 a.2.1 a.2.2.1 a.2.2.2) n (x1, x2, x3, M)
set_option maxHeartbeats 4000000 in
theorem tl_X7_findSizes_8_9 {g : fx_Geo} {p : Program} {l : Launch} {e : Env} {s : State} {m : MethodId} {args : Array Value} {below : List Frame} {meth : Method} {c : Code} (C : fx_Cx g p s m args meth c RX7 cX7_findSizes 6 none) (k45 : Int32 → Int32 → fx_Mem → Prop) (Q : fx_Mem → Prop) (hk45 : ∀ (x1 : Int32) (x2 : Int32) (M : fx_Mem), k45 x1 x2 M → ∀ (H : Heap) (locs : List Loc) (ls : Array Slot), fx_H g s M H locs → lv_has ls 6 [(0, .ref (fx_a g 8)), (1, .int x1), (2, .int x2)] → W p l e rm_X7_findSizes_8 s m args below meth c H locs 0 0 (MQ below (va_Qv Q (fx_Pw g) (fx_A g)) args s 0 0 (fx_A g)) (F0 m 45 ls [])) : ∀ (n : Nat) (x1 : Int32) (x2 : Int32) (x3 : Int32) (M : fx_Mem), wl_X7_findSizes_8_9 k45 Q n x1 x2 x3 M → ∀ (H : Heap) (locs : List Loc) (ls : Array Slot), fx_H g s M H locs → lv_has ls 6 [(0, .ref (fx_a g 8)), (1, .int x1), (2, .int x2), (3, .int x3)] → W p l e rm_X7_findSizes_8 s m args below meth c H locs 0 0 (MQ below (va_Qv Q (fx_Pw g) (fx_A g)) args s 0 0 (fx_A g)) (F0 m 9 ls []) := by
  intro n
  induction n with
  | zero => intro x1 x2 x3 M h; exact False.elim h
  | succ n ih => intro x1 x2 x3 M h  H locs ls hH hl; exact tb_X7_findSizes_8_9 C (wl_X7_findSizes_8_9 k45 Q n) k45 Q ih hk45 x1 x2 x3 M h  H locs ls hH hl
def wb_X7_findSizes_8_178 (k68 : Int32 → Int32 → Int32 → fx_Mem → Prop) (k185 : Int32 → Int32 → fx_Mem → Prop) (Q : fx_Mem → Prop) (x1 : Int32) (x3 : Int32) (x4 : Int32) (s0 : Int32) (s1 : Int32) (M : fx_Mem) : Prop :=
  vp_in s1 20 ∧ ∀ M2 : fx_Mem, M2 = fx_sa M 46 s1.toNatClampNeg (vp_nar .boolean s0) → ∀ v3 : Int32, v3 = x4 + 1 → k68 x1 x3 v3 M2
set_option maxHeartbeats 4000000 in
set_option maxRecDepth 100000 in
theorem tb_X7_findSizes_8_178 {g : fx_Geo} {p : Program} {l : Launch} {e : Env} {s : State} {m : MethodId} {args : Array Value} {below : List Frame} {meth : Method} {c : Code} (C : fx_Cx g p s m args meth c RX7 cX7_findSizes 6 none) (k68 : Int32 → Int32 → Int32 → fx_Mem → Prop) (k185 : Int32 → Int32 → fx_Mem → Prop) (Q : fx_Mem → Prop) (hk68 : ∀ (x1 : Int32) (x3 : Int32) (x4 : Int32) (M : fx_Mem), k68 x1 x3 x4 M → ∀ (H : Heap) (locs : List Loc) (ls : Array Slot), fx_H g s M H locs → lv_has ls 6 [(0, .ref (fx_a g 8)), (1, .int x1), (3, .int x3), (4, .int x4)] → W p l e rm_X7_findSizes_8 s m args below meth c H locs 0 0 (MQ below (va_Qv Q (fx_Pw g) (fx_A g)) args s 0 0 (fx_A g)) (F0 m 68 ls [])) (hk185 : ∀ (x1 : Int32) (x3 : Int32) (M : fx_Mem), k185 x1 x3 M → ∀ (H : Heap) (locs : List Loc) (ls : Array Slot), fx_H g s M H locs → lv_has ls 6 [(0, .ref (fx_a g 8)), (1, .int x1), (3, .int x3)] → W p l e rm_X7_findSizes_8 s m args below meth c H locs 0 0 (MQ below (va_Qv Q (fx_Pw g) (fx_A g)) args s 0 0 (fx_A g)) (F0 m 185 ls [])) (x1 : Int32) (x3 : Int32) (x4 : Int32) (s0 : Int32) (s1 : Int32) (M : fx_Mem) (h : wb_X7_findSizes_8_178 k68 k185 Q x1 x3 x4 s0 s1 M) (H : Heap) (locs : List Loc) (ls : Array Slot) (hH : fx_H g s M H locs) (hl : lv_has ls 6 [(0, .ref (fx_a g 8)), (1, .int x1), (3, .int x3), (4, .int x4)]) : W p l e rm_X7_findSizes_8 s m args below meth c H locs 0 0 (MQ below (va_Qv Q (fx_Pw g) (fx_A g)) args s 0 0 (fx_A g)) (F0 m 178 ls [.int s0, .int s1, .ref (fx_a g 46)]) := by
  obtain ⟨hx, hb, hr, hml, hown, hts, hlocks, hsz, hK, hG, hSt⟩ := id C
  unfold wb_X7_findSizes_8_178 at h
  obtain ⟨hi1, h⟩ := h
  refine fx_zast (j := s1.toNatClampNeg) (M' := fx_sa M 46 s1.toNatClampNeg (vp_nar .boolean s0)) C hH 46 rfl (fx_w46 g M) (fx_p46 g M _) hi1 dX7_findSizes_178 (fun H locs hH => ?_)
  generalize eM2 : fx_sa M 46 s1.toNatClampNeg (vp_nar .boolean s0) = M2 at hH
  replace h := h M2 eM2.symm
  obtain ⟨v3, ev3⟩ : ∃ z : Int32, z = x4 + 1 := ⟨_, rfl⟩
  refine lv_iinc (v := v3) (lv' := [(4, .int v3), (0, .ref (fx_a g 8)), (1, .int x1), (3, .int x3)]) hx hb dX7_findSizes_179 hl (k := 3) rfl (by rw [ev3]; rfl) (by decide) rfl (fun ls hl => ?_)
  replace h := h v3 ev3
  refine lv_goto (tgt := 68) hx hb dX7_findSizes_182 (by decide) ?_
  exact hk68 x1 x3 v3 M2 h  H locs ls hH (lv_sub hl [1, 2, 3, 0] rfl)
def wb_X7_findSizes_8_173 (k68 : Int32 → Int32 → Int32 → fx_Mem → Prop) (k185 : Int32 → Int32 → fx_Mem → Prop) (Q : fx_Mem → Prop) (x1 : Int32) (x3 : Int32) (x4 : Int32) (s0 : Int32) (M : fx_Mem) : Prop :=
  wb_X7_findSizes_8_178 k68 k185 Q x1 x3 x4 1 s0 M
set_option maxHeartbeats 4000000 in
set_option maxRecDepth 100000 in
theorem tb_X7_findSizes_8_173 {g : fx_Geo} {p : Program} {l : Launch} {e : Env} {s : State} {m : MethodId} {args : Array Value} {below : List Frame} {meth : Method} {c : Code} (C : fx_Cx g p s m args meth c RX7 cX7_findSizes 6 none) (k68 : Int32 → Int32 → Int32 → fx_Mem → Prop) (k185 : Int32 → Int32 → fx_Mem → Prop) (Q : fx_Mem → Prop) (hk68 : ∀ (x1 : Int32) (x3 : Int32) (x4 : Int32) (M : fx_Mem), k68 x1 x3 x4 M → ∀ (H : Heap) (locs : List Loc) (ls : Array Slot), fx_H g s M H locs → lv_has ls 6 [(0, .ref (fx_a g 8)), (1, .int x1), (3, .int x3), (4, .int x4)] → W p l e rm_X7_findSizes_8 s m args below meth c H locs 0 0 (MQ below (va_Qv Q (fx_Pw g) (fx_A g)) args s 0 0 (fx_A g)) (F0 m 68 ls [])) (hk185 : ∀ (x1 : Int32) (x3 : Int32) (M : fx_Mem), k185 x1 x3 M → ∀ (H : Heap) (locs : List Loc) (ls : Array Slot), fx_H g s M H locs → lv_has ls 6 [(0, .ref (fx_a g 8)), (1, .int x1), (3, .int x3)] → W p l e rm_X7_findSizes_8 s m args below meth c H locs 0 0 (MQ below (va_Qv Q (fx_Pw g) (fx_A g)) args s 0 0 (fx_A g)) (F0 m 185 ls [])) (x1 : Int32) (x3 : Int32) (x4 : Int32) (s0 : Int32) (M : fx_Mem) (h : wb_X7_findSizes_8_173 k68 k185 Q x1 x3 x4 s0 M) (H : Heap) (locs : List Loc) (ls : Array Slot) (hH : fx_H g s M H locs) (hl : lv_has ls 6 [(0, .ref (fx_a g 8)), (1, .int x1), (3, .int x3), (4, .int x4)]) : W p l e rm_X7_findSizes_8 s m args below meth c H locs 0 0 (MQ below (va_Qv Q (fx_Pw g) (fx_A g)) args s 0 0 (fx_A g)) (F0 m 173 ls [.int s0, .ref (fx_a g 46)]) := by
  obtain ⟨hx, hb, hr, hml, hown, hts, hlocks, hsz, hK, hG, hSt⟩ := id C
  unfold wb_X7_findSizes_8_173 at h
  refine lv_iconst (v := 1) hx hb dX7_findSizes_173 (by decide) ?_
  refine lv_goto (tgt := 178) hx hb dX7_findSizes_174 (by decide) ?_
  exact tb_X7_findSizes_8_178 C k68 k185 Q hk68 hk185 x1 x3 x4 1 s0 M h  H locs ls hH (lv_sub hl [0, 1, 2, 3] rfl)
def wb_X7_findSizes_8_177 (k68 : Int32 → Int32 → Int32 → fx_Mem → Prop) (k185 : Int32 → Int32 → fx_Mem → Prop) (Q : fx_Mem → Prop) (x1 : Int32) (x3 : Int32) (x4 : Int32) (s0 : Int32) (M : fx_Mem) : Prop :=
  wb_X7_findSizes_8_178 k68 k185 Q x1 x3 x4 0 s0 M
set_option maxHeartbeats 4000000 in
set_option maxRecDepth 100000 in
theorem tb_X7_findSizes_8_177 {g : fx_Geo} {p : Program} {l : Launch} {e : Env} {s : State} {m : MethodId} {args : Array Value} {below : List Frame} {meth : Method} {c : Code} (C : fx_Cx g p s m args meth c RX7 cX7_findSizes 6 none) (k68 : Int32 → Int32 → Int32 → fx_Mem → Prop) (k185 : Int32 → Int32 → fx_Mem → Prop) (Q : fx_Mem → Prop) (hk68 : ∀ (x1 : Int32) (x3 : Int32) (x4 : Int32) (M : fx_Mem), k68 x1 x3 x4 M → ∀ (H : Heap) (locs : List Loc) (ls : Array Slot), fx_H g s M H locs → lv_has ls 6 [(0, .ref (fx_a g 8)), (1, .int x1), (3, .int x3), (4, .int x4)] → W p l e rm_X7_findSizes_8 s m args below meth c H locs 0 0 (MQ below (va_Qv Q (fx_Pw g) (fx_A g)) args s 0 0 (fx_A g)) (F0 m 68 ls [])) (hk185 : ∀ (x1 : Int32) (x3 : Int32) (M : fx_Mem), k185 x1 x3 M → ∀ (H : Heap) (locs : List Loc) (ls : Array Slot), fx_H g s M H locs → lv_has ls 6 [(0, .ref (fx_a g 8)), (1, .int x1), (3, .int x3)] → W p l e rm_X7_findSizes_8 s m args below meth c H locs 0 0 (MQ below (va_Qv Q (fx_Pw g) (fx_A g)) args s 0 0 (fx_A g)) (F0 m 185 ls [])) (x1 : Int32) (x3 : Int32) (x4 : Int32) (s0 : Int32) (M : fx_Mem) (h : wb_X7_findSizes_8_177 k68 k185 Q x1 x3 x4 s0 M) (H : Heap) (locs : List Loc) (ls : Array Slot) (hH : fx_H g s M H locs) (hl : lv_has ls 6 [(0, .ref (fx_a g 8)), (1, .int x1), (3, .int x3), (4, .int x4)]) : W p l e rm_X7_findSizes_8 s m args below meth c H locs 0 0 (MQ below (va_Qv Q (fx_Pw g) (fx_A g)) args s 0 0 (fx_A g)) (F0 m 177 ls [.int s0, .ref (fx_a g 46)]) := by
  obtain ⟨hx, hb, hr, hml, hown, hts, hlocks, hsz, hK, hG, hSt⟩ := id C
  unfold wb_X7_findSizes_8_177 at h
  refine lv_iconst (v := 0) hx hb dX7_findSizes_177 (by decide) ?_
  exact tb_X7_findSizes_8_178 C k68 k185 Q hk68 hk185 x1 x3 x4 0 s0 M h  H locs ls hH (lv_sub hl [0, 1, 2, 3] rfl)
def wb_X7_findSizes_8_126 (k68 : Int32 → Int32 → Int32 → fx_Mem → Prop) (k185 : Int32 → Int32 → fx_Mem → Prop) (Q : fx_Mem → Prop) (x1 : Int32) (x3 : Int32) (x4 : Int32) (x5 : Int32) (s0 : Int32) (s1 : Int32) (s3 : Int32) (M : fx_Mem) : Prop :=
  wp_X7_of_8 s1 s0 M (fun r2 M1 => ((r2 = 0 → wb_X7_findSizes_8_173 k68 k185 Q x1 x3 x4 s3 M1) ∧ (¬ r2 = 0 → ((x3 = 0 → wp_X7_of_8 x5 0 M1 (fun r6 M5 => vp_in x4 20 ∧ ((M5.2.1 40 x4.toNatClampNeg ≤ r6 → wb_X7_findSizes_8_177 k68 k185 Q x1 x3 x4 s3 M5) ∧ (¬ M5.2.1 40 x4.toNatClampNeg ≤ r6 → wb_X7_findSizes_8_173 k68 k185 Q x1 x3 x4 s3 M5)))) ∧ (¬ x3 = 0 → wp_X7_of_8 x5 0 M1 (fun r10 M9 => vp_in x4 20 ∧ ((r10 ≤ M9.2.1 40 x4.toNatClampNeg → wb_X7_findSizes_8_177 k68 k185 Q x1 x3 x4 s3 M9) ∧ (¬ r10 ≤ M9.2.1 40 x4.toNatClampNeg → wb_X7_findSizes_8_173 k68 k185 Q x1 x3 x4 s3 M9))))))))
set_option maxHeartbeats 4000000 in
set_option maxRecDepth 100000 in
theorem tb_X7_findSizes_8_126 {g : fx_Geo} {p : Program} {l : Launch} {e : Env} {s : State} {m : MethodId} {args : Array Value} {below : List Frame} {meth : Method} {c : Code} (C : fx_Cx g p s m args meth c RX7 cX7_findSizes 6 none) (k68 : Int32 → Int32 → Int32 → fx_Mem → Prop) (k185 : Int32 → Int32 → fx_Mem → Prop) (Q : fx_Mem → Prop) (hk68 : ∀ (x1 : Int32) (x3 : Int32) (x4 : Int32) (M : fx_Mem), k68 x1 x3 x4 M → ∀ (H : Heap) (locs : List Loc) (ls : Array Slot), fx_H g s M H locs → lv_has ls 6 [(0, .ref (fx_a g 8)), (1, .int x1), (3, .int x3), (4, .int x4)] → W p l e rm_X7_findSizes_8 s m args below meth c H locs 0 0 (MQ below (va_Qv Q (fx_Pw g) (fx_A g)) args s 0 0 (fx_A g)) (F0 m 68 ls [])) (hk185 : ∀ (x1 : Int32) (x3 : Int32) (M : fx_Mem), k185 x1 x3 M → ∀ (H : Heap) (locs : List Loc) (ls : Array Slot), fx_H g s M H locs → lv_has ls 6 [(0, .ref (fx_a g 8)), (1, .int x1), (3, .int x3)] → W p l e rm_X7_findSizes_8 s m args below meth c H locs 0 0 (MQ below (va_Qv Q (fx_Pw g) (fx_A g)) args s 0 0 (fx_A g)) (F0 m 185 ls [])) (x1 : Int32) (x3 : Int32) (x4 : Int32) (x5 : Int32) (s0 : Int32) (s1 : Int32) (s3 : Int32) (M : fx_Mem) (h : wb_X7_findSizes_8_126 k68 k185 Q x1 x3 x4 x5 s0 s1 s3 M) (H : Heap) (locs : List Loc) (ls : Array Slot) (hH : fx_H g s M H locs) (hl : lv_has ls 6 [(0, .ref (fx_a g 8)), (1, .int x1), (3, .int x3), (4, .int x4), (5, .int x5)]) : W p l e rm_X7_findSizes_8 s m args below meth c H locs 0 0 (MQ below (va_Qv Q (fx_Pw g) (fx_A g)) args s 0 0 (fx_A g)) (F0 m 126 ls [.int s0, .int s1, .ref (fx_a g 8), .int s3, .ref (fx_a g 46)]) := by
  obtain ⟨hx, hb, hr, hml, hown, hts, hlocks, hsz, hK, hG, hSt⟩ := id C
  unfold wb_X7_findSizes_8_126 at h
  refine fx_ci hH (fx_runV (As := [.int s1, .int s0]) (rest := [.int s3, .ref (fx_a g 46)]) C hH (c_X7_of_8 l C.2.2.2.2.2.2.2.2.2.1 s1 s0 M _ h) (fx_cwV 2 hts u_997 u_999 us_27 u_8 u_1000 rfl rfl (by decide +kernel) ⟨(Nat.le_of_ble_eq_true rfl), (Nat.le_of_ble_eq_true rfl)⟩) (fx_w8 g M) rfl rfl hl.1 rfl (Nat.le_of_ble_eq_true rfl) dX7_findSizes_126 ⟨(Nat.le_of_ble_eq_true rfl), (Nat.le_of_ble_eq_true rfl)⟩) (fun r2 M1 H locs h hH => ?_)
  refine lv_if_eq (tgt := 173) hx hb dX7_findSizes_129 (by decide) (fun c3 => ?_) (fun c3 => ?_)
  · replace h := h.1 c3
    exact tb_X7_findSizes_8_173 C k68 k185 Q hk68 hk185 x1 x3 x4 s3 M1 h  H locs ls hH (lv_sub hl [0, 1, 2, 3] rfl)
  · replace h := h.2 c3
    refine lv_iload_n hx hb dX7_findSizes_132 rfl (lv_at hl 2 rfl) ?_
    refine lv_if_eq (tgt := 156) hx hb dX7_findSizes_133 (by decide) (fun c4 => ?_) (fun c4 => ?_)
    · replace h := h.1 c4
      refine lv_aload_n hx hb dX7_findSizes_156 rfl (lv_at hl 0 rfl) ?_
      refine lv_iload hx hb dX7_findSizes_157 (lv_at hl 4 rfl) ?_
      refine lv_iconst (v := 0) hx hb dX7_findSizes_159 (by decide) ?_
      refine fx_ci hH (fx_runV (As := [.int x5, .int 0]) (rest := [.int s3, .ref (fx_a g 46)]) C hH (c_X7_of_8 l C.2.2.2.2.2.2.2.2.2.1 x5 0 M1 _ h) (fx_cwV 2 hts u_997 u_999 us_27 u_8 u_1000 rfl rfl (by decide +kernel) ⟨(Nat.le_of_ble_eq_true rfl), (Nat.le_of_ble_eq_true rfl)⟩) (fx_w8 g M1) rfl rfl hl.1 rfl (Nat.le_of_ble_eq_true rfl) dX7_findSizes_160 ⟨(Nat.le_of_ble_eq_true rfl), (Nat.le_of_ble_eq_true rfl)⟩) (fun r6 M5 H locs h hH => ?_)
      refine lv_aload_n hx hb dX7_findSizes_163 rfl (lv_at hl 0 rfl) ?_
      refine fx_get C hH (fx_w8 g M5) rfl in_X7 15 (by decide) u_838 rfl rfl dX7_findSizes_164 ?_
      refine lv_iload hx hb dX7_findSizes_167 (lv_at hl 3 rfl) ?_
      obtain ⟨hi7, h⟩ := h
      refine fx_iald (j := x4.toNatClampNeg) C hH 40 (fx_w40 g M5) rfl hi7 dX7_findSizes_169 ?_
      refine lv_icmp_ge (tgt := 177) hx hb dX7_findSizes_170 (by decide) (fun c8 => ?_) (fun c8 => ?_)
      · replace h := h.1 c8
        exact tb_X7_findSizes_8_177 C k68 k185 Q hk68 hk185 x1 x3 x4 s3 M5 h  H locs ls hH (lv_sub hl [0, 1, 2, 3] rfl)
      · replace h := h.2 c8
        exact tb_X7_findSizes_8_173 C k68 k185 Q hk68 hk185 x1 x3 x4 s3 M5 h  H locs ls hH (lv_sub hl [0, 1, 2, 3] rfl)
    · replace h := h.2 c4
      refine lv_aload_n hx hb dX7_findSizes_136 rfl (lv_at hl 0 rfl) ?_
      refine lv_iload hx hb dX7_findSizes_137 (lv_at hl 4 rfl) ?_
      refine lv_iconst (v := 0) hx hb dX7_findSizes_139 (by decide) ?_
      refine fx_ci hH (fx_runV (As := [.int x5, .int 0]) (rest := [.int s3, .ref (fx_a g 46)]) C hH (c_X7_of_8 l C.2.2.2.2.2.2.2.2.2.1 x5 0 M1 _ h) (fx_cwV 2 hts u_997 u_999 us_27 u_8 u_1000 rfl rfl (by decide +kernel) ⟨(Nat.le_of_ble_eq_true rfl), (Nat.le_of_ble_eq_true rfl)⟩) (fx_w8 g M1) rfl rfl hl.1 rfl (Nat.le_of_ble_eq_true rfl) dX7_findSizes_140 ⟨(Nat.le_of_ble_eq_true rfl), (Nat.le_of_ble_eq_true rfl)⟩) (fun r10 M9 H locs h hH => ?_)
      refine lv_aload_n hx hb dX7_findSizes_143 rfl (lv_at hl 0 rfl) ?_
      refine fx_get C hH (fx_w8 g M9) rfl in_X7 15 (by decide) u_838 rfl rfl dX7_findSizes_144 ?_
      refine lv_iload hx hb dX7_findSizes_147 (lv_at hl 3 rfl) ?_
      obtain ⟨hi11, h⟩ := h
      refine fx_iald (j := x4.toNatClampNeg) C hH 40 (fx_w40 g M9) rfl hi11 dX7_findSizes_149 ?_
      refine lv_icmp_le (tgt := 177) hx hb dX7_findSizes_150 (by decide) (fun c12 => ?_) (fun c12 => ?_)
      · replace h := h.1 c12
        exact tb_X7_findSizes_8_177 C k68 k185 Q hk68 hk185 x1 x3 x4 s3 M9 h  H locs ls hH (lv_sub hl [0, 1, 2, 3] rfl)
      · replace h := h.2 c12
        refine lv_goto (tgt := 173) hx hb dX7_findSizes_153 (by decide) ?_
        exact tb_X7_findSizes_8_173 C k68 k185 Q hk68 hk185 x1 x3 x4 s3 M9 h  H locs ls hH (lv_sub hl [0, 1, 2, 3] rfl)
def wb_X7_findSizes_8_68 (k68 : Int32 → Int32 → Int32 → fx_Mem → Prop) (k185 : Int32 → Int32 → fx_Mem → Prop) (Q : fx_Mem → Prop) (x1 : Int32) (x3 : Int32) (x4 : Int32) (M : fx_Mem) : Prop :=
  vp_in x1 20 ∧ vp_in x1 20 ∧ (((M.2.1 47 x1.toNatClampNeg) + (M.2.1 48 x1.toNatClampNeg) ≤ x4 → k185 x1 x3 M) ∧ (¬ (M.2.1 47 x1.toNatClampNeg) + (M.2.1 48 x1.toNatClampNeg) ≤ x4 → vp_in x4 20 ∧ ∀ v5 : Int32, v5 = M.2.1 39 x4.toNatClampNeg → wp_X7_hypothetical_8 v5 M (fun r7 M6 => vp_in x4 20 ∧ ∀ M9 : fx_Mem, M9 = fx_sa M6 40 x4.toNatClampNeg r7 → ((x3 = 0 → wb_X7_findSizes_8_126 k68 k185 Q x1 x3 x4 v5 2 v5 x4 M9) ∧ (¬ x3 = 0 → wb_X7_findSizes_8_126 k68 k185 Q x1 x3 x4 v5 1 v5 x4 M9)))))
set_option maxHeartbeats 4000000 in
set_option maxRecDepth 100000 in
theorem tb_X7_findSizes_8_68 {g : fx_Geo} {p : Program} {l : Launch} {e : Env} {s : State} {m : MethodId} {args : Array Value} {below : List Frame} {meth : Method} {c : Code} (C : fx_Cx g p s m args meth c RX7 cX7_findSizes 6 none) (k68 : Int32 → Int32 → Int32 → fx_Mem → Prop) (k185 : Int32 → Int32 → fx_Mem → Prop) (Q : fx_Mem → Prop) (hk68 : ∀ (x1 : Int32) (x3 : Int32) (x4 : Int32) (M : fx_Mem), k68 x1 x3 x4 M → ∀ (H : Heap) (locs : List Loc) (ls : Array Slot), fx_H g s M H locs → lv_has ls 6 [(0, .ref (fx_a g 8)), (1, .int x1), (3, .int x3), (4, .int x4)] → W p l e rm_X7_findSizes_8 s m args below meth c H locs 0 0 (MQ below (va_Qv Q (fx_Pw g) (fx_A g)) args s 0 0 (fx_A g)) (F0 m 68 ls [])) (hk185 : ∀ (x1 : Int32) (x3 : Int32) (M : fx_Mem), k185 x1 x3 M → ∀ (H : Heap) (locs : List Loc) (ls : Array Slot), fx_H g s M H locs → lv_has ls 6 [(0, .ref (fx_a g 8)), (1, .int x1), (3, .int x3)] → W p l e rm_X7_findSizes_8 s m args below meth c H locs 0 0 (MQ below (va_Qv Q (fx_Pw g) (fx_A g)) args s 0 0 (fx_A g)) (F0 m 185 ls [])) (x1 : Int32) (x3 : Int32) (x4 : Int32) (M : fx_Mem) (h : wb_X7_findSizes_8_68 k68 k185 Q x1 x3 x4 M) (H : Heap) (locs : List Loc) (ls : Array Slot) (hH : fx_H g s M H locs) (hl : lv_has ls 6 [(0, .ref (fx_a g 8)), (1, .int x1), (3, .int x3), (4, .int x4)]) : W p l e rm_X7_findSizes_8 s m args below meth c H locs 0 0 (MQ below (va_Qv Q (fx_Pw g) (fx_A g)) args s 0 0 (fx_A g)) (F0 m 68 ls []) := by
  obtain ⟨hx, hb, hr, hml, hown, hts, hlocks, hsz, hK, hG, hSt⟩ := id C
  unfold wb_X7_findSizes_8_68 at h
  refine lv_iload hx hb dX7_findSizes_68 (lv_at hl 3 rfl) ?_
  refine lv_aload_n hx hb dX7_findSizes_70 rfl (lv_at hl 0 rfl) ?_
  refine fx_get C hH (fx_w8 g M) rfl in_X7 22 (by decide) u_845 rfl rfl dX7_findSizes_71 ?_
  refine lv_iload_n hx hb dX7_findSizes_74 rfl (lv_at hl 1 rfl) ?_
  obtain ⟨hi1, h⟩ := h
  refine fx_iald (j := x1.toNatClampNeg) C hH 47 (fx_w47 g M) rfl hi1 dX7_findSizes_75 ?_
  refine lv_aload_n hx hb dX7_findSizes_76 rfl (lv_at hl 0 rfl) ?_
  refine fx_get C hH (fx_w8 g M) rfl in_X7 23 (by decide) u_846 rfl rfl dX7_findSizes_77 ?_
  refine lv_iload_n hx hb dX7_findSizes_80 rfl (lv_at hl 1 rfl) ?_
  obtain ⟨hi2, h⟩ := h
  refine fx_iald (j := x1.toNatClampNeg) C hH 48 (fx_w48 g M) rfl hi2 dX7_findSizes_81 ?_
  refine lv_iadd hx hb dX7_findSizes_82 ?_
  refine lv_icmp_ge (tgt := 185) hx hb dX7_findSizes_83 (by decide) (fun c3 => ?_) (fun c3 => ?_)
  · replace h := h.1 c3
    exact hk185 x1 x3 M h  H locs ls hH (lv_sub hl [0, 1, 2] rfl)
  · replace h := h.2 c3
    refine lv_aload_n hx hb dX7_findSizes_86 rfl (lv_at hl 0 rfl) ?_
    refine fx_get C hH (fx_w8 g M) rfl in_X7 14 (by decide) u_837 rfl rfl dX7_findSizes_87 ?_
    refine lv_iload hx hb dX7_findSizes_90 (lv_at hl 3 rfl) ?_
    obtain ⟨hi4, h⟩ := h
    refine fx_iald (j := x4.toNatClampNeg) C hH 39 (fx_w39 g M) rfl hi4 dX7_findSizes_92 ?_
    refine lv_topi (fun v5 ev5 => ?_)
    replace h := h v5 ev5
    refine lv_istore (lv' := [(5, .int v5), (0, .ref (fx_a g 8)), (1, .int x1), (3, .int x3), (4, .int x4)]) hx hb dX7_findSizes_93 hl (by decide) rfl (fun ls hl => ?_)
    refine lv_aload_n hx hb dX7_findSizes_95 rfl (lv_at hl 1 rfl) ?_
    refine fx_get C hH (fx_w8 g M) rfl in_X7 15 (by decide) u_838 rfl rfl dX7_findSizes_96 ?_
    refine lv_iload hx hb dX7_findSizes_99 (lv_at hl 4 rfl) ?_
    refine lv_aload_n hx hb dX7_findSizes_101 rfl (lv_at hl 1 rfl) ?_
    refine lv_iload hx hb dX7_findSizes_102 (lv_at hl 0 rfl) ?_
    refine fx_ci hH (fx_runV (As := [.int v5]) (rest := [.int x4, .ref (fx_a g 40)]) C hH (c_X7_hypothetical_8 l C.2.2.2.2.2.2.2.2.2.1 v5 M _ h) (fx_cwV 1 hts u_1046 u_1048 us_34 u_8 u_1049 rfl rfl (by decide +kernel) ⟨(Nat.le_of_ble_eq_true rfl), (Nat.le_of_ble_eq_true rfl)⟩) (fx_w8 g M) rfl rfl hl.1 rfl (Nat.le_of_ble_eq_true rfl) dX7_findSizes_104 ⟨(Nat.le_of_ble_eq_true rfl), (Nat.le_of_ble_eq_true rfl)⟩) (fun r7 M6 H locs h hH => ?_)
    obtain ⟨hi8, h⟩ := h
    refine fx_iast (j := x4.toNatClampNeg) (M' := fx_sa M6 40 x4.toNatClampNeg r7) C hH 40 rfl (fx_w40 g M6) (fx_p40 g M6 _) hi8 dX7_findSizes_107 (fun H locs hH => ?_)
    generalize eM9 : fx_sa M6 40 x4.toNatClampNeg r7 = M9 at hH
    replace h := h M9 eM9.symm
    refine lv_aload_n hx hb dX7_findSizes_108 rfl (lv_at hl 1 rfl) ?_
    refine fx_get C hH (fx_w8 g M9) rfl in_X7 21 (by decide) u_844 rfl rfl dX7_findSizes_109 ?_
    refine lv_iload hx hb dX7_findSizes_112 (lv_at hl 4 rfl) ?_
    refine lv_aload_n hx hb dX7_findSizes_114 rfl (lv_at hl 1 rfl) ?_
    refine lv_iload hx hb dX7_findSizes_115 (lv_at hl 0 rfl) ?_
    refine lv_iload_n hx hb dX7_findSizes_117 rfl (lv_at hl 3 rfl) ?_
    refine lv_if_eq (tgt := 125) hx hb dX7_findSizes_118 (by decide) (fun c10 => ?_) (fun c10 => ?_)
    · replace h := h.1 c10
      refine lv_iconst (v := 2) hx hb dX7_findSizes_125 (by decide) ?_
      exact tb_X7_findSizes_8_126 C k68 k185 Q hk68 hk185 x1 x3 x4 v5 2 v5 x4 M9 h  H locs ls hH (lv_sub hl [1, 2, 3, 4, 0] rfl)
    · replace h := h.2 c10
      refine lv_iconst (v := 1) hx hb dX7_findSizes_121 (by decide) ?_
      refine lv_goto (tgt := 126) hx hb dX7_findSizes_122 (by decide) ?_
      exact tb_X7_findSizes_8_126 C k68 k185 Q hk68 hk185 x1 x3 x4 v5 1 v5 x4 M9 h  H locs ls hH (lv_sub hl [1, 2, 3, 4, 0] rfl)
def wl_X7_findSizes_8_68 (k185 : Int32 → Int32 → fx_Mem → Prop) (Q : fx_Mem → Prop) (n : Nat) (x1 : Int32) (x3 : Int32) (x4 : Int32) (M : fx_Mem) : Prop :=
  fx_lp (α := Int32 × Int32 × Int32 × fx_Mem) (fun k a => wb_X7_findSizes_8_68 (fun x1 x3 x4 M => k (x1, x3, x4, M)) k185 Q a.1 a.2.1 a.2.2.1 a.2.2.2) n (x1, x3, x4, M)
set_option maxHeartbeats 4000000 in
theorem tl_X7_findSizes_8_68 {g : fx_Geo} {p : Program} {l : Launch} {e : Env} {s : State} {m : MethodId} {args : Array Value} {below : List Frame} {meth : Method} {c : Code} (C : fx_Cx g p s m args meth c RX7 cX7_findSizes 6 none) (k185 : Int32 → Int32 → fx_Mem → Prop) (Q : fx_Mem → Prop) (hk185 : ∀ (x1 : Int32) (x3 : Int32) (M : fx_Mem), k185 x1 x3 M → ∀ (H : Heap) (locs : List Loc) (ls : Array Slot), fx_H g s M H locs → lv_has ls 6 [(0, .ref (fx_a g 8)), (1, .int x1), (3, .int x3)] → W p l e rm_X7_findSizes_8 s m args below meth c H locs 0 0 (MQ below (va_Qv Q (fx_Pw g) (fx_A g)) args s 0 0 (fx_A g)) (F0 m 185 ls [])) : ∀ (n : Nat) (x1 : Int32) (x3 : Int32) (x4 : Int32) (M : fx_Mem), wl_X7_findSizes_8_68 k185 Q n x1 x3 x4 M → ∀ (H : Heap) (locs : List Loc) (ls : Array Slot), fx_H g s M H locs → lv_has ls 6 [(0, .ref (fx_a g 8)), (1, .int x1), (3, .int x3), (4, .int x4)] → W p l e rm_X7_findSizes_8 s m args below meth c H locs 0 0 (MQ below (va_Qv Q (fx_Pw g) (fx_A g)) args s 0 0 (fx_A g)) (F0 m 68 ls []) := by
  intro n
  induction n with
  | zero => intro x1 x3 x4 M h; exact False.elim h
  | succ n ih => intro x1 x3 x4 M h  H locs ls hH hl; exact tb_X7_findSizes_8_68 C (wl_X7_findSizes_8_68 k185 Q n) k185 Q ih hk185 x1 x3 x4 M h  H locs ls hH hl
def wb_X7_findSizes_8_192 (k192 : Int32 → Int32 → fx_Mem → Prop) (k219 : Int32 → fx_Mem → Prop) (Q : fx_Mem → Prop) (x1 : Int32) (x3 : Int32) (M : fx_Mem) : Prop :=
  wp_X7_areFrozen_8 x1 M (fun r2 M1 => ((r2 = 0 → wp_X7_round_8 x1 x3 M1 (fun M4 => vp_in x1 20 ∧ vp_in x1 20 ∧ ∀ M7 : fx_Mem, M7 = fx_sa M4 49 x1.toNatClampNeg ((M4.2.1 49 x1.toNatClampNeg) + 1) → k192 x1 x3 M7)) ∧ (¬ r2 = 0 → k219 x1 M1)))
set_option maxHeartbeats 4000000 in
set_option maxRecDepth 100000 in
theorem tb_X7_findSizes_8_192 {g : fx_Geo} {p : Program} {l : Launch} {e : Env} {s : State} {m : MethodId} {args : Array Value} {below : List Frame} {meth : Method} {c : Code} (C : fx_Cx g p s m args meth c RX7 cX7_findSizes 6 none) (k192 : Int32 → Int32 → fx_Mem → Prop) (k219 : Int32 → fx_Mem → Prop) (Q : fx_Mem → Prop) (hk192 : ∀ (x1 : Int32) (x3 : Int32) (M : fx_Mem), k192 x1 x3 M → ∀ (H : Heap) (locs : List Loc) (ls : Array Slot), fx_H g s M H locs → lv_has ls 6 [(0, .ref (fx_a g 8)), (1, .int x1), (3, .int x3)] → W p l e rm_X7_findSizes_8 s m args below meth c H locs 0 0 (MQ below (va_Qv Q (fx_Pw g) (fx_A g)) args s 0 0 (fx_A g)) (F0 m 192 ls [])) (hk219 : ∀ (x1 : Int32) (M : fx_Mem), k219 x1 M → ∀ (H : Heap) (locs : List Loc) (ls : Array Slot), fx_H g s M H locs → lv_has ls 6 [(0, .ref (fx_a g 8)), (1, .int x1)] → W p l e rm_X7_findSizes_8 s m args below meth c H locs 0 0 (MQ below (va_Qv Q (fx_Pw g) (fx_A g)) args s 0 0 (fx_A g)) (F0 m 219 ls [])) (x1 : Int32) (x3 : Int32) (M : fx_Mem) (h : wb_X7_findSizes_8_192 k192 k219 Q x1 x3 M) (H : Heap) (locs : List Loc) (ls : Array Slot) (hH : fx_H g s M H locs) (hl : lv_has ls 6 [(0, .ref (fx_a g 8)), (1, .int x1), (3, .int x3)]) : W p l e rm_X7_findSizes_8 s m args below meth c H locs 0 0 (MQ below (va_Qv Q (fx_Pw g) (fx_A g)) args s 0 0 (fx_A g)) (F0 m 192 ls []) := by
  obtain ⟨hx, hb, hr, hml, hown, hts, hlocks, hsz, hK, hG, hSt⟩ := id C
  unfold wb_X7_findSizes_8_192 at h
  refine lv_aload_n hx hb dX7_findSizes_192 rfl (lv_at hl 0 rfl) ?_
  refine lv_iload_n hx hb dX7_findSizes_193 rfl (lv_at hl 1 rfl) ?_
  refine fx_ci hH (fx_runV (As := [.int x1]) (rest := []) C hH (c_X7_areFrozen_8 l C.2.2.2.2.2.2.2.2.2.1 x1 M _ h) (fx_cwV 1 hts u_1062 u_1064 us_38 u_8 u_1065 rfl rfl (by decide +kernel) ⟨(Nat.le_of_ble_eq_true rfl), (Nat.le_of_ble_eq_true rfl)⟩) (fx_w8 g M) rfl rfl hl.1 rfl (Nat.le_of_ble_eq_true rfl) dX7_findSizes_194 ⟨(Nat.le_of_ble_eq_true rfl), (Nat.le_of_ble_eq_true rfl)⟩) (fun r2 M1 H locs h hH => ?_)
  refine lv_if_ne (tgt := 219) hx hb dX7_findSizes_197 (by decide) (fun c3 => ?_) (fun c3 => ?_)
  · replace h := h.2 c3
    exact hk219 x1 M1 h  H locs ls hH (lv_sub hl [0, 1] rfl)
  · replace h := h.1 c3
    refine lv_aload_n hx hb dX7_findSizes_200 rfl (lv_at hl 0 rfl) ?_
    refine lv_iload_n hx hb dX7_findSizes_201 rfl (lv_at hl 1 rfl) ?_
    refine lv_iload_n hx hb dX7_findSizes_202 rfl (lv_at hl 2 rfl) ?_
    refine fx_cv hH (fx_runV (As := [.int x1, .int x3]) (rest := []) C hH (c_X7_round_8 l C.2.2.2.2.2.2.2.2.2.1 x1 x3 M1 _ h) (fx_cwV 2 hts u_1066 u_1068 us_39 u_8 u_1069 rfl rfl (by decide +kernel) ⟨(Nat.le_of_ble_eq_true rfl), (Nat.le_of_ble_eq_true rfl)⟩) (fx_w8 g M1) rfl rfl hl.1 rfl (Nat.le_of_ble_eq_true rfl) dX7_findSizes_203 ⟨(Nat.le_of_ble_eq_true rfl), (Nat.le_of_ble_eq_true rfl)⟩) (fun M4 H locs h hH => ?_)
    refine lv_aload_n hx hb dX7_findSizes_206 rfl (lv_at hl 0 rfl) ?_
    refine fx_get C hH (fx_w8 g M4) rfl in_X7 24 (by decide) u_847 rfl rfl dX7_findSizes_207 ?_
    refine lv_iload_n hx hb dX7_findSizes_210 rfl (lv_at hl 1 rfl) ?_
    refine lv_dup2_11 hx hb dX7_findSizes_211 rfl rfl ?_
    obtain ⟨hi5, h⟩ := h
    refine fx_iald (j := x1.toNatClampNeg) C hH 49 (fx_w49 g M4) rfl hi5 dX7_findSizes_212 ?_
    refine lv_iconst (v := 1) hx hb dX7_findSizes_213 (by decide) ?_
    refine lv_iadd hx hb dX7_findSizes_214 ?_
    obtain ⟨hi6, h⟩ := h
    refine fx_iast (j := x1.toNatClampNeg) (M' := fx_sa M4 49 x1.toNatClampNeg ((M4.2.1 49 x1.toNatClampNeg) + 1)) C hH 49 rfl (fx_w49 g M4) (fx_p49 g M4 _) hi6 dX7_findSizes_215 (fun H locs hH => ?_)
    generalize eM7 : fx_sa M4 49 x1.toNatClampNeg ((M4.2.1 49 x1.toNatClampNeg) + 1) = M7 at hH
    replace h := h M7 eM7.symm
    refine lv_goto (tgt := 192) hx hb dX7_findSizes_216 (by decide) ?_
    exact hk192 x1 x3 M7 h  H locs ls hH (lv_sub hl [0, 1, 2] rfl)
def wl_X7_findSizes_8_192 (k219 : Int32 → fx_Mem → Prop) (Q : fx_Mem → Prop) (n : Nat) (x1 : Int32) (x3 : Int32) (M : fx_Mem) : Prop :=
  fx_lp (α := Int32 × Int32 × fx_Mem) (fun k a => wb_X7_findSizes_8_192 (fun x1 x3 M => k (x1, x3, M)) k219 Q a.1 a.2.1 a.2.2) n (x1, x3, M)
set_option maxHeartbeats 4000000 in
theorem tl_X7_findSizes_8_192 {g : fx_Geo} {p : Program} {l : Launch} {e : Env} {s : State} {m : MethodId} {args : Array Value} {below : List Frame} {meth : Method} {c : Code} (C : fx_Cx g p s m args meth c RX7 cX7_findSizes 6 none) (k219 : Int32 → fx_Mem → Prop) (Q : fx_Mem → Prop) (hk219 : ∀ (x1 : Int32) (M : fx_Mem), k219 x1 M → ∀ (H : Heap) (locs : List Loc) (ls : Array Slot), fx_H g s M H locs → lv_has ls 6 [(0, .ref (fx_a g 8)), (1, .int x1)] → W p l e rm_X7_findSizes_8 s m args below meth c H locs 0 0 (MQ below (va_Qv Q (fx_Pw g) (fx_A g)) args s 0 0 (fx_A g)) (F0 m 219 ls [])) : ∀ (n : Nat) (x1 : Int32) (x3 : Int32) (M : fx_Mem), wl_X7_findSizes_8_192 k219 Q n x1 x3 M → ∀ (H : Heap) (locs : List Loc) (ls : Array Slot), fx_H g s M H locs → lv_has ls 6 [(0, .ref (fx_a g 8)), (1, .int x1), (3, .int x3)] → W p l e rm_X7_findSizes_8 s m args below meth c H locs 0 0 (MQ below (va_Qv Q (fx_Pw g) (fx_A g)) args s 0 0 (fx_A g)) (F0 m 192 ls []) := by
  intro n
  induction n with
  | zero => intro x1 x3 M h; exact False.elim h
  | succ n ih => intro x1 x3 M h  H locs ls hH hl; exact tb_X7_findSizes_8_192 C (wl_X7_findSizes_8_192 k219 Q n) k219 Q ih hk219 x1 x3 M h  H locs ls hH hl
def wb_X7_findSizes_8_238 (k238 : Int32 → Int32 → fx_Mem → Prop) (Q : fx_Mem → Prop) (x1 : Int32) (x4 : Int32) (M : fx_Mem) : Prop :=
  vp_in x1 20 ∧ vp_in x1 20 ∧ (((M.2.1 47 x1.toNatClampNeg) + (M.2.1 48 x1.toNatClampNeg) ≤ x4 → Q M) ∧ (¬ (M.2.1 47 x1.toNatClampNeg) + (M.2.1 48 x1.toNatClampNeg) ≤ x4 → vp_in x1 20 ∧ vp_in x4 20 ∧ vp_in x1 20 ∧ ∀ M7 : fx_Mem, M7 = fx_sa M 50 x1.toNatClampNeg ((M.2.1 50 x1.toNatClampNeg) - (M.2.1 40 x4.toNatClampNeg)) → ∀ v8 : Int32, v8 = x4 + 1 → k238 x1 v8 M7))
set_option maxHeartbeats 4000000 in
set_option maxRecDepth 100000 in
theorem tb_X7_findSizes_8_238 {g : fx_Geo} {p : Program} {l : Launch} {e : Env} {s : State} {m : MethodId} {args : Array Value} {below : List Frame} {meth : Method} {c : Code} (C : fx_Cx g p s m args meth c RX7 cX7_findSizes 6 none) (k238 : Int32 → Int32 → fx_Mem → Prop) (Q : fx_Mem → Prop) (hk238 : ∀ (x1 : Int32) (x4 : Int32) (M : fx_Mem), k238 x1 x4 M → ∀ (H : Heap) (locs : List Loc) (ls : Array Slot), fx_H g s M H locs → lv_has ls 6 [(0, .ref (fx_a g 8)), (1, .int x1), (4, .int x4)] → W p l e rm_X7_findSizes_8 s m args below meth c H locs 0 0 (MQ below (va_Qv Q (fx_Pw g) (fx_A g)) args s 0 0 (fx_A g)) (F0 m 238 ls [])) (x1 : Int32) (x4 : Int32) (M : fx_Mem) (h : wb_X7_findSizes_8_238 k238 Q x1 x4 M) (H : Heap) (locs : List Loc) (ls : Array Slot) (hH : fx_H g s M H locs) (hl : lv_has ls 6 [(0, .ref (fx_a g 8)), (1, .int x1), (4, .int x4)]) : W p l e rm_X7_findSizes_8 s m args below meth c H locs 0 0 (MQ below (va_Qv Q (fx_Pw g) (fx_A g)) args s 0 0 (fx_A g)) (F0 m 238 ls []) := by
  obtain ⟨hx, hb, hr, hml, hown, hts, hlocks, hsz, hK, hG, hSt⟩ := id C
  unfold wb_X7_findSizes_8_238 at h
  refine lv_iload hx hb dX7_findSizes_238 (lv_at hl 2 rfl) ?_
  refine lv_aload_n hx hb dX7_findSizes_240 rfl (lv_at hl 0 rfl) ?_
  refine fx_get C hH (fx_w8 g M) rfl in_X7 22 (by decide) u_845 rfl rfl dX7_findSizes_241 ?_
  refine lv_iload_n hx hb dX7_findSizes_244 rfl (lv_at hl 1 rfl) ?_
  obtain ⟨hi1, h⟩ := h
  refine fx_iald (j := x1.toNatClampNeg) C hH 47 (fx_w47 g M) rfl hi1 dX7_findSizes_245 ?_
  refine lv_aload_n hx hb dX7_findSizes_246 rfl (lv_at hl 0 rfl) ?_
  refine fx_get C hH (fx_w8 g M) rfl in_X7 23 (by decide) u_846 rfl rfl dX7_findSizes_247 ?_
  refine lv_iload_n hx hb dX7_findSizes_250 rfl (lv_at hl 1 rfl) ?_
  obtain ⟨hi2, h⟩ := h
  refine fx_iald (j := x1.toNatClampNeg) C hH 48 (fx_w48 g M) rfl hi2 dX7_findSizes_251 ?_
  refine lv_iadd hx hb dX7_findSizes_252 ?_
  refine lv_icmp_ge (tgt := 278) hx hb dX7_findSizes_253 (by decide) (fun c3 => ?_) (fun c3 => ?_)
  · replace h := h.1 c3
    exact fx_vret C hH h dX7_findSizes_278
  · replace h := h.2 c3
    refine lv_aload_n hx hb dX7_findSizes_256 rfl (lv_at hl 0 rfl) ?_
    refine fx_get C hH (fx_w8 g M) rfl in_X7 25 (by decide) u_848 rfl rfl dX7_findSizes_257 ?_
    refine lv_iload_n hx hb dX7_findSizes_260 rfl (lv_at hl 1 rfl) ?_
    refine lv_dup2_11 hx hb dX7_findSizes_261 rfl rfl ?_
    obtain ⟨hi4, h⟩ := h
    refine fx_iald (j := x1.toNatClampNeg) C hH 50 (fx_w50 g M) rfl hi4 dX7_findSizes_262 ?_
    refine lv_aload_n hx hb dX7_findSizes_263 rfl (lv_at hl 0 rfl) ?_
    refine fx_get C hH (fx_w8 g M) rfl in_X7 15 (by decide) u_838 rfl rfl dX7_findSizes_264 ?_
    refine lv_iload hx hb dX7_findSizes_267 (lv_at hl 2 rfl) ?_
    obtain ⟨hi5, h⟩ := h
    refine fx_iald (j := x4.toNatClampNeg) C hH 40 (fx_w40 g M) rfl hi5 dX7_findSizes_269 ?_
    refine lv_isub hx hb dX7_findSizes_270 ?_
    obtain ⟨hi6, h⟩ := h
    refine fx_iast (j := x1.toNatClampNeg) (M' := fx_sa M 50 x1.toNatClampNeg ((M.2.1 50 x1.toNatClampNeg) - (M.2.1 40 x4.toNatClampNeg))) C hH 50 rfl (fx_w50 g M) (fx_p50 g M _) hi6 dX7_findSizes_271 (fun H locs hH => ?_)
    generalize eM7 : fx_sa M 50 x1.toNatClampNeg ((M.2.1 50 x1.toNatClampNeg) - (M.2.1 40 x4.toNatClampNeg)) = M7 at hH
    replace h := h M7 eM7.symm
    obtain ⟨v8, ev8⟩ : ∃ z : Int32, z = x4 + 1 := ⟨_, rfl⟩
    refine lv_iinc (v := v8) (lv' := [(4, .int v8), (0, .ref (fx_a g 8)), (1, .int x1)]) hx hb dX7_findSizes_272 hl (k := 2) rfl (by rw [ev8]; rfl) (by decide) rfl (fun ls hl => ?_)
    replace h := h v8 ev8
    refine lv_goto (tgt := 238) hx hb dX7_findSizes_275 (by decide) ?_
    exact hk238 x1 v8 M7 h  H locs ls hH (lv_sub hl [1, 2, 0] rfl)
def wl_X7_findSizes_8_238 (Q : fx_Mem → Prop) (n : Nat) (x1 : Int32) (x4 : Int32) (M : fx_Mem) : Prop :=
  fx_lp (α := Int32 × Int32 × fx_Mem) (fun k a => wb_X7_findSizes_8_238 (fun x1 x4 M => k (x1, x4, M)) Q a.1 a.2.1 a.2.2) n (x1, x4, M)
set_option maxHeartbeats 4000000 in
theorem tl_X7_findSizes_8_238 {g : fx_Geo} {p : Program} {l : Launch} {e : Env} {s : State} {m : MethodId} {args : Array Value} {below : List Frame} {meth : Method} {c : Code} (C : fx_Cx g p s m args meth c RX7 cX7_findSizes 6 none) (Q : fx_Mem → Prop) : ∀ (n : Nat) (x1 : Int32) (x4 : Int32) (M : fx_Mem), wl_X7_findSizes_8_238  Q n x1 x4 M → ∀ (H : Heap) (locs : List Loc) (ls : Array Slot), fx_H g s M H locs → lv_has ls 6 [(0, .ref (fx_a g 8)), (1, .int x1), (4, .int x4)] → W p l e rm_X7_findSizes_8 s m args below meth c H locs 0 0 (MQ below (va_Qv Q (fx_Pw g) (fx_A g)) args s 0 0 (fx_A g)) (F0 m 238 ls []) := by
  intro n
  induction n with
  | zero => intro x1 x4 M h; exact False.elim h
  | succ n ih => intro x1 x4 M h  H locs ls hH hl; exact tb_X7_findSizes_8_238 C (wl_X7_findSizes_8_238  Q n) Q ih x1 x4 M h  H locs ls hH hl
def wb_X7_findSizes_8_219 (Q : fx_Mem → Prop) (x1 : Int32) (M : fx_Mem) : Prop :=
  wp_X7_available_8 x1 M (fun r2 M1 => vp_in x1 20 ∧ ∀ M4 : fx_Mem, M4 = fx_sa M1 50 x1.toNatClampNeg r2 → vp_in x1 20 ∧ ∀ v6 : Int32, v6 = M4.2.1 47 x1.toNatClampNeg → ∃ n238 : Nat, wl_X7_findSizes_8_238 Q n238 x1 v6 M4)
set_option maxHeartbeats 4000000 in
set_option maxRecDepth 100000 in
theorem tb_X7_findSizes_8_219 {g : fx_Geo} {p : Program} {l : Launch} {e : Env} {s : State} {m : MethodId} {args : Array Value} {below : List Frame} {meth : Method} {c : Code} (C : fx_Cx g p s m args meth c RX7 cX7_findSizes 6 none) (Q : fx_Mem → Prop) (x1 : Int32) (M : fx_Mem) (h : wb_X7_findSizes_8_219 Q x1 M) (H : Heap) (locs : List Loc) (ls : Array Slot) (hH : fx_H g s M H locs) (hl : lv_has ls 6 [(0, .ref (fx_a g 8)), (1, .int x1)]) : W p l e rm_X7_findSizes_8 s m args below meth c H locs 0 0 (MQ below (va_Qv Q (fx_Pw g) (fx_A g)) args s 0 0 (fx_A g)) (F0 m 219 ls []) := by
  obtain ⟨hx, hb, hr, hml, hown, hts, hlocks, hsz, hK, hG, hSt⟩ := id C
  unfold wb_X7_findSizes_8_219 at h
  refine lv_aload_n hx hb dX7_findSizes_219 rfl (lv_at hl 0 rfl) ?_
  refine fx_get C hH (fx_w8 g M) rfl in_X7 25 (by decide) u_848 rfl rfl dX7_findSizes_220 ?_
  refine lv_iload_n hx hb dX7_findSizes_223 rfl (lv_at hl 1 rfl) ?_
  refine lv_aload_n hx hb dX7_findSizes_224 rfl (lv_at hl 0 rfl) ?_
  refine lv_iload_n hx hb dX7_findSizes_225 rfl (lv_at hl 1 rfl) ?_
  refine fx_ci hH (fx_runV (As := [.int x1]) (rest := [.int x1, .ref (fx_a g 50)]) C hH (c_X7_available_8 l C.2.2.2.2.2.2.2.2.2.1 x1 M _ h) (fx_cwV 1 hts u_1058 u_1060 us_37 u_8 u_1061 rfl rfl (by decide +kernel) ⟨(Nat.le_of_ble_eq_true rfl), (Nat.le_of_ble_eq_true rfl)⟩) (fx_w8 g M) rfl rfl hl.1 rfl (Nat.le_of_ble_eq_true rfl) dX7_findSizes_226 ⟨(Nat.le_of_ble_eq_true rfl), (Nat.le_of_ble_eq_true rfl)⟩) (fun r2 M1 H locs h hH => ?_)
  obtain ⟨hi3, h⟩ := h
  refine fx_iast (j := x1.toNatClampNeg) (M' := fx_sa M1 50 x1.toNatClampNeg r2) C hH 50 rfl (fx_w50 g M1) (fx_p50 g M1 _) hi3 dX7_findSizes_229 (fun H locs hH => ?_)
  generalize eM4 : fx_sa M1 50 x1.toNatClampNeg r2 = M4 at hH
  replace h := h M4 eM4.symm
  refine lv_aload_n hx hb dX7_findSizes_230 rfl (lv_at hl 0 rfl) ?_
  refine fx_get C hH (fx_w8 g M4) rfl in_X7 22 (by decide) u_845 rfl rfl dX7_findSizes_231 ?_
  refine lv_iload_n hx hb dX7_findSizes_234 rfl (lv_at hl 1 rfl) ?_
  obtain ⟨hi5, h⟩ := h
  refine fx_iald (j := x1.toNatClampNeg) C hH 47 (fx_w47 g M4) rfl hi5 dX7_findSizes_235 ?_
  refine lv_topi (fun v6 ev6 => ?_)
  replace h := h v6 ev6
  refine lv_istore (lv' := [(4, .int v6), (0, .ref (fx_a g 8)), (1, .int x1)]) hx hb dX7_findSizes_236 hl (by decide) rfl (fun ls hl => ?_)
  obtain ⟨n238, h⟩ := h
  exact tl_X7_findSizes_8_238 C Q  n238 x1 v6 M4 h  H locs ls hH (lv_sub hl [1, 2, 0] rfl)
def wb_X7_findSizes_8_185 (Q : fx_Mem → Prop) (x1 : Int32) (x3 : Int32) (M : fx_Mem) : Prop :=
  vp_in x1 20 ∧ ∀ M2 : fx_Mem, M2 = fx_sa M 49 x1.toNatClampNeg 0 → ∃ n192 : Nat, wl_X7_findSizes_8_192 (wb_X7_findSizes_8_219 Q) Q n192 x1 x3 M2
set_option maxHeartbeats 4000000 in
set_option maxRecDepth 100000 in
theorem tb_X7_findSizes_8_185 {g : fx_Geo} {p : Program} {l : Launch} {e : Env} {s : State} {m : MethodId} {args : Array Value} {below : List Frame} {meth : Method} {c : Code} (C : fx_Cx g p s m args meth c RX7 cX7_findSizes 6 none) (Q : fx_Mem → Prop) (x1 : Int32) (x3 : Int32) (M : fx_Mem) (h : wb_X7_findSizes_8_185 Q x1 x3 M) (H : Heap) (locs : List Loc) (ls : Array Slot) (hH : fx_H g s M H locs) (hl : lv_has ls 6 [(0, .ref (fx_a g 8)), (1, .int x1), (3, .int x3)]) : W p l e rm_X7_findSizes_8 s m args below meth c H locs 0 0 (MQ below (va_Qv Q (fx_Pw g) (fx_A g)) args s 0 0 (fx_A g)) (F0 m 185 ls []) := by
  obtain ⟨hx, hb, hr, hml, hown, hts, hlocks, hsz, hK, hG, hSt⟩ := id C
  unfold wb_X7_findSizes_8_185 at h
  refine lv_aload_n hx hb dX7_findSizes_185 rfl (lv_at hl 0 rfl) ?_
  refine fx_get C hH (fx_w8 g M) rfl in_X7 24 (by decide) u_847 rfl rfl dX7_findSizes_186 ?_
  refine lv_iload_n hx hb dX7_findSizes_189 rfl (lv_at hl 1 rfl) ?_
  refine lv_iconst (v := 0) hx hb dX7_findSizes_190 (by decide) ?_
  obtain ⟨hi1, h⟩ := h
  refine fx_iast (j := x1.toNatClampNeg) (M' := fx_sa M 49 x1.toNatClampNeg 0) C hH 49 rfl (fx_w49 g M) (fx_p49 g M _) hi1 dX7_findSizes_191 (fun H locs hH => ?_)
  generalize eM2 : fx_sa M 49 x1.toNatClampNeg 0 = M2 at hH
  replace h := h M2 eM2.symm
  obtain ⟨n192, h⟩ := h
  exact tl_X7_findSizes_8_192 C (wb_X7_findSizes_8_219 Q) Q (tb_X7_findSizes_8_219 C Q ) n192 x1 x3 M2 h  H locs ls hH (lv_sub hl [0, 1, 2] rfl)
def wb_X7_findSizes_8_59 (Q : fx_Mem → Prop) (x1 : Int32) (s0 : Int32) (M : fx_Mem) : Prop :=
  vp_in x1 20 ∧ ∀ v2 : Int32, v2 = M.2.1 47 x1.toNatClampNeg → ∃ n68 : Nat, wl_X7_findSizes_8_68 (wb_X7_findSizes_8_185 Q) Q n68 x1 s0 v2 M
set_option maxHeartbeats 4000000 in
set_option maxRecDepth 100000 in
theorem tb_X7_findSizes_8_59 {g : fx_Geo} {p : Program} {l : Launch} {e : Env} {s : State} {m : MethodId} {args : Array Value} {below : List Frame} {meth : Method} {c : Code} (C : fx_Cx g p s m args meth c RX7 cX7_findSizes 6 none) (Q : fx_Mem → Prop) (x1 : Int32) (s0 : Int32) (M : fx_Mem) (h : wb_X7_findSizes_8_59 Q x1 s0 M) (H : Heap) (locs : List Loc) (ls : Array Slot) (hH : fx_H g s M H locs) (hl : lv_has ls 6 [(0, .ref (fx_a g 8)), (1, .int x1)]) : W p l e rm_X7_findSizes_8 s m args below meth c H locs 0 0 (MQ below (va_Qv Q (fx_Pw g) (fx_A g)) args s 0 0 (fx_A g)) (F0 m 59 ls [.int s0]) := by
  obtain ⟨hx, hb, hr, hml, hown, hts, hlocks, hsz, hK, hG, hSt⟩ := id C
  unfold wb_X7_findSizes_8_59 at h
  refine lv_istore_n (lv' := [(3, .int s0), (0, .ref (fx_a g 8)), (1, .int x1)]) hx hb dX7_findSizes_59 rfl hl (by decide) rfl (fun ls hl => ?_)
  refine lv_aload_n hx hb dX7_findSizes_60 rfl (lv_at hl 1 rfl) ?_
  refine fx_get C hH (fx_w8 g M) rfl in_X7 22 (by decide) u_845 rfl rfl dX7_findSizes_61 ?_
  refine lv_iload_n hx hb dX7_findSizes_64 rfl (lv_at hl 2 rfl) ?_
  obtain ⟨hi1, h⟩ := h
  refine fx_iald (j := x1.toNatClampNeg) C hH 47 (fx_w47 g M) rfl hi1 dX7_findSizes_65 ?_
  refine lv_topi (fun v2 ev2 => ?_)
  replace h := h v2 ev2
  refine lv_istore (lv' := [(4, .int v2), (3, .int s0), (0, .ref (fx_a g 8)), (1, .int x1)]) hx hb dX7_findSizes_66 hl (by decide) rfl (fun ls hl => ?_)
  obtain ⟨n68, h⟩ := h
  exact tl_X7_findSizes_8_68 C (wb_X7_findSizes_8_185 Q) Q (tb_X7_findSizes_8_185 C Q ) n68 x1 s0 v2 M h  H locs ls hH (lv_sub hl [2, 3, 1, 0] rfl)
def wb_X7_findSizes_8_45 (Q : fx_Mem → Prop) (x1 : Int32) (x2 : Int32) (M : fx_Mem) : Prop :=
  wp_X7_available_8 x1 M (fun r2 M1 => ((r2 ≤ x2 → wb_X7_findSizes_8_59 Q x1 0 M1) ∧ (¬ r2 ≤ x2 → wb_X7_findSizes_8_59 Q x1 1 M1)))
set_option maxHeartbeats 4000000 in
set_option maxRecDepth 100000 in
theorem tb_X7_findSizes_8_45 {g : fx_Geo} {p : Program} {l : Launch} {e : Env} {s : State} {m : MethodId} {args : Array Value} {below : List Frame} {meth : Method} {c : Code} (C : fx_Cx g p s m args meth c RX7 cX7_findSizes 6 none) (Q : fx_Mem → Prop) (x1 : Int32) (x2 : Int32) (M : fx_Mem) (h : wb_X7_findSizes_8_45 Q x1 x2 M) (H : Heap) (locs : List Loc) (ls : Array Slot) (hH : fx_H g s M H locs) (hl : lv_has ls 6 [(0, .ref (fx_a g 8)), (1, .int x1), (2, .int x2)]) : W p l e rm_X7_findSizes_8 s m args below meth c H locs 0 0 (MQ below (va_Qv Q (fx_Pw g) (fx_A g)) args s 0 0 (fx_A g)) (F0 m 45 ls []) := by
  obtain ⟨hx, hb, hr, hml, hown, hts, hlocks, hsz, hK, hG, hSt⟩ := id C
  unfold wb_X7_findSizes_8_45 at h
  refine lv_iload_n hx hb dX7_findSizes_45 rfl (lv_at hl 2 rfl) ?_
  refine lv_aload_n hx hb dX7_findSizes_46 rfl (lv_at hl 0 rfl) ?_
  refine lv_iload_n hx hb dX7_findSizes_47 rfl (lv_at hl 1 rfl) ?_
  refine fx_ci hH (fx_runV (As := [.int x1]) (rest := [.int x2]) C hH (c_X7_available_8 l C.2.2.2.2.2.2.2.2.2.1 x1 M _ h) (fx_cwV 1 hts u_1058 u_1060 us_37 u_8 u_1061 rfl rfl (by decide +kernel) ⟨(Nat.le_of_ble_eq_true rfl), (Nat.le_of_ble_eq_true rfl)⟩) (fx_w8 g M) rfl rfl hl.1 rfl (Nat.le_of_ble_eq_true rfl) dX7_findSizes_48 ⟨(Nat.le_of_ble_eq_true rfl), (Nat.le_of_ble_eq_true rfl)⟩) (fun r2 M1 H locs h hH => ?_)
  refine lv_icmp_ge (tgt := 58) hx hb dX7_findSizes_51 (by decide) (fun c3 => ?_) (fun c3 => ?_)
  · replace h := h.1 c3
    refine lv_iconst (v := 0) hx hb dX7_findSizes_58 (by decide) ?_
    exact tb_X7_findSizes_8_59 C Q  x1 0 M1 h  H locs ls hH (lv_sub hl [0, 1] rfl)
  · replace h := h.2 c3
    refine lv_iconst (v := 1) hx hb dX7_findSizes_54 (by decide) ?_
    refine lv_goto (tgt := 59) hx hb dX7_findSizes_55 (by decide) ?_
    exact tb_X7_findSizes_8_59 C Q  x1 1 M1 h  H locs ls hH (lv_sub hl [0, 1] rfl)
def wp_X7_findSizes_8 (a1 : Int32) (M : fx_Mem) (Q : fx_Mem → Prop) : Prop :=
  vp_in a1 20 ∧ ∀ v2 : Int32, v2 = M.2.1 47 a1.toNatClampNeg → ∃ n9 : Nat, wl_X7_findSizes_8_9 (wb_X7_findSizes_8_45 Q) Q n9 a1 0 v2 M
set_option maxHeartbeats 4000000 in
set_option maxRecDepth 100000 in
theorem c_X7_findSizes_8 (l : Launch) {g : fx_Geo} (hG : fx_Gd g) (a1 : Int32) (M : fx_Mem) (Q : fx_Mem → Prop) (h : wp_X7_findSizes_8 a1 M Q) : Met l yX7_findSizes (.code yX7_findSizes cX7_findSizes 6 none :: fx_U) rm_X7_findSizes_8 (va_Pc [.ref (fx_a g 8), .int a1] (fx_At g M)) (va_Qv Q (fx_Pw g) (fx_A g)) 0 0 (fx_A g) := by
  refine Met.ofW (cc := cX7_findSizes) (maxL := 6) (ret := none) (by decide +kernel) rfl ?_
  intro p e s m args below meth c s₁ B hml hv
  obtain ⟨rfl, hv⟩ := hv
  have hts := atoms_spec (ws := .code yX7_findSizes cX7_findSizes 6 none :: fx_U) B.pre
  obtain ⟨C, hH⟩ := fx_body (own := RX7) B hml rfl (fun w hw => hts w (List.mem_cons_of_mem _ hw)) hG hv
  replace hts := fun w hw => hts w (List.mem_cons_of_mem _ hw)
  obtain ⟨hx, hb, hr, -, hown, -, hlocks, hsz, hK, -, hSt⟩ := id C
  have hl := lv_entry ([.ref (fx_a g 8), .int a1]) (n := 6) (Nat.le_of_ble_eq_true rfl)
  rw [lg_entry_eq]
  generalize (lg_sl ([.ref (fx_a g 8), .int a1]) ++ List.replicate (6 - (lg_sl ([.ref (fx_a g 8), .int a1])).length) Slot.unset).toArray = ls at hl ⊢
  have hl : lv_has ls 6 [(0, .ref (fx_a g 8)), (1, .int a1)] := hl
  obtain ⟨H, eH⟩ : ∃ H : Heap, H = s.heap := ⟨_, rfl⟩
  obtain ⟨locs, elocs⟩ : ∃ q : List Loc, q = [] := ⟨_, rfl⟩
  rw [← eH, ← elocs] at hH
  show W p l e rm_X7_findSizes_8 s m _ below meth c s.heap [] 0 0 _ _
  rw [← eH, ← elocs]
  unfold wp_X7_findSizes_8 at h
  refine lv_iconst (v := 0) hx hb dX7_findSizes_0 (by decide) ?_
  refine lv_istore_n (lv' := [(2, .int 0), (0, .ref (fx_a g 8)), (1, .int a1)]) hx hb dX7_findSizes_1 rfl hl (by decide) rfl (fun ls hl => ?_)
  refine lv_aload_n hx hb dX7_findSizes_2 rfl (lv_at hl 1 rfl) ?_
  refine fx_get C hH (fx_w8 g M) rfl in_X7 22 (by decide) u_845 rfl rfl dX7_findSizes_3 ?_
  refine lv_iload_n hx hb dX7_findSizes_6 rfl (lv_at hl 2 rfl) ?_
  obtain ⟨hi1, h⟩ := h
  refine fx_iald (j := a1.toNatClampNeg) C hH 47 (fx_w47 g M) rfl hi1 dX7_findSizes_7 ?_
  refine lv_topi (fun v2 ev2 => ?_)
  replace h := h v2 ev2
  refine lv_istore_n (lv' := [(3, .int v2), (2, .int 0), (0, .ref (fx_a g 8)), (1, .int a1)]) hx hb dX7_findSizes_8 rfl hl (by decide) rfl (fun ls hl => ?_)
  obtain ⟨n9, h⟩ := h
  exact tl_X7_findSizes_8_9 C (wb_X7_findSizes_8_45 Q) Q (tb_X7_findSizes_8_45 C Q ) n9 a1 0 v2 M h  H locs ls hH (lv_sub hl [2, 3, 1, 0] rfl)
/-! FlexLayoutModel.alignmentOf(I)I (8,) -/
def rm_X7_alignmentOf_8 : Room := { frames := 1, cells := 0, slots := 0, locals := 22 }
def wp_X7_alignmentOf_8 (a1 : Int32) (M : fx_Mem) (Q : Int32 → fx_Mem → Prop) : Prop :=
  wp_X7_of_8 a1 7 M (fun r2 M1 => ((0 ≤ r2 → wp_X7_of_8 a1 7 M1 (fun r5 M4 => Q r5 M4)) ∧ (¬ 0 ≤ r2 → Q (M1.2.1 30 7) M1)))
set_option maxHeartbeats 4000000 in
set_option maxRecDepth 100000 in
theorem c_X7_alignmentOf_8 (l : Launch) {g : fx_Geo} (hG : fx_Gd g) (a1 : Int32) (M : fx_Mem) (Q : Int32 → fx_Mem → Prop) (h : wp_X7_alignmentOf_8 a1 M Q) : Met l yX7_alignmentOf (.code yX7_alignmentOf cX7_alignmentOf 2 (some .int) :: fx_U) rm_X7_alignmentOf_8 (va_Pc [.ref (fx_a g 8), .int a1] (fx_At g M)) (va_Qi Q (fx_Pw g) (fx_A g)) 0 0 (fx_A g) := by
  refine Met.ofW (cc := cX7_alignmentOf) (maxL := 2) (ret := (some .int)) (by decide +kernel) rfl ?_
  intro p e s m args below meth c s₁ B hml hv
  obtain ⟨rfl, hv⟩ := hv
  have hts := atoms_spec (ws := .code yX7_alignmentOf cX7_alignmentOf 2 (some .int) :: fx_U) B.pre
  obtain ⟨C, hH⟩ := fx_body (own := RX7) B hml rfl (fun w hw => hts w (List.mem_cons_of_mem _ hw)) hG hv
  replace hts := fun w hw => hts w (List.mem_cons_of_mem _ hw)
  obtain ⟨hx, hb, hr, -, hown, -, hlocks, hsz, hK, -, hSt⟩ := id C
  have hl := lv_entry ([.ref (fx_a g 8), .int a1]) (n := 2) (Nat.le_of_ble_eq_true rfl)
  rw [lg_entry_eq]
  generalize (lg_sl ([.ref (fx_a g 8), .int a1]) ++ List.replicate (2 - (lg_sl ([.ref (fx_a g 8), .int a1])).length) Slot.unset).toArray = ls at hl ⊢
  have hl : lv_has ls 2 [(0, .ref (fx_a g 8)), (1, .int a1)] := hl
  obtain ⟨H, eH⟩ : ∃ H : Heap, H = s.heap := ⟨_, rfl⟩
  obtain ⟨locs, elocs⟩ : ∃ q : List Loc, q = [] := ⟨_, rfl⟩
  rw [← eH, ← elocs] at hH
  show W p l e rm_X7_alignmentOf_8 s m _ below meth c s.heap [] 0 0 _ _
  rw [← eH, ← elocs]
  unfold wp_X7_alignmentOf_8 at h
  refine lv_aload_n hx hb dX7_alignmentOf_0 rfl (lv_at hl 0 rfl) ?_
  refine lv_iload_n hx hb dX7_alignmentOf_1 rfl (lv_at hl 1 rfl) ?_
  refine lv_bipush (v := 7) hx hb dX7_alignmentOf_2 (by decide) ?_
  refine fx_ci hH (fx_runV (As := [.int a1, .int 7]) (rest := []) C hH (c_X7_of_8 l C.2.2.2.2.2.2.2.2.2.1 a1 7 M _ h) (fx_cwV 2 hts u_997 u_999 us_27 u_8 u_1000 rfl rfl (by decide +kernel) ⟨(Nat.le_of_ble_eq_true rfl), (Nat.le_of_ble_eq_true rfl)⟩) (fx_w8 g M) rfl rfl hl.1 rfl (Nat.le_of_ble_eq_true rfl) dX7_alignmentOf_4 ⟨(Nat.le_of_ble_eq_true rfl), (Nat.le_of_ble_eq_true rfl)⟩) (fun r2 M1 H locs h hH => ?_)
  refine lv_if_ge (tgt := 20) hx hb dX7_alignmentOf_7 (by decide) (fun c3 => ?_) (fun c3 => ?_)
  · replace h := h.1 c3
    refine lv_aload_n hx hb dX7_alignmentOf_20 rfl (lv_at hl 0 rfl) ?_
    refine lv_iload_n hx hb dX7_alignmentOf_21 rfl (lv_at hl 1 rfl) ?_
    refine lv_bipush (v := 7) hx hb dX7_alignmentOf_22 (by decide) ?_
    refine fx_ci hH (fx_runV (As := [.int a1, .int 7]) (rest := []) C hH (c_X7_of_8 l C.2.2.2.2.2.2.2.2.2.1 a1 7 M1 _ h) (fx_cwV 2 hts u_997 u_999 us_27 u_8 u_1000 rfl rfl (by decide +kernel) ⟨(Nat.le_of_ble_eq_true rfl), (Nat.le_of_ble_eq_true rfl)⟩) (fx_w8 g M1) rfl rfl hl.1 rfl (Nat.le_of_ble_eq_true rfl) dX7_alignmentOf_24 ⟨(Nat.le_of_ble_eq_true rfl), (Nat.le_of_ble_eq_true rfl)⟩) (fun r5 M4 H locs h hH => ?_)
    exact fx_iret C hH h dX7_alignmentOf_27
  · replace h := h.2 c3
    refine lv_aload_n hx hb dX7_alignmentOf_10 rfl (lv_at hl 0 rfl) ?_
    refine fx_get C hH (fx_w8 g M1) rfl in_X7 1 (by decide) u_824 rfl rfl dX7_alignmentOf_11 ?_
    refine lv_bipush (v := 7) hx hb dX7_alignmentOf_14 (by decide) ?_
    refine fx_iald (j := 7) C hH 30 (fx_w30 g M1) (by decide) (by unfold vp_in; decide) dX7_alignmentOf_16 ?_
    refine lv_goto (tgt := 27) hx hb dX7_alignmentOf_17 (by decide) ?_
    exact fx_iret C hH h dX7_alignmentOf_27
/-! FlexLayoutModel.findNatural(I)V (8,) -/
def rm_X7_findNatural_8 : Room := { frames := 2, cells := 0, slots := 0, locals := 43 }
def wb_X7_findNatural_8_165 (k22 : Int32 → Int32 → Int32 → Int32 → Int32 → fx_Mem → Prop) (k171 : Int32 → Int32 → Int32 → fx_Mem → Prop) (Q : fx_Mem → Prop) (x1 : Int32) (x2 : Int32) (x3 : Int32) (x4 : Int32) (x5 : Int32) (M : fx_Mem) : Prop :=
  ∀ v1 : Int32, v1 = x5 + 1 → k22 x1 x2 x3 x4 v1 M
set_option maxHeartbeats 4000000 in
set_option maxRecDepth 100000 in
theorem tb_X7_findNatural_8_165 {g : fx_Geo} {p : Program} {l : Launch} {e : Env} {s : State} {m : MethodId} {args : Array Value} {below : List Frame} {meth : Method} {c : Code} (C : fx_Cx g p s m args meth c RX7 cX7_findNatural 8 none) (k22 : Int32 → Int32 → Int32 → Int32 → Int32 → fx_Mem → Prop) (k171 : Int32 → Int32 → Int32 → fx_Mem → Prop) (Q : fx_Mem → Prop) (hk22 : ∀ (x1 : Int32) (x2 : Int32) (x3 : Int32) (x4 : Int32) (x5 : Int32) (M : fx_Mem), k22 x1 x2 x3 x4 x5 M → ∀ (H : Heap) (locs : List Loc) (ls : Array Slot), fx_H g s M H locs → lv_has ls 8 [(0, .ref (fx_a g 8)), (1, .int x1), (2, .int x2), (3, .int x3), (4, .int x4), (5, .int x5)] → W p l e rm_X7_findNatural_8 s m args below meth c H locs 0 0 (MQ below (va_Qv Q (fx_Pw g) (fx_A g)) args s 0 0 (fx_A g)) (F0 m 22 ls [])) (hk171 : ∀ (x1 : Int32) (x3 : Int32) (x4 : Int32) (M : fx_Mem), k171 x1 x3 x4 M → ∀ (H : Heap) (locs : List Loc) (ls : Array Slot), fx_H g s M H locs → lv_has ls 8 [(0, .ref (fx_a g 8)), (1, .int x1), (3, .int x3), (4, .int x4)] → W p l e rm_X7_findNatural_8 s m args below meth c H locs 0 0 (MQ below (va_Qv Q (fx_Pw g) (fx_A g)) args s 0 0 (fx_A g)) (F0 m 171 ls [])) (x1 : Int32) (x2 : Int32) (x3 : Int32) (x4 : Int32) (x5 : Int32) (M : fx_Mem) (h : wb_X7_findNatural_8_165 k22 k171 Q x1 x2 x3 x4 x5 M) (H : Heap) (locs : List Loc) (ls : Array Slot) (hH : fx_H g s M H locs) (hl : lv_has ls 8 [(0, .ref (fx_a g 8)), (1, .int x1), (2, .int x2), (3, .int x3), (4, .int x4), (5, .int x5)]) : W p l e rm_X7_findNatural_8 s m args below meth c H locs 0 0 (MQ below (va_Qv Q (fx_Pw g) (fx_A g)) args s 0 0 (fx_A g)) (F0 m 165 ls []) := by
  obtain ⟨hx, hb, hr, hml, hown, hts, hlocks, hsz, hK, hG, hSt⟩ := id C
  unfold wb_X7_findNatural_8_165 at h
  obtain ⟨v1, ev1⟩ : ∃ z : Int32, z = x5 + 1 := ⟨_, rfl⟩
  refine lv_iinc (v := v1) (lv' := [(5, .int v1), (0, .ref (fx_a g 8)), (1, .int x1), (2, .int x2), (3, .int x3), (4, .int x4)]) hx hb dX7_findNatural_165 hl (k := 5) rfl (by rw [ev1]; rfl) (by decide) rfl (fun ls hl => ?_)
  replace h := h v1 ev1
  refine lv_goto (tgt := 22) hx hb dX7_findNatural_168 (by decide) ?_
  exact hk22 x1 x2 x3 x4 v1 M h  H locs ls hH (lv_sub hl [1, 2, 3, 4, 5, 0] rfl)
def wb_X7_findNatural_8_83 (k22 : Int32 → Int32 → Int32 → Int32 → Int32 → fx_Mem → Prop) (k171 : Int32 → Int32 → Int32 → fx_Mem → Prop) (Q : fx_Mem → Prop) (x1 : Int32) (x2 : Int32) (x3 : Int32) (x5 : Int32) (s0 : Int32) (M : fx_Mem) : Prop :=
  wb_X7_findNatural_8_165 k22 k171 Q x1 x2 x3 s0 x5 M
set_option maxHeartbeats 4000000 in
set_option maxRecDepth 100000 in
theorem tb_X7_findNatural_8_83 {g : fx_Geo} {p : Program} {l : Launch} {e : Env} {s : State} {m : MethodId} {args : Array Value} {below : List Frame} {meth : Method} {c : Code} (C : fx_Cx g p s m args meth c RX7 cX7_findNatural 8 none) (k22 : Int32 → Int32 → Int32 → Int32 → Int32 → fx_Mem → Prop) (k171 : Int32 → Int32 → Int32 → fx_Mem → Prop) (Q : fx_Mem → Prop) (hk22 : ∀ (x1 : Int32) (x2 : Int32) (x3 : Int32) (x4 : Int32) (x5 : Int32) (M : fx_Mem), k22 x1 x2 x3 x4 x5 M → ∀ (H : Heap) (locs : List Loc) (ls : Array Slot), fx_H g s M H locs → lv_has ls 8 [(0, .ref (fx_a g 8)), (1, .int x1), (2, .int x2), (3, .int x3), (4, .int x4), (5, .int x5)] → W p l e rm_X7_findNatural_8 s m args below meth c H locs 0 0 (MQ below (va_Qv Q (fx_Pw g) (fx_A g)) args s 0 0 (fx_A g)) (F0 m 22 ls [])) (hk171 : ∀ (x1 : Int32) (x3 : Int32) (x4 : Int32) (M : fx_Mem), k171 x1 x3 x4 M → ∀ (H : Heap) (locs : List Loc) (ls : Array Slot), fx_H g s M H locs → lv_has ls 8 [(0, .ref (fx_a g 8)), (1, .int x1), (3, .int x3), (4, .int x4)] → W p l e rm_X7_findNatural_8 s m args below meth c H locs 0 0 (MQ below (va_Qv Q (fx_Pw g) (fx_A g)) args s 0 0 (fx_A g)) (F0 m 171 ls [])) (x1 : Int32) (x2 : Int32) (x3 : Int32) (x5 : Int32) (s0 : Int32) (M : fx_Mem) (h : wb_X7_findNatural_8_83 k22 k171 Q x1 x2 x3 x5 s0 M) (H : Heap) (locs : List Loc) (ls : Array Slot) (hH : fx_H g s M H locs) (hl : lv_has ls 8 [(0, .ref (fx_a g 8)), (1, .int x1), (2, .int x2), (3, .int x3), (5, .int x5)]) : W p l e rm_X7_findNatural_8 s m args below meth c H locs 0 0 (MQ below (va_Qv Q (fx_Pw g) (fx_A g)) args s 0 0 (fx_A g)) (F0 m 83 ls [.int s0]) := by
  obtain ⟨hx, hb, hr, hml, hown, hts, hlocks, hsz, hK, hG, hSt⟩ := id C
  unfold wb_X7_findNatural_8_83 at h
  refine lv_istore (lv' := [(4, .int s0), (0, .ref (fx_a g 8)), (1, .int x1), (2, .int x2), (3, .int x3), (5, .int x5)]) hx hb dX7_findNatural_83 hl (by decide) rfl (fun ls hl => ?_)
  refine lv_goto (tgt := 165) hx hb dX7_findNatural_85 (by decide) ?_
  exact tb_X7_findNatural_8_165 C k22 k171 Q hk22 hk171 x1 x2 x3 s0 x5 M h  H locs ls hH (lv_sub hl [1, 2, 3, 4, 0, 5] rfl)
def wb_X7_findNatural_8_162 (k22 : Int32 → Int32 → Int32 → Int32 → Int32 → fx_Mem → Prop) (k171 : Int32 → Int32 → Int32 → fx_Mem → Prop) (Q : fx_Mem → Prop) (x1 : Int32) (x4 : Int32) (x5 : Int32) (s0 : Int32) (M : fx_Mem) : Prop :=
  wb_X7_findNatural_8_165 k22 k171 Q x1 1 s0 x4 x5 M
set_option maxHeartbeats 4000000 in
set_option maxRecDepth 100000 in
theorem tb_X7_findNatural_8_162 {g : fx_Geo} {p : Program} {l : Launch} {e : Env} {s : State} {m : MethodId} {args : Array Value} {below : List Frame} {meth : Method} {c : Code} (C : fx_Cx g p s m args meth c RX7 cX7_findNatural 8 none) (k22 : Int32 → Int32 → Int32 → Int32 → Int32 → fx_Mem → Prop) (k171 : Int32 → Int32 → Int32 → fx_Mem → Prop) (Q : fx_Mem → Prop) (hk22 : ∀ (x1 : Int32) (x2 : Int32) (x3 : Int32) (x4 : Int32) (x5 : Int32) (M : fx_Mem), k22 x1 x2 x3 x4 x5 M → ∀ (H : Heap) (locs : List Loc) (ls : Array Slot), fx_H g s M H locs → lv_has ls 8 [(0, .ref (fx_a g 8)), (1, .int x1), (2, .int x2), (3, .int x3), (4, .int x4), (5, .int x5)] → W p l e rm_X7_findNatural_8 s m args below meth c H locs 0 0 (MQ below (va_Qv Q (fx_Pw g) (fx_A g)) args s 0 0 (fx_A g)) (F0 m 22 ls [])) (hk171 : ∀ (x1 : Int32) (x3 : Int32) (x4 : Int32) (M : fx_Mem), k171 x1 x3 x4 M → ∀ (H : Heap) (locs : List Loc) (ls : Array Slot), fx_H g s M H locs → lv_has ls 8 [(0, .ref (fx_a g 8)), (1, .int x1), (3, .int x3), (4, .int x4)] → W p l e rm_X7_findNatural_8 s m args below meth c H locs 0 0 (MQ below (va_Qv Q (fx_Pw g) (fx_A g)) args s 0 0 (fx_A g)) (F0 m 171 ls [])) (x1 : Int32) (x4 : Int32) (x5 : Int32) (s0 : Int32) (M : fx_Mem) (h : wb_X7_findNatural_8_162 k22 k171 Q x1 x4 x5 s0 M) (H : Heap) (locs : List Loc) (ls : Array Slot) (hH : fx_H g s M H locs) (hl : lv_has ls 8 [(0, .ref (fx_a g 8)), (1, .int x1), (4, .int x4), (5, .int x5)]) : W p l e rm_X7_findNatural_8 s m args below meth c H locs 0 0 (MQ below (va_Qv Q (fx_Pw g) (fx_A g)) args s 0 0 (fx_A g)) (F0 m 162 ls [.int s0]) := by
  obtain ⟨hx, hb, hr, hml, hown, hts, hlocks, hsz, hK, hG, hSt⟩ := id C
  unfold wb_X7_findNatural_8_162 at h
  refine lv_istore_n (lv' := [(3, .int s0), (0, .ref (fx_a g 8)), (1, .int x1), (4, .int x4), (5, .int x5)]) hx hb dX7_findNatural_162 rfl hl (by decide) rfl (fun ls hl => ?_)
  refine lv_iconst (v := 1) hx hb dX7_findNatural_163 (by decide) ?_
  refine lv_istore_n (lv' := [(2, .int 1), (3, .int s0), (0, .ref (fx_a g 8)), (1, .int x1), (4, .int x4), (5, .int x5)]) hx hb dX7_findNatural_164 rfl hl (by decide) rfl (fun ls hl => ?_)
  exact tb_X7_findNatural_8_165 C k22 k171 Q hk22 hk171 x1 1 s0 x4 x5 M h  H locs ls hH (lv_sub hl [2, 3, 0, 1, 4, 5] rfl)
def wb_X7_findNatural_8_156 (k22 : Int32 → Int32 → Int32 → Int32 → Int32 → fx_Mem → Prop) (k171 : Int32 → Int32 → Int32 → fx_Mem → Prop) (Q : fx_Mem → Prop) (x1 : Int32) (x4 : Int32) (x5 : Int32) (x7 : Int32) (M : fx_Mem) : Prop :=
  wb_X7_findNatural_8_162 k22 k171 Q x1 x4 x5 x7 M
set_option maxHeartbeats 4000000 in
set_option maxRecDepth 100000 in
theorem tb_X7_findNatural_8_156 {g : fx_Geo} {p : Program} {l : Launch} {e : Env} {s : State} {m : MethodId} {args : Array Value} {below : List Frame} {meth : Method} {c : Code} (C : fx_Cx g p s m args meth c RX7 cX7_findNatural 8 none) (k22 : Int32 → Int32 → Int32 → Int32 → Int32 → fx_Mem → Prop) (k171 : Int32 → Int32 → Int32 → fx_Mem → Prop) (Q : fx_Mem → Prop) (hk22 : ∀ (x1 : Int32) (x2 : Int32) (x3 : Int32) (x4 : Int32) (x5 : Int32) (M : fx_Mem), k22 x1 x2 x3 x4 x5 M → ∀ (H : Heap) (locs : List Loc) (ls : Array Slot), fx_H g s M H locs → lv_has ls 8 [(0, .ref (fx_a g 8)), (1, .int x1), (2, .int x2), (3, .int x3), (4, .int x4), (5, .int x5)] → W p l e rm_X7_findNatural_8 s m args below meth c H locs 0 0 (MQ below (va_Qv Q (fx_Pw g) (fx_A g)) args s 0 0 (fx_A g)) (F0 m 22 ls [])) (hk171 : ∀ (x1 : Int32) (x3 : Int32) (x4 : Int32) (M : fx_Mem), k171 x1 x3 x4 M → ∀ (H : Heap) (locs : List Loc) (ls : Array Slot), fx_H g s M H locs → lv_has ls 8 [(0, .ref (fx_a g 8)), (1, .int x1), (3, .int x3), (4, .int x4)] → W p l e rm_X7_findNatural_8 s m args below meth c H locs 0 0 (MQ below (va_Qv Q (fx_Pw g) (fx_A g)) args s 0 0 (fx_A g)) (F0 m 171 ls [])) (x1 : Int32) (x4 : Int32) (x5 : Int32) (x7 : Int32) (M : fx_Mem) (h : wb_X7_findNatural_8_156 k22 k171 Q x1 x4 x5 x7 M) (H : Heap) (locs : List Loc) (ls : Array Slot) (hH : fx_H g s M H locs) (hl : lv_has ls 8 [(0, .ref (fx_a g 8)), (1, .int x1), (4, .int x4), (5, .int x5), (7, .int x7)]) : W p l e rm_X7_findNatural_8 s m args below meth c H locs 0 0 (MQ below (va_Qv Q (fx_Pw g) (fx_A g)) args s 0 0 (fx_A g)) (F0 m 156 ls []) := by
  obtain ⟨hx, hb, hr, hml, hown, hts, hlocks, hsz, hK, hG, hSt⟩ := id C
  unfold wb_X7_findNatural_8_156 at h
  refine lv_iload hx hb dX7_findNatural_156 (lv_at hl 4 rfl) ?_
  refine lv_goto (tgt := 162) hx hb dX7_findNatural_158 (by decide) ?_
  exact tb_X7_findNatural_8_162 C k22 k171 Q hk22 hk171 x1 x4 x5 x7 M h  H locs ls hH (lv_sub hl [0, 1, 2, 3] rfl)
def wb_X7_findNatural_8_145 (k22 : Int32 → Int32 → Int32 → Int32 → Int32 → fx_Mem → Prop) (k171 : Int32 → Int32 → Int32 → fx_Mem → Prop) (Q : fx_Mem → Prop) (x1 : Int32) (x2 : Int32) (x3 : Int32) (x4 : Int32) (x5 : Int32) (x7 : Int32) (s0 : Int32) (s1 : Int32) (M : fx_Mem) : Prop :=
  vp_in s1 20 ∧ ∀ M2 : fx_Mem, M2 = fx_sa M 52 s1.toNatClampNeg s0 → ((x2 = 0 → wb_X7_findNatural_8_156 k22 k171 Q x1 x4 x5 x7 M2) ∧ (¬ x2 = 0 → ((x7 ≤ x3 → wb_X7_findNatural_8_162 k22 k171 Q x1 x4 x5 x3 M2) ∧ (¬ x7 ≤ x3 → wb_X7_findNatural_8_156 k22 k171 Q x1 x4 x5 x7 M2))))
set_option maxHeartbeats 4000000 in
set_option maxRecDepth 100000 in
theorem tb_X7_findNatural_8_145 {g : fx_Geo} {p : Program} {l : Launch} {e : Env} {s : State} {m : MethodId} {args : Array Value} {below : List Frame} {meth : Method} {c : Code} (C : fx_Cx g p s m args meth c RX7 cX7_findNatural 8 none) (k22 : Int32 → Int32 → Int32 → Int32 → Int32 → fx_Mem → Prop) (k171 : Int32 → Int32 → Int32 → fx_Mem → Prop) (Q : fx_Mem → Prop) (hk22 : ∀ (x1 : Int32) (x2 : Int32) (x3 : Int32) (x4 : Int32) (x5 : Int32) (M : fx_Mem), k22 x1 x2 x3 x4 x5 M → ∀ (H : Heap) (locs : List Loc) (ls : Array Slot), fx_H g s M H locs → lv_has ls 8 [(0, .ref (fx_a g 8)), (1, .int x1), (2, .int x2), (3, .int x3), (4, .int x4), (5, .int x5)] → W p l e rm_X7_findNatural_8 s m args below meth c H locs 0 0 (MQ below (va_Qv Q (fx_Pw g) (fx_A g)) args s 0 0 (fx_A g)) (F0 m 22 ls [])) (hk171 : ∀ (x1 : Int32) (x3 : Int32) (x4 : Int32) (M : fx_Mem), k171 x1 x3 x4 M → ∀ (H : Heap) (locs : List Loc) (ls : Array Slot), fx_H g s M H locs → lv_has ls 8 [(0, .ref (fx_a g 8)), (1, .int x1), (3, .int x3), (4, .int x4)] → W p l e rm_X7_findNatural_8 s m args below meth c H locs 0 0 (MQ below (va_Qv Q (fx_Pw g) (fx_A g)) args s 0 0 (fx_A g)) (F0 m 171 ls [])) (x1 : Int32) (x2 : Int32) (x3 : Int32) (x4 : Int32) (x5 : Int32) (x7 : Int32) (s0 : Int32) (s1 : Int32) (M : fx_Mem) (h : wb_X7_findNatural_8_145 k22 k171 Q x1 x2 x3 x4 x5 x7 s0 s1 M) (H : Heap) (locs : List Loc) (ls : Array Slot) (hH : fx_H g s M H locs) (hl : lv_has ls 8 [(0, .ref (fx_a g 8)), (1, .int x1), (2, .int x2), (3, .int x3), (4, .int x4), (5, .int x5), (7, .int x7)]) : W p l e rm_X7_findNatural_8 s m args below meth c H locs 0 0 (MQ below (va_Qv Q (fx_Pw g) (fx_A g)) args s 0 0 (fx_A g)) (F0 m 145 ls [.int s0, .int s1, .ref (fx_a g 52)]) := by
  obtain ⟨hx, hb, hr, hml, hown, hts, hlocks, hsz, hK, hG, hSt⟩ := id C
  unfold wb_X7_findNatural_8_145 at h
  obtain ⟨hi1, h⟩ := h
  refine fx_iast (j := s1.toNatClampNeg) (M' := fx_sa M 52 s1.toNatClampNeg s0) C hH 52 rfl (fx_w52 g M) (fx_p52 g M _) hi1 dX7_findNatural_145 (fun H locs hH => ?_)
  generalize eM2 : fx_sa M 52 s1.toNatClampNeg s0 = M2 at hH
  replace h := h M2 eM2.symm
  refine lv_iload_n hx hb dX7_findNatural_146 rfl (lv_at hl 2 rfl) ?_
  refine lv_if_eq (tgt := 156) hx hb dX7_findNatural_147 (by decide) (fun c3 => ?_) (fun c3 => ?_)
  · replace h := h.1 c3
    exact tb_X7_findNatural_8_156 C k22 k171 Q hk22 hk171 x1 x4 x5 x7 M2 h  H locs ls hH (lv_sub hl [0, 1, 4, 5, 6] rfl)
  · replace h := h.2 c3
    refine lv_iload hx hb dX7_findNatural_150 (lv_at hl 6 rfl) ?_
    refine lv_iload_n hx hb dX7_findNatural_152 rfl (lv_at hl 3 rfl) ?_
    refine lv_icmp_le (tgt := 161) hx hb dX7_findNatural_153 (by decide) (fun c4 => ?_) (fun c4 => ?_)
    · replace h := h.1 c4
      refine lv_iload_n hx hb dX7_findNatural_161 rfl (lv_at hl 3 rfl) ?_
      exact tb_X7_findNatural_8_162 C k22 k171 Q hk22 hk171 x1 x4 x5 x3 M2 h  H locs ls hH (lv_sub hl [0, 1, 4, 5] rfl)
    · replace h := h.2 c4
      exact tb_X7_findNatural_8_156 C k22 k171 Q hk22 hk171 x1 x4 x5 x7 M2 h  H locs ls hH (lv_sub hl [0, 1, 4, 5, 6] rfl)
def wb_X7_findNatural_8_22 (k22 : Int32 → Int32 → Int32 → Int32 → Int32 → fx_Mem → Prop) (k171 : Int32 → Int32 → Int32 → fx_Mem → Prop) (Q : fx_Mem → Prop) (x1 : Int32) (x2 : Int32) (x3 : Int32) (x4 : Int32) (x5 : Int32) (M : fx_Mem) : Prop :=
  vp_in x1 20 ∧ vp_in x1 20 ∧ (((M.2.1 47 x1.toNatClampNeg) + (M.2.1 48 x1.toNatClampNeg) ≤ x5 → k171 x1 x3 x4 M) ∧ (¬ (M.2.1 47 x1.toNatClampNeg) + (M.2.1 48 x1.toNatClampNeg) ≤ x5 → vp_in x5 20 ∧ ∀ v5 : Int32, v5 = M.2.1 39 x5.toNatClampNeg → wp_X7_alignmentOf_8 v5 M (fun r7 M6 => ((r7 = 4 → wp_X7_of_8 v5 5 M6 (fun r10 M9 => wp_X7_of_8 v5 6 M9 (fun r12 M11 => ∀ v13 : Int32, v13 = r10 - r12 → wp_X7_of_8 v5 6 M11 (fun r15 M14 => vp_in x1 20 ∧ ((r15 ≤ M14.2.1 52 x1.toNatClampNeg → vp_in x1 20 ∧ wb_X7_findNatural_8_145 k22 k171 Q x1 x2 x3 x4 x5 v13 (M14.2.1 52 x1.toNatClampNeg) x1 M14) ∧ (¬ r15 ≤ M14.2.1 52 x1.toNatClampNeg → wp_X7_of_8 v5 6 M14 (fun r20 M19 => wb_X7_findNatural_8_145 k22 k171 Q x1 x2 x3 x4 x5 v13 r20 x1 M19))))))) ∧ (¬ r7 = 4 → wp_X7_of_8 v5 5 M6 (fun r22 M21 => ((r22 ≤ x4 → wb_X7_findNatural_8_83 k22 k171 Q x1 x2 x3 x5 x4 M21) ∧ (¬ r22 ≤ x4 → wp_X7_of_8 v5 5 M21 (fun r25 M24 => wb_X7_findNatural_8_83 k22 k171 Q x1 x2 x3 x5 r25 M24)))))))))
set_option maxHeartbeats 4000000 in
set_option maxRecDepth 100000 in
theorem tb_X7_findNatural_8_22 {g : fx_Geo} {p : Program} {l : Launch} {e : Env} {s : State} {m : MethodId} {args : Array Value} {below : List Frame} {meth : Method} {c : Code} (C : fx_Cx g p s m args meth c RX7 cX7_findNatural 8 none) (k22 : Int32 → Int32 → Int32 → Int32 → Int32 → fx_Mem → Prop) (k171 : Int32 → Int32 → Int32 → fx_Mem → Prop) (Q : fx_Mem → Prop) (hk22 : ∀ (x1 : Int32) (x2 : Int32) (x3 : Int32) (x4 : Int32) (x5 : Int32) (M : fx_Mem), k22 x1 x2 x3 x4 x5 M → ∀ (H : Heap) (locs : List Loc) (ls : Array Slot), fx_H g s M H locs → lv_has ls 8 [(0, .ref (fx_a g 8)), (1, .int x1), (2, .int x2), (3, .int x3), (4, .int x4), (5, .int x5)] → W p l e rm_X7_findNatural_8 s m args below meth c H locs 0 0 (MQ below (va_Qv Q (fx_Pw g) (fx_A g)) args s 0 0 (fx_A g)) (F0 m 22 ls [])) (hk171 : ∀ (x1 : Int32) (x3 : Int32) (x4 : Int32) (M : fx_Mem), k171 x1 x3 x4 M → ∀ (H : Heap) (locs : List Loc) (ls : Array Slot), fx_H g s M H locs → lv_has ls 8 [(0, .ref (fx_a g 8)), (1, .int x1), (3, .int x3), (4, .int x4)] → W p l e rm_X7_findNatural_8 s m args below meth c H locs 0 0 (MQ below (va_Qv Q (fx_Pw g) (fx_A g)) args s 0 0 (fx_A g)) (F0 m 171 ls [])) (x1 : Int32) (x2 : Int32) (x3 : Int32) (x4 : Int32) (x5 : Int32) (M : fx_Mem) (h : wb_X7_findNatural_8_22 k22 k171 Q x1 x2 x3 x4 x5 M) (H : Heap) (locs : List Loc) (ls : Array Slot) (hH : fx_H g s M H locs) (hl : lv_has ls 8 [(0, .ref (fx_a g 8)), (1, .int x1), (2, .int x2), (3, .int x3), (4, .int x4), (5, .int x5)]) : W p l e rm_X7_findNatural_8 s m args below meth c H locs 0 0 (MQ below (va_Qv Q (fx_Pw g) (fx_A g)) args s 0 0 (fx_A g)) (F0 m 22 ls []) := by
  obtain ⟨hx, hb, hr, hml, hown, hts, hlocks, hsz, hK, hG, hSt⟩ := id C
  unfold wb_X7_findNatural_8_22 at h
  refine lv_iload hx hb dX7_findNatural_22 (lv_at hl 5 rfl) ?_
  refine lv_aload_n hx hb dX7_findNatural_24 rfl (lv_at hl 0 rfl) ?_
  refine fx_get C hH (fx_w8 g M) rfl in_X7 22 (by decide) u_845 rfl rfl dX7_findNatural_25 ?_
  refine lv_iload_n hx hb dX7_findNatural_28 rfl (lv_at hl 1 rfl) ?_
  obtain ⟨hi1, h⟩ := h
  refine fx_iald (j := x1.toNatClampNeg) C hH 47 (fx_w47 g M) rfl hi1 dX7_findNatural_29 ?_
  refine lv_aload_n hx hb dX7_findNatural_30 rfl (lv_at hl 0 rfl) ?_
  refine fx_get C hH (fx_w8 g M) rfl in_X7 23 (by decide) u_846 rfl rfl dX7_findNatural_31 ?_
  refine lv_iload_n hx hb dX7_findNatural_34 rfl (lv_at hl 1 rfl) ?_
  obtain ⟨hi2, h⟩ := h
  refine fx_iald (j := x1.toNatClampNeg) C hH 48 (fx_w48 g M) rfl hi2 dX7_findNatural_35 ?_
  refine lv_iadd hx hb dX7_findNatural_36 ?_
  refine lv_icmp_ge (tgt := 171) hx hb dX7_findNatural_37 (by decide) (fun c3 => ?_) (fun c3 => ?_)
  · replace h := h.1 c3
    exact hk171 x1 x3 x4 M h  H locs ls hH (lv_sub hl [0, 1, 3, 4] rfl)
  · replace h := h.2 c3
    refine lv_aload_n hx hb dX7_findNatural_40 rfl (lv_at hl 0 rfl) ?_
    refine fx_get C hH (fx_w8 g M) rfl in_X7 14 (by decide) u_837 rfl rfl dX7_findNatural_41 ?_
    refine lv_iload hx hb dX7_findNatural_44 (lv_at hl 5 rfl) ?_
    obtain ⟨hi4, h⟩ := h
    refine fx_iald (j := x5.toNatClampNeg) C hH 39 (fx_w39 g M) rfl hi4 dX7_findNatural_46 ?_
    refine lv_topi (fun v5 ev5 => ?_)
    replace h := h v5 ev5
    refine lv_istore (lv' := [(6, .int v5), (0, .ref (fx_a g 8)), (1, .int x1), (2, .int x2), (3, .int x3), (4, .int x4), (5, .int x5)]) hx hb dX7_findNatural_47 hl (by decide) rfl (fun ls hl => ?_)
    refine lv_aload_n hx hb dX7_findNatural_49 rfl (lv_at hl 1 rfl) ?_
    refine lv_iload hx hb dX7_findNatural_50 (lv_at hl 0 rfl) ?_
    refine fx_ci hH (fx_runV (As := [.int v5]) (rest := []) C hH (c_X7_alignmentOf_8 l C.2.2.2.2.2.2.2.2.2.1 v5 M _ h) (fx_cwV 1 hts u_1090 u_1092 us_45 u_8 u_1093 rfl rfl (by decide +kernel) ⟨(Nat.le_of_ble_eq_true rfl), (Nat.le_of_ble_eq_true rfl)⟩) (fx_w8 g M) rfl rfl hl.1 rfl (Nat.le_of_ble_eq_true rfl) dX7_findNatural_52 ⟨(Nat.le_of_ble_eq_true rfl), (Nat.le_of_ble_eq_true rfl)⟩) (fun r7 M6 H locs h hH => ?_)
    refine lv_iconst (v := 4) hx hb dX7_findNatural_55 (by decide) ?_
    refine lv_icmp_eq (tgt := 88) hx hb dX7_findNatural_56 (by decide) (fun c8 => ?_) (fun c8 => ?_)
    · replace h := h.1 c8
      refine lv_aload_n hx hb dX7_findNatural_88 rfl (lv_at hl 1 rfl) ?_
      refine lv_iload hx hb dX7_findNatural_89 (lv_at hl 0 rfl) ?_
      refine lv_iconst (v := 5) hx hb dX7_findNatural_91 (by decide) ?_
      refine fx_ci hH (fx_runV (As := [.int v5, .int 5]) (rest := []) C hH (c_X7_of_8 l C.2.2.2.2.2.2.2.2.2.1 v5 5 M6 _ h) (fx_cwV 2 hts u_997 u_999 us_27 u_8 u_1000 rfl rfl (by decide +kernel) ⟨(Nat.le_of_ble_eq_true rfl), (Nat.le_of_ble_eq_true rfl)⟩) (fx_w8 g M6) rfl rfl hl.1 rfl (Nat.le_of_ble_eq_true rfl) dX7_findNatural_92 ⟨(Nat.le_of_ble_eq_true rfl), (Nat.le_of_ble_eq_true rfl)⟩) (fun r10 M9 H locs h hH => ?_)
      refine lv_aload_n hx hb dX7_findNatural_95 rfl (lv_at hl 1 rfl) ?_
      refine lv_iload hx hb dX7_findNatural_96 (lv_at hl 0 rfl) ?_
      refine lv_bipush (v := 6) hx hb dX7_findNatural_98 (by decide) ?_
      refine fx_ci hH (fx_runV (As := [.int v5, .int 6]) (rest := [.int r10]) C hH (c_X7_of_8 l C.2.2.2.2.2.2.2.2.2.1 v5 6 M9 _ h) (fx_cwV 2 hts u_997 u_999 us_27 u_8 u_1000 rfl rfl (by decide +kernel) ⟨(Nat.le_of_ble_eq_true rfl), (Nat.le_of_ble_eq_true rfl)⟩) (fx_w8 g M9) rfl rfl hl.1 rfl (Nat.le_of_ble_eq_true rfl) dX7_findNatural_100 ⟨(Nat.le_of_ble_eq_true rfl), (Nat.le_of_ble_eq_true rfl)⟩) (fun r12 M11 H locs h hH => ?_)
      refine lv_isub hx hb dX7_findNatural_103 ?_
      refine lv_topi (fun v13 ev13 => ?_)
      replace h := h v13 ev13
      refine lv_istore (lv' := [(7, .int v13), (6, .int v5), (0, .ref (fx_a g 8)), (1, .int x1), (2, .int x2), (3, .int x3), (4, .int x4), (5, .int x5)]) hx hb dX7_findNatural_104 hl (by decide) rfl (fun ls hl => ?_)
      refine lv_aload_n hx hb dX7_findNatural_106 rfl (lv_at hl 2 rfl) ?_
      refine fx_get C hH (fx_w8 g M11) rfl in_X7 27 (by decide) u_850 rfl rfl dX7_findNatural_107 ?_
      refine lv_iload_n hx hb dX7_findNatural_110 rfl (lv_at hl 3 rfl) ?_
      refine lv_aload_n hx hb dX7_findNatural_111 rfl (lv_at hl 2 rfl) ?_
      refine lv_iload hx hb dX7_findNatural_112 (lv_at hl 1 rfl) ?_
      refine lv_bipush (v := 6) hx hb dX7_findNatural_114 (by decide) ?_
      refine fx_ci hH (fx_runV (As := [.int v5, .int 6]) (rest := [.int x1, .ref (fx_a g 52)]) C hH (c_X7_of_8 l C.2.2.2.2.2.2.2.2.2.1 v5 6 M11 _ h) (fx_cwV 2 hts u_997 u_999 us_27 u_8 u_1000 rfl rfl (by decide +kernel) ⟨(Nat.le_of_ble_eq_true rfl), (Nat.le_of_ble_eq_true rfl)⟩) (fx_w8 g M11) rfl rfl hl.1 rfl (Nat.le_of_ble_eq_true rfl) dX7_findNatural_116 ⟨(Nat.le_of_ble_eq_true rfl), (Nat.le_of_ble_eq_true rfl)⟩) (fun r15 M14 H locs h hH => ?_)
      refine lv_aload_n hx hb dX7_findNatural_119 rfl (lv_at hl 2 rfl) ?_
      refine fx_get C hH (fx_w8 g M14) rfl in_X7 27 (by decide) u_850 rfl rfl dX7_findNatural_120 ?_
      refine lv_iload_n hx hb dX7_findNatural_123 rfl (lv_at hl 3 rfl) ?_
      obtain ⟨hi16, h⟩ := h
      refine fx_iald (j := x1.toNatClampNeg) C hH 52 (fx_w52 g M14) rfl hi16 dX7_findNatural_124 ?_
      refine lv_icmp_le (tgt := 139) hx hb dX7_findNatural_125 (by decide) (fun c17 => ?_) (fun c17 => ?_)
      · replace h := h.1 c17
        refine lv_aload_n hx hb dX7_findNatural_139 rfl (lv_at hl 2 rfl) ?_
        refine fx_get C hH (fx_w8 g M14) rfl in_X7 27 (by decide) u_850 rfl rfl dX7_findNatural_140 ?_
        refine lv_iload_n hx hb dX7_findNatural_143 rfl (lv_at hl 3 rfl) ?_
        obtain ⟨hi18, h⟩ := h
        refine fx_iald (j := x1.toNatClampNeg) C hH 52 (fx_w52 g M14) rfl hi18 dX7_findNatural_144 ?_
        exact tb_X7_findNatural_8_145 C k22 k171 Q hk22 hk171 x1 x2 x3 x4 x5 v13 (M14.2.1 52 x1.toNatClampNeg) x1 M14 h  H locs ls hH (lv_sub hl [2, 3, 4, 5, 6, 7, 0] rfl)
      · replace h := h.2 c17
        refine lv_aload_n hx hb dX7_findNatural_128 rfl (lv_at hl 2 rfl) ?_
        refine lv_iload hx hb dX7_findNatural_129 (lv_at hl 1 rfl) ?_
        refine lv_bipush (v := 6) hx hb dX7_findNatural_131 (by decide) ?_
        refine fx_ci hH (fx_runV (As := [.int v5, .int 6]) (rest := [.int x1, .ref (fx_a g 52)]) C hH (c_X7_of_8 l C.2.2.2.2.2.2.2.2.2.1 v5 6 M14 _ h) (fx_cwV 2 hts u_997 u_999 us_27 u_8 u_1000 rfl rfl (by decide +kernel) ⟨(Nat.le_of_ble_eq_true rfl), (Nat.le_of_ble_eq_true rfl)⟩) (fx_w8 g M14) rfl rfl hl.1 rfl (Nat.le_of_ble_eq_true rfl) dX7_findNatural_133 ⟨(Nat.le_of_ble_eq_true rfl), (Nat.le_of_ble_eq_true rfl)⟩) (fun r20 M19 H locs h hH => ?_)
        refine lv_goto (tgt := 145) hx hb dX7_findNatural_136 (by decide) ?_
        exact tb_X7_findNatural_8_145 C k22 k171 Q hk22 hk171 x1 x2 x3 x4 x5 v13 r20 x1 M19 h  H locs ls hH (lv_sub hl [2, 3, 4, 5, 6, 7, 0] rfl)
    · replace h := h.2 c8
      refine lv_aload_n hx hb dX7_findNatural_59 rfl (lv_at hl 1 rfl) ?_
      refine lv_iload hx hb dX7_findNatural_60 (lv_at hl 0 rfl) ?_
      refine lv_iconst (v := 5) hx hb dX7_findNatural_62 (by decide) ?_
      refine fx_ci hH (fx_runV (As := [.int v5, .int 5]) (rest := []) C hH (c_X7_of_8 l C.2.2.2.2.2.2.2.2.2.1 v5 5 M6 _ h) (fx_cwV 2 hts u_997 u_999 us_27 u_8 u_1000 rfl rfl (by decide +kernel) ⟨(Nat.le_of_ble_eq_true rfl), (Nat.le_of_ble_eq_true rfl)⟩) (fx_w8 g M6) rfl rfl hl.1 rfl (Nat.le_of_ble_eq_true rfl) dX7_findNatural_63 ⟨(Nat.le_of_ble_eq_true rfl), (Nat.le_of_ble_eq_true rfl)⟩) (fun r22 M21 H locs h hH => ?_)
      refine lv_iload hx hb dX7_findNatural_66 (lv_at hl 5 rfl) ?_
      refine lv_icmp_le (tgt := 81) hx hb dX7_findNatural_68 (by decide) (fun c23 => ?_) (fun c23 => ?_)
      · replace h := h.1 c23
        refine lv_iload hx hb dX7_findNatural_81 (lv_at hl 5 rfl) ?_
        exact tb_X7_findNatural_8_83 C k22 k171 Q hk22 hk171 x1 x2 x3 x5 x4 M21 h  H locs ls hH (lv_sub hl [1, 2, 3, 4, 6] rfl)
      · replace h := h.2 c23
        refine lv_aload_n hx hb dX7_findNatural_71 rfl (lv_at hl 1 rfl) ?_
        refine lv_iload hx hb dX7_findNatural_72 (lv_at hl 0 rfl) ?_
        refine lv_iconst (v := 5) hx hb dX7_findNatural_74 (by decide) ?_
        refine fx_ci hH (fx_runV (As := [.int v5, .int 5]) (rest := []) C hH (c_X7_of_8 l C.2.2.2.2.2.2.2.2.2.1 v5 5 M21 _ h) (fx_cwV 2 hts u_997 u_999 us_27 u_8 u_1000 rfl rfl (by decide +kernel) ⟨(Nat.le_of_ble_eq_true rfl), (Nat.le_of_ble_eq_true rfl)⟩) (fx_w8 g M21) rfl rfl hl.1 rfl (Nat.le_of_ble_eq_true rfl) dX7_findNatural_75 ⟨(Nat.le_of_ble_eq_true rfl), (Nat.le_of_ble_eq_true rfl)⟩) (fun r25 M24 H locs h hH => ?_)
        refine lv_goto (tgt := 83) hx hb dX7_findNatural_78 (by decide) ?_
        exact tb_X7_findNatural_8_83 C k22 k171 Q hk22 hk171 x1 x2 x3 x5 r25 M24 h  H locs ls hH (lv_sub hl [1, 2, 3, 4, 6] rfl)
def wl_X7_findNatural_8_22 (k171 : Int32 → Int32 → Int32 → fx_Mem → Prop) (Q : fx_Mem → Prop) (n : Nat) (x1 : Int32) (x2 : Int32) (x3 : Int32) (x4 : Int32) (x5 : Int32) (M : fx_Mem) : Prop :=
  fx_lp (α := Int32 × Int32 × Int32 × Int32 × Int32 × fx_Mem) (fun k a => wb_X7_findNatural_8_22 (fun x1 x2 x3 x4 x5 M => k (x1, x2, x3, x4, x5, M)) k171 Q a.1 a.2.1 a.2.2.1 a.2.2.2.1 a.2.2.2.2.1 a.2.2.2.2.2) n (x1, x2, x3, x4, x5, M)
set_option maxHeartbeats 4000000 in
theorem tl_X7_findNatural_8_22 {g : fx_Geo} {p : Program} {l : Launch} {e : Env} {s : State} {m : MethodId} {args : Array Value} {below : List Frame} {meth : Method} {c : Code} (C : fx_Cx g p s m args meth c RX7 cX7_findNatural 8 none) (k171 : Int32 → Int32 → Int32 → fx_Mem → Prop) (Q : fx_Mem → Prop) (hk171 : ∀ (x1 : Int32) (x3 : Int32) (x4 : Int32) (M : fx_Mem), k171 x1 x3 x4 M → ∀ (H : Heap) (locs : List Loc) (ls : Array Slot), fx_H g s M H locs → lv_has ls 8 [(0, .ref (fx_a g 8)), (1, .int x1), (3, .int x3), (4, .int x4)] → W p l e rm_X7_findNatural_8 s m args below meth c H locs 0 0 (MQ below (va_Qv Q (fx_Pw g) (fx_A g)) args s 0 0 (fx_A g)) (F0 m 171 ls [])) : ∀ (n : Nat) (x1 : Int32) (x2 : Int32) (x3 : Int32) (x4 : Int32) (x5 : Int32) (M : fx_Mem), wl_X7_findNatural_8_22 k171 Q n x1 x2 x3 x4 x5 M → ∀ (H : Heap) (locs : List Loc) (ls : Array Slot), fx_H g s M H locs → lv_has ls 8 [(0, .ref (fx_a g 8)), (1, .int x1), (2, .int x2), (3, .int x3), (4, .int x4), (5, .int x5)] → W p l e rm_X7_findNatural_8 s m args below meth c H locs 0 0 (MQ below (va_Qv Q (fx_Pw g) (fx_A g)) args s 0 0 (fx_A g)) (F0 m 22 ls []) := by
  intro n
  induction n with
  | zero => intro x1 x2 x3 x4 x5 M h; exact False.elim h
  | succ n ih => intro x1 x2 x3 x4 x5 M h  H locs ls hH hl; exact tb_X7_findNatural_8_22 C (wl_X7_findNatural_8_22 k171 Q n) k171 Q ih hk171 x1 x2 x3 x4 x5 M h  H locs ls hH hl
def wb_X7_findNatural_8_202 (Q : fx_Mem → Prop) (s0 : Int32) (s1 : Int32) (M : fx_Mem) : Prop :=
  vp_in s1 20 ∧ ∀ M2 : fx_Mem, M2 = fx_sa M 53 s1.toNatClampNeg s0 → Q M2
set_option maxHeartbeats 4000000 in
set_option maxRecDepth 100000 in
theorem tb_X7_findNatural_8_202 {g : fx_Geo} {p : Program} {l : Launch} {e : Env} {s : State} {m : MethodId} {args : Array Value} {below : List Frame} {meth : Method} {c : Code} (C : fx_Cx g p s m args meth c RX7 cX7_findNatural 8 none) (Q : fx_Mem → Prop) (s0 : Int32) (s1 : Int32) (M : fx_Mem) (h : wb_X7_findNatural_8_202 Q s0 s1 M) (H : Heap) (locs : List Loc) (ls : Array Slot) (hH : fx_H g s M H locs) (hl : lv_has ls 8 []) : W p l e rm_X7_findNatural_8 s m args below meth c H locs 0 0 (MQ below (va_Qv Q (fx_Pw g) (fx_A g)) args s 0 0 (fx_A g)) (F0 m 202 ls [.int s0, .int s1, .ref (fx_a g 53)]) := by
  obtain ⟨hx, hb, hr, hml, hown, hts, hlocks, hsz, hK, hG, hSt⟩ := id C
  unfold wb_X7_findNatural_8_202 at h
  obtain ⟨hi1, h⟩ := h
  refine fx_iast (j := s1.toNatClampNeg) (M' := fx_sa M 53 s1.toNatClampNeg s0) C hH 53 rfl (fx_w53 g M) (fx_p53 g M _) hi1 dX7_findNatural_202 (fun H locs hH => ?_)
  generalize eM2 : fx_sa M 53 s1.toNatClampNeg s0 = M2 at hH
  replace h := h M2 eM2.symm
  exact fx_vret C hH h dX7_findNatural_203
def wb_X7_findNatural_8_171 (Q : fx_Mem → Prop) (x1 : Int32) (x3 : Int32) (x4 : Int32) (M : fx_Mem) : Prop :=
  vp_in x1 20 ∧ (((M.2.1 52 x1.toNatClampNeg) + x3 ≤ x4 → wb_X7_findNatural_8_202 Q x4 x1 M) ∧ (¬ (M.2.1 52 x1.toNatClampNeg) + x3 ≤ x4 → vp_in x1 20 ∧ wb_X7_findNatural_8_202 Q ((M.2.1 52 x1.toNatClampNeg) + x3) x1 M))
set_option maxHeartbeats 4000000 in
set_option maxRecDepth 100000 in
theorem tb_X7_findNatural_8_171 {g : fx_Geo} {p : Program} {l : Launch} {e : Env} {s : State} {m : MethodId} {args : Array Value} {below : List Frame} {meth : Method} {c : Code} (C : fx_Cx g p s m args meth c RX7 cX7_findNatural 8 none) (Q : fx_Mem → Prop) (x1 : Int32) (x3 : Int32) (x4 : Int32) (M : fx_Mem) (h : wb_X7_findNatural_8_171 Q x1 x3 x4 M) (H : Heap) (locs : List Loc) (ls : Array Slot) (hH : fx_H g s M H locs) (hl : lv_has ls 8 [(0, .ref (fx_a g 8)), (1, .int x1), (3, .int x3), (4, .int x4)]) : W p l e rm_X7_findNatural_8 s m args below meth c H locs 0 0 (MQ below (va_Qv Q (fx_Pw g) (fx_A g)) args s 0 0 (fx_A g)) (F0 m 171 ls []) := by
  obtain ⟨hx, hb, hr, hml, hown, hts, hlocks, hsz, hK, hG, hSt⟩ := id C
  unfold wb_X7_findNatural_8_171 at h
  refine lv_aload_n hx hb dX7_findNatural_171 rfl (lv_at hl 0 rfl) ?_
  refine fx_get C hH (fx_w8 g M) rfl in_X7 28 (by decide) u_851 rfl rfl dX7_findNatural_172 ?_
  refine lv_iload_n hx hb dX7_findNatural_175 rfl (lv_at hl 1 rfl) ?_
  refine lv_aload_n hx hb dX7_findNatural_176 rfl (lv_at hl 0 rfl) ?_
  refine fx_get C hH (fx_w8 g M) rfl in_X7 27 (by decide) u_850 rfl rfl dX7_findNatural_177 ?_
  refine lv_iload_n hx hb dX7_findNatural_180 rfl (lv_at hl 1 rfl) ?_
  obtain ⟨hi1, h⟩ := h
  refine fx_iald (j := x1.toNatClampNeg) C hH 52 (fx_w52 g M) rfl hi1 dX7_findNatural_181 ?_
  refine lv_iload_n hx hb dX7_findNatural_182 rfl (lv_at hl 2 rfl) ?_
  refine lv_iadd hx hb dX7_findNatural_183 ?_
  refine lv_iload hx hb dX7_findNatural_184 (lv_at hl 3 rfl) ?_
  refine lv_icmp_le (tgt := 200) hx hb dX7_findNatural_186 (by decide) (fun c2 => ?_) (fun c2 => ?_)
  · replace h := h.1 c2
    refine lv_iload hx hb dX7_findNatural_200 (lv_at hl 3 rfl) ?_
    exact tb_X7_findNatural_8_202 C Q  x4 x1 M h  H locs ls hH (lv_sub hl [] rfl)
  · replace h := h.2 c2
    refine lv_aload_n hx hb dX7_findNatural_189 rfl (lv_at hl 0 rfl) ?_
    refine fx_get C hH (fx_w8 g M) rfl in_X7 27 (by decide) u_850 rfl rfl dX7_findNatural_190 ?_
    refine lv_iload_n hx hb dX7_findNatural_193 rfl (lv_at hl 1 rfl) ?_
    obtain ⟨hi3, h⟩ := h
    refine fx_iald (j := x1.toNatClampNeg) C hH 52 (fx_w52 g M) rfl hi3 dX7_findNatural_194 ?_
    refine lv_iload_n hx hb dX7_findNatural_195 rfl (lv_at hl 2 rfl) ?_
    refine lv_iadd hx hb dX7_findNatural_196 ?_
    refine lv_goto (tgt := 202) hx hb dX7_findNatural_197 (by decide) ?_
    exact tb_X7_findNatural_8_202 C Q  ((M.2.1 52 x1.toNatClampNeg) + x3) x1 M h  H locs ls hH (lv_sub hl [] rfl)
def wp_X7_findNatural_8 (a1 : Int32) (M : fx_Mem) (Q : fx_Mem → Prop) : Prop :=
  vp_in a1 20 ∧ ∀ M2 : fx_Mem, M2 = fx_sa M 52 a1.toNatClampNeg 0 → vp_in a1 20 ∧ ∀ v4 : Int32, v4 = M2.2.1 47 a1.toNatClampNeg → ∃ n22 : Nat, wl_X7_findNatural_8_22 (wb_X7_findNatural_8_171 Q) Q n22 a1 0 0 0 v4 M2
set_option maxHeartbeats 4000000 in
set_option maxRecDepth 100000 in
theorem c_X7_findNatural_8 (l : Launch) {g : fx_Geo} (hG : fx_Gd g) (a1 : Int32) (M : fx_Mem) (Q : fx_Mem → Prop) (h : wp_X7_findNatural_8 a1 M Q) : Met l yX7_findNatural (.code yX7_findNatural cX7_findNatural 8 none :: fx_U) rm_X7_findNatural_8 (va_Pc [.ref (fx_a g 8), .int a1] (fx_At g M)) (va_Qv Q (fx_Pw g) (fx_A g)) 0 0 (fx_A g) := by
  refine Met.ofW (cc := cX7_findNatural) (maxL := 8) (ret := none) (by decide +kernel) rfl ?_
  intro p e s m args below meth c s₁ B hml hv
  obtain ⟨rfl, hv⟩ := hv
  have hts := atoms_spec (ws := .code yX7_findNatural cX7_findNatural 8 none :: fx_U) B.pre
  obtain ⟨C, hH⟩ := fx_body (own := RX7) B hml rfl (fun w hw => hts w (List.mem_cons_of_mem _ hw)) hG hv
  replace hts := fun w hw => hts w (List.mem_cons_of_mem _ hw)
  obtain ⟨hx, hb, hr, -, hown, -, hlocks, hsz, hK, -, hSt⟩ := id C
  have hl := lv_entry ([.ref (fx_a g 8), .int a1]) (n := 8) (Nat.le_of_ble_eq_true rfl)
  rw [lg_entry_eq]
  generalize (lg_sl ([.ref (fx_a g 8), .int a1]) ++ List.replicate (8 - (lg_sl ([.ref (fx_a g 8), .int a1])).length) Slot.unset).toArray = ls at hl ⊢
  have hl : lv_has ls 8 [(0, .ref (fx_a g 8)), (1, .int a1)] := hl
  obtain ⟨H, eH⟩ : ∃ H : Heap, H = s.heap := ⟨_, rfl⟩
  obtain ⟨locs, elocs⟩ : ∃ q : List Loc, q = [] := ⟨_, rfl⟩
  rw [← eH, ← elocs] at hH
  show W p l e rm_X7_findNatural_8 s m _ below meth c s.heap [] 0 0 _ _
  rw [← eH, ← elocs]
  unfold wp_X7_findNatural_8 at h
  refine lv_iconst (v := 0) hx hb dX7_findNatural_0 (by decide) ?_
  refine lv_istore_n (lv' := [(2, .int 0), (0, .ref (fx_a g 8)), (1, .int a1)]) hx hb dX7_findNatural_1 rfl hl (by decide) rfl (fun ls hl => ?_)
  refine lv_iconst (v := 0) hx hb dX7_findNatural_2 (by decide) ?_
  refine lv_istore_n (lv' := [(3, .int 0), (2, .int 0), (0, .ref (fx_a g 8)), (1, .int a1)]) hx hb dX7_findNatural_3 rfl hl (by decide) rfl (fun ls hl => ?_)
  refine lv_iconst (v := 0) hx hb dX7_findNatural_4 (by decide) ?_
  refine lv_istore (lv' := [(4, .int 0), (3, .int 0), (2, .int 0), (0, .ref (fx_a g 8)), (1, .int a1)]) hx hb dX7_findNatural_5 hl (by decide) rfl (fun ls hl => ?_)
  refine lv_aload_n hx hb dX7_findNatural_7 rfl (lv_at hl 3 rfl) ?_
  refine fx_get C hH (fx_w8 g M) rfl in_X7 27 (by decide) u_850 rfl rfl dX7_findNatural_8 ?_
  refine lv_iload_n hx hb dX7_findNatural_11 rfl (lv_at hl 4 rfl) ?_
  refine lv_iconst (v := 0) hx hb dX7_findNatural_12 (by decide) ?_
  obtain ⟨hi1, h⟩ := h
  refine fx_iast (j := a1.toNatClampNeg) (M' := fx_sa M 52 a1.toNatClampNeg 0) C hH 52 rfl (fx_w52 g M) (fx_p52 g M _) hi1 dX7_findNatural_13 (fun H locs hH => ?_)
  generalize eM2 : fx_sa M 52 a1.toNatClampNeg 0 = M2 at hH
  replace h := h M2 eM2.symm
  refine lv_aload_n hx hb dX7_findNatural_14 rfl (lv_at hl 3 rfl) ?_
  refine fx_get C hH (fx_w8 g M2) rfl in_X7 22 (by decide) u_845 rfl rfl dX7_findNatural_15 ?_
  refine lv_iload_n hx hb dX7_findNatural_18 rfl (lv_at hl 4 rfl) ?_
  obtain ⟨hi3, h⟩ := h
  refine fx_iald (j := a1.toNatClampNeg) C hH 47 (fx_w47 g M2) rfl hi3 dX7_findNatural_19 ?_
  refine lv_topi (fun v4 ev4 => ?_)
  replace h := h v4 ev4
  refine lv_istore (lv' := [(5, .int v4), (4, .int 0), (3, .int 0), (2, .int 0), (0, .ref (fx_a g 8)), (1, .int a1)]) hx hb dX7_findNatural_20 hl (by decide) rfl (fun ls hl => ?_)
  obtain ⟨n22, h⟩ := h
  exact tl_X7_findNatural_8_22 C (wb_X7_findNatural_8_171 Q) Q (tb_X7_findNatural_8_171 C Q ) n22 a1 0 0 0 v4 M2 h  H locs ls hH (lv_sub hl [4, 5, 3, 2, 1, 0] rfl)
/-! FlexLayoutModel.crossLeft()I (8,) -/
def rm_X7_crossLeft_8 : Room := { frames := 0, cells := 0, slots := 0, locals := 0 }
def wb_X7_crossLeft_8_23 (k23 : Int32 → Int32 → fx_Mem → Prop) (k46 : Int32 → fx_Mem → Prop) (Q : Int32 → fx_Mem → Prop) (x1 : Int32) (x2 : Int32) (M : fx_Mem) : Prop :=
  ((M.1 542 ≤ x2 → k46 x1 M) ∧ (¬ M.1 542 ≤ x2 → vp_in x2 20 ∧ ∀ v3 : Int32, v3 = x1 - (M.2.1 51 x2.toNatClampNeg) → ∀ v4 : Int32, v4 = x2 + 1 → k23 v3 v4 M))
set_option maxHeartbeats 4000000 in
set_option maxRecDepth 100000 in
theorem tb_X7_crossLeft_8_23 {g : fx_Geo} {p : Program} {l : Launch} {e : Env} {s : State} {m : MethodId} {args : Array Value} {below : List Frame} {meth : Method} {c : Code} (C : fx_Cx g p s m args meth c RX7 cX7_crossLeft 3 (some .int)) (k23 : Int32 → Int32 → fx_Mem → Prop) (k46 : Int32 → fx_Mem → Prop) (Q : Int32 → fx_Mem → Prop) (hk23 : ∀ (x1 : Int32) (x2 : Int32) (M : fx_Mem), k23 x1 x2 M → ∀ (H : Heap) (locs : List Loc) (ls : Array Slot), fx_H g s M H locs → lv_has ls 3 [(0, .ref (fx_a g 8)), (1, .int x1), (2, .int x2)] → W p l e rm_X7_crossLeft_8 s m args below meth c H locs 0 0 (MQ below (va_Qi Q (fx_Pw g) (fx_A g)) args s 0 0 (fx_A g)) (F0 m 23 ls [])) (hk46 : ∀ (x1 : Int32) (M : fx_Mem), k46 x1 M → ∀ (H : Heap) (locs : List Loc) (ls : Array Slot), fx_H g s M H locs → lv_has ls 3 [(0, .ref (fx_a g 8)), (1, .int x1)] → W p l e rm_X7_crossLeft_8 s m args below meth c H locs 0 0 (MQ below (va_Qi Q (fx_Pw g) (fx_A g)) args s 0 0 (fx_A g)) (F0 m 46 ls [])) (x1 : Int32) (x2 : Int32) (M : fx_Mem) (h : wb_X7_crossLeft_8_23 k23 k46 Q x1 x2 M) (H : Heap) (locs : List Loc) (ls : Array Slot) (hH : fx_H g s M H locs) (hl : lv_has ls 3 [(0, .ref (fx_a g 8)), (1, .int x1), (2, .int x2)]) : W p l e rm_X7_crossLeft_8 s m args below meth c H locs 0 0 (MQ below (va_Qi Q (fx_Pw g) (fx_A g)) args s 0 0 (fx_A g)) (F0 m 23 ls []) := by
  obtain ⟨hx, hb, hr, hml, hown, hts, hlocks, hsz, hK, hG, hSt⟩ := id C
  unfold wb_X7_crossLeft_8_23 at h
  refine lv_iload_n hx hb dX7_crossLeft_23 rfl (lv_at hl 2 rfl) ?_
  refine lv_aload_n hx hb dX7_crossLeft_24 rfl (lv_at hl 0 rfl) ?_
  refine fx_get C hH (fx_w8 g M) rfl in_X7 30 (by decide) u_853 rfl rfl dX7_crossLeft_25 ?_
  refine lv_icmp_ge (tgt := 46) hx hb dX7_crossLeft_28 (by decide) (fun c1 => ?_) (fun c1 => ?_)
  · replace h := h.1 c1
    exact hk46 x1 M h  H locs ls hH (lv_sub hl [0, 1] rfl)
  · replace h := h.2 c1
    refine lv_iload_n hx hb dX7_crossLeft_31 rfl (lv_at hl 1 rfl) ?_
    refine lv_aload_n hx hb dX7_crossLeft_32 rfl (lv_at hl 0 rfl) ?_
    refine fx_get C hH (fx_w8 g M) rfl in_X7 26 (by decide) u_849 rfl rfl dX7_crossLeft_33 ?_
    refine lv_iload_n hx hb dX7_crossLeft_36 rfl (lv_at hl 2 rfl) ?_
    obtain ⟨hi2, h⟩ := h
    refine fx_iald (j := x2.toNatClampNeg) C hH 51 (fx_w51 g M) rfl hi2 dX7_crossLeft_37 ?_
    refine lv_isub hx hb dX7_crossLeft_38 ?_
    refine lv_topi (fun v3 ev3 => ?_)
    replace h := h v3 ev3
    refine lv_istore_n (lv' := [(1, .int v3), (0, .ref (fx_a g 8)), (2, .int x2)]) hx hb dX7_crossLeft_39 rfl hl (by decide) rfl (fun ls hl => ?_)
    obtain ⟨v4, ev4⟩ : ∃ z : Int32, z = x2 + 1 := ⟨_, rfl⟩
    refine lv_iinc (v := v4) (lv' := [(2, .int v4), (1, .int v3), (0, .ref (fx_a g 8))]) hx hb dX7_crossLeft_40 hl (k := 2) rfl (by rw [ev4]; rfl) (by decide) rfl (fun ls hl => ?_)
    replace h := h v4 ev4
    refine lv_goto (tgt := 23) hx hb dX7_crossLeft_43 (by decide) ?_
    exact hk23 v3 v4 M h  H locs ls hH (lv_sub hl [2, 1, 0] rfl)
def wl_X7_crossLeft_8_23 (k46 : Int32 → fx_Mem → Prop) (Q : Int32 → fx_Mem → Prop) (n : Nat) (x1 : Int32) (x2 : Int32) (M : fx_Mem) : Prop :=
  fx_lp (α := Int32 × Int32 × fx_Mem) (fun k a => wb_X7_crossLeft_8_23 (fun x1 x2 M => k (x1, x2, M)) k46 Q a.1 a.2.1 a.2.2) n (x1, x2, M)
set_option maxHeartbeats 4000000 in
theorem tl_X7_crossLeft_8_23 {g : fx_Geo} {p : Program} {l : Launch} {e : Env} {s : State} {m : MethodId} {args : Array Value} {below : List Frame} {meth : Method} {c : Code} (C : fx_Cx g p s m args meth c RX7 cX7_crossLeft 3 (some .int)) (k46 : Int32 → fx_Mem → Prop) (Q : Int32 → fx_Mem → Prop) (hk46 : ∀ (x1 : Int32) (M : fx_Mem), k46 x1 M → ∀ (H : Heap) (locs : List Loc) (ls : Array Slot), fx_H g s M H locs → lv_has ls 3 [(0, .ref (fx_a g 8)), (1, .int x1)] → W p l e rm_X7_crossLeft_8 s m args below meth c H locs 0 0 (MQ below (va_Qi Q (fx_Pw g) (fx_A g)) args s 0 0 (fx_A g)) (F0 m 46 ls [])) : ∀ (n : Nat) (x1 : Int32) (x2 : Int32) (M : fx_Mem), wl_X7_crossLeft_8_23 k46 Q n x1 x2 M → ∀ (H : Heap) (locs : List Loc) (ls : Array Slot), fx_H g s M H locs → lv_has ls 3 [(0, .ref (fx_a g 8)), (1, .int x1), (2, .int x2)] → W p l e rm_X7_crossLeft_8 s m args below meth c H locs 0 0 (MQ below (va_Qi Q (fx_Pw g) (fx_A g)) args s 0 0 (fx_A g)) (F0 m 23 ls []) := by
  intro n
  induction n with
  | zero => intro x1 x2 M h; exact False.elim h
  | succ n ih => intro x1 x2 M h  H locs ls hH hl; exact tb_X7_crossLeft_8_23 C (wl_X7_crossLeft_8_23 k46 Q n) k46 Q ih hk46 x1 x2 M h  H locs ls hH hl
def wb_X7_crossLeft_8_63 (Q : Int32 → fx_Mem → Prop) (M : fx_Mem) : Prop :=
  Q 0 M
set_option maxHeartbeats 4000000 in
set_option maxRecDepth 100000 in
theorem tb_X7_crossLeft_8_63 {g : fx_Geo} {p : Program} {l : Launch} {e : Env} {s : State} {m : MethodId} {args : Array Value} {below : List Frame} {meth : Method} {c : Code} (C : fx_Cx g p s m args meth c RX7 cX7_crossLeft 3 (some .int)) (Q : Int32 → fx_Mem → Prop) (M : fx_Mem) (h : wb_X7_crossLeft_8_63 Q M) (H : Heap) (locs : List Loc) (ls : Array Slot) (hH : fx_H g s M H locs) (hl : lv_has ls 3 []) : W p l e rm_X7_crossLeft_8 s m args below meth c H locs 0 0 (MQ below (va_Qi Q (fx_Pw g) (fx_A g)) args s 0 0 (fx_A g)) (F0 m 63 ls []) := by
  obtain ⟨hx, hb, hr, hml, hown, hts, hlocks, hsz, hK, hG, hSt⟩ := id C
  unfold wb_X7_crossLeft_8_63 at h
  refine lv_iconst (v := 0) hx hb dX7_crossLeft_63 (by decide) ?_
  refine lv_goto (tgt := 68) hx hb dX7_crossLeft_64 (by decide) ?_
  exact fx_iret C hH h dX7_crossLeft_68
def wb_X7_crossLeft_8_46 (Q : Int32 → fx_Mem → Prop) (x1 : Int32) (M : fx_Mem) : Prop :=
  ((M.2.1 30 1 = (-1) → wb_X7_crossLeft_8_63 Q  M) ∧ (¬ M.2.1 30 1 = (-1) → ((M.1 542 = 0 → wb_X7_crossLeft_8_63 Q  M) ∧ (¬ M.1 542 = 0 → Q x1 M))))
set_option maxHeartbeats 4000000 in
set_option maxRecDepth 100000 in
theorem tb_X7_crossLeft_8_46 {g : fx_Geo} {p : Program} {l : Launch} {e : Env} {s : State} {m : MethodId} {args : Array Value} {below : List Frame} {meth : Method} {c : Code} (C : fx_Cx g p s m args meth c RX7 cX7_crossLeft 3 (some .int)) (Q : Int32 → fx_Mem → Prop) (x1 : Int32) (M : fx_Mem) (h : wb_X7_crossLeft_8_46 Q x1 M) (H : Heap) (locs : List Loc) (ls : Array Slot) (hH : fx_H g s M H locs) (hl : lv_has ls 3 [(0, .ref (fx_a g 8)), (1, .int x1)]) : W p l e rm_X7_crossLeft_8 s m args below meth c H locs 0 0 (MQ below (va_Qi Q (fx_Pw g) (fx_A g)) args s 0 0 (fx_A g)) (F0 m 46 ls []) := by
  obtain ⟨hx, hb, hr, hml, hown, hts, hlocks, hsz, hK, hG, hSt⟩ := id C
  unfold wb_X7_crossLeft_8_46 at h
  refine lv_aload_n hx hb dX7_crossLeft_46 rfl (lv_at hl 0 rfl) ?_
  refine fx_get C hH (fx_w8 g M) rfl in_X7 1 (by decide) u_824 rfl rfl dX7_crossLeft_47 ?_
  refine lv_iconst (v := 1) hx hb dX7_crossLeft_50 (by decide) ?_
  refine fx_iald (j := 1) C hH 30 (fx_w30 g M) (by decide) (by unfold vp_in; decide) dX7_crossLeft_51 ?_
  refine lv_iconst (v := -1) hx hb dX7_crossLeft_52 (by decide) ?_
  refine lv_icmp_eq (tgt := 63) hx hb dX7_crossLeft_53 (by decide) (fun c1 => ?_) (fun c1 => ?_)
  · replace h := h.1 c1
    exact tb_X7_crossLeft_8_63 C Q   M h  H locs ls hH (lv_sub hl [] rfl)
  · replace h := h.2 c1
    refine lv_aload_n hx hb dX7_crossLeft_56 rfl (lv_at hl 0 rfl) ?_
    refine fx_get C hH (fx_w8 g M) rfl in_X7 30 (by decide) u_853 rfl rfl dX7_crossLeft_57 ?_
    refine lv_if_ne (tgt := 67) hx hb dX7_crossLeft_60 (by decide) (fun c2 => ?_) (fun c2 => ?_)
    · replace h := h.2 c2
      refine lv_iload_n hx hb dX7_crossLeft_67 rfl (lv_at hl 1 rfl) ?_
      exact fx_iret C hH h dX7_crossLeft_68
    · replace h := h.1 c2
      exact tb_X7_crossLeft_8_63 C Q   M h  H locs ls hH (lv_sub hl [] rfl)
def wp_X7_crossLeft_8 (M : fx_Mem) (Q : Int32 → fx_Mem → Prop) : Prop :=
  ∀ v1 : Int32, v1 = (M.2.1 30 1) - ((M.2.1 30 3) * ((M.1 542) - 1)) → ∃ n23 : Nat, wl_X7_crossLeft_8_23 (wb_X7_crossLeft_8_46 Q) Q n23 v1 0 M
set_option maxHeartbeats 4000000 in
set_option maxRecDepth 100000 in
theorem c_X7_crossLeft_8 (l : Launch) {g : fx_Geo} (hG : fx_Gd g) (M : fx_Mem) (Q : Int32 → fx_Mem → Prop) (h : wp_X7_crossLeft_8 M Q) : Met l yX7_crossLeft (.code yX7_crossLeft cX7_crossLeft 3 (some .int) :: fx_U) rm_X7_crossLeft_8 (va_Pc [.ref (fx_a g 8)] (fx_At g M)) (va_Qi Q (fx_Pw g) (fx_A g)) 0 0 (fx_A g) := by
  refine Met.ofW (cc := cX7_crossLeft) (maxL := 3) (ret := (some .int)) (by decide +kernel) rfl ?_
  intro p e s m args below meth c s₁ B hml hv
  obtain ⟨rfl, hv⟩ := hv
  have hts := atoms_spec (ws := .code yX7_crossLeft cX7_crossLeft 3 (some .int) :: fx_U) B.pre
  obtain ⟨C, hH⟩ := fx_body (own := RX7) B hml rfl (fun w hw => hts w (List.mem_cons_of_mem _ hw)) hG hv
  replace hts := fun w hw => hts w (List.mem_cons_of_mem _ hw)
  obtain ⟨hx, hb, hr, -, hown, -, hlocks, hsz, hK, -, hSt⟩ := id C
  have hl := lv_entry ([.ref (fx_a g 8)]) (n := 3) (Nat.le_of_ble_eq_true rfl)
  rw [lg_entry_eq]
  generalize (lg_sl ([.ref (fx_a g 8)]) ++ List.replicate (3 - (lg_sl ([.ref (fx_a g 8)])).length) Slot.unset).toArray = ls at hl ⊢
  have hl : lv_has ls 3 [(0, .ref (fx_a g 8))] := hl
  obtain ⟨H, eH⟩ : ∃ H : Heap, H = s.heap := ⟨_, rfl⟩
  obtain ⟨locs, elocs⟩ : ∃ q : List Loc, q = [] := ⟨_, rfl⟩
  rw [← eH, ← elocs] at hH
  show W p l e rm_X7_crossLeft_8 s m _ below meth c s.heap [] 0 0 _ _
  rw [← eH, ← elocs]
  unfold wp_X7_crossLeft_8 at h
  refine lv_aload_n hx hb dX7_crossLeft_0 rfl (lv_at hl 0 rfl) ?_
  refine fx_get C hH (fx_w8 g M) rfl in_X7 1 (by decide) u_824 rfl rfl dX7_crossLeft_1 ?_
  refine lv_iconst (v := 1) hx hb dX7_crossLeft_4 (by decide) ?_
  refine fx_iald (j := 1) C hH 30 (fx_w30 g M) (by decide) (by unfold vp_in; decide) dX7_crossLeft_5 ?_
  refine lv_aload_n hx hb dX7_crossLeft_6 rfl (lv_at hl 0 rfl) ?_
  refine fx_get C hH (fx_w8 g M) rfl in_X7 1 (by decide) u_824 rfl rfl dX7_crossLeft_7 ?_
  refine lv_iconst (v := 3) hx hb dX7_crossLeft_10 (by decide) ?_
  refine fx_iald (j := 3) C hH 30 (fx_w30 g M) (by decide) (by unfold vp_in; decide) dX7_crossLeft_11 ?_
  refine lv_aload_n hx hb dX7_crossLeft_12 rfl (lv_at hl 0 rfl) ?_
  refine fx_get C hH (fx_w8 g M) rfl in_X7 30 (by decide) u_853 rfl rfl dX7_crossLeft_13 ?_
  refine lv_iconst (v := 1) hx hb dX7_crossLeft_16 (by decide) ?_
  refine lv_isub hx hb dX7_crossLeft_17 ?_
  refine lv_imul hx hb dX7_crossLeft_18 ?_
  refine lv_isub hx hb dX7_crossLeft_19 ?_
  refine lv_topi (fun v1 ev1 => ?_)
  replace h := h v1 ev1
  refine lv_istore_n (lv' := [(1, .int v1), (0, .ref (fx_a g 8))]) hx hb dX7_crossLeft_20 rfl hl (by decide) rfl (fun ls hl => ?_)
  refine lv_iconst (v := 0) hx hb dX7_crossLeft_21 (by decide) ?_
  refine lv_istore_n (lv' := [(2, .int 0), (1, .int v1), (0, .ref (fx_a g 8))]) hx hb dX7_crossLeft_22 rfl hl (by decide) rfl (fun ls hl => ?_)
  obtain ⟨n23, h⟩ := h
  exact tl_X7_crossLeft_8_23 C (wb_X7_crossLeft_8_46 Q) Q (tb_X7_crossLeft_8_46 C Q ) n23 v1 0 M h  H locs ls hH (lv_sub hl [2, 1, 0] rfl)
