/-! FlexLayoutModel.overlaps()I (8,) -/
def rm_X7_overlaps_8 : Room := { frames := 5, cells := 0, slots := 0, locals := 131 }
def wb_X7_overlaps_8_54 (k23 : Int32 → Int32 → Int32 → fx_Mem → Prop) (k62 : Int32 → Int32 → fx_Mem → Prop) (Q : Int32 → fx_Mem → Prop) (x2 : Int32) (x3 : Int32) (s0 : Int32) (s1 : Int32) (M : fx_Mem) : Prop :=
  ∀ v1 : Int32, v1 = s1 + s0 → ∀ v2 : Int32, v2 = x3 + 1 → k23 v1 x2 v2 M
set_option maxHeartbeats 4000000 in
set_option maxRecDepth 100000 in
theorem tb_X7_overlaps_8_54 {g : fx_Geo} {p : Program} {l : Launch} {e : Env} {s : State} {m : MethodId} {args : Array Value} {below : List Frame} {meth : Method} {c : Code} (C : fx_Cx g p s m args meth c RX7 cX7_overlaps 4 (some .int)) (k23 : Int32 → Int32 → Int32 → fx_Mem → Prop) (k62 : Int32 → Int32 → fx_Mem → Prop) (Q : Int32 → fx_Mem → Prop) (hk23 : ∀ (x1 : Int32) (x2 : Int32) (x3 : Int32) (M : fx_Mem), k23 x1 x2 x3 M → ∀ (H : Heap) (locs : List Loc) (ls : Array Slot), fx_H g s M H locs → lv_has ls 4 [(0, .ref (fx_a g 8)), (1, .int x1), (2, .int x2), (3, .int x3)] → W p l e rm_X7_overlaps_8 s m args below meth c H locs 0 0 (MQ below (va_Qi Q (fx_Pw g) (fx_A g)) args s 0 0 (fx_A g)) (F0 m 23 ls [])) (hk62 : ∀ (x1 : Int32) (x2 : Int32) (M : fx_Mem), k62 x1 x2 M → ∀ (H : Heap) (locs : List Loc) (ls : Array Slot), fx_H g s M H locs → lv_has ls 4 [(0, .ref (fx_a g 8)), (1, .int x1), (2, .int x2)] → W p l e rm_X7_overlaps_8 s m args below meth c H locs 0 0 (MQ below (va_Qi Q (fx_Pw g) (fx_A g)) args s 0 0 (fx_A g)) (F0 m 62 ls [])) (x2 : Int32) (x3 : Int32) (s0 : Int32) (s1 : Int32) (M : fx_Mem) (h : wb_X7_overlaps_8_54 k23 k62 Q x2 x3 s0 s1 M) (H : Heap) (locs : List Loc) (ls : Array Slot) (hH : fx_H g s M H locs) (hl : lv_has ls 4 [(0, .ref (fx_a g 8)), (2, .int x2), (3, .int x3)]) : W p l e rm_X7_overlaps_8 s m args below meth c H locs 0 0 (MQ below (va_Qi Q (fx_Pw g) (fx_A g)) args s 0 0 (fx_A g)) (F0 m 54 ls [.int s0, .int s1]) := by
  obtain ⟨hx, hb, hr, hml, hown, hts, hlocks, hsz, hK, hG, hSt⟩ := id C
  unfold wb_X7_overlaps_8_54 at h
  refine lv_iadd hx hb dX7_overlaps_54 ?_
  refine lv_topi (fun v1 ev1 => ?_)
  replace h := h v1 ev1
  refine lv_istore_n (lv' := [(1, .int v1), (0, .ref (fx_a g 8)), (2, .int x2), (3, .int x3)]) hx hb dX7_overlaps_55 rfl hl (by decide) rfl (fun ls hl => ?_)
  obtain ⟨v2, ev2⟩ : ∃ z : Int32, z = x3 + 1 := ⟨_, rfl⟩
  refine lv_iinc (v := v2) (lv' := [(3, .int v2), (1, .int v1), (0, .ref (fx_a g 8)), (2, .int x2)]) hx hb dX7_overlaps_56 hl (k := 3) rfl (by rw [ev2]; rfl) (by decide) rfl (fun ls hl => ?_)
  replace h := h v2 ev2
  refine lv_goto (tgt := 23) hx hb dX7_overlaps_59 (by decide) ?_
  exact hk23 v1 x2 v2 M h  H locs ls hH (lv_sub hl [2, 1, 3, 0] rfl)
def wb_X7_overlaps_8_53 (k23 : Int32 → Int32 → Int32 → fx_Mem → Prop) (k62 : Int32 → Int32 → fx_Mem → Prop) (Q : Int32 → fx_Mem → Prop) (x2 : Int32) (x3 : Int32) (s0 : Int32) (M : fx_Mem) : Prop :=
  wb_X7_overlaps_8_54 k23 k62 Q x2 x3 0 s0 M
set_option maxHeartbeats 4000000 in
set_option maxRecDepth 100000 in
theorem tb_X7_overlaps_8_53 {g : fx_Geo} {p : Program} {l : Launch} {e : Env} {s : State} {m : MethodId} {args : Array Value} {below : List Frame} {meth : Method} {c : Code} (C : fx_Cx g p s m args meth c RX7 cX7_overlaps 4 (some .int)) (k23 : Int32 → Int32 → Int32 → fx_Mem → Prop) (k62 : Int32 → Int32 → fx_Mem → Prop) (Q : Int32 → fx_Mem → Prop) (hk23 : ∀ (x1 : Int32) (x2 : Int32) (x3 : Int32) (M : fx_Mem), k23 x1 x2 x3 M → ∀ (H : Heap) (locs : List Loc) (ls : Array Slot), fx_H g s M H locs → lv_has ls 4 [(0, .ref (fx_a g 8)), (1, .int x1), (2, .int x2), (3, .int x3)] → W p l e rm_X7_overlaps_8 s m args below meth c H locs 0 0 (MQ below (va_Qi Q (fx_Pw g) (fx_A g)) args s 0 0 (fx_A g)) (F0 m 23 ls [])) (hk62 : ∀ (x1 : Int32) (x2 : Int32) (M : fx_Mem), k62 x1 x2 M → ∀ (H : Heap) (locs : List Loc) (ls : Array Slot), fx_H g s M H locs → lv_has ls 4 [(0, .ref (fx_a g 8)), (1, .int x1), (2, .int x2)] → W p l e rm_X7_overlaps_8 s m args below meth c H locs 0 0 (MQ below (va_Qi Q (fx_Pw g) (fx_A g)) args s 0 0 (fx_A g)) (F0 m 62 ls [])) (x2 : Int32) (x3 : Int32) (s0 : Int32) (M : fx_Mem) (h : wb_X7_overlaps_8_53 k23 k62 Q x2 x3 s0 M) (H : Heap) (locs : List Loc) (ls : Array Slot) (hH : fx_H g s M H locs) (hl : lv_has ls 4 [(0, .ref (fx_a g 8)), (2, .int x2), (3, .int x3)]) : W p l e rm_X7_overlaps_8 s m args below meth c H locs 0 0 (MQ below (va_Qi Q (fx_Pw g) (fx_A g)) args s 0 0 (fx_A g)) (F0 m 53 ls [.int s0]) := by
  obtain ⟨hx, hb, hr, hml, hown, hts, hlocks, hsz, hK, hG, hSt⟩ := id C
  unfold wb_X7_overlaps_8_53 at h
  refine lv_iconst (v := 0) hx hb dX7_overlaps_53 (by decide) ?_
  exact tb_X7_overlaps_8_54 C k23 k62 Q hk23 hk62 x2 x3 0 s0 M h  H locs ls hH (lv_sub hl [0, 1, 2] rfl)
def wb_X7_overlaps_8_23 (k23 : Int32 → Int32 → Int32 → fx_Mem → Prop) (k62 : Int32 → Int32 → fx_Mem → Prop) (Q : Int32 → fx_Mem → Prop) (x1 : Int32) (x2 : Int32) (x3 : Int32) (M : fx_Mem) : Prop :=
  ((x2 ≤ x3 → k62 x1 x2 M) ∧ (¬ x2 ≤ x3 → wp_X7_meet_8 x2 x3 0 M (fun r3 M2 => ((r3 = 0 → wb_X7_overlaps_8_53 k23 k62 Q x2 x3 x1 M2) ∧ (¬ r3 = 0 → wp_X7_meet_8 x2 x3 1 M2 (fun r6 M5 => ((r6 = 0 → wb_X7_overlaps_8_53 k23 k62 Q x2 x3 x1 M5) ∧ (¬ r6 = 0 → wb_X7_overlaps_8_54 k23 k62 Q x2 x3 1 x1 M5))))))))
set_option maxHeartbeats 4000000 in
set_option maxRecDepth 100000 in
theorem tb_X7_overlaps_8_23 {g : fx_Geo} {p : Program} {l : Launch} {e : Env} {s : State} {m : MethodId} {args : Array Value} {below : List Frame} {meth : Method} {c : Code} (C : fx_Cx g p s m args meth c RX7 cX7_overlaps 4 (some .int)) (k23 : Int32 → Int32 → Int32 → fx_Mem → Prop) (k62 : Int32 → Int32 → fx_Mem → Prop) (Q : Int32 → fx_Mem → Prop) (hk23 : ∀ (x1 : Int32) (x2 : Int32) (x3 : Int32) (M : fx_Mem), k23 x1 x2 x3 M → ∀ (H : Heap) (locs : List Loc) (ls : Array Slot), fx_H g s M H locs → lv_has ls 4 [(0, .ref (fx_a g 8)), (1, .int x1), (2, .int x2), (3, .int x3)] → W p l e rm_X7_overlaps_8 s m args below meth c H locs 0 0 (MQ below (va_Qi Q (fx_Pw g) (fx_A g)) args s 0 0 (fx_A g)) (F0 m 23 ls [])) (hk62 : ∀ (x1 : Int32) (x2 : Int32) (M : fx_Mem), k62 x1 x2 M → ∀ (H : Heap) (locs : List Loc) (ls : Array Slot), fx_H g s M H locs → lv_has ls 4 [(0, .ref (fx_a g 8)), (1, .int x1), (2, .int x2)] → W p l e rm_X7_overlaps_8 s m args below meth c H locs 0 0 (MQ below (va_Qi Q (fx_Pw g) (fx_A g)) args s 0 0 (fx_A g)) (F0 m 62 ls [])) (x1 : Int32) (x2 : Int32) (x3 : Int32) (M : fx_Mem) (h : wb_X7_overlaps_8_23 k23 k62 Q x1 x2 x3 M) (H : Heap) (locs : List Loc) (ls : Array Slot) (hH : fx_H g s M H locs) (hl : lv_has ls 4 [(0, .ref (fx_a g 8)), (1, .int x1), (2, .int x2), (3, .int x3)]) : W p l e rm_X7_overlaps_8 s m args below meth c H locs 0 0 (MQ below (va_Qi Q (fx_Pw g) (fx_A g)) args s 0 0 (fx_A g)) (F0 m 23 ls []) := by
  obtain ⟨hx, hb, hr, hml, hown, hts, hlocks, hsz, hK, hG, hSt⟩ := id C
  unfold wb_X7_overlaps_8_23 at h
  refine lv_iload_n hx hb dX7_overlaps_23 rfl (lv_at hl 3 rfl) ?_
  refine lv_iload_n hx hb dX7_overlaps_24 rfl (lv_at hl 2 rfl) ?_
  refine lv_icmp_ge (tgt := 62) hx hb dX7_overlaps_25 (by decide) (fun c1 => ?_) (fun c1 => ?_)
  · replace h := h.1 c1
    exact hk62 x1 x2 M h  H locs ls hH (lv_sub hl [0, 1, 2] rfl)
  · replace h := h.2 c1
    refine lv_iload_n hx hb dX7_overlaps_28 rfl (lv_at hl 1 rfl) ?_
    refine lv_aload_n hx hb dX7_overlaps_29 rfl (lv_at hl 0 rfl) ?_
    refine lv_iload_n hx hb dX7_overlaps_30 rfl (lv_at hl 2 rfl) ?_
    refine lv_iload_n hx hb dX7_overlaps_31 rfl (lv_at hl 3 rfl) ?_
    refine lv_iconst (v := 0) hx hb dX7_overlaps_32 (by decide) ?_
    refine fx_ci hH (fx_runV (As := [.int x2, .int x3, .int 0]) (rest := [.int x1]) C hH (c_X7_meet_8 l C.2.2.2.2.2.2.2.2.2.1 x2 x3 0 M _ h) (fx_cwV 3 hts u_1165 u_1167 us_50 u_8 u_1168 rfl rfl (by decide +kernel) ⟨(Nat.le_of_ble_eq_true rfl), (Nat.le_of_ble_eq_true rfl)⟩) (fx_w8 g M) rfl rfl hl.1 rfl (Nat.le_of_ble_eq_true rfl) dX7_overlaps_33 ⟨(Nat.le_of_ble_eq_true rfl), (Nat.le_of_ble_eq_true rfl)⟩) (fun r3 M2 H locs h hH => ?_)
    refine lv_if_eq (tgt := 53) hx hb dX7_overlaps_36 (by decide) (fun c4 => ?_) (fun c4 => ?_)
    · replace h := h.1 c4
      exact tb_X7_overlaps_8_53 C k23 k62 Q hk23 hk62 x2 x3 x1 M2 h  H locs ls hH (lv_sub hl [0, 2, 3] rfl)
    · replace h := h.2 c4
      refine lv_aload_n hx hb dX7_overlaps_39 rfl (lv_at hl 0 rfl) ?_
      refine lv_iload_n hx hb dX7_overlaps_40 rfl (lv_at hl 2 rfl) ?_
      refine lv_iload_n hx hb dX7_overlaps_41 rfl (lv_at hl 3 rfl) ?_
      refine lv_iconst (v := 1) hx hb dX7_overlaps_42 (by decide) ?_
      refine fx_ci hH (fx_runV (As := [.int x2, .int x3, .int 1]) (rest := [.int x1]) C hH (c_X7_meet_8 l C.2.2.2.2.2.2.2.2.2.1 x2 x3 1 M2 _ h) (fx_cwV 3 hts u_1165 u_1167 us_50 u_8 u_1168 rfl rfl (by decide +kernel) ⟨(Nat.le_of_ble_eq_true rfl), (Nat.le_of_ble_eq_true rfl)⟩) (fx_w8 g M2) rfl rfl hl.1 rfl (Nat.le_of_ble_eq_true rfl) dX7_overlaps_43 ⟨(Nat.le_of_ble_eq_true rfl), (Nat.le_of_ble_eq_true rfl)⟩) (fun r6 M5 H locs h hH => ?_)
      refine lv_if_eq (tgt := 53) hx hb dX7_overlaps_46 (by decide) (fun c7 => ?_) (fun c7 => ?_)
      · replace h := h.1 c7
        exact tb_X7_overlaps_8_53 C k23 k62 Q hk23 hk62 x2 x3 x1 M5 h  H locs ls hH (lv_sub hl [0, 2, 3] rfl)
      · replace h := h.2 c7
        refine lv_iconst (v := 1) hx hb dX7_overlaps_49 (by decide) ?_
        refine lv_goto (tgt := 54) hx hb dX7_overlaps_50 (by decide) ?_
        exact tb_X7_overlaps_8_54 C k23 k62 Q hk23 hk62 x2 x3 1 x1 M5 h  H locs ls hH (lv_sub hl [0, 2, 3] rfl)
def wl_X7_overlaps_8_23 (k62 : Int32 → Int32 → fx_Mem → Prop) (Q : Int32 → fx_Mem → Prop) (n : Nat) (x1 : Int32) (x2 : Int32) (x3 : Int32) (M : fx_Mem) : Prop :=
  fx_lp (α := Int32 × Int32 × Int32 × fx_Mem) (fun k a => wb_X7_overlaps_8_23 (fun x1 x2 x3 M => k (x1, x2, x3, M)) k62 Q a.1 a.2.1 a.2.2.1 a.2.2.2) n (x1, x2, x3, M)
set_option maxHeartbeats 4000000 in
theorem tl_X7_overlaps_8_23 {g : fx_Geo} {p : Program} {l : Launch} {e : Env} {s : State} {m : MethodId} {args : Array Value} {below : List Frame} {meth : Method} {c : Code} (C : fx_Cx g p s m args meth c RX7 cX7_overlaps 4 (some .int)) (k62 : Int32 → Int32 → fx_Mem → Prop) (Q : Int32 → fx_Mem → Prop) (hk62 : ∀ (x1 : Int32) (x2 : Int32) (M : fx_Mem), k62 x1 x2 M → ∀ (H : Heap) (locs : List Loc) (ls : Array Slot), fx_H g s M H locs → lv_has ls 4 [(0, .ref (fx_a g 8)), (1, .int x1), (2, .int x2)] → W p l e rm_X7_overlaps_8 s m args below meth c H locs 0 0 (MQ below (va_Qi Q (fx_Pw g) (fx_A g)) args s 0 0 (fx_A g)) (F0 m 62 ls [])) : ∀ (n : Nat) (x1 : Int32) (x2 : Int32) (x3 : Int32) (M : fx_Mem), wl_X7_overlaps_8_23 k62 Q n x1 x2 x3 M → ∀ (H : Heap) (locs : List Loc) (ls : Array Slot), fx_H g s M H locs → lv_has ls 4 [(0, .ref (fx_a g 8)), (1, .int x1), (2, .int x2), (3, .int x3)] → W p l e rm_X7_overlaps_8 s m args below meth c H locs 0 0 (MQ below (va_Qi Q (fx_Pw g) (fx_A g)) args s 0 0 (fx_A g)) (F0 m 23 ls []) := by
  intro n
  induction n with
  | zero => intro x1 x2 x3 M h; exact False.elim h
  | succ n ih => intro x1 x2 x3 M h  H locs ls hH hl; exact tb_X7_overlaps_8_23 C (wl_X7_overlaps_8_23 k62 Q n) k62 Q ih hk62 x1 x2 x3 M h  H locs ls hH hl
def wb_X7_overlaps_8_62 (k13 : Int32 → Int32 → fx_Mem → Prop) (Q : Int32 → fx_Mem → Prop) (x1 : Int32) (x2 : Int32) (M : fx_Mem) : Prop :=
  ∀ v1 : Int32, v1 = x2 + 1 → k13 x1 v1 M
set_option maxHeartbeats 4000000 in
set_option maxRecDepth 100000 in
theorem tb_X7_overlaps_8_62 {g : fx_Geo} {p : Program} {l : Launch} {e : Env} {s : State} {m : MethodId} {args : Array Value} {below : List Frame} {meth : Method} {c : Code} (C : fx_Cx g p s m args meth c RX7 cX7_overlaps 4 (some .int)) (k13 : Int32 → Int32 → fx_Mem → Prop) (Q : Int32 → fx_Mem → Prop) (hk13 : ∀ (x1 : Int32) (x2 : Int32) (M : fx_Mem), k13 x1 x2 M → ∀ (H : Heap) (locs : List Loc) (ls : Array Slot), fx_H g s M H locs → lv_has ls 4 [(0, .ref (fx_a g 8)), (1, .int x1), (2, .int x2)] → W p l e rm_X7_overlaps_8 s m args below meth c H locs 0 0 (MQ below (va_Qi Q (fx_Pw g) (fx_A g)) args s 0 0 (fx_A g)) (F0 m 13 ls [])) (x1 : Int32) (x2 : Int32) (M : fx_Mem) (h : wb_X7_overlaps_8_62 k13 Q x1 x2 M) (H : Heap) (locs : List Loc) (ls : Array Slot) (hH : fx_H g s M H locs) (hl : lv_has ls 4 [(0, .ref (fx_a g 8)), (1, .int x1), (2, .int x2)]) : W p l e rm_X7_overlaps_8 s m args below meth c H locs 0 0 (MQ below (va_Qi Q (fx_Pw g) (fx_A g)) args s 0 0 (fx_A g)) (F0 m 62 ls []) := by
  obtain ⟨hx, hb, hr, hml, hown, hts, hlocks, hsz, hK, hG, hSt⟩ := id C
  unfold wb_X7_overlaps_8_62 at h
  obtain ⟨v1, ev1⟩ : ∃ z : Int32, z = x2 + 1 := ⟨_, rfl⟩
  refine lv_iinc (v := v1) (lv' := [(2, .int v1), (0, .ref (fx_a g 8)), (1, .int x1)]) hx hb dX7_overlaps_62 hl (k := 2) rfl (by rw [ev1]; rfl) (by decide) rfl (fun ls hl => ?_)
  replace h := h v1 ev1
  refine lv_goto (tgt := 13) hx hb dX7_overlaps_65 (by decide) ?_
  exact hk13 x1 v1 M h  H locs ls hH (lv_sub hl [1, 2, 0] rfl)
def wb_X7_overlaps_8_13 (k13 : Int32 → Int32 → fx_Mem → Prop) (Q : Int32 → fx_Mem → Prop) (x1 : Int32) (x2 : Int32) (M : fx_Mem) : Prop :=
  ((M.1 515 ≤ x2 → Q x1 M) ∧ (¬ M.1 515 ≤ x2 → ∃ n23 : Nat, wl_X7_overlaps_8_23 (wb_X7_overlaps_8_62 k13 Q) Q n23 x1 x2 0 M))
set_option maxHeartbeats 4000000 in
set_option maxRecDepth 100000 in
theorem tb_X7_overlaps_8_13 {g : fx_Geo} {p : Program} {l : Launch} {e : Env} {s : State} {m : MethodId} {args : Array Value} {below : List Frame} {meth : Method} {c : Code} (C : fx_Cx g p s m args meth c RX7 cX7_overlaps 4 (some .int)) (k13 : Int32 → Int32 → fx_Mem → Prop) (Q : Int32 → fx_Mem → Prop) (hk13 : ∀ (x1 : Int32) (x2 : Int32) (M : fx_Mem), k13 x1 x2 M → ∀ (H : Heap) (locs : List Loc) (ls : Array Slot), fx_H g s M H locs → lv_has ls 4 [(0, .ref (fx_a g 8)), (1, .int x1), (2, .int x2)] → W p l e rm_X7_overlaps_8 s m args below meth c H locs 0 0 (MQ below (va_Qi Q (fx_Pw g) (fx_A g)) args s 0 0 (fx_A g)) (F0 m 13 ls [])) (x1 : Int32) (x2 : Int32) (M : fx_Mem) (h : wb_X7_overlaps_8_13 k13 Q x1 x2 M) (H : Heap) (locs : List Loc) (ls : Array Slot) (hH : fx_H g s M H locs) (hl : lv_has ls 4 [(0, .ref (fx_a g 8)), (1, .int x1), (2, .int x2)]) : W p l e rm_X7_overlaps_8 s m args below meth c H locs 0 0 (MQ below (va_Qi Q (fx_Pw g) (fx_A g)) args s 0 0 (fx_A g)) (F0 m 13 ls []) := by
  obtain ⟨hx, hb, hr, hml, hown, hts, hlocks, hsz, hK, hG, hSt⟩ := id C
  unfold wb_X7_overlaps_8_13 at h
  refine lv_iload_n hx hb dX7_overlaps_13 rfl (lv_at hl 2 rfl) ?_
  refine lv_aload_n hx hb dX7_overlaps_14 rfl (lv_at hl 0 rfl) ?_
  refine fx_get C hH (fx_w8 g M) rfl in_X7 3 (by decide) u_826 rfl rfl dX7_overlaps_15 ?_
  refine lv_icmp_ge (tgt := 68) hx hb dX7_overlaps_18 (by decide) (fun c1 => ?_) (fun c1 => ?_)
  · replace h := h.1 c1
    refine lv_iload_n hx hb dX7_overlaps_68 rfl (lv_at hl 1 rfl) ?_
    exact fx_iret C hH h dX7_overlaps_69
  · replace h := h.2 c1
    refine lv_iconst (v := 0) hx hb dX7_overlaps_21 (by decide) ?_
    refine lv_istore_n (lv' := [(3, .int 0), (0, .ref (fx_a g 8)), (1, .int x1), (2, .int x2)]) hx hb dX7_overlaps_22 rfl hl (by decide) rfl (fun ls hl => ?_)
    obtain ⟨n23, h⟩ := h
    exact tl_X7_overlaps_8_23 C (wb_X7_overlaps_8_62 k13 Q) Q (tb_X7_overlaps_8_62 C k13 Q hk13) n23 x1 x2 0 M h  H locs ls hH (lv_sub hl [1, 2, 3, 0] rfl)
def wl_X7_overlaps_8_13 (Q : Int32 → fx_Mem → Prop) (n : Nat) (x1 : Int32) (x2 : Int32) (M : fx_Mem) : Prop :=
  fx_lp (α := Int32 × Int32 × fx_Mem) (fun k a => wb_X7_overlaps_8_13 (fun x1 x2 M => k (x1, x2, M)) Q a.1 a.2.1 a.2.2) n (x1, x2, M)
set_option maxHeartbeats 4000000 in
theorem tl_X7_overlaps_8_13 {g : fx_Geo} {p : Program} {l : Launch} {e : Env} {s : State} {m : MethodId} {args : Array Value} {below : List Frame} {meth : Method} {c : Code} (C : fx_Cx g p s m args meth c RX7 cX7_overlaps 4 (some .int)) (Q : Int32 → fx_Mem → Prop) : ∀ (n : Nat) (x1 : Int32) (x2 : Int32) (M : fx_Mem), wl_X7_overlaps_8_13  Q n x1 x2 M → ∀ (H : Heap) (locs : List Loc) (ls : Array Slot), fx_H g s M H locs → lv_has ls 4 [(0, .ref (fx_a g 8)), (1, .int x1), (2, .int x2)] → W p l e rm_X7_overlaps_8 s m args below meth c H locs 0 0 (MQ below (va_Qi Q (fx_Pw g) (fx_A g)) args s 0 0 (fx_A g)) (F0 m 13 ls []) := by
  intro n
  induction n with
  | zero => intro x1 x2 M h; exact False.elim h
  | succ n ih => intro x1 x2 M h  H locs ls hH hl; exact tb_X7_overlaps_8_13 C (wl_X7_overlaps_8_13  Q n) Q ih x1 x2 M h  H locs ls hH hl
def wp_X7_overlaps_8 (M : fx_Mem) (Q : Int32 → fx_Mem → Prop) : Prop :=
  ∀ M1 : fx_Mem, M1 = fx_si M 512 0 → wp_X7_findLayout_8  M1 (fun M2 => ∃ n13 : Nat, wl_X7_overlaps_8_13 Q n13 0 0 M2)
set_option maxHeartbeats 4000000 in
set_option maxRecDepth 100000 in
theorem c_X7_overlaps_8 (l : Launch) {g : fx_Geo} (hG : fx_Gd g) (M : fx_Mem) (Q : Int32 → fx_Mem → Prop) (h : wp_X7_overlaps_8 M Q) : Met l yX7_overlaps (.code yX7_overlaps cX7_overlaps 4 (some .int) :: fx_U) rm_X7_overlaps_8 (va_Pc [.ref (fx_a g 8)] (fx_At g M)) (va_Qi Q (fx_Pw g) (fx_A g)) 0 0 (fx_A g) := by
  refine Met.ofW (cc := cX7_overlaps) (maxL := 4) (ret := (some .int)) (by decide +kernel) rfl ?_
  intro p e s m args below meth c s₁ B hml hv
  obtain ⟨rfl, hv⟩ := hv
  have hts := atoms_spec (ws := .code yX7_overlaps cX7_overlaps 4 (some .int) :: fx_U) B.pre
  obtain ⟨C, hH⟩ := fx_body (own := RX7) B hml rfl (fun w hw => hts w (List.mem_cons_of_mem _ hw)) hG hv
  replace hts := fun w hw => hts w (List.mem_cons_of_mem _ hw)
  obtain ⟨hx, hb, hr, -, hown, -, hlocks, hsz, hK, -, hSt⟩ := id C
  have hl := lv_entry ([.ref (fx_a g 8)]) (n := 4) (Nat.le_of_ble_eq_true rfl)
  rw [lg_entry_eq]
  generalize (lg_sl ([.ref (fx_a g 8)]) ++ List.replicate (4 - (lg_sl ([.ref (fx_a g 8)])).length) Slot.unset).toArray = ls at hl ⊢
  have hl : lv_has ls 4 [(0, .ref (fx_a g 8))] := hl
  obtain ⟨H, eH⟩ : ∃ H : Heap, H = s.heap := ⟨_, rfl⟩
  obtain ⟨locs, elocs⟩ : ∃ q : List Loc, q = [] := ⟨_, rfl⟩
  rw [← eH, ← elocs] at hH
  show W p l e rm_X7_overlaps_8 s m _ below meth c s.heap [] 0 0 _ _
  rw [← eH, ← elocs]
  unfold wp_X7_overlaps_8 at h
  refine lv_aload_n hx hb dX7_overlaps_0 rfl (lv_at hl 0 rfl) ?_
  refine lv_iconst (v := 0) hx hb dX7_overlaps_1 (by decide) ?_
  refine fx_put C hH (fx_w8 g M) rfl in_X7 tyX7 tyX7_ok nmX7 0 (by decide) u_823 rfl rfl (ty := .int) (by decide +kernel) rfl rfl (Nat.le_of_ble_eq_true rfl) (fx_p8_0 g M 0) dX7_overlaps_2 (fun H locs hH => ?_)
  generalize eM1 : fx_si M 512 0 = M1 at hH
  replace h := h M1 eM1.symm
  refine lv_aload_n hx hb dX7_overlaps_5 rfl (lv_at hl 0 rfl) ?_
  refine fx_cv hH (fx_runV (As := []) (rest := []) C hH (c_X7_findLayout_8 l C.2.2.2.2.2.2.2.2.2.1  M1 _ h) (fx_cwV 0 hts u_1034 u_1036 us_31 u_8 u_1037 rfl rfl (by decide +kernel) ⟨(Nat.le_of_ble_eq_true rfl), (Nat.le_of_ble_eq_true rfl)⟩) (fx_w8 g M1) rfl rfl hl.1 rfl (Nat.le_of_ble_eq_true rfl) dX7_overlaps_6 ⟨(Nat.le_of_ble_eq_true rfl), (Nat.le_of_ble_eq_true rfl)⟩) (fun M2 H locs h hH => ?_)
  refine lv_iconst (v := 0) hx hb dX7_overlaps_9 (by decide) ?_
  refine lv_istore_n (lv' := [(1, .int 0), (0, .ref (fx_a g 8))]) hx hb dX7_overlaps_10 rfl hl (by decide) rfl (fun ls hl => ?_)
  refine lv_iconst (v := 0) hx hb dX7_overlaps_11 (by decide) ?_
  refine lv_istore_n (lv' := [(2, .int 0), (1, .int 0), (0, .ref (fx_a g 8))]) hx hb dX7_overlaps_12 rfl hl (by decide) rfl (fun ls hl => ?_)
  obtain ⟨n13, h⟩ := h
  exact tl_X7_overlaps_8_13 C Q  n13 0 0 M2 h  H locs ls hH (lv_sub hl [2, 1, 0] rfl)
/-! FlexLayoutModel.narrowest(I)I (8,) -/
def rm_X7_narrowest_8 : Room := { frames := 4, cells := 0, slots := 0, locals := 92 }
def wb_X7_narrowest_8_29 (k29 : Int32 → Int32 → fx_Mem → Prop) (k58 : fx_Mem → Prop) (Q : Int32 → fx_Mem → Prop) (x1 : Int32) (x2 : Int32) (M : fx_Mem) : Prop :=
  ((9999 < x2 → k58  M) ∧ (¬ 9999 < x2 → wp_X7_findLines_8 x2 1 M (fun M2 => ((x1 < M2.1 542 → ∀ v4 : Int32, v4 = x2 + 1 → k29 x1 v4 M2) ∧ (¬ x1 < M2.1 542 → Q x2 M2)))))
set_option maxHeartbeats 4000000 in
set_option maxRecDepth 100000 in
theorem tb_X7_narrowest_8_29 {g : fx_Geo} {p : Program} {l : Launch} {e : Env} {s : State} {m : MethodId} {args : Array Value} {below : List Frame} {meth : Method} {c : Code} (C : fx_Cx g p s m args meth c RX7 cX7_narrowest 3 (some .int)) (k29 : Int32 → Int32 → fx_Mem → Prop) (k58 : fx_Mem → Prop) (Q : Int32 → fx_Mem → Prop) (hk29 : ∀ (x1 : Int32) (x2 : Int32) (M : fx_Mem), k29 x1 x2 M → ∀ (H : Heap) (locs : List Loc) (ls : Array Slot), fx_H g s M H locs → lv_has ls 3 [(0, .ref (fx_a g 8)), (1, .int x1), (2, .int x2)] → W p l e rm_X7_narrowest_8 s m args below meth c H locs 0 0 (MQ below (va_Qi Q (fx_Pw g) (fx_A g)) args s 0 0 (fx_A g)) (F0 m 29 ls [])) (hk58 : ∀ (M : fx_Mem), k58 M → ∀ (H : Heap) (locs : List Loc) (ls : Array Slot), fx_H g s M H locs → lv_has ls 3 [(0, .ref (fx_a g 8))] → W p l e rm_X7_narrowest_8 s m args below meth c H locs 0 0 (MQ below (va_Qi Q (fx_Pw g) (fx_A g)) args s 0 0 (fx_A g)) (F0 m 58 ls [])) (x1 : Int32) (x2 : Int32) (M : fx_Mem) (h : wb_X7_narrowest_8_29 k29 k58 Q x1 x2 M) (H : Heap) (locs : List Loc) (ls : Array Slot) (hH : fx_H g s M H locs) (hl : lv_has ls 3 [(0, .ref (fx_a g 8)), (1, .int x1), (2, .int x2)]) : W p l e rm_X7_narrowest_8 s m args below meth c H locs 0 0 (MQ below (va_Qi Q (fx_Pw g) (fx_A g)) args s 0 0 (fx_A g)) (F0 m 29 ls []) := by
  obtain ⟨hx, hb, hr, hml, hown, hts, hlocks, hsz, hK, hG, hSt⟩ := id C
  unfold wb_X7_narrowest_8_29 at h
  refine lv_iload_n hx hb dX7_narrowest_29 rfl (lv_at hl 2 rfl) ?_
  refine lv_sipush (v := 9999) hx hb dX7_narrowest_30 (by decide) ?_
  refine lv_icmp_gt (tgt := 58) hx hb dX7_narrowest_33 (by decide) (fun c1 => ?_) (fun c1 => ?_)
  · replace h := h.1 c1
    exact hk58  M h  H locs ls hH (lv_sub hl [0] rfl)
  · replace h := h.2 c1
    refine lv_aload_n hx hb dX7_narrowest_36 rfl (lv_at hl 0 rfl) ?_
    refine lv_iload_n hx hb dX7_narrowest_37 rfl (lv_at hl 2 rfl) ?_
    refine lv_iconst (v := 1) hx hb dX7_narrowest_38 (by decide) ?_
    refine fx_cv hH (fx_runV (As := [.int x2, .int 1]) (rest := []) C hH (c_X7_findLines_8 l C.2.2.2.2.2.2.2.2.2.1 x2 1 M _ h) (fx_cwV 2 hts u_1042 u_1044 us_33 u_8 u_1045 rfl rfl (by decide +kernel) ⟨(Nat.le_of_ble_eq_true rfl), (Nat.le_of_ble_eq_true rfl)⟩) (fx_w8 g M) rfl rfl hl.1 rfl (Nat.le_of_ble_eq_true rfl) dX7_narrowest_39 ⟨(Nat.le_of_ble_eq_true rfl), (Nat.le_of_ble_eq_true rfl)⟩) (fun M2 H locs h hH => ?_)
    refine lv_aload_n hx hb dX7_narrowest_42 rfl (lv_at hl 0 rfl) ?_
    refine fx_get C hH (fx_w8 g M2) rfl in_X7 30 (by decide) u_853 rfl rfl dX7_narrowest_43 ?_
    refine lv_iload_n hx hb dX7_narrowest_46 rfl (lv_at hl 1 rfl) ?_
    refine lv_icmp_gt (tgt := 52) hx hb dX7_narrowest_47 (by decide) (fun c3 => ?_) (fun c3 => ?_)
    · replace h := h.1 c3
      obtain ⟨v4, ev4⟩ : ∃ z : Int32, z = x2 + 1 := ⟨_, rfl⟩
      refine lv_iinc (v := v4) (lv' := [(2, .int v4), (0, .ref (fx_a g 8)), (1, .int x1)]) hx hb dX7_narrowest_52 hl (k := 2) rfl (by rw [ev4]; rfl) (by decide) rfl (fun ls hl => ?_)
      replace h := h v4 ev4
      refine lv_goto (tgt := 29) hx hb dX7_narrowest_55 (by decide) ?_
      exact hk29 x1 v4 M2 h  H locs ls hH (lv_sub hl [1, 2, 0] rfl)
    · replace h := h.2 c3
      refine lv_iload_n hx hb dX7_narrowest_50 rfl (lv_at hl 2 rfl) ?_
      exact fx_iret C hH h dX7_narrowest_51
def wl_X7_narrowest_8_29 (k58 : fx_Mem → Prop) (Q : Int32 → fx_Mem → Prop) (n : Nat) (x1 : Int32) (x2 : Int32) (M : fx_Mem) : Prop :=
  fx_lp (α := Int32 × Int32 × fx_Mem) (fun k a => wb_X7_narrowest_8_29 (fun x1 x2 M => k (x1, x2, M)) k58 Q a.1 a.2.1 a.2.2) n (x1, x2, M)
set_option maxHeartbeats 4000000 in
theorem tl_X7_narrowest_8_29 {g : fx_Geo} {p : Program} {l : Launch} {e : Env} {s : State} {m : MethodId} {args : Array Value} {below : List Frame} {meth : Method} {c : Code} (C : fx_Cx g p s m args meth c RX7 cX7_narrowest 3 (some .int)) (k58 : fx_Mem → Prop) (Q : Int32 → fx_Mem → Prop) (hk58 : ∀ (M : fx_Mem), k58  M → ∀ (H : Heap) (locs : List Loc) (ls : Array Slot), fx_H g s M H locs → lv_has ls 3 [(0, .ref (fx_a g 8))] → W p l e rm_X7_narrowest_8 s m args below meth c H locs 0 0 (MQ below (va_Qi Q (fx_Pw g) (fx_A g)) args s 0 0 (fx_A g)) (F0 m 58 ls [])) : ∀ (n : Nat) (x1 : Int32) (x2 : Int32) (M : fx_Mem), wl_X7_narrowest_8_29 k58 Q n x1 x2 M → ∀ (H : Heap) (locs : List Loc) (ls : Array Slot), fx_H g s M H locs → lv_has ls 3 [(0, .ref (fx_a g 8)), (1, .int x1), (2, .int x2)] → W p l e rm_X7_narrowest_8 s m args below meth c H locs 0 0 (MQ below (va_Qi Q (fx_Pw g) (fx_A g)) args s 0 0 (fx_A g)) (F0 m 29 ls []) := by
  intro n
  induction n with
  | zero => intro x1 x2 M h; exact False.elim h
  | succ n ih => intro x1 x2 M h  H locs ls hH hl; exact tb_X7_narrowest_8_29 C (wl_X7_narrowest_8_29 k58 Q n) k58 Q ih hk58 x1 x2 M h  H locs ls hH hl
def wb_X7_narrowest_8_58 (Q : Int32 → fx_Mem → Prop) (M : fx_Mem) : Prop :=
  wp_X7_fails_8 2 M (fun r2 M1 => Q r2 M1)
set_option maxHeartbeats 4000000 in
set_option maxRecDepth 100000 in
theorem tb_X7_narrowest_8_58 {g : fx_Geo} {p : Program} {l : Launch} {e : Env} {s : State} {m : MethodId} {args : Array Value} {below : List Frame} {meth : Method} {c : Code} (C : fx_Cx g p s m args meth c RX7 cX7_narrowest 3 (some .int)) (Q : Int32 → fx_Mem → Prop) (M : fx_Mem) (h : wb_X7_narrowest_8_58 Q M) (H : Heap) (locs : List Loc) (ls : Array Slot) (hH : fx_H g s M H locs) (hl : lv_has ls 3 [(0, .ref (fx_a g 8))]) : W p l e rm_X7_narrowest_8 s m args below meth c H locs 0 0 (MQ below (va_Qi Q (fx_Pw g) (fx_A g)) args s 0 0 (fx_A g)) (F0 m 58 ls []) := by
  obtain ⟨hx, hb, hr, hml, hown, hts, hlocks, hsz, hK, hG, hSt⟩ := id C
  unfold wb_X7_narrowest_8_58 at h
  refine lv_aload_n hx hb dX7_narrowest_58 rfl (lv_at hl 0 rfl) ?_
  refine lv_iconst (v := 2) hx hb dX7_narrowest_59 (by decide) ?_
  refine fx_ci hH (fx_runV (As := [.int 2]) (rest := []) C hH (c_X7_fails_8 l C.2.2.2.2.2.2.2.2.2.1 2 M _ h) (fx_cwV 1 hts u_945 u_947 us_24 u_8 u_948 rfl rfl (by decide +kernel) ⟨(Nat.le_of_ble_eq_true rfl), (Nat.le_of_ble_eq_true rfl)⟩) (fx_w8 g M) rfl rfl hl.1 rfl (Nat.le_of_ble_eq_true rfl) dX7_narrowest_60 ⟨(Nat.le_of_ble_eq_true rfl), (Nat.le_of_ble_eq_true rfl)⟩) (fun r2 M1 H locs h hH => ?_)
  exact fx_iret C hH h dX7_narrowest_63
def wp_X7_narrowest_8 (a1 : Int32) (M : fx_Mem) (Q : Int32 → fx_Mem → Prop) : Prop :=
  wp_X7_isBetween a1.toInt64 1 20 M (fun r2 M1 => ((r2 = 0 → wp_X7_fails_8 1 M1 (fun r7 M6 => Q r7 M6)) ∧ (¬ r2 = 0 → ∀ M4 : fx_Mem, M4 = fx_si M1 512 0 → wp_X7_findSequence_8  M4 (fun M5 => ∃ n29 : Nat, wl_X7_narrowest_8_29 (wb_X7_narrowest_8_58 Q) Q n29 a1 0 M5))))
set_option maxHeartbeats 4000000 in
set_option maxRecDepth 100000 in
theorem c_X7_narrowest_8 (l : Launch) {g : fx_Geo} (hG : fx_Gd g) (a1 : Int32) (M : fx_Mem) (Q : Int32 → fx_Mem → Prop) (h : wp_X7_narrowest_8 a1 M Q) : Met l yX7_narrowest (.code yX7_narrowest cX7_narrowest 3 (some .int) :: fx_U) rm_X7_narrowest_8 (va_Pc [.ref (fx_a g 8), .int a1] (fx_At g M)) (va_Qi Q (fx_Pw g) (fx_A g)) 0 0 (fx_A g) := by
  refine Met.ofW (cc := cX7_narrowest) (maxL := 3) (ret := (some .int)) (by decide +kernel) rfl ?_
  intro p e s m args below meth c s₁ B hml hv
  obtain ⟨rfl, hv⟩ := hv
  have hts := atoms_spec (ws := .code yX7_narrowest cX7_narrowest 3 (some .int) :: fx_U) B.pre
  obtain ⟨C, hH⟩ := fx_body (own := RX7) B hml rfl (fun w hw => hts w (List.mem_cons_of_mem _ hw)) hG hv
  replace hts := fun w hw => hts w (List.mem_cons_of_mem _ hw)
  obtain ⟨hx, hb, hr, -, hown, -, hlocks, hsz, hK, -, hSt⟩ := id C
  have hl := lv_entry ([.ref (fx_a g 8), .int a1]) (n := 3) (Nat.le_of_ble_eq_true rfl)
  rw [lg_entry_eq]
  generalize (lg_sl ([.ref (fx_a g 8), .int a1]) ++ List.replicate (3 - (lg_sl ([.ref (fx_a g 8), .int a1])).length) Slot.unset).toArray = ls at hl ⊢
  have hl : lv_has ls 3 [(0, .ref (fx_a g 8)), (1, .int a1)] := hl
  obtain ⟨H, eH⟩ : ∃ H : Heap, H = s.heap := ⟨_, rfl⟩
  obtain ⟨locs, elocs⟩ : ∃ q : List Loc, q = [] := ⟨_, rfl⟩
  rw [← eH, ← elocs] at hH
  show W p l e rm_X7_narrowest_8 s m _ below meth c s.heap [] 0 0 _ _
  rw [← eH, ← elocs]
  unfold wp_X7_narrowest_8 at h
  refine lv_iload_n hx hb dX7_narrowest_0 rfl (lv_at hl 1 rfl) ?_
  refine lv_i2l hx hb dX7_narrowest_1 rfl ?_
  refine lv_lconst (v := 1) hx hb dX7_narrowest_2 (by decide) ?_
  refine lv_ldc2 hx hb hown (hts _ u_1173) dX7_narrowest_3 ?_
  refine fx_ci hH (fx_runS (As := [.long a1.toInt64, .long 1, .long 20]) (rest := []) C hH (c_X7_isBetween l C.2.2.2.2.2.2.2.2.2.1 a1.toInt64 1 20 M _ h) (fx_cwS 3 hts u_938 u_939 u_8 u_940 rfl rfl (by decide +kernel) ⟨(Nat.le_of_ble_eq_true rfl), (Nat.le_of_ble_eq_true rfl)⟩) rfl hl.1 rfl (Nat.le_of_ble_eq_true rfl) dX7_narrowest_6 ⟨(Nat.le_of_ble_eq_true rfl), (Nat.le_of_ble_eq_true rfl)⟩) (fun r2 M1 H locs h hH => ?_)
  refine lv_if_ne (tgt := 18) hx hb dX7_narrowest_9 (by decide) (fun c3 => ?_) (fun c3 => ?_)
  · replace h := h.2 c3
    refine lv_aload_n hx hb dX7_narrowest_18 rfl (lv_at hl 0 rfl) ?_
    refine lv_iconst (v := 0) hx hb dX7_narrowest_19 (by decide) ?_
    refine fx_put C hH (fx_w8 g M1) rfl in_X7 tyX7 tyX7_ok nmX7 0 (by decide) u_823 rfl rfl (ty := .int) (by decide +kernel) rfl rfl (Nat.le_of_ble_eq_true rfl) (fx_p8_0 g M1 0) dX7_narrowest_20 (fun H locs hH => ?_)
    generalize eM4 : fx_si M1 512 0 = M4 at hH
    replace h := h M4 eM4.symm
    refine lv_aload_n hx hb dX7_narrowest_23 rfl (lv_at hl 0 rfl) ?_
    refine fx_cv hH (fx_runV (As := []) (rest := []) C hH (c_X7_findSequence_8 l C.2.2.2.2.2.2.2.2.2.1  M4 _ h) (fx_cwV 0 hts u_1038 u_1040 us_32 u_8 u_1041 rfl rfl (by decide +kernel) ⟨(Nat.le_of_ble_eq_true rfl), (Nat.le_of_ble_eq_true rfl)⟩) (fx_w8 g M4) rfl rfl hl.1 rfl (Nat.le_of_ble_eq_true rfl) dX7_narrowest_24 ⟨(Nat.le_of_ble_eq_true rfl), (Nat.le_of_ble_eq_true rfl)⟩) (fun M5 H locs h hH => ?_)
    refine lv_iconst (v := 0) hx hb dX7_narrowest_27 (by decide) ?_
    refine lv_istore_n (lv' := [(2, .int 0), (0, .ref (fx_a g 8)), (1, .int a1)]) hx hb dX7_narrowest_28 rfl hl (by decide) rfl (fun ls hl => ?_)
    obtain ⟨n29, h⟩ := h
    exact tl_X7_narrowest_8_29 C (wb_X7_narrowest_8_58 Q) Q (tb_X7_narrowest_8_58 C Q ) n29 a1 0 M5 h  H locs ls hH (lv_sub hl [1, 2, 0] rfl)
  · replace h := h.1 c3
    refine lv_aload_n hx hb dX7_narrowest_12 rfl (lv_at hl 0 rfl) ?_
    refine lv_iconst (v := 1) hx hb dX7_narrowest_13 (by decide) ?_
    refine fx_ci hH (fx_runV (As := [.int 1]) (rest := []) C hH (c_X7_fails_8 l C.2.2.2.2.2.2.2.2.2.1 1 M1 _ h) (fx_cwV 1 hts u_945 u_947 us_24 u_8 u_948 rfl rfl (by decide +kernel) ⟨(Nat.le_of_ble_eq_true rfl), (Nat.le_of_ble_eq_true rfl)⟩) (fx_w8 g M1) rfl rfl hl.1 rfl (Nat.le_of_ble_eq_true rfl) dX7_narrowest_14 ⟨(Nat.le_of_ble_eq_true rfl), (Nat.le_of_ble_eq_true rfl)⟩) (fun r7 M6 H locs h hH => ?_)
    exact fx_iret C hH h dX7_narrowest_17
/-! FlexLayoutModel.share(III)I (8,) -/
def rm_X7_share_8 : Room := { frames := 1, cells := 0, slots := 0, locals := 29 }
def wb_X7_share_8_29 (Q : Int32 → fx_Mem → Prop) (M : fx_Mem) : Prop :=
  wp_X7_fails_8 1 M (fun r2 M1 => Q r2 M1)
set_option maxHeartbeats 4000000 in
set_option maxRecDepth 100000 in
theorem tb_X7_share_8_29 {g : fx_Geo} {p : Program} {l : Launch} {e : Env} {s : State} {m : MethodId} {args : Array Value} {below : List Frame} {meth : Method} {c : Code} (C : fx_Cx g p s m args meth c RX7 cX7_share 7 (some .int)) (Q : Int32 → fx_Mem → Prop) (M : fx_Mem) (h : wb_X7_share_8_29 Q M) (H : Heap) (locs : List Loc) (ls : Array Slot) (hH : fx_H g s M H locs) (hl : lv_has ls 7 [(0, .ref (fx_a g 8))]) : W p l e rm_X7_share_8 s m args below meth c H locs 0 0 (MQ below (va_Qi Q (fx_Pw g) (fx_A g)) args s 0 0 (fx_A g)) (F0 m 29 ls []) := by
  obtain ⟨hx, hb, hr, hml, hown, hts, hlocks, hsz, hK, hG, hSt⟩ := id C
  unfold wb_X7_share_8_29 at h
  refine lv_aload_n hx hb dX7_share_29 rfl (lv_at hl 0 rfl) ?_
  refine lv_iconst (v := 1) hx hb dX7_share_30 (by decide) ?_
  refine fx_ci hH (fx_runV (As := [.int 1]) (rest := []) C hH (c_X7_fails_8 l C.2.2.2.2.2.2.2.2.2.1 1 M _ h) (fx_cwV 1 hts u_945 u_947 us_24 u_8 u_948 rfl rfl (by decide +kernel) ⟨(Nat.le_of_ble_eq_true rfl), (Nat.le_of_ble_eq_true rfl)⟩) (fx_w8 g M) rfl rfl hl.1 rfl (Nat.le_of_ble_eq_true rfl) dX7_share_31 ⟨(Nat.le_of_ble_eq_true rfl), (Nat.le_of_ble_eq_true rfl)⟩) (fun r2 M1 H locs h hH => ?_)
  exact fx_iret C hH h dX7_share_34
def wb_X7_share_8_55 (k55 : Int32 → Int32 → Int32 → Int64 → Int32 → fx_Mem → Prop) (k97 : Int32 → Int32 → Int64 → fx_Mem → Prop) (Q : Int32 → fx_Mem → Prop) (x1 : Int32) (x2 : Int32) (x3 : Int32) (y4 : Int64) (x6 : Int32) (M : fx_Mem) : Prop :=
  ((M.1 515 ≤ x6 → k97 x1 x3 y4 M) ∧ (¬ M.1 515 ≤ x6 → wp_X7_of_8 x6 x2 M (fun r3 M2 => vp_in x6 20 ∧ ∀ M5 : fx_Mem, M5 = fx_sl M2 36 x6.toNatClampNeg r3.toInt64 → vp_in x6 20 ∧ ∀ w7 : Int64, w7 = y4 + (M5.2.2 36 x6.toNatClampNeg) → ∀ v8 : Int32, v8 = x6 + 1 → k55 x1 x2 x3 w7 v8 M5)))
set_option maxHeartbeats 4000000 in
set_option maxRecDepth 100000 in
theorem tb_X7_share_8_55 {g : fx_Geo} {p : Program} {l : Launch} {e : Env} {s : State} {m : MethodId} {args : Array Value} {below : List Frame} {meth : Method} {c : Code} (C : fx_Cx g p s m args meth c RX7 cX7_share 7 (some .int)) (k55 : Int32 → Int32 → Int32 → Int64 → Int32 → fx_Mem → Prop) (k97 : Int32 → Int32 → Int64 → fx_Mem → Prop) (Q : Int32 → fx_Mem → Prop) (hk55 : ∀ (x1 : Int32) (x2 : Int32) (x3 : Int32) (y4 : Int64) (x6 : Int32) (M : fx_Mem), k55 x1 x2 x3 y4 x6 M → ∀ (H : Heap) (locs : List Loc) (ls : Array Slot), fx_H g s M H locs → lv_has ls 7 [(0, .ref (fx_a g 8)), (1, .int x1), (2, .int x2), (3, .int x3), (4, .long y4), (6, .int x6)] → W p l e rm_X7_share_8 s m args below meth c H locs 0 0 (MQ below (va_Qi Q (fx_Pw g) (fx_A g)) args s 0 0 (fx_A g)) (F0 m 55 ls [])) (hk97 : ∀ (x1 : Int32) (x3 : Int32) (y4 : Int64) (M : fx_Mem), k97 x1 x3 y4 M → ∀ (H : Heap) (locs : List Loc) (ls : Array Slot), fx_H g s M H locs → lv_has ls 7 [(0, .ref (fx_a g 8)), (1, .int x1), (3, .int x3), (4, .long y4)] → W p l e rm_X7_share_8 s m args below meth c H locs 0 0 (MQ below (va_Qi Q (fx_Pw g) (fx_A g)) args s 0 0 (fx_A g)) (F0 m 97 ls [])) (x1 : Int32) (x2 : Int32) (x3 : Int32) (y4 : Int64) (x6 : Int32) (M : fx_Mem) (h : wb_X7_share_8_55 k55 k97 Q x1 x2 x3 y4 x6 M) (H : Heap) (locs : List Loc) (ls : Array Slot) (hH : fx_H g s M H locs) (hl : lv_has ls 7 [(0, .ref (fx_a g 8)), (1, .int x1), (2, .int x2), (3, .int x3), (4, .long y4), (6, .int x6)]) : W p l e rm_X7_share_8 s m args below meth c H locs 0 0 (MQ below (va_Qi Q (fx_Pw g) (fx_A g)) args s 0 0 (fx_A g)) (F0 m 55 ls []) := by
  obtain ⟨hx, hb, hr, hml, hown, hts, hlocks, hsz, hK, hG, hSt⟩ := id C
  unfold wb_X7_share_8_55 at h
  refine lv_iload hx hb dX7_share_55 (lv_at hl 5 rfl) ?_
  refine lv_aload_n hx hb dX7_share_57 rfl (lv_at hl 0 rfl) ?_
  refine fx_get C hH (fx_w8 g M) rfl in_X7 3 (by decide) u_826 rfl rfl dX7_share_58 ?_
  refine lv_icmp_ge (tgt := 97) hx hb dX7_share_61 (by decide) (fun c1 => ?_) (fun c1 => ?_)
  · replace h := h.1 c1
    exact hk97 x1 x3 y4 M h  H locs ls hH (lv_sub hl [0, 1, 3, 4] rfl)
  · replace h := h.2 c1
    refine lv_aload_n hx hb dX7_share_64 rfl (lv_at hl 0 rfl) ?_
    refine fx_get C hH (fx_w8 g M) rfl in_X7 11 (by decide) u_834 rfl rfl dX7_share_65 ?_
    refine lv_iload hx hb dX7_share_68 (lv_at hl 5 rfl) ?_
    refine lv_aload_n hx hb dX7_share_70 rfl (lv_at hl 0 rfl) ?_
    refine lv_iload hx hb dX7_share_71 (lv_at hl 5 rfl) ?_
    refine lv_iload_n hx hb dX7_share_73 rfl (lv_at hl 2 rfl) ?_
    refine fx_ci hH (fx_runV (As := [.int x6, .int x2]) (rest := [.int x6, .ref (fx_a g 36)]) C hH (c_X7_of_8 l C.2.2.2.2.2.2.2.2.2.1 x6 x2 M _ h) (fx_cwV 2 hts u_997 u_999 us_27 u_8 u_1000 rfl rfl (by decide +kernel) ⟨(Nat.le_of_ble_eq_true rfl), (Nat.le_of_ble_eq_true rfl)⟩) (fx_w8 g M) rfl rfl hl.1 rfl (Nat.le_of_ble_eq_true rfl) dX7_share_74 ⟨(Nat.le_of_ble_eq_true rfl), (Nat.le_of_ble_eq_true rfl)⟩) (fun r3 M2 H locs h hH => ?_)
    refine lv_i2l hx hb dX7_share_77 rfl ?_
    obtain ⟨hi4, h⟩ := h
    refine fx_last (j := x6.toNatClampNeg) (M' := fx_sl M2 36 x6.toNatClampNeg r3.toInt64) C hH 36 rfl (fx_w36 g M2) (fx_p36 g M2 _ _) hi4 dX7_share_78 (fun H locs hH => ?_)
    generalize eM5 : fx_sl M2 36 x6.toNatClampNeg r3.toInt64 = M5 at hH
    replace h := h M5 eM5.symm
    refine lv_lload hx hb dX7_share_79 (lv_at hl 4 rfl) ?_
    refine lv_aload_n hx hb dX7_share_81 rfl (lv_at hl 0 rfl) ?_
    refine fx_get C hH (fx_w8 g M5) rfl in_X7 11 (by decide) u_834 rfl rfl dX7_share_82 ?_
    refine lv_iload hx hb dX7_share_85 (lv_at hl 5 rfl) ?_
    obtain ⟨hi6, h⟩ := h
    refine fx_lald (j := x6.toNatClampNeg) C hH 36 (fx_w36 g M5) rfl hi6 dX7_share_87 ?_
    refine lv_ladd hx hb dX7_share_88 ?_
    refine lv_topl (fun w7 ew7 => ?_)
    replace h := h w7 ew7
    refine lv_lstore (lv' := [(4, .long w7), (0, .ref (fx_a g 8)), (1, .int x1), (2, .int x2), (3, .int x3), (6, .int x6)]) hx hb dX7_share_89 hl (by decide) rfl (fun ls hl => ?_)
    obtain ⟨v8, ev8⟩ : ∃ z : Int32, z = x6 + 1 := ⟨_, rfl⟩
    refine lv_iinc (v := v8) (lv' := [(6, .int v8), (4, .long w7), (0, .ref (fx_a g 8)), (1, .int x1), (2, .int x2), (3, .int x3)]) hx hb dX7_share_91 hl (k := 5) rfl (by rw [ev8]; rfl) (by decide) rfl (fun ls hl => ?_)
    replace h := h v8 ev8
    refine lv_goto (tgt := 55) hx hb dX7_share_94 (by decide) ?_
    exact hk55 x1 x2 x3 w7 v8 M5 h  H locs ls hH (lv_sub hl [2, 3, 4, 5, 1, 0] rfl)
def wl_X7_share_8_55 (k97 : Int32 → Int32 → Int64 → fx_Mem → Prop) (Q : Int32 → fx_Mem → Prop) (n : Nat) (x1 : Int32) (x2 : Int32) (x3 : Int32) (y4 : Int64) (x6 : Int32) (M : fx_Mem) : Prop :=
  fx_lp (α := Int32 × Int32 × Int32 × Int64 × Int32 × fx_Mem) (fun k a => wb_X7_share_8_55 (fun x1 x2 x3 y4 x6 M => k (x1, x2, x3, y4, x6, M)) k97 Q a.1 a.2.1 a.2.2.1 a.2.2.2.1 a.2.2.2.2.1 a.2.2.2.2.2) n (x1, x2, x3, y4, x6, M)
set_option maxHeartbeats 4000000 in
theorem tl_X7_share_8_55 {g : fx_Geo} {p : Program} {l : Launch} {e : Env} {s : State} {m : MethodId} {args : Array Value} {below : List Frame} {meth : Method} {c : Code} (C : fx_Cx g p s m args meth c RX7 cX7_share 7 (some .int)) (k97 : Int32 → Int32 → Int64 → fx_Mem → Prop) (Q : Int32 → fx_Mem → Prop) (hk97 : ∀ (x1 : Int32) (x3 : Int32) (y4 : Int64) (M : fx_Mem), k97 x1 x3 y4 M → ∀ (H : Heap) (locs : List Loc) (ls : Array Slot), fx_H g s M H locs → lv_has ls 7 [(0, .ref (fx_a g 8)), (1, .int x1), (3, .int x3), (4, .long y4)] → W p l e rm_X7_share_8 s m args below meth c H locs 0 0 (MQ below (va_Qi Q (fx_Pw g) (fx_A g)) args s 0 0 (fx_A g)) (F0 m 97 ls [])) : ∀ (n : Nat) (x1 : Int32) (x2 : Int32) (x3 : Int32) (y4 : Int64) (x6 : Int32) (M : fx_Mem), wl_X7_share_8_55 k97 Q n x1 x2 x3 y4 x6 M → ∀ (H : Heap) (locs : List Loc) (ls : Array Slot), fx_H g s M H locs → lv_has ls 7 [(0, .ref (fx_a g 8)), (1, .int x1), (2, .int x2), (3, .int x3), (4, .long y4), (6, .int x6)] → W p l e rm_X7_share_8 s m args below meth c H locs 0 0 (MQ below (va_Qi Q (fx_Pw g) (fx_A g)) args s 0 0 (fx_A g)) (F0 m 55 ls []) := by
  intro n
  induction n with
  | zero => intro x1 x2 x3 y4 x6 M h; exact False.elim h
  | succ n ih => intro x1 x2 x3 y4 x6 M h  H locs ls hH hl; exact tb_X7_share_8_55 C (wl_X7_share_8_55 k97 Q n) k97 Q ih hk97 x1 x2 x3 y4 x6 M h  H locs ls hH hl
def wb_X7_share_8_97 (Q : Int32 → fx_Mem → Prop) (x1 : Int32) (x3 : Int32) (y4 : Int64) (M : fx_Mem) : Prop :=
  ((lg_cmp y4 0 = 0 → wp_X7_fails_8 3 M (fun r6 M5 => Q r6 M5)) ∧ (¬ lg_cmp y4 0 = 0 → ∀ M2 : fx_Mem, M2 = fx_si M 512 0 → wp_X7_divides_8 x1.toInt64 (M2.1 515) M2 (fun M3 => vp_in x3 20 ∧ Q ((M3.2.2 37 x3.toNatClampNeg).toInt32) M3)))
set_option maxHeartbeats 4000000 in
set_option maxRecDepth 100000 in
theorem tb_X7_share_8_97 {g : fx_Geo} {p : Program} {l : Launch} {e : Env} {s : State} {m : MethodId} {args : Array Value} {below : List Frame} {meth : Method} {c : Code} (C : fx_Cx g p s m args meth c RX7 cX7_share 7 (some .int)) (Q : Int32 → fx_Mem → Prop) (x1 : Int32) (x3 : Int32) (y4 : Int64) (M : fx_Mem) (h : wb_X7_share_8_97 Q x1 x3 y4 M) (H : Heap) (locs : List Loc) (ls : Array Slot) (hH : fx_H g s M H locs) (hl : lv_has ls 7 [(0, .ref (fx_a g 8)), (1, .int x1), (3, .int x3), (4, .long y4)]) : W p l e rm_X7_share_8 s m args below meth c H locs 0 0 (MQ below (va_Qi Q (fx_Pw g) (fx_A g)) args s 0 0 (fx_A g)) (F0 m 97 ls []) := by
  obtain ⟨hx, hb, hr, hml, hown, hts, hlocks, hsz, hK, hG, hSt⟩ := id C
  unfold wb_X7_share_8_97 at h
  refine lv_lload hx hb dX7_share_97 (lv_at hl 3 rfl) ?_
  refine lv_lconst (v := 0) hx hb dX7_share_99 (by decide) ?_
  refine W.lcmp hx hb dX7_share_100 ?_
  refine lv_if_ne (tgt := 110) hx hb dX7_share_101 (by decide) (fun c1 => ?_) (fun c1 => ?_)
  · replace h := h.2 c1
    refine lv_aload_n hx hb dX7_share_110 rfl (lv_at hl 0 rfl) ?_
    refine lv_iconst (v := 0) hx hb dX7_share_111 (by decide) ?_
    refine fx_put C hH (fx_w8 g M) rfl in_X7 tyX7 tyX7_ok nmX7 0 (by decide) u_823 rfl rfl (ty := .int) (by decide +kernel) rfl rfl (Nat.le_of_ble_eq_true rfl) (fx_p8_0 g M 0) dX7_share_112 (fun H locs hH => ?_)
    generalize eM2 : fx_si M 512 0 = M2 at hH
    replace h := h M2 eM2.symm
    refine lv_aload_n hx hb dX7_share_115 rfl (lv_at hl 0 rfl) ?_
    refine lv_iload_n hx hb dX7_share_116 rfl (lv_at hl 1 rfl) ?_
    refine lv_i2l hx hb dX7_share_117 rfl ?_
    refine lv_aload_n hx hb dX7_share_118 rfl (lv_at hl 0 rfl) ?_
    refine fx_get C hH (fx_w8 g M2) rfl in_X7 3 (by decide) u_826 rfl rfl dX7_share_119 ?_
    refine fx_cv hH (fx_runV (As := [.long x1.toInt64, .int (M2.1 515)]) (rest := []) C hH (c_X7_divides_8 l C.2.2.2.2.2.2.2.2.2.1 x1.toInt64 (M2.1 515) M2 _ h) (fx_cwV 2 hts u_1078 u_1080 us_42 u_8 u_1081 rfl rfl (by decide +kernel) ⟨(Nat.le_of_ble_eq_true rfl), (Nat.le_of_ble_eq_true rfl)⟩) (fx_w8 g M2) rfl rfl hl.1 rfl (Nat.le_of_ble_eq_true rfl) dX7_share_122 ⟨(Nat.le_of_ble_eq_true rfl), (Nat.le_of_ble_eq_true rfl)⟩) (fun M3 H locs h hH => ?_)
    refine lv_aload_n hx hb dX7_share_125 rfl (lv_at hl 0 rfl) ?_
    refine fx_get C hH (fx_w8 g M3) rfl in_X7 12 (by decide) u_835 rfl rfl dX7_share_126 ?_
    refine lv_iload_n hx hb dX7_share_129 rfl (lv_at hl 2 rfl) ?_
    obtain ⟨hi4, h⟩ := h
    refine fx_lald (j := x3.toNatClampNeg) C hH 37 (fx_w37 g M3) rfl hi4 dX7_share_130 ?_
    refine lv_l2i hx hb dX7_share_131 rfl ?_
    exact fx_iret C hH h dX7_share_132
  · replace h := h.1 c1
    refine lv_aload_n hx hb dX7_share_104 rfl (lv_at hl 0 rfl) ?_
    refine lv_iconst (v := 3) hx hb dX7_share_105 (by decide) ?_
    refine fx_ci hH (fx_runV (As := [.int 3]) (rest := []) C hH (c_X7_fails_8 l C.2.2.2.2.2.2.2.2.2.1 3 M _ h) (fx_cwV 1 hts u_945 u_947 us_24 u_8 u_948 rfl rfl (by decide +kernel) ⟨(Nat.le_of_ble_eq_true rfl), (Nat.le_of_ble_eq_true rfl)⟩) (fx_w8 g M) rfl rfl hl.1 rfl (Nat.le_of_ble_eq_true rfl) dX7_share_106 ⟨(Nat.le_of_ble_eq_true rfl), (Nat.le_of_ble_eq_true rfl)⟩) (fun r6 M5 H locs h hH => ?_)
    exact fx_iret C hH h dX7_share_109
def wb_X7_share_8_35 (Q : Int32 → fx_Mem → Prop) (x1 : Int32) (x2 : Int32) (x3 : Int32) (M : fx_Mem) : Prop :=
  wp_X7_isItem_8 x3 M (fun r2 M1 => ((r2 = 0 → wp_X7_fails_8 2 M1 (fun r5 M4 => Q r5 M4)) ∧ (¬ r2 = 0 → ∃ n55 : Nat, wl_X7_share_8_55 (wb_X7_share_8_97 Q) Q n55 x1 x2 x3 0 0 M1)))
set_option maxHeartbeats 4000000 in
set_option maxRecDepth 100000 in
theorem tb_X7_share_8_35 {g : fx_Geo} {p : Program} {l : Launch} {e : Env} {s : State} {m : MethodId} {args : Array Value} {below : List Frame} {meth : Method} {c : Code} (C : fx_Cx g p s m args meth c RX7 cX7_share 7 (some .int)) (Q : Int32 → fx_Mem → Prop) (x1 : Int32) (x2 : Int32) (x3 : Int32) (M : fx_Mem) (h : wb_X7_share_8_35 Q x1 x2 x3 M) (H : Heap) (locs : List Loc) (ls : Array Slot) (hH : fx_H g s M H locs) (hl : lv_has ls 7 [(0, .ref (fx_a g 8)), (1, .int x1), (2, .int x2), (3, .int x3)]) : W p l e rm_X7_share_8 s m args below meth c H locs 0 0 (MQ below (va_Qi Q (fx_Pw g) (fx_A g)) args s 0 0 (fx_A g)) (F0 m 35 ls []) := by
  obtain ⟨hx, hb, hr, hml, hown, hts, hlocks, hsz, hK, hG, hSt⟩ := id C
  unfold wb_X7_share_8_35 at h
  refine lv_aload_n hx hb dX7_share_35 rfl (lv_at hl 0 rfl) ?_
  refine lv_iload_n hx hb dX7_share_36 rfl (lv_at hl 3 rfl) ?_
  refine fx_ci hH (fx_runV (As := [.int x3]) (rest := []) C hH (c_X7_isItem_8 l C.2.2.2.2.2.2.2.2.2.1 x3 M _ h) (fx_cwV 1 hts u_980 u_982 us_26 u_8 u_983 rfl rfl (by decide +kernel) ⟨(Nat.le_of_ble_eq_true rfl), (Nat.le_of_ble_eq_true rfl)⟩) (fx_w8 g M) rfl rfl hl.1 rfl (Nat.le_of_ble_eq_true rfl) dX7_share_37 ⟨(Nat.le_of_ble_eq_true rfl), (Nat.le_of_ble_eq_true rfl)⟩) (fun r2 M1 H locs h hH => ?_)
  refine lv_if_ne (tgt := 49) hx hb dX7_share_40 (by decide) (fun c3 => ?_) (fun c3 => ?_)
  · replace h := h.2 c3
    refine lv_lconst (v := 0) hx hb dX7_share_49 (by decide) ?_
    refine lv_lstore (lv' := [(4, .long 0), (0, .ref (fx_a g 8)), (1, .int x1), (2, .int x2), (3, .int x3)]) hx hb dX7_share_50 hl (by decide) rfl (fun ls hl => ?_)
    refine lv_iconst (v := 0) hx hb dX7_share_52 (by decide) ?_
    refine lv_istore (lv' := [(6, .int 0), (4, .long 0), (0, .ref (fx_a g 8)), (1, .int x1), (2, .int x2), (3, .int x3)]) hx hb dX7_share_53 hl (by decide) rfl (fun ls hl => ?_)
    obtain ⟨n55, h⟩ := h
    exact tl_X7_share_8_55 C (wb_X7_share_8_97 Q) Q (tb_X7_share_8_97 C Q ) n55 x1 x2 x3 0 0 M1 h  H locs ls hH (lv_sub hl [2, 3, 4, 5, 1, 0] rfl)
  · replace h := h.1 c3
    refine lv_aload_n hx hb dX7_share_43 rfl (lv_at hl 0 rfl) ?_
    refine lv_iconst (v := 2) hx hb dX7_share_44 (by decide) ?_
    refine fx_ci hH (fx_runV (As := [.int 2]) (rest := []) C hH (c_X7_fails_8 l C.2.2.2.2.2.2.2.2.2.1 2 M1 _ h) (fx_cwV 1 hts u_945 u_947 us_24 u_8 u_948 rfl rfl (by decide +kernel) ⟨(Nat.le_of_ble_eq_true rfl), (Nat.le_of_ble_eq_true rfl)⟩) (fx_w8 g M1) rfl rfl hl.1 rfl (Nat.le_of_ble_eq_true rfl) dX7_share_45 ⟨(Nat.le_of_ble_eq_true rfl), (Nat.le_of_ble_eq_true rfl)⟩) (fun r5 M4 H locs h hH => ?_)
    exact fx_iret C hH h dX7_share_48
def wp_X7_share_8 (a1 : Int32) (a2 : Int32) (a3 : Int32) (M : fx_Mem) (Q : Int32 → fx_Mem → Prop) : Prop :=
  wp_X7_isBetween a1.toInt64 0 99999 M (fun r2 M1 => ((r2 = 0 → wb_X7_share_8_29 Q  M1) ∧ (¬ r2 = 0 → wp_X7_isBetween a2.toInt64 0 3 M1 (fun r5 M4 => ((r5 = 0 → ((a2 = 5 → wb_X7_share_8_35 Q a1 a2 a3 M4) ∧ (¬ a2 = 5 → wb_X7_share_8_29 Q  M4))) ∧ (¬ r5 = 0 → wb_X7_share_8_35 Q a1 a2 a3 M4))))))
set_option maxHeartbeats 4000000 in
set_option maxRecDepth 100000 in
theorem c_X7_share_8 (l : Launch) {g : fx_Geo} (hG : fx_Gd g) (a1 : Int32) (a2 : Int32) (a3 : Int32) (M : fx_Mem) (Q : Int32 → fx_Mem → Prop) (h : wp_X7_share_8 a1 a2 a3 M Q) : Met l yX7_share (.code yX7_share cX7_share 7 (some .int) :: fx_U) rm_X7_share_8 (va_Pc [.ref (fx_a g 8), .int a1, .int a2, .int a3] (fx_At g M)) (va_Qi Q (fx_Pw g) (fx_A g)) 0 0 (fx_A g) := by
  refine Met.ofW (cc := cX7_share) (maxL := 7) (ret := (some .int)) (by decide +kernel) rfl ?_
  intro p e s m args below meth c s₁ B hml hv
  obtain ⟨rfl, hv⟩ := hv
  have hts := atoms_spec (ws := .code yX7_share cX7_share 7 (some .int) :: fx_U) B.pre
  obtain ⟨C, hH⟩ := fx_body (own := RX7) B hml rfl (fun w hw => hts w (List.mem_cons_of_mem _ hw)) hG hv
  replace hts := fun w hw => hts w (List.mem_cons_of_mem _ hw)
  obtain ⟨hx, hb, hr, -, hown, -, hlocks, hsz, hK, -, hSt⟩ := id C
  have hl := lv_entry ([.ref (fx_a g 8), .int a1, .int a2, .int a3]) (n := 7) (Nat.le_of_ble_eq_true rfl)
  rw [lg_entry_eq]
  generalize (lg_sl ([.ref (fx_a g 8), .int a1, .int a2, .int a3]) ++ List.replicate (7 - (lg_sl ([.ref (fx_a g 8), .int a1, .int a2, .int a3])).length) Slot.unset).toArray = ls at hl ⊢
  have hl : lv_has ls 7 [(0, .ref (fx_a g 8)), (1, .int a1), (2, .int a2), (3, .int a3)] := hl
  obtain ⟨H, eH⟩ : ∃ H : Heap, H = s.heap := ⟨_, rfl⟩
  obtain ⟨locs, elocs⟩ : ∃ q : List Loc, q = [] := ⟨_, rfl⟩
  rw [← eH, ← elocs] at hH
  show W p l e rm_X7_share_8 s m _ below meth c s.heap [] 0 0 _ _
  rw [← eH, ← elocs]
  unfold wp_X7_share_8 at h
  refine lv_iload_n hx hb dX7_share_0 rfl (lv_at hl 1 rfl) ?_
  refine lv_i2l hx hb dX7_share_1 rfl ?_
  refine lv_lconst (v := 0) hx hb dX7_share_2 (by decide) ?_
  refine lv_ldc2 hx hb hown (hts _ u_1178) dX7_share_3 ?_
  refine fx_ci hH (fx_runS (As := [.long a1.toInt64, .long 0, .long 99999]) (rest := []) C hH (c_X7_isBetween l C.2.2.2.2.2.2.2.2.2.1 a1.toInt64 0 99999 M _ h) (fx_cwS 3 hts u_938 u_939 u_8 u_940 rfl rfl (by decide +kernel) ⟨(Nat.le_of_ble_eq_true rfl), (Nat.le_of_ble_eq_true rfl)⟩) rfl hl.1 rfl (Nat.le_of_ble_eq_true rfl) dX7_share_6 ⟨(Nat.le_of_ble_eq_true rfl), (Nat.le_of_ble_eq_true rfl)⟩) (fun r2 M1 H locs h hH => ?_)
  refine lv_if_eq (tgt := 29) hx hb dX7_share_9 (by decide) (fun c3 => ?_) (fun c3 => ?_)
  · replace h := h.1 c3
    exact tb_X7_share_8_29 C Q   M1 h  H locs ls hH (lv_sub hl [0] rfl)
  · replace h := h.2 c3
    refine lv_iload_n hx hb dX7_share_12 rfl (lv_at hl 2 rfl) ?_
    refine lv_i2l hx hb dX7_share_13 rfl ?_
    refine lv_lconst (v := 0) hx hb dX7_share_14 (by decide) ?_
    refine lv_ldc2 hx hb hown (hts _ u_1124) dX7_share_15 ?_
    refine fx_ci hH (fx_runS (As := [.long a2.toInt64, .long 0, .long 3]) (rest := []) C hH (c_X7_isBetween l C.2.2.2.2.2.2.2.2.2.1 a2.toInt64 0 3 M1 _ h) (fx_cwS 3 hts u_938 u_939 u_8 u_940 rfl rfl (by decide +kernel) ⟨(Nat.le_of_ble_eq_true rfl), (Nat.le_of_ble_eq_true rfl)⟩) rfl hl.1 rfl (Nat.le_of_ble_eq_true rfl) dX7_share_18 ⟨(Nat.le_of_ble_eq_true rfl), (Nat.le_of_ble_eq_true rfl)⟩) (fun r5 M4 H locs h hH => ?_)
    refine lv_if_ne (tgt := 35) hx hb dX7_share_21 (by decide) (fun c6 => ?_) (fun c6 => ?_)
    · replace h := h.2 c6
      exact tb_X7_share_8_35 C Q  a1 a2 a3 M4 h  H locs ls hH (lv_sub hl [0, 1, 2, 3] rfl)
    · replace h := h.1 c6
      refine lv_iload_n hx hb dX7_share_24 rfl (lv_at hl 2 rfl) ?_
      refine lv_iconst (v := 5) hx hb dX7_share_25 (by decide) ?_
      refine lv_icmp_eq (tgt := 35) hx hb dX7_share_26 (by decide) (fun c7 => ?_) (fun c7 => ?_)
      · replace h := h.1 c7
        exact tb_X7_share_8_35 C Q  a1 a2 a3 M4 h  H locs ls hH (lv_sub hl [0, 1, 2, 3] rfl)
      · replace h := h.2 c7
        exact tb_X7_share_8_29 C Q   M4 h  H locs ls hH (lv_sub hl [0] rfl)
/-! FlexLayoutModel.save()I (8,) -/
def rm_X7_save_8 : Room := { frames := 0, cells := 0, slots := 0, locals := 0 }
def wb_X7_save_8_15 (k15 : Int32 → fx_Mem → Prop) (k43 : fx_Mem → Prop) (Q : Int32 → fx_Mem → Prop) (x1 : Int32) (M : fx_Mem) : Prop :=
  ((9 ≤ x1 → k43  M) ∧ (¬ 9 ≤ x1 → vp_in x1 9 ∧ vp_in (200 + x1) 210 ∧ ∀ M4 : fx_Mem, M4 = fx_sa M 56 ((200 + x1).toNatClampNeg) (M.2.1 30 x1.toNatClampNeg) → ∀ v5 : Int32, v5 = x1 + 1 → k15 v5 M4))
set_option maxHeartbeats 4000000 in
set_option maxRecDepth 100000 in
theorem tb_X7_save_8_15 {g : fx_Geo} {p : Program} {l : Launch} {e : Env} {s : State} {m : MethodId} {args : Array Value} {below : List Frame} {meth : Method} {c : Code} (C : fx_Cx g p s m args meth c RX7 cX7_save 2 (some .int)) (k15 : Int32 → fx_Mem → Prop) (k43 : fx_Mem → Prop) (Q : Int32 → fx_Mem → Prop) (hk15 : ∀ (x1 : Int32) (M : fx_Mem), k15 x1 M → ∀ (H : Heap) (locs : List Loc) (ls : Array Slot), fx_H g s M H locs → lv_has ls 2 [(0, .ref (fx_a g 8)), (1, .int x1)] → W p l e rm_X7_save_8 s m args below meth c H locs 0 0 (MQ below (va_Qi Q (fx_Pw g) (fx_A g)) args s 0 0 (fx_A g)) (F0 m 15 ls [])) (hk43 : ∀ (M : fx_Mem), k43 M → ∀ (H : Heap) (locs : List Loc) (ls : Array Slot), fx_H g s M H locs → lv_has ls 2 [(0, .ref (fx_a g 8))] → W p l e rm_X7_save_8 s m args below meth c H locs 0 0 (MQ below (va_Qi Q (fx_Pw g) (fx_A g)) args s 0 0 (fx_A g)) (F0 m 43 ls [])) (x1 : Int32) (M : fx_Mem) (h : wb_X7_save_8_15 k15 k43 Q x1 M) (H : Heap) (locs : List Loc) (ls : Array Slot) (hH : fx_H g s M H locs) (hl : lv_has ls 2 [(0, .ref (fx_a g 8)), (1, .int x1)]) : W p l e rm_X7_save_8 s m args below meth c H locs 0 0 (MQ below (va_Qi Q (fx_Pw g) (fx_A g)) args s 0 0 (fx_A g)) (F0 m 15 ls []) := by
  obtain ⟨hx, hb, hr, hml, hown, hts, hlocks, hsz, hK, hG, hSt⟩ := id C
  unfold wb_X7_save_8_15 at h
  refine lv_iload_n hx hb dX7_save_15 rfl (lv_at hl 1 rfl) ?_
  refine lv_bipush (v := 9) hx hb dX7_save_16 (by decide) ?_
  refine lv_icmp_ge (tgt := 43) hx hb dX7_save_18 (by decide) (fun c1 => ?_) (fun c1 => ?_)
  · replace h := h.1 c1
    exact hk43  M h  H locs ls hH (lv_sub hl [0] rfl)
  · replace h := h.2 c1
    refine lv_aload_n hx hb dX7_save_21 rfl (lv_at hl 0 rfl) ?_
    refine fx_get C hH (fx_w8 g M) rfl in_X7 33 (by decide) u_856 rfl rfl dX7_save_22 ?_
    refine lv_sipush (v := 200) hx hb dX7_save_25 (by decide) ?_
    refine lv_iload_n hx hb dX7_save_28 rfl (lv_at hl 1 rfl) ?_
    refine lv_iadd hx hb dX7_save_29 ?_
    refine lv_aload_n hx hb dX7_save_30 rfl (lv_at hl 0 rfl) ?_
    refine fx_get C hH (fx_w8 g M) rfl in_X7 1 (by decide) u_824 rfl rfl dX7_save_31 ?_
    refine lv_iload_n hx hb dX7_save_34 rfl (lv_at hl 1 rfl) ?_
    obtain ⟨hi2, h⟩ := h
    refine fx_iald (j := x1.toNatClampNeg) C hH 30 (fx_w30 g M) rfl hi2 dX7_save_35 ?_
    obtain ⟨hi3, h⟩ := h
    refine fx_iast (j := (200 + x1).toNatClampNeg) (M' := fx_sa M 56 ((200 + x1).toNatClampNeg) (M.2.1 30 x1.toNatClampNeg)) C hH 56 rfl (fx_w56 g M) (fx_p56 g M _) hi3 dX7_save_36 (fun H locs hH => ?_)
    generalize eM4 : fx_sa M 56 ((200 + x1).toNatClampNeg) (M.2.1 30 x1.toNatClampNeg) = M4 at hH
    replace h := h M4 eM4.symm
    obtain ⟨v5, ev5⟩ : ∃ z : Int32, z = x1 + 1 := ⟨_, rfl⟩
    refine lv_iinc (v := v5) (lv' := [(1, .int v5), (0, .ref (fx_a g 8))]) hx hb dX7_save_37 hl (k := 1) rfl (by rw [ev5]; rfl) (by decide) rfl (fun ls hl => ?_)
    replace h := h v5 ev5
    refine lv_goto (tgt := 15) hx hb dX7_save_40 (by decide) ?_
    exact hk15 v5 M4 h  H locs ls hH (lv_sub hl [1, 0] rfl)
def wl_X7_save_8_15 (k43 : fx_Mem → Prop) (Q : Int32 → fx_Mem → Prop) (n : Nat) (x1 : Int32) (M : fx_Mem) : Prop :=
  fx_lp (α := Int32 × fx_Mem) (fun k a => wb_X7_save_8_15 (fun x1 M => k (x1, M)) k43 Q a.1 a.2) n (x1, M)
set_option maxHeartbeats 4000000 in
theorem tl_X7_save_8_15 {g : fx_Geo} {p : Program} {l : Launch} {e : Env} {s : State} {m : MethodId} {args : Array Value} {below : List Frame} {meth : Method} {c : Code} (C : fx_Cx g p s m args meth c RX7 cX7_save 2 (some .int)) (k43 : fx_Mem → Prop) (Q : Int32 → fx_Mem → Prop) (hk43 : ∀ (M : fx_Mem), k43  M → ∀ (H : Heap) (locs : List Loc) (ls : Array Slot), fx_H g s M H locs → lv_has ls 2 [(0, .ref (fx_a g 8))] → W p l e rm_X7_save_8 s m args below meth c H locs 0 0 (MQ below (va_Qi Q (fx_Pw g) (fx_A g)) args s 0 0 (fx_A g)) (F0 m 43 ls [])) : ∀ (n : Nat) (x1 : Int32) (M : fx_Mem), wl_X7_save_8_15 k43 Q n x1 M → ∀ (H : Heap) (locs : List Loc) (ls : Array Slot), fx_H g s M H locs → lv_has ls 2 [(0, .ref (fx_a g 8)), (1, .int x1)] → W p l e rm_X7_save_8 s m args below meth c H locs 0 0 (MQ below (va_Qi Q (fx_Pw g) (fx_A g)) args s 0 0 (fx_A g)) (F0 m 15 ls []) := by
  intro n
  induction n with
  | zero => intro x1 M h; exact False.elim h
  | succ n ih => intro x1 M h  H locs ls hH hl; exact tb_X7_save_8_15 C (wl_X7_save_8_15 k43 Q n) k43 Q ih hk43 x1 M h  H locs ls hH hl
def wb_X7_save_8_45 (k45 : Int32 → fx_Mem → Prop) (k70 : fx_Mem → Prop) (Q : Int32 → fx_Mem → Prop) (x1 : Int32) (M : fx_Mem) : Prop :=
  ((200 ≤ x1 → k70  M) ∧ (¬ 200 ≤ x1 → vp_in x1 200 ∧ vp_in x1 210 ∧ ∀ M4 : fx_Mem, M4 = fx_sa M 56 x1.toNatClampNeg (M.2.1 31 x1.toNatClampNeg) → ∀ v5 : Int32, v5 = x1 + 1 → k45 v5 M4))
set_option maxHeartbeats 4000000 in
set_option maxRecDepth 100000 in
theorem tb_X7_save_8_45 {g : fx_Geo} {p : Program} {l : Launch} {e : Env} {s : State} {m : MethodId} {args : Array Value} {below : List Frame} {meth : Method} {c : Code} (C : fx_Cx g p s m args meth c RX7 cX7_save 2 (some .int)) (k45 : Int32 → fx_Mem → Prop) (k70 : fx_Mem → Prop) (Q : Int32 → fx_Mem → Prop) (hk45 : ∀ (x1 : Int32) (M : fx_Mem), k45 x1 M → ∀ (H : Heap) (locs : List Loc) (ls : Array Slot), fx_H g s M H locs → lv_has ls 2 [(0, .ref (fx_a g 8)), (1, .int x1)] → W p l e rm_X7_save_8 s m args below meth c H locs 0 0 (MQ below (va_Qi Q (fx_Pw g) (fx_A g)) args s 0 0 (fx_A g)) (F0 m 45 ls [])) (hk70 : ∀ (M : fx_Mem), k70 M → ∀ (H : Heap) (locs : List Loc) (ls : Array Slot), fx_H g s M H locs → lv_has ls 2 [(0, .ref (fx_a g 8))] → W p l e rm_X7_save_8 s m args below meth c H locs 0 0 (MQ below (va_Qi Q (fx_Pw g) (fx_A g)) args s 0 0 (fx_A g)) (F0 m 70 ls [])) (x1 : Int32) (M : fx_Mem) (h : wb_X7_save_8_45 k45 k70 Q x1 M) (H : Heap) (locs : List Loc) (ls : Array Slot) (hH : fx_H g s M H locs) (hl : lv_has ls 2 [(0, .ref (fx_a g 8)), (1, .int x1)]) : W p l e rm_X7_save_8 s m args below meth c H locs 0 0 (MQ below (va_Qi Q (fx_Pw g) (fx_A g)) args s 0 0 (fx_A g)) (F0 m 45 ls []) := by
  obtain ⟨hx, hb, hr, hml, hown, hts, hlocks, hsz, hK, hG, hSt⟩ := id C
  unfold wb_X7_save_8_45 at h
  refine lv_iload_n hx hb dX7_save_45 rfl (lv_at hl 1 rfl) ?_
  refine lv_sipush (v := 200) hx hb dX7_save_46 (by decide) ?_
  refine lv_icmp_ge (tgt := 70) hx hb dX7_save_49 (by decide) (fun c1 => ?_) (fun c1 => ?_)
  · replace h := h.1 c1
    exact hk70  M h  H locs ls hH (lv_sub hl [0] rfl)
  · replace h := h.2 c1
    refine lv_aload_n hx hb dX7_save_52 rfl (lv_at hl 0 rfl) ?_
    refine fx_get C hH (fx_w8 g M) rfl in_X7 33 (by decide) u_856 rfl rfl dX7_save_53 ?_
    refine lv_iload_n hx hb dX7_save_56 rfl (lv_at hl 1 rfl) ?_
    refine lv_aload_n hx hb dX7_save_57 rfl (lv_at hl 0 rfl) ?_
    refine fx_get C hH (fx_w8 g M) rfl in_X7 2 (by decide) u_825 rfl rfl dX7_save_58 ?_
    refine lv_iload_n hx hb dX7_save_61 rfl (lv_at hl 1 rfl) ?_
    obtain ⟨hi2, h⟩ := h
    refine fx_iald (j := x1.toNatClampNeg) C hH 31 (fx_w31 g M) rfl hi2 dX7_save_62 ?_
    obtain ⟨hi3, h⟩ := h
    refine fx_iast (j := x1.toNatClampNeg) (M' := fx_sa M 56 x1.toNatClampNeg (M.2.1 31 x1.toNatClampNeg)) C hH 56 rfl (fx_w56 g M) (fx_p56 g M _) hi3 dX7_save_63 (fun H locs hH => ?_)
    generalize eM4 : fx_sa M 56 x1.toNatClampNeg (M.2.1 31 x1.toNatClampNeg) = M4 at hH
    replace h := h M4 eM4.symm
    obtain ⟨v5, ev5⟩ : ∃ z : Int32, z = x1 + 1 := ⟨_, rfl⟩
    refine lv_iinc (v := v5) (lv' := [(1, .int v5), (0, .ref (fx_a g 8))]) hx hb dX7_save_64 hl (k := 1) rfl (by rw [ev5]; rfl) (by decide) rfl (fun ls hl => ?_)
    replace h := h v5 ev5
    refine lv_goto (tgt := 45) hx hb dX7_save_67 (by decide) ?_
    exact hk45 v5 M4 h  H locs ls hH (lv_sub hl [1, 0] rfl)
def wl_X7_save_8_45 (k70 : fx_Mem → Prop) (Q : Int32 → fx_Mem → Prop) (n : Nat) (x1 : Int32) (M : fx_Mem) : Prop :=
  fx_lp (α := Int32 × fx_Mem) (fun k a => wb_X7_save_8_45 (fun x1 M => k (x1, M)) k70 Q a.1 a.2) n (x1, M)
set_option maxHeartbeats 4000000 in
theorem tl_X7_save_8_45 {g : fx_Geo} {p : Program} {l : Launch} {e : Env} {s : State} {m : MethodId} {args : Array Value} {below : List Frame} {meth : Method} {c : Code} (C : fx_Cx g p s m args meth c RX7 cX7_save 2 (some .int)) (k70 : fx_Mem → Prop) (Q : Int32 → fx_Mem → Prop) (hk70 : ∀ (M : fx_Mem), k70  M → ∀ (H : Heap) (locs : List Loc) (ls : Array Slot), fx_H g s M H locs → lv_has ls 2 [(0, .ref (fx_a g 8))] → W p l e rm_X7_save_8 s m args below meth c H locs 0 0 (MQ below (va_Qi Q (fx_Pw g) (fx_A g)) args s 0 0 (fx_A g)) (F0 m 70 ls [])) : ∀ (n : Nat) (x1 : Int32) (M : fx_Mem), wl_X7_save_8_45 k70 Q n x1 M → ∀ (H : Heap) (locs : List Loc) (ls : Array Slot), fx_H g s M H locs → lv_has ls 2 [(0, .ref (fx_a g 8)), (1, .int x1)] → W p l e rm_X7_save_8 s m args below meth c H locs 0 0 (MQ below (va_Qi Q (fx_Pw g) (fx_A g)) args s 0 0 (fx_A g)) (F0 m 45 ls []) := by
  intro n
  induction n with
  | zero => intro x1 M h; exact False.elim h
  | succ n ih => intro x1 M h  H locs ls hH hl; exact tb_X7_save_8_45 C (wl_X7_save_8_45 k70 Q n) k70 Q ih hk70 x1 M h  H locs ls hH hl
def wb_X7_save_8_70 (Q : Int32 → fx_Mem → Prop) (M : fx_Mem) : Prop :=
  Q (M.1 515) M
set_option maxHeartbeats 4000000 in
set_option maxRecDepth 100000 in
theorem tb_X7_save_8_70 {g : fx_Geo} {p : Program} {l : Launch} {e : Env} {s : State} {m : MethodId} {args : Array Value} {below : List Frame} {meth : Method} {c : Code} (C : fx_Cx g p s m args meth c RX7 cX7_save 2 (some .int)) (Q : Int32 → fx_Mem → Prop) (M : fx_Mem) (h : wb_X7_save_8_70 Q M) (H : Heap) (locs : List Loc) (ls : Array Slot) (hH : fx_H g s M H locs) (hl : lv_has ls 2 [(0, .ref (fx_a g 8))]) : W p l e rm_X7_save_8 s m args below meth c H locs 0 0 (MQ below (va_Qi Q (fx_Pw g) (fx_A g)) args s 0 0 (fx_A g)) (F0 m 70 ls []) := by
  obtain ⟨hx, hb, hr, hml, hown, hts, hlocks, hsz, hK, hG, hSt⟩ := id C
  unfold wb_X7_save_8_70 at h
  refine lv_aload_n hx hb dX7_save_70 rfl (lv_at hl 0 rfl) ?_
  refine fx_get C hH (fx_w8 g M) rfl in_X7 3 (by decide) u_826 rfl rfl dX7_save_71 ?_
  exact fx_iret C hH h dX7_save_74
def wb_X7_save_8_43 (Q : Int32 → fx_Mem → Prop) (M : fx_Mem) : Prop :=
  ∃ n45 : Nat, wl_X7_save_8_45 (wb_X7_save_8_70 Q) Q n45 0 M
set_option maxHeartbeats 4000000 in
set_option maxRecDepth 100000 in
theorem tb_X7_save_8_43 {g : fx_Geo} {p : Program} {l : Launch} {e : Env} {s : State} {m : MethodId} {args : Array Value} {below : List Frame} {meth : Method} {c : Code} (C : fx_Cx g p s m args meth c RX7 cX7_save 2 (some .int)) (Q : Int32 → fx_Mem → Prop) (M : fx_Mem) (h : wb_X7_save_8_43 Q M) (H : Heap) (locs : List Loc) (ls : Array Slot) (hH : fx_H g s M H locs) (hl : lv_has ls 2 [(0, .ref (fx_a g 8))]) : W p l e rm_X7_save_8 s m args below meth c H locs 0 0 (MQ below (va_Qi Q (fx_Pw g) (fx_A g)) args s 0 0 (fx_A g)) (F0 m 43 ls []) := by
  obtain ⟨hx, hb, hr, hml, hown, hts, hlocks, hsz, hK, hG, hSt⟩ := id C
  unfold wb_X7_save_8_43 at h
  refine lv_iconst (v := 0) hx hb dX7_save_43 (by decide) ?_
  refine lv_istore_n (lv' := [(1, .int 0), (0, .ref (fx_a g 8))]) hx hb dX7_save_44 rfl hl (by decide) rfl (fun ls hl => ?_)
  obtain ⟨n45, h⟩ := h
  exact tl_X7_save_8_45 C (wb_X7_save_8_70 Q) Q (tb_X7_save_8_70 C Q ) n45 0 M h  H locs ls hH (lv_sub hl [1, 0] rfl)
def wp_X7_save_8 (M : fx_Mem) (Q : Int32 → fx_Mem → Prop) : Prop :=
  ∀ M1 : fx_Mem, M1 = fx_si M 512 0 → ∀ M2 : fx_Mem, M2 = fx_si M1 546 (M1.1 515) → ∃ n15 : Nat, wl_X7_save_8_15 (wb_X7_save_8_43 Q) Q n15 0 M2
set_option maxHeartbeats 4000000 in
set_option maxRecDepth 100000 in
theorem c_X7_save_8 (l : Launch) {g : fx_Geo} (hG : fx_Gd g) (M : fx_Mem) (Q : Int32 → fx_Mem → Prop) (h : wp_X7_save_8 M Q) : Met l yX7_save (.code yX7_save cX7_save 2 (some .int) :: fx_U) rm_X7_save_8 (va_Pc [.ref (fx_a g 8)] (fx_At g M)) (va_Qi Q (fx_Pw g) (fx_A g)) 0 0 (fx_A g) := by
  refine Met.ofW (cc := cX7_save) (maxL := 2) (ret := (some .int)) (by decide +kernel) rfl ?_
  intro p e s m args below meth c s₁ B hml hv
  obtain ⟨rfl, hv⟩ := hv
  have hts := atoms_spec (ws := .code yX7_save cX7_save 2 (some .int) :: fx_U) B.pre
  obtain ⟨C, hH⟩ := fx_body (own := RX7) B hml rfl (fun w hw => hts w (List.mem_cons_of_mem _ hw)) hG hv
  replace hts := fun w hw => hts w (List.mem_cons_of_mem _ hw)
  obtain ⟨hx, hb, hr, -, hown, -, hlocks, hsz, hK, -, hSt⟩ := id C
  have hl := lv_entry ([.ref (fx_a g 8)]) (n := 2) (Nat.le_of_ble_eq_true rfl)
  rw [lg_entry_eq]
  generalize (lg_sl ([.ref (fx_a g 8)]) ++ List.replicate (2 - (lg_sl ([.ref (fx_a g 8)])).length) Slot.unset).toArray = ls at hl ⊢
  have hl : lv_has ls 2 [(0, .ref (fx_a g 8))] := hl
  obtain ⟨H, eH⟩ : ∃ H : Heap, H = s.heap := ⟨_, rfl⟩
  obtain ⟨locs, elocs⟩ : ∃ q : List Loc, q = [] := ⟨_, rfl⟩
  rw [← eH, ← elocs] at hH
  show W p l e rm_X7_save_8 s m _ below meth c s.heap [] 0 0 _ _
  rw [← eH, ← elocs]
  unfold wp_X7_save_8 at h
  refine lv_aload_n hx hb dX7_save_0 rfl (lv_at hl 0 rfl) ?_
  refine lv_iconst (v := 0) hx hb dX7_save_1 (by decide) ?_
  refine fx_put C hH (fx_w8 g M) rfl in_X7 tyX7 tyX7_ok nmX7 0 (by decide) u_823 rfl rfl (ty := .int) (by decide +kernel) rfl rfl (Nat.le_of_ble_eq_true rfl) (fx_p8_0 g M 0) dX7_save_2 (fun H locs hH => ?_)
  generalize eM1 : fx_si M 512 0 = M1 at hH
  replace h := h M1 eM1.symm
  refine lv_aload_n hx hb dX7_save_5 rfl (lv_at hl 0 rfl) ?_
  refine lv_aload_n hx hb dX7_save_6 rfl (lv_at hl 0 rfl) ?_
  refine fx_get C hH (fx_w8 g M1) rfl in_X7 3 (by decide) u_826 rfl rfl dX7_save_7 ?_
  refine fx_put C hH (fx_w8 g M1) rfl in_X7 tyX7 tyX7_ok nmX7 34 (by decide) u_857 rfl rfl (ty := .int) (by decide +kernel) rfl rfl (Nat.le_of_ble_eq_true rfl) (fx_p8_34 g M1 (M1.1 515)) dX7_save_10 (fun H locs hH => ?_)
  generalize eM2 : fx_si M1 546 (M1.1 515) = M2 at hH
  replace h := h M2 eM2.symm
  refine lv_iconst (v := 0) hx hb dX7_save_13 (by decide) ?_
  refine lv_istore_n (lv' := [(1, .int 0), (0, .ref (fx_a g 8))]) hx hb dX7_save_14 rfl hl (by decide) rfl (fun ls hl => ?_)
  obtain ⟨n15, h⟩ := h
  exact tl_X7_save_8_15 C (wb_X7_save_8_43 Q) Q (tb_X7_save_8_43 C Q ) n15 0 M2 h  H locs ls hH (lv_sub hl [1, 0] rfl)
/-! FlexLayoutModel.restore()I (8,) -/
def rm_X7_restore_8 : Room := { frames := 1, cells := 0, slots := 0, locals := 21 }
def wb_X7_restore_8_28 (k28 : Int32 → fx_Mem → Prop) (k56 : fx_Mem → Prop) (Q : Int32 → fx_Mem → Prop) (x1 : Int32) (M : fx_Mem) : Prop :=
  ((9 ≤ x1 → k56  M) ∧ (¬ 9 ≤ x1 → vp_in (200 + x1) 210 ∧ vp_in x1 9 ∧ ∀ M4 : fx_Mem, M4 = fx_sa M 30 x1.toNatClampNeg (M.2.1 56 ((200 + x1).toNatClampNeg)) → ∀ v5 : Int32, v5 = x1 + 1 → k28 v5 M4))
set_option maxHeartbeats 4000000 in
set_option maxRecDepth 100000 in
theorem tb_X7_restore_8_28 {g : fx_Geo} {p : Program} {l : Launch} {e : Env} {s : State} {m : MethodId} {args : Array Value} {below : List Frame} {meth : Method} {c : Code} (C : fx_Cx g p s m args meth c RX7 cX7_restore 2 (some .int)) (k28 : Int32 → fx_Mem → Prop) (k56 : fx_Mem → Prop) (Q : Int32 → fx_Mem → Prop) (hk28 : ∀ (x1 : Int32) (M : fx_Mem), k28 x1 M → ∀ (H : Heap) (locs : List Loc) (ls : Array Slot), fx_H g s M H locs → lv_has ls 2 [(0, .ref (fx_a g 8)), (1, .int x1)] → W p l e rm_X7_restore_8 s m args below meth c H locs 0 0 (MQ below (va_Qi Q (fx_Pw g) (fx_A g)) args s 0 0 (fx_A g)) (F0 m 28 ls [])) (hk56 : ∀ (M : fx_Mem), k56 M → ∀ (H : Heap) (locs : List Loc) (ls : Array Slot), fx_H g s M H locs → lv_has ls 2 [(0, .ref (fx_a g 8))] → W p l e rm_X7_restore_8 s m args below meth c H locs 0 0 (MQ below (va_Qi Q (fx_Pw g) (fx_A g)) args s 0 0 (fx_A g)) (F0 m 56 ls [])) (x1 : Int32) (M : fx_Mem) (h : wb_X7_restore_8_28 k28 k56 Q x1 M) (H : Heap) (locs : List Loc) (ls : Array Slot) (hH : fx_H g s M H locs) (hl : lv_has ls 2 [(0, .ref (fx_a g 8)), (1, .int x1)]) : W p l e rm_X7_restore_8 s m args below meth c H locs 0 0 (MQ below (va_Qi Q (fx_Pw g) (fx_A g)) args s 0 0 (fx_A g)) (F0 m 28 ls []) := by
  obtain ⟨hx, hb, hr, hml, hown, hts, hlocks, hsz, hK, hG, hSt⟩ := id C
  unfold wb_X7_restore_8_28 at h
  refine lv_iload_n hx hb dX7_restore_28 rfl (lv_at hl 1 rfl) ?_
  refine lv_bipush (v := 9) hx hb dX7_restore_29 (by decide) ?_
  refine lv_icmp_ge (tgt := 56) hx hb dX7_restore_31 (by decide) (fun c1 => ?_) (fun c1 => ?_)
  · replace h := h.1 c1
    exact hk56  M h  H locs ls hH (lv_sub hl [0] rfl)
  · replace h := h.2 c1
    refine lv_aload_n hx hb dX7_restore_34 rfl (lv_at hl 0 rfl) ?_
    refine fx_get C hH (fx_w8 g M) rfl in_X7 1 (by decide) u_824 rfl rfl dX7_restore_35 ?_
    refine lv_iload_n hx hb dX7_restore_38 rfl (lv_at hl 1 rfl) ?_
    refine lv_aload_n hx hb dX7_restore_39 rfl (lv_at hl 0 rfl) ?_
    refine fx_get C hH (fx_w8 g M) rfl in_X7 33 (by decide) u_856 rfl rfl dX7_restore_40 ?_
    refine lv_sipush (v := 200) hx hb dX7_restore_43 (by decide) ?_
    refine lv_iload_n hx hb dX7_restore_46 rfl (lv_at hl 1 rfl) ?_
    refine lv_iadd hx hb dX7_restore_47 ?_
    obtain ⟨hi2, h⟩ := h
    refine fx_iald (j := (200 + x1).toNatClampNeg) C hH 56 (fx_w56 g M) rfl hi2 dX7_restore_48 ?_
    obtain ⟨hi3, h⟩ := h
    refine fx_iast (j := x1.toNatClampNeg) (M' := fx_sa M 30 x1.toNatClampNeg (M.2.1 56 ((200 + x1).toNatClampNeg))) C hH 30 rfl (fx_w30 g M) (fx_p30 g M _) hi3 dX7_restore_49 (fun H locs hH => ?_)
    generalize eM4 : fx_sa M 30 x1.toNatClampNeg (M.2.1 56 ((200 + x1).toNatClampNeg)) = M4 at hH
    replace h := h M4 eM4.symm
    obtain ⟨v5, ev5⟩ : ∃ z : Int32, z = x1 + 1 := ⟨_, rfl⟩
    refine lv_iinc (v := v5) (lv' := [(1, .int v5), (0, .ref (fx_a g 8))]) hx hb dX7_restore_50 hl (k := 1) rfl (by rw [ev5]; rfl) (by decide) rfl (fun ls hl => ?_)
    replace h := h v5 ev5
    refine lv_goto (tgt := 28) hx hb dX7_restore_53 (by decide) ?_
    exact hk28 v5 M4 h  H locs ls hH (lv_sub hl [1, 0] rfl)
def wl_X7_restore_8_28 (k56 : fx_Mem → Prop) (Q : Int32 → fx_Mem → Prop) (n : Nat) (x1 : Int32) (M : fx_Mem) : Prop :=
  fx_lp (α := Int32 × fx_Mem) (fun k a => wb_X7_restore_8_28 (fun x1 M => k (x1, M)) k56 Q a.1 a.2) n (x1, M)
set_option maxHeartbeats 4000000 in
theorem tl_X7_restore_8_28 {g : fx_Geo} {p : Program} {l : Launch} {e : Env} {s : State} {m : MethodId} {args : Array Value} {below : List Frame} {meth : Method} {c : Code} (C : fx_Cx g p s m args meth c RX7 cX7_restore 2 (some .int)) (k56 : fx_Mem → Prop) (Q : Int32 → fx_Mem → Prop) (hk56 : ∀ (M : fx_Mem), k56  M → ∀ (H : Heap) (locs : List Loc) (ls : Array Slot), fx_H g s M H locs → lv_has ls 2 [(0, .ref (fx_a g 8))] → W p l e rm_X7_restore_8 s m args below meth c H locs 0 0 (MQ below (va_Qi Q (fx_Pw g) (fx_A g)) args s 0 0 (fx_A g)) (F0 m 56 ls [])) : ∀ (n : Nat) (x1 : Int32) (M : fx_Mem), wl_X7_restore_8_28 k56 Q n x1 M → ∀ (H : Heap) (locs : List Loc) (ls : Array Slot), fx_H g s M H locs → lv_has ls 2 [(0, .ref (fx_a g 8)), (1, .int x1)] → W p l e rm_X7_restore_8 s m args below meth c H locs 0 0 (MQ below (va_Qi Q (fx_Pw g) (fx_A g)) args s 0 0 (fx_A g)) (F0 m 28 ls []) := by
  intro n
  induction n with
  | zero => intro x1 M h; exact False.elim h
  | succ n ih => intro x1 M h  H locs ls hH hl; exact tb_X7_restore_8_28 C (wl_X7_restore_8_28 k56 Q n) k56 Q ih hk56 x1 M h  H locs ls hH hl
def wb_X7_restore_8_58 (k58 : Int32 → fx_Mem → Prop) (k83 : fx_Mem → Prop) (Q : Int32 → fx_Mem → Prop) (x1 : Int32) (M : fx_Mem) : Prop :=
  ((200 ≤ x1 → k83  M) ∧ (¬ 200 ≤ x1 → vp_in x1 210 ∧ vp_in x1 200 ∧ ∀ M4 : fx_Mem, M4 = fx_sa M 31 x1.toNatClampNeg (M.2.1 56 x1.toNatClampNeg) → ∀ v5 : Int32, v5 = x1 + 1 → k58 v5 M4))
set_option maxHeartbeats 4000000 in
set_option maxRecDepth 100000 in
theorem tb_X7_restore_8_58 {g : fx_Geo} {p : Program} {l : Launch} {e : Env} {s : State} {m : MethodId} {args : Array Value} {below : List Frame} {meth : Method} {c : Code} (C : fx_Cx g p s m args meth c RX7 cX7_restore 2 (some .int)) (k58 : Int32 → fx_Mem → Prop) (k83 : fx_Mem → Prop) (Q : Int32 → fx_Mem → Prop) (hk58 : ∀ (x1 : Int32) (M : fx_Mem), k58 x1 M → ∀ (H : Heap) (locs : List Loc) (ls : Array Slot), fx_H g s M H locs → lv_has ls 2 [(0, .ref (fx_a g 8)), (1, .int x1)] → W p l e rm_X7_restore_8 s m args below meth c H locs 0 0 (MQ below (va_Qi Q (fx_Pw g) (fx_A g)) args s 0 0 (fx_A g)) (F0 m 58 ls [])) (hk83 : ∀ (M : fx_Mem), k83 M → ∀ (H : Heap) (locs : List Loc) (ls : Array Slot), fx_H g s M H locs → lv_has ls 2 [(0, .ref (fx_a g 8))] → W p l e rm_X7_restore_8 s m args below meth c H locs 0 0 (MQ below (va_Qi Q (fx_Pw g) (fx_A g)) args s 0 0 (fx_A g)) (F0 m 83 ls [])) (x1 : Int32) (M : fx_Mem) (h : wb_X7_restore_8_58 k58 k83 Q x1 M) (H : Heap) (locs : List Loc) (ls : Array Slot) (hH : fx_H g s M H locs) (hl : lv_has ls 2 [(0, .ref (fx_a g 8)), (1, .int x1)]) : W p l e rm_X7_restore_8 s m args below meth c H locs 0 0 (MQ below (va_Qi Q (fx_Pw g) (fx_A g)) args s 0 0 (fx_A g)) (F0 m 58 ls []) := by
  obtain ⟨hx, hb, hr, hml, hown, hts, hlocks, hsz, hK, hG, hSt⟩ := id C
  unfold wb_X7_restore_8_58 at h
  refine lv_iload_n hx hb dX7_restore_58 rfl (lv_at hl 1 rfl) ?_
  refine lv_sipush (v := 200) hx hb dX7_restore_59 (by decide) ?_
  refine lv_icmp_ge (tgt := 83) hx hb dX7_restore_62 (by decide) (fun c1 => ?_) (fun c1 => ?_)
  · replace h := h.1 c1
    exact hk83  M h  H locs ls hH (lv_sub hl [0] rfl)
  · replace h := h.2 c1
    refine lv_aload_n hx hb dX7_restore_65 rfl (lv_at hl 0 rfl) ?_
    refine fx_get C hH (fx_w8 g M) rfl in_X7 2 (by decide) u_825 rfl rfl dX7_restore_66 ?_
    refine lv_iload_n hx hb dX7_restore_69 rfl (lv_at hl 1 rfl) ?_
    refine lv_aload_n hx hb dX7_restore_70 rfl (lv_at hl 0 rfl) ?_
    refine fx_get C hH (fx_w8 g M) rfl in_X7 33 (by decide) u_856 rfl rfl dX7_restore_71 ?_
    refine lv_iload_n hx hb dX7_restore_74 rfl (lv_at hl 1 rfl) ?_
    obtain ⟨hi2, h⟩ := h
    refine fx_iald (j := x1.toNatClampNeg) C hH 56 (fx_w56 g M) rfl hi2 dX7_restore_75 ?_
    obtain ⟨hi3, h⟩ := h
    refine fx_iast (j := x1.toNatClampNeg) (M' := fx_sa M 31 x1.toNatClampNeg (M.2.1 56 x1.toNatClampNeg)) C hH 31 rfl (fx_w31 g M) (fx_p31 g M _) hi3 dX7_restore_76 (fun H locs hH => ?_)
    generalize eM4 : fx_sa M 31 x1.toNatClampNeg (M.2.1 56 x1.toNatClampNeg) = M4 at hH
    replace h := h M4 eM4.symm
    obtain ⟨v5, ev5⟩ : ∃ z : Int32, z = x1 + 1 := ⟨_, rfl⟩
    refine lv_iinc (v := v5) (lv' := [(1, .int v5), (0, .ref (fx_a g 8))]) hx hb dX7_restore_77 hl (k := 1) rfl (by rw [ev5]; rfl) (by decide) rfl (fun ls hl => ?_)
    replace h := h v5 ev5
    refine lv_goto (tgt := 58) hx hb dX7_restore_80 (by decide) ?_
    exact hk58 v5 M4 h  H locs ls hH (lv_sub hl [1, 0] rfl)
def wl_X7_restore_8_58 (k83 : fx_Mem → Prop) (Q : Int32 → fx_Mem → Prop) (n : Nat) (x1 : Int32) (M : fx_Mem) : Prop :=
  fx_lp (α := Int32 × fx_Mem) (fun k a => wb_X7_restore_8_58 (fun x1 M => k (x1, M)) k83 Q a.1 a.2) n (x1, M)
set_option maxHeartbeats 4000000 in
theorem tl_X7_restore_8_58 {g : fx_Geo} {p : Program} {l : Launch} {e : Env} {s : State} {m : MethodId} {args : Array Value} {below : List Frame} {meth : Method} {c : Code} (C : fx_Cx g p s m args meth c RX7 cX7_restore 2 (some .int)) (k83 : fx_Mem → Prop) (Q : Int32 → fx_Mem → Prop) (hk83 : ∀ (M : fx_Mem), k83  M → ∀ (H : Heap) (locs : List Loc) (ls : Array Slot), fx_H g s M H locs → lv_has ls 2 [(0, .ref (fx_a g 8))] → W p l e rm_X7_restore_8 s m args below meth c H locs 0 0 (MQ below (va_Qi Q (fx_Pw g) (fx_A g)) args s 0 0 (fx_A g)) (F0 m 83 ls [])) : ∀ (n : Nat) (x1 : Int32) (M : fx_Mem), wl_X7_restore_8_58 k83 Q n x1 M → ∀ (H : Heap) (locs : List Loc) (ls : Array Slot), fx_H g s M H locs → lv_has ls 2 [(0, .ref (fx_a g 8)), (1, .int x1)] → W p l e rm_X7_restore_8 s m args below meth c H locs 0 0 (MQ below (va_Qi Q (fx_Pw g) (fx_A g)) args s 0 0 (fx_A g)) (F0 m 58 ls []) := by
  intro n
  induction n with
  | zero => intro x1 M h; exact False.elim h
  | succ n ih => intro x1 M h  H locs ls hH hl; exact tb_X7_restore_8_58 C (wl_X7_restore_8_58 k83 Q n) k83 Q ih hk83 x1 M h  H locs ls hH hl
def wb_X7_restore_8_83 (Q : Int32 → fx_Mem → Prop) (M : fx_Mem) : Prop :=
  Q (M.1 515) M
set_option maxHeartbeats 4000000 in
set_option maxRecDepth 100000 in
theorem tb_X7_restore_8_83 {g : fx_Geo} {p : Program} {l : Launch} {e : Env} {s : State} {m : MethodId} {args : Array Value} {below : List Frame} {meth : Method} {c : Code} (C : fx_Cx g p s m args meth c RX7 cX7_restore 2 (some .int)) (Q : Int32 → fx_Mem → Prop) (M : fx_Mem) (h : wb_X7_restore_8_83 Q M) (H : Heap) (locs : List Loc) (ls : Array Slot) (hH : fx_H g s M H locs) (hl : lv_has ls 2 [(0, .ref (fx_a g 8))]) : W p l e rm_X7_restore_8 s m args below meth c H locs 0 0 (MQ below (va_Qi Q (fx_Pw g) (fx_A g)) args s 0 0 (fx_A g)) (F0 m 83 ls []) := by
  obtain ⟨hx, hb, hr, hml, hown, hts, hlocks, hsz, hK, hG, hSt⟩ := id C
  unfold wb_X7_restore_8_83 at h
  refine lv_aload_n hx hb dX7_restore_83 rfl (lv_at hl 0 rfl) ?_
  refine fx_get C hH (fx_w8 g M) rfl in_X7 3 (by decide) u_826 rfl rfl dX7_restore_84 ?_
  exact fx_iret C hH h dX7_restore_87
def wb_X7_restore_8_56 (Q : Int32 → fx_Mem → Prop) (M : fx_Mem) : Prop :=
  ∃ n58 : Nat, wl_X7_restore_8_58 (wb_X7_restore_8_83 Q) Q n58 0 M
set_option maxHeartbeats 4000000 in
set_option maxRecDepth 100000 in
theorem tb_X7_restore_8_56 {g : fx_Geo} {p : Program} {l : Launch} {e : Env} {s : State} {m : MethodId} {args : Array Value} {below : List Frame} {meth : Method} {c : Code} (C : fx_Cx g p s m args meth c RX7 cX7_restore 2 (some .int)) (Q : Int32 → fx_Mem → Prop) (M : fx_Mem) (h : wb_X7_restore_8_56 Q M) (H : Heap) (locs : List Loc) (ls : Array Slot) (hH : fx_H g s M H locs) (hl : lv_has ls 2 [(0, .ref (fx_a g 8))]) : W p l e rm_X7_restore_8 s m args below meth c H locs 0 0 (MQ below (va_Qi Q (fx_Pw g) (fx_A g)) args s 0 0 (fx_A g)) (F0 m 56 ls []) := by
  obtain ⟨hx, hb, hr, hml, hown, hts, hlocks, hsz, hK, hG, hSt⟩ := id C
  unfold wb_X7_restore_8_56 at h
  refine lv_iconst (v := 0) hx hb dX7_restore_56 (by decide) ?_
  refine lv_istore_n (lv' := [(1, .int 0), (0, .ref (fx_a g 8))]) hx hb dX7_restore_57 rfl hl (by decide) rfl (fun ls hl => ?_)
  obtain ⟨n58, h⟩ := h
  exact tl_X7_restore_8_58 C (wb_X7_restore_8_83 Q) Q (tb_X7_restore_8_83 C Q ) n58 0 M h  H locs ls hH (lv_sub hl [1, 0] rfl)
def wp_X7_restore_8 (M : fx_Mem) (Q : Int32 → fx_Mem → Prop) : Prop :=
  ((0 ≤ M.1 546 → ∀ M2 : fx_Mem, M2 = fx_si M 512 0 → ∀ M3 : fx_Mem, M3 = fx_si M2 515 (M2.1 546) → ∃ n28 : Nat, wl_X7_restore_8_28 (wb_X7_restore_8_56 Q) Q n28 0 M3) ∧ (¬ 0 ≤ M.1 546 → wp_X7_fails_8 1 M (fun r5 M4 => Q r5 M4)))
set_option maxHeartbeats 4000000 in
set_option maxRecDepth 100000 in
theorem c_X7_restore_8 (l : Launch) {g : fx_Geo} (hG : fx_Gd g) (M : fx_Mem) (Q : Int32 → fx_Mem → Prop) (h : wp_X7_restore_8 M Q) : Met l yX7_restore (.code yX7_restore cX7_restore 2 (some .int) :: fx_U) rm_X7_restore_8 (va_Pc [.ref (fx_a g 8)] (fx_At g M)) (va_Qi Q (fx_Pw g) (fx_A g)) 0 0 (fx_A g) := by
  refine Met.ofW (cc := cX7_restore) (maxL := 2) (ret := (some .int)) (by decide +kernel) rfl ?_
  intro p e s m args below meth c s₁ B hml hv
  obtain ⟨rfl, hv⟩ := hv
  have hts := atoms_spec (ws := .code yX7_restore cX7_restore 2 (some .int) :: fx_U) B.pre
  obtain ⟨C, hH⟩ := fx_body (own := RX7) B hml rfl (fun w hw => hts w (List.mem_cons_of_mem _ hw)) hG hv
  replace hts := fun w hw => hts w (List.mem_cons_of_mem _ hw)
  obtain ⟨hx, hb, hr, -, hown, -, hlocks, hsz, hK, -, hSt⟩ := id C
  have hl := lv_entry ([.ref (fx_a g 8)]) (n := 2) (Nat.le_of_ble_eq_true rfl)
  rw [lg_entry_eq]
  generalize (lg_sl ([.ref (fx_a g 8)]) ++ List.replicate (2 - (lg_sl ([.ref (fx_a g 8)])).length) Slot.unset).toArray = ls at hl ⊢
  have hl : lv_has ls 2 [(0, .ref (fx_a g 8))] := hl
  obtain ⟨H, eH⟩ : ∃ H : Heap, H = s.heap := ⟨_, rfl⟩
  obtain ⟨locs, elocs⟩ : ∃ q : List Loc, q = [] := ⟨_, rfl⟩
  rw [← eH, ← elocs] at hH
  show W p l e rm_X7_restore_8 s m _ below meth c s.heap [] 0 0 _ _
  rw [← eH, ← elocs]
  unfold wp_X7_restore_8 at h
  refine lv_aload_n hx hb dX7_restore_0 rfl (lv_at hl 0 rfl) ?_
  refine fx_get C hH (fx_w8 g M) rfl in_X7 34 (by decide) u_857 rfl rfl dX7_restore_1 ?_
  refine lv_if_ge (tgt := 13) hx hb dX7_restore_4 (by decide) (fun c1 => ?_) (fun c1 => ?_)
  · replace h := h.1 c1
    refine lv_aload_n hx hb dX7_restore_13 rfl (lv_at hl 0 rfl) ?_
    refine lv_iconst (v := 0) hx hb dX7_restore_14 (by decide) ?_
    refine fx_put C hH (fx_w8 g M) rfl in_X7 tyX7 tyX7_ok nmX7 0 (by decide) u_823 rfl rfl (ty := .int) (by decide +kernel) rfl rfl (Nat.le_of_ble_eq_true rfl) (fx_p8_0 g M 0) dX7_restore_15 (fun H locs hH => ?_)
    generalize eM2 : fx_si M 512 0 = M2 at hH
    replace h := h M2 eM2.symm
    refine lv_aload_n hx hb dX7_restore_18 rfl (lv_at hl 0 rfl) ?_
    refine lv_aload_n hx hb dX7_restore_19 rfl (lv_at hl 0 rfl) ?_
    refine fx_get C hH (fx_w8 g M2) rfl in_X7 34 (by decide) u_857 rfl rfl dX7_restore_20 ?_
    refine fx_put C hH (fx_w8 g M2) rfl in_X7 tyX7 tyX7_ok nmX7 3 (by decide) u_826 rfl rfl (ty := .int) (by decide +kernel) rfl rfl (Nat.le_of_ble_eq_true rfl) (fx_p8_3 g M2 (M2.1 546)) dX7_restore_23 (fun H locs hH => ?_)
    generalize eM3 : fx_si M2 515 (M2.1 546) = M3 at hH
    replace h := h M3 eM3.symm
    refine lv_iconst (v := 0) hx hb dX7_restore_26 (by decide) ?_
    refine lv_istore_n (lv' := [(1, .int 0), (0, .ref (fx_a g 8))]) hx hb dX7_restore_27 rfl hl (by decide) rfl (fun ls hl => ?_)
    obtain ⟨n28, h⟩ := h
    exact tl_X7_restore_8_28 C (wb_X7_restore_8_56 Q) Q (tb_X7_restore_8_56 C Q ) n28 0 M3 h  H locs ls hH (lv_sub hl [1, 0] rfl)
  · replace h := h.2 c1
    refine lv_aload_n hx hb dX7_restore_7 rfl (lv_at hl 0 rfl) ?_
    refine lv_iconst (v := 1) hx hb dX7_restore_8 (by decide) ?_
    refine fx_ci hH (fx_runV (As := [.int 1]) (rest := []) C hH (c_X7_fails_8 l C.2.2.2.2.2.2.2.2.2.1 1 M _ h) (fx_cwV 1 hts u_945 u_947 us_24 u_8 u_948 rfl rfl (by decide +kernel) ⟨(Nat.le_of_ble_eq_true rfl), (Nat.le_of_ble_eq_true rfl)⟩) (fx_w8 g M) rfl rfl hl.1 rfl (Nat.le_of_ble_eq_true rfl) dX7_restore_9 ⟨(Nat.le_of_ble_eq_true rfl), (Nat.le_of_ble_eq_true rfl)⟩) (fun r5 M4 H locs h hH => ?_)
    exact fx_iret C hH h dX7_restore_12
