/-! FlexLayoutModel.takesAll()Z (8,) -/
def rm_X7_takesAll_8 : Room := { frames := 3, cells := 0, slots := 0, locals := 68 }
def wb_X7_takesAll_8_70 (k12 : Int32 → fx_Mem → Prop) (k77 : fx_Mem → Prop) (Q : Int32 → fx_Mem → Prop) (x1 : Int32) (s0 : Int32) (s1 : Int32) (M : fx_Mem) : Prop :=
  ∀ M1 : fx_Mem, M1 = fx_si M 521 (s1 + s0) → k12 x1 M1
set_option maxHeartbeats 4000000 in
set_option maxRecDepth 100000 in
theorem tb_X7_takesAll_8_70 {g : fx_Geo} {p : Program} {l : Launch} {e : Env} {s : State} {m : MethodId} {args : Array Value} {below : List Frame} {meth : Method} {c : Code} (C : fx_Cx g p s m args meth c RX7 cX7_takesAll 2 (some .boolean)) (k12 : Int32 → fx_Mem → Prop) (k77 : fx_Mem → Prop) (Q : Int32 → fx_Mem → Prop) (hk12 : ∀ (x1 : Int32) (M : fx_Mem), k12 x1 M → ∀ (H : Heap) (locs : List Loc) (ls : Array Slot), fx_H g s M H locs → lv_has ls 2 [(0, .ref (fx_a g 8)), (1, .int x1)] → W p l e rm_X7_takesAll_8 s m args below meth c H locs 0 0 (MQ below (va_Qi Q (fx_Pw g) (fx_A g)) args s 0 0 (fx_A g)) (F0 m 12 ls [])) (hk77 : ∀ (M : fx_Mem), k77 M → ∀ (H : Heap) (locs : List Loc) (ls : Array Slot), fx_H g s M H locs → lv_has ls 2 [(0, .ref (fx_a g 8))] → W p l e rm_X7_takesAll_8 s m args below meth c H locs 0 0 (MQ below (va_Qi Q (fx_Pw g) (fx_A g)) args s 0 0 (fx_A g)) (F0 m 77 ls [])) (x1 : Int32) (s0 : Int32) (s1 : Int32) (M : fx_Mem) (h : wb_X7_takesAll_8_70 k12 k77 Q x1 s0 s1 M) (H : Heap) (locs : List Loc) (ls : Array Slot) (hH : fx_H g s M H locs) (hl : lv_has ls 2 [(0, .ref (fx_a g 8)), (1, .int x1)]) : W p l e rm_X7_takesAll_8 s m args below meth c H locs 0 0 (MQ below (va_Qi Q (fx_Pw g) (fx_A g)) args s 0 0 (fx_A g)) (F0 m 70 ls [.int s0, .int s1, .ref (fx_a g 8)]) := by
  obtain ⟨hx, hb, hr, hml, hown, hts, hlocks, hsz, hK, hG, hSt⟩ := id C
  unfold wb_X7_takesAll_8_70 at h
  refine lv_iadd hx hb dX7_takesAll_70 ?_
  refine fx_put C hH (fx_w8 g M) rfl in_X7 tyX7 tyX7_ok nmX7 9 (by decide) u_832 rfl rfl (ty := .int) (by decide +kernel) rfl rfl (Nat.le_of_ble_eq_true rfl) (fx_p8_9 g M (s1 + s0)) dX7_takesAll_71 (fun H locs hH => ?_)
  generalize eM1 : fx_si M 521 (s1 + s0) = M1 at hH
  replace h := h M1 eM1.symm
  refine lv_goto (tgt := 12) hx hb dX7_takesAll_74 (by decide) ?_
  exact hk12 x1 M1 h  H locs ls hH (lv_sub hl [0, 1] rfl)
def wb_X7_takesAll_8_55 (k12 : Int32 → fx_Mem → Prop) (k77 : fx_Mem → Prop) (Q : Int32 → fx_Mem → Prop) (s0 : Int32) (M : fx_Mem) : Prop :=
  ((s0 = 0 → wb_X7_takesAll_8_70 k12 k77 Q s0 0 (M.1 521) M) ∧ (¬ s0 = 0 → wb_X7_takesAll_8_70 k12 k77 Q s0 1 (M.1 521) M))
set_option maxHeartbeats 4000000 in
set_option maxRecDepth 100000 in
theorem tb_X7_takesAll_8_55 {g : fx_Geo} {p : Program} {l : Launch} {e : Env} {s : State} {m : MethodId} {args : Array Value} {below : List Frame} {meth : Method} {c : Code} (C : fx_Cx g p s m args meth c RX7 cX7_takesAll 2 (some .boolean)) (k12 : Int32 → fx_Mem → Prop) (k77 : fx_Mem → Prop) (Q : Int32 → fx_Mem → Prop) (hk12 : ∀ (x1 : Int32) (M : fx_Mem), k12 x1 M → ∀ (H : Heap) (locs : List Loc) (ls : Array Slot), fx_H g s M H locs → lv_has ls 2 [(0, .ref (fx_a g 8)), (1, .int x1)] → W p l e rm_X7_takesAll_8 s m args below meth c H locs 0 0 (MQ below (va_Qi Q (fx_Pw g) (fx_A g)) args s 0 0 (fx_A g)) (F0 m 12 ls [])) (hk77 : ∀ (M : fx_Mem), k77 M → ∀ (H : Heap) (locs : List Loc) (ls : Array Slot), fx_H g s M H locs → lv_has ls 2 [(0, .ref (fx_a g 8))] → W p l e rm_X7_takesAll_8 s m args below meth c H locs 0 0 (MQ below (va_Qi Q (fx_Pw g) (fx_A g)) args s 0 0 (fx_A g)) (F0 m 77 ls [])) (s0 : Int32) (M : fx_Mem) (h : wb_X7_takesAll_8_55 k12 k77 Q s0 M) (H : Heap) (locs : List Loc) (ls : Array Slot) (hH : fx_H g s M H locs) (hl : lv_has ls 2 [(0, .ref (fx_a g 8))]) : W p l e rm_X7_takesAll_8 s m args below meth c H locs 0 0 (MQ below (va_Qi Q (fx_Pw g) (fx_A g)) args s 0 0 (fx_A g)) (F0 m 55 ls [.int s0]) := by
  obtain ⟨hx, hb, hr, hml, hown, hts, hlocks, hsz, hK, hG, hSt⟩ := id C
  unfold wb_X7_takesAll_8_55 at h
  refine lv_istore_n (lv' := [(1, .int s0), (0, .ref (fx_a g 8))]) hx hb dX7_takesAll_55 rfl hl (by decide) rfl (fun ls hl => ?_)
  refine lv_aload_n hx hb dX7_takesAll_56 rfl (lv_at hl 1 rfl) ?_
  refine lv_dup hx hb dX7_takesAll_57 rfl ?_
  refine fx_get C hH (fx_w8 g M) rfl in_X7 9 (by decide) u_832 rfl rfl dX7_takesAll_58 ?_
  refine lv_iload_n hx hb dX7_takesAll_61 rfl (lv_at hl 0 rfl) ?_
  refine lv_if_eq (tgt := 69) hx hb dX7_takesAll_62 (by decide) (fun c1 => ?_) (fun c1 => ?_)
  · replace h := h.1 c1
    refine lv_iconst (v := 0) hx hb dX7_takesAll_69 (by decide) ?_
    exact tb_X7_takesAll_8_70 C k12 k77 Q hk12 hk77 s0 0 (M.1 521) M h  H locs ls hH (lv_sub hl [1, 0] rfl)
  · replace h := h.2 c1
    refine lv_iconst (v := 1) hx hb dX7_takesAll_65 (by decide) ?_
    refine lv_goto (tgt := 70) hx hb dX7_takesAll_66 (by decide) ?_
    exact tb_X7_takesAll_8_70 C k12 k77 Q hk12 hk77 s0 1 (M.1 521) M h  H locs ls hH (lv_sub hl [1, 0] rfl)
def wb_X7_takesAll_8_54 (k12 : Int32 → fx_Mem → Prop) (k77 : fx_Mem → Prop) (Q : Int32 → fx_Mem → Prop) (M : fx_Mem) : Prop :=
  wb_X7_takesAll_8_55 k12 k77 Q 0 M
set_option maxHeartbeats 4000000 in
set_option maxRecDepth 100000 in
theorem tb_X7_takesAll_8_54 {g : fx_Geo} {p : Program} {l : Launch} {e : Env} {s : State} {m : MethodId} {args : Array Value} {below : List Frame} {meth : Method} {c : Code} (C : fx_Cx g p s m args meth c RX7 cX7_takesAll 2 (some .boolean)) (k12 : Int32 → fx_Mem → Prop) (k77 : fx_Mem → Prop) (Q : Int32 → fx_Mem → Prop) (hk12 : ∀ (x1 : Int32) (M : fx_Mem), k12 x1 M → ∀ (H : Heap) (locs : List Loc) (ls : Array Slot), fx_H g s M H locs → lv_has ls 2 [(0, .ref (fx_a g 8)), (1, .int x1)] → W p l e rm_X7_takesAll_8 s m args below meth c H locs 0 0 (MQ below (va_Qi Q (fx_Pw g) (fx_A g)) args s 0 0 (fx_A g)) (F0 m 12 ls [])) (hk77 : ∀ (M : fx_Mem), k77 M → ∀ (H : Heap) (locs : List Loc) (ls : Array Slot), fx_H g s M H locs → lv_has ls 2 [(0, .ref (fx_a g 8))] → W p l e rm_X7_takesAll_8 s m args below meth c H locs 0 0 (MQ below (va_Qi Q (fx_Pw g) (fx_A g)) args s 0 0 (fx_A g)) (F0 m 77 ls [])) (M : fx_Mem) (h : wb_X7_takesAll_8_54 k12 k77 Q M) (H : Heap) (locs : List Loc) (ls : Array Slot) (hH : fx_H g s M H locs) (hl : lv_has ls 2 [(0, .ref (fx_a g 8))]) : W p l e rm_X7_takesAll_8 s m args below meth c H locs 0 0 (MQ below (va_Qi Q (fx_Pw g) (fx_A g)) args s 0 0 (fx_A g)) (F0 m 54 ls []) := by
  obtain ⟨hx, hb, hr, hml, hown, hts, hlocks, hsz, hK, hG, hSt⟩ := id C
  unfold wb_X7_takesAll_8_54 at h
  refine lv_iconst (v := 0) hx hb dX7_takesAll_54 (by decide) ?_
  exact tb_X7_takesAll_8_55 C k12 k77 Q hk12 hk77 0 M h  H locs ls hH (lv_sub hl [0] rfl)
def wb_X7_takesAll_8_12 (k12 : Int32 → fx_Mem → Prop) (k77 : fx_Mem → Prop) (Q : Int32 → fx_Mem → Prop) (x1 : Int32) (M : fx_Mem) : Prop :=
  ((x1 = 0 → k77  M) ∧ (¬ x1 = 0 → wp_X7_takesSetting_8  M (fun r3 M2 => ((r3 = 0 → Q 0 M2) ∧ (¬ r3 = 0 → ((M2.1 520 ≤ M2.1 521 → wb_X7_takesAll_8_54 k12 k77 Q  M2) ∧ (¬ M2.1 520 ≤ M2.1 521 → vp_in (M2.1 521) 80 ∧ ((M2.2.1 32 ((M2.1 521).toNatClampNeg) = 32 → wb_X7_takesAll_8_55 k12 k77 Q 1 M2) ∧ (¬ M2.2.1 32 ((M2.1 521).toNatClampNeg) = 32 → wb_X7_takesAll_8_54 k12 k77 Q  M2)))))))))
set_option maxHeartbeats 4000000 in
set_option maxRecDepth 100000 in
theorem tb_X7_takesAll_8_12 {g : fx_Geo} {p : Program} {l : Launch} {e : Env} {s : State} {m : MethodId} {args : Array Value} {below : List Frame} {meth : Method} {c : Code} (C : fx_Cx g p s m args meth c RX7 cX7_takesAll 2 (some .boolean)) (k12 : Int32 → fx_Mem → Prop) (k77 : fx_Mem → Prop) (Q : Int32 → fx_Mem → Prop) (hk12 : ∀ (x1 : Int32) (M : fx_Mem), k12 x1 M → ∀ (H : Heap) (locs : List Loc) (ls : Array Slot), fx_H g s M H locs → lv_has ls 2 [(0, .ref (fx_a g 8)), (1, .int x1)] → W p l e rm_X7_takesAll_8 s m args below meth c H locs 0 0 (MQ below (va_Qi Q (fx_Pw g) (fx_A g)) args s 0 0 (fx_A g)) (F0 m 12 ls [])) (hk77 : ∀ (M : fx_Mem), k77 M → ∀ (H : Heap) (locs : List Loc) (ls : Array Slot), fx_H g s M H locs → lv_has ls 2 [(0, .ref (fx_a g 8))] → W p l e rm_X7_takesAll_8 s m args below meth c H locs 0 0 (MQ below (va_Qi Q (fx_Pw g) (fx_A g)) args s 0 0 (fx_A g)) (F0 m 77 ls [])) (x1 : Int32) (M : fx_Mem) (h : wb_X7_takesAll_8_12 k12 k77 Q x1 M) (H : Heap) (locs : List Loc) (ls : Array Slot) (hH : fx_H g s M H locs) (hl : lv_has ls 2 [(0, .ref (fx_a g 8)), (1, .int x1)]) : W p l e rm_X7_takesAll_8 s m args below meth c H locs 0 0 (MQ below (va_Qi Q (fx_Pw g) (fx_A g)) args s 0 0 (fx_A g)) (F0 m 12 ls []) := by
  obtain ⟨hx, hb, hr, hml, hown, hts, hlocks, hsz, hK, hG, hSt⟩ := id C
  unfold wb_X7_takesAll_8_12 at h
  refine lv_iload_n hx hb dX7_takesAll_12 rfl (lv_at hl 1 rfl) ?_
  refine lv_if_eq (tgt := 77) hx hb dX7_takesAll_13 (by decide) (fun c1 => ?_) (fun c1 => ?_)
  · replace h := h.1 c1
    exact hk77  M h  H locs ls hH (lv_sub hl [0] rfl)
  · replace h := h.2 c1
    refine lv_aload_n hx hb dX7_takesAll_16 rfl (lv_at hl 0 rfl) ?_
    refine fx_ci hH (fx_runV (As := []) (rest := []) C hH (c_X7_takesSetting_8 l C.2.2.2.2.2.2.2.2.2.1  M _ h) (fx_cwV 0 hts u_1017 u_1019 us_29 u_8 u_1020 rfl rfl (by decide +kernel) ⟨(Nat.le_of_ble_eq_true rfl), (Nat.le_of_ble_eq_true rfl)⟩) (fx_w8 g M) rfl rfl hl.1 rfl (Nat.le_of_ble_eq_true rfl) dX7_takesAll_17 ⟨(Nat.le_of_ble_eq_true rfl), (Nat.le_of_ble_eq_true rfl)⟩) (fun r3 M2 H locs h hH => ?_)
    refine lv_if_ne (tgt := 25) hx hb dX7_takesAll_20 (by decide) (fun c4 => ?_) (fun c4 => ?_)
    · replace h := h.2 c4
      refine lv_aload_n hx hb dX7_takesAll_25 rfl (lv_at hl 0 rfl) ?_
      refine fx_get C hH (fx_w8 g M2) rfl in_X7 9 (by decide) u_832 rfl rfl dX7_takesAll_26 ?_
      refine lv_aload_n hx hb dX7_takesAll_29 rfl (lv_at hl 0 rfl) ?_
      refine fx_get C hH (fx_w8 g M2) rfl in_X7 8 (by decide) u_831 rfl rfl dX7_takesAll_30 ?_
      refine lv_icmp_ge (tgt := 54) hx hb dX7_takesAll_33 (by decide) (fun c5 => ?_) (fun c5 => ?_)
      · replace h := h.1 c5
        exact tb_X7_takesAll_8_54 C k12 k77 Q hk12 hk77  M2 h  H locs ls hH (lv_sub hl [0] rfl)
      · replace h := h.2 c5
        refine lv_aload_n hx hb dX7_takesAll_36 rfl (lv_at hl 0 rfl) ?_
        refine fx_get C hH (fx_w8 g M2) rfl in_X7 4 (by decide) u_827 rfl rfl dX7_takesAll_37 ?_
        refine lv_aload_n hx hb dX7_takesAll_40 rfl (lv_at hl 0 rfl) ?_
        refine fx_get C hH (fx_w8 g M2) rfl in_X7 9 (by decide) u_832 rfl rfl dX7_takesAll_41 ?_
        obtain ⟨hi6, h⟩ := h
        refine fx_cald (j := (M2.1 521).toNatClampNeg) C hH 32 (fx_w32 g M2) rfl hi6 dX7_takesAll_44 ?_
        refine lv_bipush (v := 32) hx hb dX7_takesAll_45 (by decide) ?_
        refine lv_icmp_ne (tgt := 54) hx hb dX7_takesAll_47 (by decide) (fun c7 => ?_) (fun c7 => ?_)
        · replace h := h.2 c7
          exact tb_X7_takesAll_8_54 C k12 k77 Q hk12 hk77  M2 h  H locs ls hH (lv_sub hl [0] rfl)
        · replace h := h.1 c7
          refine lv_iconst (v := 1) hx hb dX7_takesAll_50 (by decide) ?_
          refine lv_goto (tgt := 55) hx hb dX7_takesAll_51 (by decide) ?_
          exact tb_X7_takesAll_8_55 C k12 k77 Q hk12 hk77 1 M2 h  H locs ls hH (lv_sub hl [0] rfl)
    · replace h := h.1 c4
      refine lv_iconst (v := 0) hx hb dX7_takesAll_23 (by decide) ?_
      exact fx_zret C hH (by decide) h dX7_takesAll_24
def wl_X7_takesAll_8_12 (k77 : fx_Mem → Prop) (Q : Int32 → fx_Mem → Prop) (n : Nat) (x1 : Int32) (M : fx_Mem) : Prop :=
  fx_lp (α := Int32 × fx_Mem) (fun k a => wb_X7_takesAll_8_12 (fun x1 M => k (x1, M)) k77 Q a.1 a.2) n (x1, M)
set_option maxHeartbeats 4000000 in
theorem tl_X7_takesAll_8_12 {g : fx_Geo} {p : Program} {l : Launch} {e : Env} {s : State} {m : MethodId} {args : Array Value} {below : List Frame} {meth : Method} {c : Code} (C : fx_Cx g p s m args meth c RX7 cX7_takesAll 2 (some .boolean)) (k77 : fx_Mem → Prop) (Q : Int32 → fx_Mem → Prop) (hk77 : ∀ (M : fx_Mem), k77  M → ∀ (H : Heap) (locs : List Loc) (ls : Array Slot), fx_H g s M H locs → lv_has ls 2 [(0, .ref (fx_a g 8))] → W p l e rm_X7_takesAll_8 s m args below meth c H locs 0 0 (MQ below (va_Qi Q (fx_Pw g) (fx_A g)) args s 0 0 (fx_A g)) (F0 m 77 ls [])) : ∀ (n : Nat) (x1 : Int32) (M : fx_Mem), wl_X7_takesAll_8_12 k77 Q n x1 M → ∀ (H : Heap) (locs : List Loc) (ls : Array Slot), fx_H g s M H locs → lv_has ls 2 [(0, .ref (fx_a g 8)), (1, .int x1)] → W p l e rm_X7_takesAll_8 s m args below meth c H locs 0 0 (MQ below (va_Qi Q (fx_Pw g) (fx_A g)) args s 0 0 (fx_A g)) (F0 m 12 ls []) := by
  intro n
  induction n with
  | zero => intro x1 M h; exact False.elim h
  | succ n ih => intro x1 M h  H locs ls hH hl; exact tb_X7_takesAll_8_12 C (wl_X7_takesAll_8_12 k77 Q n) k77 Q ih hk77 x1 M h  H locs ls hH hl
def wb_X7_takesAll_8_77 (Q : Int32 → fx_Mem → Prop) (M : fx_Mem) : Prop :=
  ((M.1 521 = M.1 520 → Q 1 M) ∧ (¬ M.1 521 = M.1 520 → Q 0 M))
set_option maxHeartbeats 4000000 in
set_option maxRecDepth 100000 in
theorem tb_X7_takesAll_8_77 {g : fx_Geo} {p : Program} {l : Launch} {e : Env} {s : State} {m : MethodId} {args : Array Value} {below : List Frame} {meth : Method} {c : Code} (C : fx_Cx g p s m args meth c RX7 cX7_takesAll 2 (some .boolean)) (Q : Int32 → fx_Mem → Prop) (M : fx_Mem) (h : wb_X7_takesAll_8_77 Q M) (H : Heap) (locs : List Loc) (ls : Array Slot) (hH : fx_H g s M H locs) (hl : lv_has ls 2 [(0, .ref (fx_a g 8))]) : W p l e rm_X7_takesAll_8 s m args below meth c H locs 0 0 (MQ below (va_Qi Q (fx_Pw g) (fx_A g)) args s 0 0 (fx_A g)) (F0 m 77 ls []) := by
  obtain ⟨hx, hb, hr, hml, hown, hts, hlocks, hsz, hK, hG, hSt⟩ := id C
  unfold wb_X7_takesAll_8_77 at h
  refine lv_aload_n hx hb dX7_takesAll_77 rfl (lv_at hl 0 rfl) ?_
  refine fx_get C hH (fx_w8 g M) rfl in_X7 9 (by decide) u_832 rfl rfl dX7_takesAll_78 ?_
  refine lv_aload_n hx hb dX7_takesAll_81 rfl (lv_at hl 0 rfl) ?_
  refine fx_get C hH (fx_w8 g M) rfl in_X7 8 (by decide) u_831 rfl rfl dX7_takesAll_82 ?_
  refine lv_icmp_ne (tgt := 92) hx hb dX7_takesAll_85 (by decide) (fun c1 => ?_) (fun c1 => ?_)
  · replace h := h.2 c1
    refine lv_iconst (v := 0) hx hb dX7_takesAll_92 (by decide) ?_
    exact fx_zret C hH (by decide) h dX7_takesAll_93
  · replace h := h.1 c1
    refine lv_iconst (v := 1) hx hb dX7_takesAll_88 (by decide) ?_
    refine lv_goto (tgt := 93) hx hb dX7_takesAll_89 (by decide) ?_
    exact fx_zret C hH (by decide) h dX7_takesAll_93
def wp_X7_takesAll_8 (M : fx_Mem) (Q : Int32 → fx_Mem → Prop) : Prop :=
  ∀ M1 : fx_Mem, M1 = fx_si M 521 0 → ∀ M2 : fx_Mem, M2 = fx_si M1 522 0 → ∃ n12 : Nat, wl_X7_takesAll_8_12 (wb_X7_takesAll_8_77 Q) Q n12 1 M2
set_option maxHeartbeats 4000000 in
set_option maxRecDepth 100000 in
theorem c_X7_takesAll_8 (l : Launch) {g : fx_Geo} (hG : fx_Gd g) (M : fx_Mem) (Q : Int32 → fx_Mem → Prop) (h : wp_X7_takesAll_8 M Q) : Met l yX7_takesAll (.code yX7_takesAll cX7_takesAll 2 (some .boolean) :: fx_U) rm_X7_takesAll_8 (va_Pc [.ref (fx_a g 8)] (fx_At g M)) (va_Qi Q (fx_Pw g) (fx_A g)) 0 0 (fx_A g) := by
  refine Met.ofW (cc := cX7_takesAll) (maxL := 2) (ret := (some .boolean)) (by decide +kernel) rfl ?_
  intro p e s m args below meth c s₁ B hml hv
  obtain ⟨rfl, hv⟩ := hv
  have hts := atoms_spec (ws := .code yX7_takesAll cX7_takesAll 2 (some .boolean) :: fx_U) B.pre
  obtain ⟨C, hH⟩ := fx_body (own := RX7) B hml rfl (fun w hw => hts w (List.mem_cons_of_mem _ hw)) hG hv
  replace hts := fun w hw => hts w (List.mem_cons_of_mem _ hw)
  obtain ⟨hx, hb, hr, -, hown, -, hlocks, hsz, hK, -, hSt⟩ := id C
  have hl := lv_entry ([.ref (fx_a g 8)]) (n := 2) (Nat.le_of_ble_eq_true rfl)
  rw [lg_entry_eq]
  generalize (lg_sl ([.ref (fx_a g 8)]) ++ List.replicate (2 - (lg_sl ([.ref (fx_a g 8)])).length) Slot.unset).toArray = ls at hl ⊢
  have hl : lv_has ls 2 [(0, .ref (fx_a g 8))] := hl
  obtain ⟨H, eH⟩ : ∃ H : Heap, H = s.heap := ⟨_, rfl⟩
  obtain ⟨locs, elocs⟩ : ∃ q : List Loc, q = [] := ⟨_, rfl⟩
  rw [← eH, ← elocs] at hH
  show W p l e rm_X7_takesAll_8 s m _ below meth c s.heap [] 0 0 _ _
  rw [← eH, ← elocs]
  unfold wp_X7_takesAll_8 at h
  refine lv_aload_n hx hb dX7_takesAll_0 rfl (lv_at hl 0 rfl) ?_
  refine lv_iconst (v := 0) hx hb dX7_takesAll_1 (by decide) ?_
  refine fx_put C hH (fx_w8 g M) rfl in_X7 tyX7 tyX7_ok nmX7 9 (by decide) u_832 rfl rfl (ty := .int) (by decide +kernel) rfl rfl (Nat.le_of_ble_eq_true rfl) (fx_p8_9 g M 0) dX7_takesAll_2 (fun H locs hH => ?_)
  generalize eM1 : fx_si M 521 0 = M1 at hH
  replace h := h M1 eM1.symm
  refine lv_aload_n hx hb dX7_takesAll_5 rfl (lv_at hl 0 rfl) ?_
  refine lv_iconst (v := 0) hx hb dX7_takesAll_6 (by decide) ?_
  refine fx_put C hH (fx_w8 g M1) rfl in_X7 tyX7 tyX7_ok nmX7 10 (by decide) u_833 rfl rfl (ty := .int) (by decide +kernel) rfl rfl (Nat.le_of_ble_eq_true rfl) (fx_p8_10 g M1 0) dX7_takesAll_7 (fun H locs hH => ?_)
  generalize eM2 : fx_si M1 522 0 = M2 at hH
  replace h := h M2 eM2.symm
  refine lv_iconst (v := 1) hx hb dX7_takesAll_10 (by decide) ?_
  refine lv_istore_n (lv' := [(1, .int 1), (0, .ref (fx_a g 8))]) hx hb dX7_takesAll_11 rfl hl (by decide) rfl (fun ls hl => ?_)
  obtain ⟨n12, h⟩ := h
  exact tl_X7_takesAll_8_12 C (wb_X7_takesAll_8_77 Q) Q (tb_X7_takesAll_8_77 C Q ) n12 1 M2 h  H locs ls hH (lv_sub hl [1, 0] rfl)
/-! FlexLayoutModel.readItem()I (8,) -/
def rm_X7_readItem_8 : Room := { frames := 4, cells := 0, slots := 0, locals := 89 }
def wb_X7_readItem_8_44 (k44 : Int32 → fx_Mem → Prop) (k87 : Int32 → fx_Mem → Prop) (k103 : fx_Mem → Prop) (Q : Int32 → fx_Mem → Prop) (x2 : Int32) (M : fx_Mem) : Prop :=
  ((M.1 522 ≤ x2 → k103  M) ∧ (¬ M.1 522 ≤ x2 → vp_in x2 40 ∧ vp_in x2 40 ∧ vp_in (M.2.1 33 x2.toNatClampNeg) 10 ∧ vp_in x2 40 ∧ vp_in (M.2.1 33 x2.toNatClampNeg) 10 ∧ wp_X7_isBetween ((M.2.1 34 x2.toNatClampNeg).toInt64) ((fx_tQL ((M.2.1 33 x2.toNatClampNeg).toNatClampNeg)).toInt64) ((fx_tQM ((M.2.1 33 x2.toNatClampNeg).toNatClampNeg)).toInt64) M (fun r12 M11 => ((r12 = 0 → k87 x2 M11) ∧ (¬ r12 = 0 → ∀ v14 : Int32, v14 = x2 + 1 → k44 v14 M11)))))
set_option maxHeartbeats 4000000 in
set_option maxRecDepth 100000 in
theorem tb_X7_readItem_8_44 {g : fx_Geo} {p : Program} {l : Launch} {e : Env} {s : State} {m : MethodId} {args : Array Value} {below : List Frame} {meth : Method} {c : Code} (C : fx_Cx g p s m args meth c RX7 cX7_readItem 4 (some .int)) (k44 : Int32 → fx_Mem → Prop) (k87 : Int32 → fx_Mem → Prop) (k103 : fx_Mem → Prop) (Q : Int32 → fx_Mem → Prop) (hk44 : ∀ (x2 : Int32) (M : fx_Mem), k44 x2 M → ∀ (H : Heap) (locs : List Loc) (ls : Array Slot), fx_H g s M H locs → lv_has ls 4 [(0, .ref (fx_a g 8)), (2, .int x2)] → W p l e rm_X7_readItem_8 s m args below meth c H locs 0 0 (MQ below (va_Qi Q (fx_Pw g) (fx_A g)) args s 0 0 (fx_A g)) (F0 m 44 ls [])) (hk87 : ∀ (x2 : Int32) (M : fx_Mem), k87 x2 M → ∀ (H : Heap) (locs : List Loc) (ls : Array Slot), fx_H g s M H locs → lv_has ls 4 [(0, .ref (fx_a g 8)), (2, .int x2)] → W p l e rm_X7_readItem_8 s m args below meth c H locs 0 0 (MQ below (va_Qi Q (fx_Pw g) (fx_A g)) args s 0 0 (fx_A g)) (F0 m 87 ls [])) (hk103 : ∀ (M : fx_Mem), k103 M → ∀ (H : Heap) (locs : List Loc) (ls : Array Slot), fx_H g s M H locs → lv_has ls 4 [(0, .ref (fx_a g 8))] → W p l e rm_X7_readItem_8 s m args below meth c H locs 0 0 (MQ below (va_Qi Q (fx_Pw g) (fx_A g)) args s 0 0 (fx_A g)) (F0 m 103 ls [])) (x2 : Int32) (M : fx_Mem) (h : wb_X7_readItem_8_44 k44 k87 k103 Q x2 M) (H : Heap) (locs : List Loc) (ls : Array Slot) (hH : fx_H g s M H locs) (hl : lv_has ls 4 [(0, .ref (fx_a g 8)), (2, .int x2)]) : W p l e rm_X7_readItem_8 s m args below meth c H locs 0 0 (MQ below (va_Qi Q (fx_Pw g) (fx_A g)) args s 0 0 (fx_A g)) (F0 m 44 ls []) := by
  obtain ⟨hx, hb, hr, hml, hown, hts, hlocks, hsz, hK, hG, hSt⟩ := id C
  unfold wb_X7_readItem_8_44 at h
  refine lv_iload_n hx hb dX7_readItem_44 rfl (lv_at hl 1 rfl) ?_
  refine lv_aload_n hx hb dX7_readItem_45 rfl (lv_at hl 0 rfl) ?_
  refine fx_get C hH (fx_w8 g M) rfl in_X7 10 (by decide) u_833 rfl rfl dX7_readItem_46 ?_
  refine lv_icmp_ge (tgt := 103) hx hb dX7_readItem_49 (by decide) (fun c1 => ?_) (fun c1 => ?_)
  · replace h := h.1 c1
    exact hk103  M h  H locs ls hH (lv_sub hl [0] rfl)
  · replace h := h.2 c1
    refine lv_aload_n hx hb dX7_readItem_52 rfl (lv_at hl 0 rfl) ?_
    refine fx_get C hH (fx_w8 g M) rfl in_X7 6 (by decide) u_829 rfl rfl dX7_readItem_53 ?_
    refine lv_iload_n hx hb dX7_readItem_56 rfl (lv_at hl 1 rfl) ?_
    obtain ⟨hi2, h⟩ := h
    refine fx_iald (j := x2.toNatClampNeg) C hH 34 (fx_w34 g M) rfl hi2 dX7_readItem_57 ?_
    refine lv_i2l hx hb dX7_readItem_58 rfl ?_
    refine fx_gets C hH 6 rfl u_993 dX7_readItem_59 (fun t3 hT4 => ?_)
    refine lv_aload_n hx hb dX7_readItem_62 rfl (lv_at hl 0 rfl) ?_
    refine fx_get C hH (fx_w8 g M) rfl in_X7 5 (by decide) u_828 rfl rfl dX7_readItem_63 ?_
    refine lv_iload_n hx hb dX7_readItem_66 rfl (lv_at hl 1 rfl) ?_
    obtain ⟨hi5, h⟩ := h
    refine fx_iald (j := x2.toNatClampNeg) C hH 33 (fx_w33 g M) rfl hi5 dX7_readItem_67 ?_
    obtain ⟨hi6, h⟩ := h
    refine fx_ti (j := (M.2.1 33 x2.toNatClampNeg).toNatClampNeg) C hH hT4 rfl hi6 dX7_readItem_68 ?_
    refine lv_i2l hx hb dX7_readItem_69 rfl ?_
    refine fx_gets C hH 7 rfl u_995 dX7_readItem_70 (fun t7 hT8 => ?_)
    refine lv_aload_n hx hb dX7_readItem_73 rfl (lv_at hl 0 rfl) ?_
    refine fx_get C hH (fx_w8 g M) rfl in_X7 5 (by decide) u_828 rfl rfl dX7_readItem_74 ?_
    refine lv_iload_n hx hb dX7_readItem_77 rfl (lv_at hl 1 rfl) ?_
    obtain ⟨hi9, h⟩ := h
    refine fx_iald (j := x2.toNatClampNeg) C hH 33 (fx_w33 g M) rfl hi9 dX7_readItem_78 ?_
    obtain ⟨hi10, h⟩ := h
    refine fx_ti (j := (M.2.1 33 x2.toNatClampNeg).toNatClampNeg) C hH hT8 rfl hi10 dX7_readItem_79 ?_
    refine lv_i2l hx hb dX7_readItem_80 rfl ?_
    refine fx_ci hH (fx_runS (As := [.long ((M.2.1 34 x2.toNatClampNeg).toInt64), .long ((fx_tQL ((M.2.1 33 x2.toNatClampNeg).toNatClampNeg)).toInt64), .long ((fx_tQM ((M.2.1 33 x2.toNatClampNeg).toNatClampNeg)).toInt64)]) (rest := []) C hH (c_X7_isBetween l C.2.2.2.2.2.2.2.2.2.1 ((M.2.1 34 x2.toNatClampNeg).toInt64) ((fx_tQL ((M.2.1 33 x2.toNatClampNeg).toNatClampNeg)).toInt64) ((fx_tQM ((M.2.1 33 x2.toNatClampNeg).toNatClampNeg)).toInt64) M _ h) (fx_cwS 3 hts u_938 u_939 u_8 u_940 rfl rfl (by decide +kernel) ⟨(Nat.le_of_ble_eq_true rfl), (Nat.le_of_ble_eq_true rfl)⟩) rfl hl.1 rfl (Nat.le_of_ble_eq_true rfl) dX7_readItem_81 ⟨(Nat.le_of_ble_eq_true rfl), (Nat.le_of_ble_eq_true rfl)⟩) (fun r12 M11 H locs h hH => ?_)
    refine lv_if_ne (tgt := 97) hx hb dX7_readItem_84 (by decide) (fun c13 => ?_) (fun c13 => ?_)
    · replace h := h.2 c13
      obtain ⟨v14, ev14⟩ : ∃ z : Int32, z = x2 + 1 := ⟨_, rfl⟩
      refine lv_iinc (v := v14) (lv' := [(2, .int v14), (0, .ref (fx_a g 8))]) hx hb dX7_readItem_97 hl (k := 1) rfl (by rw [ev14]; rfl) (by decide) rfl (fun ls hl => ?_)
      replace h := h v14 ev14
      refine lv_goto (tgt := 44) hx hb dX7_readItem_100 (by decide) ?_
      exact hk44 v14 M11 h  H locs ls hH (lv_sub hl [1, 0] rfl)
    · replace h := h.1 c13
      exact hk87 x2 M11 h  H locs ls hH (lv_sub hl [0, 1] rfl)
def wl_X7_readItem_8_44 (k87 : Int32 → fx_Mem → Prop) (k103 : fx_Mem → Prop) (Q : Int32 → fx_Mem → Prop) (n : Nat) (x2 : Int32) (M : fx_Mem) : Prop :=
  fx_lp (α := Int32 × fx_Mem) (fun k a => wb_X7_readItem_8_44 (fun x2 M => k (x2, M)) k87 k103 Q a.1 a.2) n (x2, M)
set_option maxHeartbeats 4000000 in
theorem tl_X7_readItem_8_44 {g : fx_Geo} {p : Program} {l : Launch} {e : Env} {s : State} {m : MethodId} {args : Array Value} {below : List Frame} {meth : Method} {c : Code} (C : fx_Cx g p s m args meth c RX7 cX7_readItem 4 (some .int)) (k87 : Int32 → fx_Mem → Prop) (k103 : fx_Mem → Prop) (Q : Int32 → fx_Mem → Prop) (hk87 : ∀ (x2 : Int32) (M : fx_Mem), k87 x2 M → ∀ (H : Heap) (locs : List Loc) (ls : Array Slot), fx_H g s M H locs → lv_has ls 4 [(0, .ref (fx_a g 8)), (2, .int x2)] → W p l e rm_X7_readItem_8 s m args below meth c H locs 0 0 (MQ below (va_Qi Q (fx_Pw g) (fx_A g)) args s 0 0 (fx_A g)) (F0 m 87 ls [])) (hk103 : ∀ (M : fx_Mem), k103  M → ∀ (H : Heap) (locs : List Loc) (ls : Array Slot), fx_H g s M H locs → lv_has ls 4 [(0, .ref (fx_a g 8))] → W p l e rm_X7_readItem_8 s m args below meth c H locs 0 0 (MQ below (va_Qi Q (fx_Pw g) (fx_A g)) args s 0 0 (fx_A g)) (F0 m 103 ls [])) : ∀ (n : Nat) (x2 : Int32) (M : fx_Mem), wl_X7_readItem_8_44 k87 k103 Q n x2 M → ∀ (H : Heap) (locs : List Loc) (ls : Array Slot), fx_H g s M H locs → lv_has ls 4 [(0, .ref (fx_a g 8)), (2, .int x2)] → W p l e rm_X7_readItem_8 s m args below meth c H locs 0 0 (MQ below (va_Qi Q (fx_Pw g) (fx_A g)) args s 0 0 (fx_A g)) (F0 m 44 ls []) := by
  intro n
  induction n with
  | zero => intro x2 M h; exact False.elim h
  | succ n ih => intro x2 M h  H locs ls hH hl; exact tb_X7_readItem_8_44 C (wl_X7_readItem_8_44 k87 k103 Q n) k87 k103 Q ih hk87 hk103 x2 M h  H locs ls hH hl
def wb_X7_readItem_8_87 (Q : Int32 → fx_Mem → Prop) (x2 : Int32) (M : fx_Mem) : Prop :=
  vp_in x2 40 ∧ Q ((-100) - (M.2.1 35 x2.toNatClampNeg)) M
set_option maxHeartbeats 4000000 in
set_option maxRecDepth 100000 in
theorem tb_X7_readItem_8_87 {g : fx_Geo} {p : Program} {l : Launch} {e : Env} {s : State} {m : MethodId} {args : Array Value} {below : List Frame} {meth : Method} {c : Code} (C : fx_Cx g p s m args meth c RX7 cX7_readItem 4 (some .int)) (Q : Int32 → fx_Mem → Prop) (x2 : Int32) (M : fx_Mem) (h : wb_X7_readItem_8_87 Q x2 M) (H : Heap) (locs : List Loc) (ls : Array Slot) (hH : fx_H g s M H locs) (hl : lv_has ls 4 [(0, .ref (fx_a g 8)), (2, .int x2)]) : W p l e rm_X7_readItem_8 s m args below meth c H locs 0 0 (MQ below (va_Qi Q (fx_Pw g) (fx_A g)) args s 0 0 (fx_A g)) (F0 m 87 ls []) := by
  obtain ⟨hx, hb, hr, hml, hown, hts, hlocks, hsz, hK, hG, hSt⟩ := id C
  unfold wb_X7_readItem_8_87 at h
  refine lv_bipush (v := -100) hx hb dX7_readItem_87 (by decide) ?_
  refine lv_aload_n hx hb dX7_readItem_89 rfl (lv_at hl 0 rfl) ?_
  refine fx_get C hH (fx_w8 g M) rfl in_X7 7 (by decide) u_830 rfl rfl dX7_readItem_90 ?_
  refine lv_iload_n hx hb dX7_readItem_93 rfl (lv_at hl 1 rfl) ?_
  obtain ⟨hi1, h⟩ := h
  refine fx_iald (j := x2.toNatClampNeg) C hH 35 (fx_w35 g M) rfl hi1 dX7_readItem_94 ?_
  refine lv_isub hx hb dX7_readItem_95 ?_
  exact fx_iret C hH h dX7_readItem_96
def wb_X7_readItem_8_112 (k112 : Int32 → Int32 → fx_Mem → Prop) (Q : Int32 → fx_Mem → Prop) (x2 : Int32) (x3 : Int32) (M : fx_Mem) : Prop :=
  ((M.1 522 ≤ x3 → Q x2 M) ∧ (¬ M.1 522 ≤ x3 → vp_in x3 40 ∧ vp_in x3 40 ∧ vp_in ((10 * x2) + (M.2.1 33 x3.toNatClampNeg)) 200 ∧ ∀ M5 : fx_Mem, M5 = fx_sa M 31 (((10 * x2) + (M.2.1 33 x3.toNatClampNeg)).toNatClampNeg) (M.2.1 34 x3.toNatClampNeg) → ∀ v6 : Int32, v6 = x3 + 1 → k112 x2 v6 M5))
set_option maxHeartbeats 4000000 in
set_option maxRecDepth 100000 in
theorem tb_X7_readItem_8_112 {g : fx_Geo} {p : Program} {l : Launch} {e : Env} {s : State} {m : MethodId} {args : Array Value} {below : List Frame} {meth : Method} {c : Code} (C : fx_Cx g p s m args meth c RX7 cX7_readItem 4 (some .int)) (k112 : Int32 → Int32 → fx_Mem → Prop) (Q : Int32 → fx_Mem → Prop) (hk112 : ∀ (x2 : Int32) (x3 : Int32) (M : fx_Mem), k112 x2 x3 M → ∀ (H : Heap) (locs : List Loc) (ls : Array Slot), fx_H g s M H locs → lv_has ls 4 [(0, .ref (fx_a g 8)), (2, .int x2), (3, .int x3)] → W p l e rm_X7_readItem_8 s m args below meth c H locs 0 0 (MQ below (va_Qi Q (fx_Pw g) (fx_A g)) args s 0 0 (fx_A g)) (F0 m 112 ls [])) (x2 : Int32) (x3 : Int32) (M : fx_Mem) (h : wb_X7_readItem_8_112 k112 Q x2 x3 M) (H : Heap) (locs : List Loc) (ls : Array Slot) (hH : fx_H g s M H locs) (hl : lv_has ls 4 [(0, .ref (fx_a g 8)), (2, .int x2), (3, .int x3)]) : W p l e rm_X7_readItem_8 s m args below meth c H locs 0 0 (MQ below (va_Qi Q (fx_Pw g) (fx_A g)) args s 0 0 (fx_A g)) (F0 m 112 ls []) := by
  obtain ⟨hx, hb, hr, hml, hown, hts, hlocks, hsz, hK, hG, hSt⟩ := id C
  unfold wb_X7_readItem_8_112 at h
  refine lv_iload_n hx hb dX7_readItem_112 rfl (lv_at hl 2 rfl) ?_
  refine lv_aload_n hx hb dX7_readItem_113 rfl (lv_at hl 0 rfl) ?_
  refine fx_get C hH (fx_w8 g M) rfl in_X7 10 (by decide) u_833 rfl rfl dX7_readItem_114 ?_
  refine lv_icmp_ge (tgt := 148) hx hb dX7_readItem_117 (by decide) (fun c1 => ?_) (fun c1 => ?_)
  · replace h := h.1 c1
    refine lv_iload_n hx hb dX7_readItem_148 rfl (lv_at hl 1 rfl) ?_
    exact fx_iret C hH h dX7_readItem_149
  · replace h := h.2 c1
    refine lv_aload_n hx hb dX7_readItem_120 rfl (lv_at hl 0 rfl) ?_
    refine fx_get C hH (fx_w8 g M) rfl in_X7 2 (by decide) u_825 rfl rfl dX7_readItem_121 ?_
    refine lv_bipush (v := 10) hx hb dX7_readItem_124 (by decide) ?_
    refine lv_iload_n hx hb dX7_readItem_126 rfl (lv_at hl 1 rfl) ?_
    refine lv_imul hx hb dX7_readItem_127 ?_
    refine lv_aload_n hx hb dX7_readItem_128 rfl (lv_at hl 0 rfl) ?_
    refine fx_get C hH (fx_w8 g M) rfl in_X7 5 (by decide) u_828 rfl rfl dX7_readItem_129 ?_
    refine lv_iload_n hx hb dX7_readItem_132 rfl (lv_at hl 2 rfl) ?_
    obtain ⟨hi2, h⟩ := h
    refine fx_iald (j := x3.toNatClampNeg) C hH 33 (fx_w33 g M) rfl hi2 dX7_readItem_133 ?_
    refine lv_iadd hx hb dX7_readItem_134 ?_
    refine lv_aload_n hx hb dX7_readItem_135 rfl (lv_at hl 0 rfl) ?_
    refine fx_get C hH (fx_w8 g M) rfl in_X7 6 (by decide) u_829 rfl rfl dX7_readItem_136 ?_
    refine lv_iload_n hx hb dX7_readItem_139 rfl (lv_at hl 2 rfl) ?_
    obtain ⟨hi3, h⟩ := h
    refine fx_iald (j := x3.toNatClampNeg) C hH 34 (fx_w34 g M) rfl hi3 dX7_readItem_140 ?_
    obtain ⟨hi4, h⟩ := h
    refine fx_iast (j := ((10 * x2) + (M.2.1 33 x3.toNatClampNeg)).toNatClampNeg) (M' := fx_sa M 31 (((10 * x2) + (M.2.1 33 x3.toNatClampNeg)).toNatClampNeg) (M.2.1 34 x3.toNatClampNeg)) C hH 31 rfl (fx_w31 g M) (fx_p31 g M _) hi4 dX7_readItem_141 (fun H locs hH => ?_)
    generalize eM5 : fx_sa M 31 (((10 * x2) + (M.2.1 33 x3.toNatClampNeg)).toNatClampNeg) (M.2.1 34 x3.toNatClampNeg) = M5 at hH
    replace h := h M5 eM5.symm
    obtain ⟨v6, ev6⟩ : ∃ z : Int32, z = x3 + 1 := ⟨_, rfl⟩
    refine lv_iinc (v := v6) (lv' := [(3, .int v6), (0, .ref (fx_a g 8)), (2, .int x2)]) hx hb dX7_readItem_142 hl (k := 2) rfl (by rw [ev6]; rfl) (by decide) rfl (fun ls hl => ?_)
    replace h := h v6 ev6
    refine lv_goto (tgt := 112) hx hb dX7_readItem_145 (by decide) ?_
    exact hk112 x2 v6 M5 h  H locs ls hH (lv_sub hl [1, 2, 0] rfl)
def wl_X7_readItem_8_112 (Q : Int32 → fx_Mem → Prop) (n : Nat) (x2 : Int32) (x3 : Int32) (M : fx_Mem) : Prop :=
  fx_lp (α := Int32 × Int32 × fx_Mem) (fun k a => wb_X7_readItem_8_112 (fun x2 x3 M => k (x2, x3, M)) Q a.1 a.2.1 a.2.2) n (x2, x3, M)
set_option maxHeartbeats 4000000 in
theorem tl_X7_readItem_8_112 {g : fx_Geo} {p : Program} {l : Launch} {e : Env} {s : State} {m : MethodId} {args : Array Value} {below : List Frame} {meth : Method} {c : Code} (C : fx_Cx g p s m args meth c RX7 cX7_readItem 4 (some .int)) (Q : Int32 → fx_Mem → Prop) : ∀ (n : Nat) (x2 : Int32) (x3 : Int32) (M : fx_Mem), wl_X7_readItem_8_112  Q n x2 x3 M → ∀ (H : Heap) (locs : List Loc) (ls : Array Slot), fx_H g s M H locs → lv_has ls 4 [(0, .ref (fx_a g 8)), (2, .int x2), (3, .int x3)] → W p l e rm_X7_readItem_8 s m args below meth c H locs 0 0 (MQ below (va_Qi Q (fx_Pw g) (fx_A g)) args s 0 0 (fx_A g)) (F0 m 112 ls []) := by
  intro n
  induction n with
  | zero => intro x2 x3 M h; exact False.elim h
  | succ n ih => intro x2 x3 M h  H locs ls hH hl; exact tb_X7_readItem_8_112 C (wl_X7_readItem_8_112  Q n) Q ih x2 x3 M h  H locs ls hH hl
def wb_X7_readItem_8_103 (Q : Int32 → fx_Mem → Prop) (M : fx_Mem) : Prop :=
  wp_X7_begins_8 0 0 M (fun r2 M1 => ∃ n112 : Nat, wl_X7_readItem_8_112 Q n112 r2 0 M1)
set_option maxHeartbeats 4000000 in
set_option maxRecDepth 100000 in
theorem tb_X7_readItem_8_103 {g : fx_Geo} {p : Program} {l : Launch} {e : Env} {s : State} {m : MethodId} {args : Array Value} {below : List Frame} {meth : Method} {c : Code} (C : fx_Cx g p s m args meth c RX7 cX7_readItem 4 (some .int)) (Q : Int32 → fx_Mem → Prop) (M : fx_Mem) (h : wb_X7_readItem_8_103 Q M) (H : Heap) (locs : List Loc) (ls : Array Slot) (hH : fx_H g s M H locs) (hl : lv_has ls 4 [(0, .ref (fx_a g 8))]) : W p l e rm_X7_readItem_8 s m args below meth c H locs 0 0 (MQ below (va_Qi Q (fx_Pw g) (fx_A g)) args s 0 0 (fx_A g)) (F0 m 103 ls []) := by
  obtain ⟨hx, hb, hr, hml, hown, hts, hlocks, hsz, hK, hG, hSt⟩ := id C
  unfold wb_X7_readItem_8_103 at h
  refine lv_aload_n hx hb dX7_readItem_103 rfl (lv_at hl 0 rfl) ?_
  refine lv_iconst (v := 0) hx hb dX7_readItem_104 (by decide) ?_
  refine lv_iconst (v := 0) hx hb dX7_readItem_105 (by decide) ?_
  refine fx_ci hH (fx_runV (As := [.int 0, .int 0]) (rest := []) C hH (c_X7_begins_8 l C.2.2.2.2.2.2.2.2.2.1 0 0 M _ h) (fx_cwV 2 hts u_970 u_972 us_25 u_8 u_973 rfl rfl (by decide +kernel) ⟨(Nat.le_of_ble_eq_true rfl), (Nat.le_of_ble_eq_true rfl)⟩) (fx_w8 g M) rfl rfl hl.1 rfl (Nat.le_of_ble_eq_true rfl) dX7_readItem_106 ⟨(Nat.le_of_ble_eq_true rfl), (Nat.le_of_ble_eq_true rfl)⟩) (fun r2 M1 H locs h hH => ?_)
  refine lv_istore_n (lv' := [(2, .int r2), (0, .ref (fx_a g 8))]) hx hb dX7_readItem_109 rfl hl (by decide) rfl (fun ls hl => ?_)
  refine lv_iconst (v := 0) hx hb dX7_readItem_110 (by decide) ?_
  refine lv_istore_n (lv' := [(3, .int 0), (2, .int r2), (0, .ref (fx_a g 8))]) hx hb dX7_readItem_111 rfl hl (by decide) rfl (fun ls hl => ?_)
  obtain ⟨n112, h⟩ := h
  exact tl_X7_readItem_8_112 C Q  n112 r2 0 M1 h  H locs ls hH (lv_sub hl [2, 1, 0] rfl)
def wp_X7_readItem_8 (M : fx_Mem) (Q : Int32 → fx_Mem → Prop) : Prop :=
  ((M.1 515 = 20 → wp_X7_fails_8 1 M (fun r8 M7 => Q r8 M7)) ∧ (¬ M.1 515 = 20 → ∀ M2 : fx_Mem, M2 = fx_si M 512 0 → wp_X7_takesAll_8  M2 (fun r4 M3 => ∀ M5 : fx_Mem, M5 = fx_si M3 520 0 → ((r4 = 0 → Q ((-100) - (M5.1 521)) M5) ∧ (¬ r4 = 0 → ∃ n44 : Nat, wl_X7_readItem_8_44 (wb_X7_readItem_8_87 Q) (wb_X7_readItem_8_103 Q) Q n44 0 M5)))))
set_option maxHeartbeats 4000000 in
set_option maxRecDepth 100000 in
theorem c_X7_readItem_8 (l : Launch) {g : fx_Geo} (hG : fx_Gd g) (M : fx_Mem) (Q : Int32 → fx_Mem → Prop) (h : wp_X7_readItem_8 M Q) : Met l yX7_readItem (.code yX7_readItem cX7_readItem 4 (some .int) :: fx_U) rm_X7_readItem_8 (va_Pc [.ref (fx_a g 8)] (fx_At g M)) (va_Qi Q (fx_Pw g) (fx_A g)) 0 0 (fx_A g) := by
  refine Met.ofW (cc := cX7_readItem) (maxL := 4) (ret := (some .int)) (by decide +kernel) rfl ?_
  intro p e s m args below meth c s₁ B hml hv
  obtain ⟨rfl, hv⟩ := hv
  have hts := atoms_spec (ws := .code yX7_readItem cX7_readItem 4 (some .int) :: fx_U) B.pre
  obtain ⟨C, hH⟩ := fx_body (own := RX7) B hml rfl (fun w hw => hts w (List.mem_cons_of_mem _ hw)) hG hv
  replace hts := fun w hw => hts w (List.mem_cons_of_mem _ hw)
  obtain ⟨hx, hb, hr, -, hown, -, hlocks, hsz, hK, -, hSt⟩ := id C
  have hl := lv_entry ([.ref (fx_a g 8)]) (n := 4) (Nat.le_of_ble_eq_true rfl)
  rw [lg_entry_eq]
  generalize (lg_sl ([.ref (fx_a g 8)]) ++ List.replicate (4 - (lg_sl ([.ref (fx_a g 8)])).length) Slot.unset).toArray = ls at hl ⊢
  have hl : lv_has ls 4 [(0, .ref (fx_a g 8))] := hl
  obtain ⟨H, eH⟩ : ∃ H : Heap, H = s.heap := ⟨_, rfl⟩
  obtain ⟨locs, elocs⟩ : ∃ q : List Loc, q = [] := ⟨_, rfl⟩
  rw [← eH, ← elocs] at hH
  show W p l e rm_X7_readItem_8 s m _ below meth c s.heap [] 0 0 _ _
  rw [← eH, ← elocs]
  unfold wp_X7_readItem_8 at h
  refine lv_aload_n hx hb dX7_readItem_0 rfl (lv_at hl 0 rfl) ?_
  refine fx_get C hH (fx_w8 g M) rfl in_X7 3 (by decide) u_826 rfl rfl dX7_readItem_1 ?_
  refine lv_bipush (v := 20) hx hb dX7_readItem_4 (by decide) ?_
  refine lv_icmp_ne (tgt := 15) hx hb dX7_readItem_6 (by decide) (fun c1 => ?_) (fun c1 => ?_)
  · replace h := h.2 c1
    refine lv_aload_n hx hb dX7_readItem_15 rfl (lv_at hl 0 rfl) ?_
    refine lv_iconst (v := 0) hx hb dX7_readItem_16 (by decide) ?_
    refine fx_put C hH (fx_w8 g M) rfl in_X7 tyX7 tyX7_ok nmX7 0 (by decide) u_823 rfl rfl (ty := .int) (by decide +kernel) rfl rfl (Nat.le_of_ble_eq_true rfl) (fx_p8_0 g M 0) dX7_readItem_17 (fun H locs hH => ?_)
    generalize eM2 : fx_si M 512 0 = M2 at hH
    replace h := h M2 eM2.symm
    refine lv_aload_n hx hb dX7_readItem_20 rfl (lv_at hl 0 rfl) ?_
    refine fx_ci hH (fx_runV (As := []) (rest := []) C hH (c_X7_takesAll_8 l C.2.2.2.2.2.2.2.2.2.1  M2 _ h) (fx_cwV 0 hts u_1013 u_1015 us_28 u_8 u_1016 rfl rfl (by decide +kernel) ⟨(Nat.le_of_ble_eq_true rfl), (Nat.le_of_ble_eq_true rfl)⟩) (fx_w8 g M2) rfl rfl hl.1 rfl (Nat.le_of_ble_eq_true rfl) dX7_readItem_21 ⟨(Nat.le_of_ble_eq_true rfl), (Nat.le_of_ble_eq_true rfl)⟩) (fun r4 M3 H locs h hH => ?_)
    refine lv_istore_n (lv' := [(1, .int r4), (0, .ref (fx_a g 8))]) hx hb dX7_readItem_24 rfl hl (by decide) rfl (fun ls hl => ?_)
    refine lv_aload_n hx hb dX7_readItem_25 rfl (lv_at hl 1 rfl) ?_
    refine lv_iconst (v := 0) hx hb dX7_readItem_26 (by decide) ?_
    refine fx_put C hH (fx_w8 g M3) rfl in_X7 tyX7 tyX7_ok nmX7 8 (by decide) u_831 rfl rfl (ty := .int) (by decide +kernel) rfl rfl (Nat.le_of_ble_eq_true rfl) (fx_p8_8 g M3 0) dX7_readItem_27 (fun H locs hH => ?_)
    generalize eM5 : fx_si M3 520 0 = M5 at hH
    replace h := h M5 eM5.symm
    refine lv_iload_n hx hb dX7_readItem_30 rfl (lv_at hl 0 rfl) ?_
    refine lv_if_ne (tgt := 42) hx hb dX7_readItem_31 (by decide) (fun c6 => ?_) (fun c6 => ?_)
    · replace h := h.2 c6
      refine lv_iconst (v := 0) hx hb dX7_readItem_42 (by decide) ?_
      refine lv_istore_n (lv' := [(2, .int 0), (1, .int r4), (0, .ref (fx_a g 8))]) hx hb dX7_readItem_43 rfl hl (by decide) rfl (fun ls hl => ?_)
      obtain ⟨n44, h⟩ := h
      exact tl_X7_readItem_8_44 C (wb_X7_readItem_8_87 Q) (wb_X7_readItem_8_103 Q) Q (tb_X7_readItem_8_87 C Q ) (tb_X7_readItem_8_103 C Q ) n44 0 M5 h  H locs ls hH (lv_sub hl [2, 0] rfl)
    · replace h := h.1 c6
      refine lv_bipush (v := -100) hx hb dX7_readItem_34 (by decide) ?_
      refine lv_aload_n hx hb dX7_readItem_36 rfl (lv_at hl 1 rfl) ?_
      refine fx_get C hH (fx_w8 g M5) rfl in_X7 9 (by decide) u_832 rfl rfl dX7_readItem_37 ?_
      refine lv_isub hx hb dX7_readItem_40 ?_
      exact fx_iret C hH h dX7_readItem_41
  · replace h := h.1 c1
    refine lv_aload_n hx hb dX7_readItem_9 rfl (lv_at hl 0 rfl) ?_
    refine lv_iconst (v := 1) hx hb dX7_readItem_10 (by decide) ?_
    refine fx_ci hH (fx_runV (As := [.int 1]) (rest := []) C hH (c_X7_fails_8 l C.2.2.2.2.2.2.2.2.2.1 1 M _ h) (fx_cwV 1 hts u_945 u_947 us_24 u_8 u_948 rfl rfl (by decide +kernel) ⟨(Nat.le_of_ble_eq_true rfl), (Nat.le_of_ble_eq_true rfl)⟩) (fx_w8 g M) rfl rfl hl.1 rfl (Nat.le_of_ble_eq_true rfl) dX7_readItem_11 ⟨(Nat.le_of_ble_eq_true rfl), (Nat.le_of_ble_eq_true rfl)⟩) (fun r8 M7 H locs h hH => ?_)
    exact fx_iret C hH h dX7_readItem_14
/-! FlexLayoutModel.divides(JI)V (8,) -/
def rm_X7_divides_8 : Room := { frames := 0, cells := 0, slots := 0, locals := 0 }
def wb_X7_divides_8_6 (k6 : Int64 → Int32 → Int64 → Int32 → fx_Mem → Prop) (k30 : Int64 → Int32 → Int64 → fx_Mem → Prop) (Q : fx_Mem → Prop) (y1 : Int64) (x3 : Int32) (y4 : Int64) (x6 : Int32) (M : fx_Mem) : Prop :=
  ((x3 ≤ x6 → k30 y1 x3 y4 M) ∧ (¬ x3 ≤ x6 → vp_in x6 20 ∧ ∀ w3 : Int64, w3 = y4 + (M.2.2 36 x6.toNatClampNeg) → ∀ v4 : Int32, v4 = x6 + 1 → k6 y1 x3 w3 v4 M))
set_option maxHeartbeats 4000000 in
set_option maxRecDepth 100000 in
theorem tb_X7_divides_8_6 {g : fx_Geo} {p : Program} {l : Launch} {e : Env} {s : State} {m : MethodId} {args : Array Value} {below : List Frame} {meth : Method} {c : Code} (C : fx_Cx g p s m args meth c RX7 cX7_divides 10 none) (k6 : Int64 → Int32 → Int64 → Int32 → fx_Mem → Prop) (k30 : Int64 → Int32 → Int64 → fx_Mem → Prop) (Q : fx_Mem → Prop) (hk6 : ∀ (y1 : Int64) (x3 : Int32) (y4 : Int64) (x6 : Int32) (M : fx_Mem), k6 y1 x3 y4 x6 M → ∀ (H : Heap) (locs : List Loc) (ls : Array Slot), fx_H g s M H locs → lv_has ls 10 [(0, .ref (fx_a g 8)), (1, .long y1), (3, .int x3), (4, .long y4), (6, .int x6)] → W p l e rm_X7_divides_8 s m args below meth c H locs 0 0 (MQ below (va_Qv Q (fx_Pw g) (fx_A g)) args s 0 0 (fx_A g)) (F0 m 6 ls [])) (hk30 : ∀ (y1 : Int64) (x3 : Int32) (y4 : Int64) (M : fx_Mem), k30 y1 x3 y4 M → ∀ (H : Heap) (locs : List Loc) (ls : Array Slot), fx_H g s M H locs → lv_has ls 10 [(0, .ref (fx_a g 8)), (1, .long y1), (3, .int x3), (4, .long y4)] → W p l e rm_X7_divides_8 s m args below meth c H locs 0 0 (MQ below (va_Qv Q (fx_Pw g) (fx_A g)) args s 0 0 (fx_A g)) (F0 m 30 ls [])) (y1 : Int64) (x3 : Int32) (y4 : Int64) (x6 : Int32) (M : fx_Mem) (h : wb_X7_divides_8_6 k6 k30 Q y1 x3 y4 x6 M) (H : Heap) (locs : List Loc) (ls : Array Slot) (hH : fx_H g s M H locs) (hl : lv_has ls 10 [(0, .ref (fx_a g 8)), (1, .long y1), (3, .int x3), (4, .long y4), (6, .int x6)]) : W p l e rm_X7_divides_8 s m args below meth c H locs 0 0 (MQ below (va_Qv Q (fx_Pw g) (fx_A g)) args s 0 0 (fx_A g)) (F0 m 6 ls []) := by
  obtain ⟨hx, hb, hr, hml, hown, hts, hlocks, hsz, hK, hG, hSt⟩ := id C
  unfold wb_X7_divides_8_6 at h
  refine lv_iload hx hb dX7_divides_6 (lv_at hl 4 rfl) ?_
  refine lv_iload_n hx hb dX7_divides_8 rfl (lv_at hl 2 rfl) ?_
  refine lv_icmp_ge (tgt := 30) hx hb dX7_divides_9 (by decide) (fun c1 => ?_) (fun c1 => ?_)
  · replace h := h.1 c1
    exact hk30 y1 x3 y4 M h  H locs ls hH (lv_sub hl [0, 1, 2, 3] rfl)
  · replace h := h.2 c1
    refine lv_lload hx hb dX7_divides_12 (lv_at hl 3 rfl) ?_
    refine lv_aload_n hx hb dX7_divides_14 rfl (lv_at hl 0 rfl) ?_
    refine fx_get C hH (fx_w8 g M) rfl in_X7 11 (by decide) u_834 rfl rfl dX7_divides_15 ?_
    refine lv_iload hx hb dX7_divides_18 (lv_at hl 4 rfl) ?_
    obtain ⟨hi2, h⟩ := h
    refine fx_lald (j := x6.toNatClampNeg) C hH 36 (fx_w36 g M) rfl hi2 dX7_divides_20 ?_
    refine lv_ladd hx hb dX7_divides_21 ?_
    refine lv_topl (fun w3 ew3 => ?_)
    replace h := h w3 ew3
    refine lv_lstore (lv' := [(4, .long w3), (0, .ref (fx_a g 8)), (1, .long y1), (3, .int x3), (6, .int x6)]) hx hb dX7_divides_22 hl (by decide) rfl (fun ls hl => ?_)
    obtain ⟨v4, ev4⟩ : ∃ z : Int32, z = x6 + 1 := ⟨_, rfl⟩
    refine lv_iinc (v := v4) (lv' := [(6, .int v4), (4, .long w3), (0, .ref (fx_a g 8)), (1, .long y1), (3, .int x3)]) hx hb dX7_divides_24 hl (k := 4) rfl (by rw [ev4]; rfl) (by decide) rfl (fun ls hl => ?_)
    replace h := h v4 ev4
    refine lv_goto (tgt := 6) hx hb dX7_divides_27 (by decide) ?_
    exact hk6 y1 x3 w3 v4 M h  H locs ls hH (lv_sub hl [2, 3, 4, 1, 0] rfl)
def wl_X7_divides_8_6 (k30 : Int64 → Int32 → Int64 → fx_Mem → Prop) (Q : fx_Mem → Prop) (n : Nat) (y1 : Int64) (x3 : Int32) (y4 : Int64) (x6 : Int32) (M : fx_Mem) : Prop :=
  fx_lp (α := Int64 × Int32 × Int64 × Int32 × fx_Mem) (fun k a => wb_X7_divides_8_6 (fun y1 x3 y4 x6 M => k (y1, x3, y4, x6, M)) k30 Q a.1 a.2.1 a.2.2.1 a.2.2.2.1 a.2.2.2.2) n (y1, x3, y4, x6, M)
set_option maxHeartbeats 4000000 in
theorem tl_X7_divides_8_6 {g : fx_Geo} {p : Program} {l : Launch} {e : Env} {s : State} {m : MethodId} {args : Array Value} {below : List Frame} {meth : Method} {c : Code} (C : fx_Cx g p s m args meth c RX7 cX7_divides 10 none) (k30 : Int64 → Int32 → Int64 → fx_Mem → Prop) (Q : fx_Mem → Prop) (hk30 : ∀ (y1 : Int64) (x3 : Int32) (y4 : Int64) (M : fx_Mem), k30 y1 x3 y4 M → ∀ (H : Heap) (locs : List Loc) (ls : Array Slot), fx_H g s M H locs → lv_has ls 10 [(0, .ref (fx_a g 8)), (1, .long y1), (3, .int x3), (4, .long y4)] → W p l e rm_X7_divides_8 s m args below meth c H locs 0 0 (MQ below (va_Qv Q (fx_Pw g) (fx_A g)) args s 0 0 (fx_A g)) (F0 m 30 ls [])) : ∀ (n : Nat) (y1 : Int64) (x3 : Int32) (y4 : Int64) (x6 : Int32) (M : fx_Mem), wl_X7_divides_8_6 k30 Q n y1 x3 y4 x6 M → ∀ (H : Heap) (locs : List Loc) (ls : Array Slot), fx_H g s M H locs → lv_has ls 10 [(0, .ref (fx_a g 8)), (1, .long y1), (3, .int x3), (4, .long y4), (6, .int x6)] → W p l e rm_X7_divides_8 s m args below meth c H locs 0 0 (MQ below (va_Qv Q (fx_Pw g) (fx_A g)) args s 0 0 (fx_A g)) (F0 m 6 ls []) := by
  intro n
  induction n with
  | zero => intro y1 x3 y4 x6 M h; exact False.elim h
  | succ n ih => intro y1 x3 y4 x6 M h  H locs ls hH hl; exact tb_X7_divides_8_6 C (wl_X7_divides_8_6 k30 Q n) k30 Q ih hk30 y1 x3 y4 x6 M h  H locs ls hH hl
def wb_X7_divides_8_36 (k36 : Int64 → Int32 → Int64 → Int64 → Int32 → fx_Mem → Prop) (k98 : Int32 → Int64 → fx_Mem → Prop) (Q : fx_Mem → Prop) (y1 : Int64) (x3 : Int32) (y4 : Int64) (y6 : Int64) (x8 : Int32) (M : fx_Mem) : Prop :=
  ((x3 ≤ x8 → k98 x3 y6 M) ∧ (¬ x3 ≤ x8 → vp_in x8 20 ∧ (¬ y4 = 0) ∧ vp_in x8 20 ∧ ∀ M5 : fx_Mem, M5 = fx_sl M 37 x8.toNatClampNeg ((y1 * (M.2.2 36 x8.toNatClampNeg)) / y4) → vp_in x8 20 ∧ (¬ y4 = 0) ∧ vp_in x8 20 ∧ ∀ M9 : fx_Mem, M9 = fx_sl M5 38 x8.toNatClampNeg ((y1 * (M5.2.2 36 x8.toNatClampNeg)) - (y1 * (M5.2.2 36 x8.toNatClampNeg)) / y4 * y4) → vp_in x8 20 ∧ ∀ w11 : Int64, w11 = y6 - (M9.2.2 37 x8.toNatClampNeg) → ∀ v12 : Int32, v12 = x8 + 1 → k36 y1 x3 y4 w11 v12 M9))
set_option maxHeartbeats 4000000 in
set_option maxRecDepth 100000 in
theorem tb_X7_divides_8_36 {g : fx_Geo} {p : Program} {l : Launch} {e : Env} {s : State} {m : MethodId} {args : Array Value} {below : List Frame} {meth : Method} {c : Code} (C : fx_Cx g p s m args meth c RX7 cX7_divides 10 none) (k36 : Int64 → Int32 → Int64 → Int64 → Int32 → fx_Mem → Prop) (k98 : Int32 → Int64 → fx_Mem → Prop) (Q : fx_Mem → Prop) (hk36 : ∀ (y1 : Int64) (x3 : Int32) (y4 : Int64) (y6 : Int64) (x8 : Int32) (M : fx_Mem), k36 y1 x3 y4 y6 x8 M → ∀ (H : Heap) (locs : List Loc) (ls : Array Slot), fx_H g s M H locs → lv_has ls 10 [(0, .ref (fx_a g 8)), (1, .long y1), (3, .int x3), (4, .long y4), (6, .long y6), (8, .int x8)] → W p l e rm_X7_divides_8 s m args below meth c H locs 0 0 (MQ below (va_Qv Q (fx_Pw g) (fx_A g)) args s 0 0 (fx_A g)) (F0 m 36 ls [])) (hk98 : ∀ (x3 : Int32) (y6 : Int64) (M : fx_Mem), k98 x3 y6 M → ∀ (H : Heap) (locs : List Loc) (ls : Array Slot), fx_H g s M H locs → lv_has ls 10 [(0, .ref (fx_a g 8)), (3, .int x3), (6, .long y6)] → W p l e rm_X7_divides_8 s m args below meth c H locs 0 0 (MQ below (va_Qv Q (fx_Pw g) (fx_A g)) args s 0 0 (fx_A g)) (F0 m 98 ls [])) (y1 : Int64) (x3 : Int32) (y4 : Int64) (y6 : Int64) (x8 : Int32) (M : fx_Mem) (h : wb_X7_divides_8_36 k36 k98 Q y1 x3 y4 y6 x8 M) (H : Heap) (locs : List Loc) (ls : Array Slot) (hH : fx_H g s M H locs) (hl : lv_has ls 10 [(0, .ref (fx_a g 8)), (1, .long y1), (3, .int x3), (4, .long y4), (6, .long y6), (8, .int x8)]) : W p l e rm_X7_divides_8 s m args below meth c H locs 0 0 (MQ below (va_Qv Q (fx_Pw g) (fx_A g)) args s 0 0 (fx_A g)) (F0 m 36 ls []) := by
  obtain ⟨hx, hb, hr, hml, hown, hts, hlocks, hsz, hK, hG, hSt⟩ := id C
  unfold wb_X7_divides_8_36 at h
  refine lv_iload hx hb dX7_divides_36 (lv_at hl 5 rfl) ?_
  refine lv_iload_n hx hb dX7_divides_38 rfl (lv_at hl 2 rfl) ?_
  refine lv_icmp_ge (tgt := 98) hx hb dX7_divides_39 (by decide) (fun c1 => ?_) (fun c1 => ?_)
  · replace h := h.1 c1
    exact hk98 x3 y6 M h  H locs ls hH (lv_sub hl [0, 2, 4] rfl)
  · replace h := h.2 c1
    refine lv_aload_n hx hb dX7_divides_42 rfl (lv_at hl 0 rfl) ?_
    refine fx_get C hH (fx_w8 g M) rfl in_X7 12 (by decide) u_835 rfl rfl dX7_divides_43 ?_
    refine lv_iload hx hb dX7_divides_46 (lv_at hl 5 rfl) ?_
    refine lv_lload_n hx hb dX7_divides_48 rfl (lv_at hl 1 rfl) ?_
    refine lv_aload_n hx hb dX7_divides_49 rfl (lv_at hl 0 rfl) ?_
    refine fx_get C hH (fx_w8 g M) rfl in_X7 11 (by decide) u_834 rfl rfl dX7_divides_50 ?_
    refine lv_iload hx hb dX7_divides_53 (lv_at hl 5 rfl) ?_
    obtain ⟨hi2, h⟩ := h
    refine fx_lald (j := x8.toNatClampNeg) C hH 36 (fx_w36 g M) rfl hi2 dX7_divides_55 ?_
    refine lv_lmul hx hb dX7_divides_56 ?_
    refine lv_lload hx hb dX7_divides_57 (lv_at hl 3 rfl) ?_
    obtain ⟨hz3, h⟩ := h
    refine lv_ldiv hx hb dX7_divides_59 hz3 ?_
    obtain ⟨hi4, h⟩ := h
    refine fx_last (j := x8.toNatClampNeg) (M' := fx_sl M 37 x8.toNatClampNeg ((y1 * (M.2.2 36 x8.toNatClampNeg)) / y4)) C hH 37 rfl (fx_w37 g M) (fx_p37 g M _ _) hi4 dX7_divides_60 (fun H locs hH => ?_)
    generalize eM5 : fx_sl M 37 x8.toNatClampNeg ((y1 * (M.2.2 36 x8.toNatClampNeg)) / y4) = M5 at hH
    replace h := h M5 eM5.symm
    refine lv_aload_n hx hb dX7_divides_61 rfl (lv_at hl 0 rfl) ?_
    refine fx_get C hH (fx_w8 g M5) rfl in_X7 13 (by decide) u_836 rfl rfl dX7_divides_62 ?_
    refine lv_iload hx hb dX7_divides_65 (lv_at hl 5 rfl) ?_
    refine lv_lload_n hx hb dX7_divides_67 rfl (lv_at hl 1 rfl) ?_
    refine lv_aload_n hx hb dX7_divides_68 rfl (lv_at hl 0 rfl) ?_
    refine fx_get C hH (fx_w8 g M5) rfl in_X7 11 (by decide) u_834 rfl rfl dX7_divides_69 ?_
    refine lv_iload hx hb dX7_divides_72 (lv_at hl 5 rfl) ?_
    obtain ⟨hi6, h⟩ := h
    refine fx_lald (j := x8.toNatClampNeg) C hH 36 (fx_w36 g M5) rfl hi6 dX7_divides_74 ?_
    refine lv_lmul hx hb dX7_divides_75 ?_
    refine lv_lload hx hb dX7_divides_76 (lv_at hl 3 rfl) ?_
    obtain ⟨hz7, h⟩ := h
    refine lv_lrem hx hb dX7_divides_78 hz7 ?_
    obtain ⟨hi8, h⟩ := h
    refine fx_last (j := x8.toNatClampNeg) (M' := fx_sl M5 38 x8.toNatClampNeg ((y1 * (M5.2.2 36 x8.toNatClampNeg)) - (y1 * (M5.2.2 36 x8.toNatClampNeg)) / y4 * y4)) C hH 38 rfl (fx_w38 g M5) (fx_p38 g M5 _ _) hi8 dX7_divides_79 (fun H locs hH => ?_)
    generalize eM9 : fx_sl M5 38 x8.toNatClampNeg ((y1 * (M5.2.2 36 x8.toNatClampNeg)) - (y1 * (M5.2.2 36 x8.toNatClampNeg)) / y4 * y4) = M9 at hH
    replace h := h M9 eM9.symm
    refine lv_lload hx hb dX7_divides_80 (lv_at hl 4 rfl) ?_
    refine lv_aload_n hx hb dX7_divides_82 rfl (lv_at hl 0 rfl) ?_
    refine fx_get C hH (fx_w8 g M9) rfl in_X7 12 (by decide) u_835 rfl rfl dX7_divides_83 ?_
    refine lv_iload hx hb dX7_divides_86 (lv_at hl 5 rfl) ?_
    obtain ⟨hi10, h⟩ := h
    refine fx_lald (j := x8.toNatClampNeg) C hH 37 (fx_w37 g M9) rfl hi10 dX7_divides_88 ?_
    refine lv_lsub hx hb dX7_divides_89 ?_
    refine lv_topl (fun w11 ew11 => ?_)
    replace h := h w11 ew11
    refine lv_lstore (lv' := [(6, .long w11), (0, .ref (fx_a g 8)), (1, .long y1), (3, .int x3), (4, .long y4), (8, .int x8)]) hx hb dX7_divides_90 hl (by decide) rfl (fun ls hl => ?_)
    obtain ⟨v12, ev12⟩ : ∃ z : Int32, z = x8 + 1 := ⟨_, rfl⟩
    refine lv_iinc (v := v12) (lv' := [(8, .int v12), (6, .long w11), (0, .ref (fx_a g 8)), (1, .long y1), (3, .int x3), (4, .long y4)]) hx hb dX7_divides_92 hl (k := 5) rfl (by rw [ev12]; rfl) (by decide) rfl (fun ls hl => ?_)
    replace h := h v12 ev12
    refine lv_goto (tgt := 36) hx hb dX7_divides_95 (by decide) ?_
    exact hk36 y1 x3 y4 w11 v12 M9 h  H locs ls hH (lv_sub hl [2, 3, 4, 5, 1, 0] rfl)
def wl_X7_divides_8_36 (k98 : Int32 → Int64 → fx_Mem → Prop) (Q : fx_Mem → Prop) (n : Nat) (y1 : Int64) (x3 : Int32) (y4 : Int64) (y6 : Int64) (x8 : Int32) (M : fx_Mem) : Prop :=
  fx_lp (α := Int64 × Int32 × Int64 × Int64 × Int32 × fx_Mem) (fun k a => wb_X7_divides_8_36 (fun y1 x3 y4 y6 x8 M => k (y1, x3, y4, y6, x8, M)) k98 Q a.1 a.2.1 a.2.2.1 a.2.2.2.1 a.2.2.2.2.1 a.2.2.2.2.2) n (y1, x3, y4, y6, x8, M)
set_option maxHeartbeats 4000000 in
theorem tl_X7_divides_8_36 {g : fx_Geo} {p : Program} {l : Launch} {e : Env} {s : State} {m : MethodId} {args : Array Value} {below : List Frame} {meth : Method} {c : Code} (C : fx_Cx g p s m args meth c RX7 cX7_divides 10 none) (k98 : Int32 → Int64 → fx_Mem → Prop) (Q : fx_Mem → Prop) (hk98 : ∀ (x3 : Int32) (y6 : Int64) (M : fx_Mem), k98 x3 y6 M → ∀ (H : Heap) (locs : List Loc) (ls : Array Slot), fx_H g s M H locs → lv_has ls 10 [(0, .ref (fx_a g 8)), (3, .int x3), (6, .long y6)] → W p l e rm_X7_divides_8 s m args below meth c H locs 0 0 (MQ below (va_Qv Q (fx_Pw g) (fx_A g)) args s 0 0 (fx_A g)) (F0 m 98 ls [])) : ∀ (n : Nat) (y1 : Int64) (x3 : Int32) (y4 : Int64) (y6 : Int64) (x8 : Int32) (M : fx_Mem), wl_X7_divides_8_36 k98 Q n y1 x3 y4 y6 x8 M → ∀ (H : Heap) (locs : List Loc) (ls : Array Slot), fx_H g s M H locs → lv_has ls 10 [(0, .ref (fx_a g 8)), (1, .long y1), (3, .int x3), (4, .long y4), (6, .long y6), (8, .int x8)] → W p l e rm_X7_divides_8 s m args below meth c H locs 0 0 (MQ below (va_Qv Q (fx_Pw g) (fx_A g)) args s 0 0 (fx_A g)) (F0 m 36 ls []) := by
  intro n
  induction n with
  | zero => intro y1 x3 y4 y6 x8 M h; exact False.elim h
  | succ n ih => intro y1 x3 y4 y6 x8 M h  H locs ls hH hl; exact tb_X7_divides_8_36 C (wl_X7_divides_8_36 k98 Q n) k98 Q ih hk98 y1 x3 y4 y6 x8 M h  H locs ls hH hl
def wb_X7_divides_8_142 (k111 : Int32 → Int64 → Int32 → Int32 → fx_Mem → Prop) (k150 : Int32 → Int64 → Int32 → fx_Mem → Prop) (Q : fx_Mem → Prop) (x3 : Int32) (y6 : Int64) (x9 : Int32) (s0 : Int32) (M : fx_Mem) : Prop :=
  ∀ v1 : Int32, v1 = x9 + 1 → k111 x3 y6 s0 v1 M
set_option maxHeartbeats 4000000 in
set_option maxRecDepth 100000 in
theorem tb_X7_divides_8_142 {g : fx_Geo} {p : Program} {l : Launch} {e : Env} {s : State} {m : MethodId} {args : Array Value} {below : List Frame} {meth : Method} {c : Code} (C : fx_Cx g p s m args meth c RX7 cX7_divides 10 none) (k111 : Int32 → Int64 → Int32 → Int32 → fx_Mem → Prop) (k150 : Int32 → Int64 → Int32 → fx_Mem → Prop) (Q : fx_Mem → Prop) (hk111 : ∀ (x3 : Int32) (y6 : Int64) (x8 : Int32) (x9 : Int32) (M : fx_Mem), k111 x3 y6 x8 x9 M → ∀ (H : Heap) (locs : List Loc) (ls : Array Slot), fx_H g s M H locs → lv_has ls 10 [(0, .ref (fx_a g 8)), (3, .int x3), (6, .long y6), (8, .int x8), (9, .int x9)] → W p l e rm_X7_divides_8 s m args below meth c H locs 0 0 (MQ below (va_Qv Q (fx_Pw g) (fx_A g)) args s 0 0 (fx_A g)) (F0 m 111 ls [])) (hk150 : ∀ (x3 : Int32) (y6 : Int64) (x8 : Int32) (M : fx_Mem), k150 x3 y6 x8 M → ∀ (H : Heap) (locs : List Loc) (ls : Array Slot), fx_H g s M H locs → lv_has ls 10 [(0, .ref (fx_a g 8)), (3, .int x3), (6, .long y6), (8, .int x8)] → W p l e rm_X7_divides_8 s m args below meth c H locs 0 0 (MQ below (va_Qv Q (fx_Pw g) (fx_A g)) args s 0 0 (fx_A g)) (F0 m 150 ls [])) (x3 : Int32) (y6 : Int64) (x9 : Int32) (s0 : Int32) (M : fx_Mem) (h : wb_X7_divides_8_142 k111 k150 Q x3 y6 x9 s0 M) (H : Heap) (locs : List Loc) (ls : Array Slot) (hH : fx_H g s M H locs) (hl : lv_has ls 10 [(0, .ref (fx_a g 8)), (3, .int x3), (6, .long y6), (9, .int x9)]) : W p l e rm_X7_divides_8 s m args below meth c H locs 0 0 (MQ below (va_Qv Q (fx_Pw g) (fx_A g)) args s 0 0 (fx_A g)) (F0 m 142 ls [.int s0]) := by
  obtain ⟨hx, hb, hr, hml, hown, hts, hlocks, hsz, hK, hG, hSt⟩ := id C
  unfold wb_X7_divides_8_142 at h
  refine lv_istore (lv' := [(8, .int s0), (0, .ref (fx_a g 8)), (3, .int x3), (6, .long y6), (9, .int x9)]) hx hb dX7_divides_142 hl (by decide) rfl (fun ls hl => ?_)
  obtain ⟨v1, ev1⟩ : ∃ z : Int32, z = x9 + 1 := ⟨_, rfl⟩
  refine lv_iinc (v := v1) (lv' := [(9, .int v1), (8, .int s0), (0, .ref (fx_a g 8)), (3, .int x3), (6, .long y6)]) hx hb dX7_divides_144 hl (k := 4) rfl (by rw [ev1]; rfl) (by decide) rfl (fun ls hl => ?_)
  replace h := h v1 ev1
  refine lv_goto (tgt := 111) hx hb dX7_divides_147 (by decide) ?_
  exact hk111 x3 y6 s0 v1 M h  H locs ls hH (lv_sub hl [2, 3, 4, 1, 0] rfl)
def wb_X7_divides_8_111 (k111 : Int32 → Int64 → Int32 → Int32 → fx_Mem → Prop) (k150 : Int32 → Int64 → Int32 → fx_Mem → Prop) (Q : fx_Mem → Prop) (x3 : Int32) (y6 : Int64) (x8 : Int32) (x9 : Int32) (M : fx_Mem) : Prop :=
  ((x3 ≤ x9 → k150 x3 y6 x8 M) ∧ (¬ x3 ≤ x9 → vp_in x9 20 ∧ vp_in x8 20 ∧ ((lg_cmp (M.2.2 38 x9.toNatClampNeg) (M.2.2 38 x8.toNatClampNeg) ≤ 0 → wb_X7_divides_8_142 k111 k150 Q x3 y6 x9 x8 M) ∧ (¬ lg_cmp (M.2.2 38 x9.toNatClampNeg) (M.2.2 38 x8.toNatClampNeg) ≤ 0 → wb_X7_divides_8_142 k111 k150 Q x3 y6 x9 x9 M))))
set_option maxHeartbeats 4000000 in
set_option maxRecDepth 100000 in
theorem tb_X7_divides_8_111 {g : fx_Geo} {p : Program} {l : Launch} {e : Env} {s : State} {m : MethodId} {args : Array Value} {below : List Frame} {meth : Method} {c : Code} (C : fx_Cx g p s m args meth c RX7 cX7_divides 10 none) (k111 : Int32 → Int64 → Int32 → Int32 → fx_Mem → Prop) (k150 : Int32 → Int64 → Int32 → fx_Mem → Prop) (Q : fx_Mem → Prop) (hk111 : ∀ (x3 : Int32) (y6 : Int64) (x8 : Int32) (x9 : Int32) (M : fx_Mem), k111 x3 y6 x8 x9 M → ∀ (H : Heap) (locs : List Loc) (ls : Array Slot), fx_H g s M H locs → lv_has ls 10 [(0, .ref (fx_a g 8)), (3, .int x3), (6, .long y6), (8, .int x8), (9, .int x9)] → W p l e rm_X7_divides_8 s m args below meth c H locs 0 0 (MQ below (va_Qv Q (fx_Pw g) (fx_A g)) args s 0 0 (fx_A g)) (F0 m 111 ls [])) (hk150 : ∀ (x3 : Int32) (y6 : Int64) (x8 : Int32) (M : fx_Mem), k150 x3 y6 x8 M → ∀ (H : Heap) (locs : List Loc) (ls : Array Slot), fx_H g s M H locs → lv_has ls 10 [(0, .ref (fx_a g 8)), (3, .int x3), (6, .long y6), (8, .int x8)] → W p l e rm_X7_divides_8 s m args below meth c H locs 0 0 (MQ below (va_Qv Q (fx_Pw g) (fx_A g)) args s 0 0 (fx_A g)) (F0 m 150 ls [])) (x3 : Int32) (y6 : Int64) (x8 : Int32) (x9 : Int32) (M : fx_Mem) (h : wb_X7_divides_8_111 k111 k150 Q x3 y6 x8 x9 M) (H : Heap) (locs : List Loc) (ls : Array Slot) (hH : fx_H g s M H locs) (hl : lv_has ls 10 [(0, .ref (fx_a g 8)), (3, .int x3), (6, .long y6), (8, .int x8), (9, .int x9)]) : W p l e rm_X7_divides_8 s m args below meth c H locs 0 0 (MQ below (va_Qv Q (fx_Pw g) (fx_A g)) args s 0 0 (fx_A g)) (F0 m 111 ls []) := by
  obtain ⟨hx, hb, hr, hml, hown, hts, hlocks, hsz, hK, hG, hSt⟩ := id C
  unfold wb_X7_divides_8_111 at h
  refine lv_iload hx hb dX7_divides_111 (lv_at hl 4 rfl) ?_
  refine lv_iload_n hx hb dX7_divides_113 rfl (lv_at hl 1 rfl) ?_
  refine lv_icmp_ge (tgt := 150) hx hb dX7_divides_114 (by decide) (fun c1 => ?_) (fun c1 => ?_)
  · replace h := h.1 c1
    exact hk150 x3 y6 x8 M h  H locs ls hH (lv_sub hl [0, 1, 2, 3] rfl)
  · replace h := h.2 c1
    refine lv_aload_n hx hb dX7_divides_117 rfl (lv_at hl 0 rfl) ?_
    refine fx_get C hH (fx_w8 g M) rfl in_X7 13 (by decide) u_836 rfl rfl dX7_divides_118 ?_
    refine lv_iload hx hb dX7_divides_121 (lv_at hl 4 rfl) ?_
    obtain ⟨hi2, h⟩ := h
    refine fx_lald (j := x9.toNatClampNeg) C hH 38 (fx_w38 g M) rfl hi2 dX7_divides_123 ?_
    refine lv_aload_n hx hb dX7_divides_124 rfl (lv_at hl 0 rfl) ?_
    refine fx_get C hH (fx_w8 g M) rfl in_X7 13 (by decide) u_836 rfl rfl dX7_divides_125 ?_
    refine lv_iload hx hb dX7_divides_128 (lv_at hl 3 rfl) ?_
    obtain ⟨hi3, h⟩ := h
    refine fx_lald (j := x8.toNatClampNeg) C hH 38 (fx_w38 g M) rfl hi3 dX7_divides_130 ?_
    refine W.lcmp hx hb dX7_divides_131 ?_
    refine lv_if_le (tgt := 140) hx hb dX7_divides_132 (by decide) (fun c4 => ?_) (fun c4 => ?_)
    · replace h := h.1 c4
      refine lv_iload hx hb dX7_divides_140 (lv_at hl 3 rfl) ?_
      exact tb_X7_divides_8_142 C k111 k150 Q hk111 hk150 x3 y6 x9 x8 M h  H locs ls hH (lv_sub hl [0, 1, 2, 4] rfl)
    · replace h := h.2 c4
      refine lv_iload hx hb dX7_divides_135 (lv_at hl 4 rfl) ?_
      refine lv_goto (tgt := 142) hx hb dX7_divides_137 (by decide) ?_
      exact tb_X7_divides_8_142 C k111 k150 Q hk111 hk150 x3 y6 x9 x9 M h  H locs ls hH (lv_sub hl [0, 1, 2, 4] rfl)
def wl_X7_divides_8_111 (k150 : Int32 → Int64 → Int32 → fx_Mem → Prop) (Q : fx_Mem → Prop) (n : Nat) (x3 : Int32) (y6 : Int64) (x8 : Int32) (x9 : Int32) (M : fx_Mem) : Prop :=
  fx_lp (α := Int32 × Int64 × Int32 × Int32 × fx_Mem) (fun k a => wb_X7_divides_8_111 (fun x3 y6 x8 x9 M => k (x3, y6, x8, x9, M)) k150 Q a.1 a.2.1 a.2.2.1 a.2.2.2.1 a.2.2.2.2) n (x3, y6, x8, x9, M)
set_option maxHeartbeats 4000000 in
theorem tl_X7_divides_8_111 {g : fx_Geo} {p : Program} {l : Launch} {e : Env} {s : State} {m : MethodId} {args : Array Value} {below : List Frame} {meth : Method} {c : Code} (C : fx_Cx g p s m args meth c RX7 cX7_divides 10 none) (k150 : Int32 → Int64 → Int32 → fx_Mem → Prop) (Q : fx_Mem → Prop) (hk150 : ∀ (x3 : Int32) (y6 : Int64) (x8 : Int32) (M : fx_Mem), k150 x3 y6 x8 M → ∀ (H : Heap) (locs : List Loc) (ls : Array Slot), fx_H g s M H locs → lv_has ls 10 [(0, .ref (fx_a g 8)), (3, .int x3), (6, .long y6), (8, .int x8)] → W p l e rm_X7_divides_8 s m args below meth c H locs 0 0 (MQ below (va_Qv Q (fx_Pw g) (fx_A g)) args s 0 0 (fx_A g)) (F0 m 150 ls [])) : ∀ (n : Nat) (x3 : Int32) (y6 : Int64) (x8 : Int32) (x9 : Int32) (M : fx_Mem), wl_X7_divides_8_111 k150 Q n x3 y6 x8 x9 M → ∀ (H : Heap) (locs : List Loc) (ls : Array Slot), fx_H g s M H locs → lv_has ls 10 [(0, .ref (fx_a g 8)), (3, .int x3), (6, .long y6), (8, .int x8), (9, .int x9)] → W p l e rm_X7_divides_8 s m args below meth c H locs 0 0 (MQ below (va_Qv Q (fx_Pw g) (fx_A g)) args s 0 0 (fx_A g)) (F0 m 111 ls []) := by
  intro n
  induction n with
  | zero => intro x3 y6 x8 x9 M h; exact False.elim h
  | succ n ih => intro x3 y6 x8 x9 M h  H locs ls hH hl; exact tb_X7_divides_8_111 C (wl_X7_divides_8_111 k150 Q n) k150 Q ih hk150 x3 y6 x8 x9 M h  H locs ls hH hl
def wb_X7_divides_8_150 (k98 : Int32 → Int64 → fx_Mem → Prop) (Q : fx_Mem → Prop) (x3 : Int32) (y6 : Int64) (x8 : Int32) (M : fx_Mem) : Prop :=
  vp_in x8 20 ∧ vp_in x8 20 ∧ ∀ M3 : fx_Mem, M3 = fx_sl M 37 x8.toNatClampNeg ((M.2.2 37 x8.toNatClampNeg) + 1) → vp_in x8 20 ∧ ∀ M5 : fx_Mem, M5 = fx_sl M3 38 x8.toNatClampNeg (-1) → ∀ w6 : Int64, w6 = y6 - 1 → k98 x3 w6 M5
set_option maxHeartbeats 4000000 in
set_option maxRecDepth 100000 in
theorem tb_X7_divides_8_150 {g : fx_Geo} {p : Program} {l : Launch} {e : Env} {s : State} {m : MethodId} {args : Array Value} {below : List Frame} {meth : Method} {c : Code} (C : fx_Cx g p s m args meth c RX7 cX7_divides 10 none) (k98 : Int32 → Int64 → fx_Mem → Prop) (Q : fx_Mem → Prop) (hk98 : ∀ (x3 : Int32) (y6 : Int64) (M : fx_Mem), k98 x3 y6 M → ∀ (H : Heap) (locs : List Loc) (ls : Array Slot), fx_H g s M H locs → lv_has ls 10 [(0, .ref (fx_a g 8)), (3, .int x3), (6, .long y6)] → W p l e rm_X7_divides_8 s m args below meth c H locs 0 0 (MQ below (va_Qv Q (fx_Pw g) (fx_A g)) args s 0 0 (fx_A g)) (F0 m 98 ls [])) (x3 : Int32) (y6 : Int64) (x8 : Int32) (M : fx_Mem) (h : wb_X7_divides_8_150 k98 Q x3 y6 x8 M) (H : Heap) (locs : List Loc) (ls : Array Slot) (hH : fx_H g s M H locs) (hl : lv_has ls 10 [(0, .ref (fx_a g 8)), (3, .int x3), (6, .long y6), (8, .int x8)]) : W p l e rm_X7_divides_8 s m args below meth c H locs 0 0 (MQ below (va_Qv Q (fx_Pw g) (fx_A g)) args s 0 0 (fx_A g)) (F0 m 150 ls []) := by
  obtain ⟨hx, hb, hr, hml, hown, hts, hlocks, hsz, hK, hG, hSt⟩ := id C
  unfold wb_X7_divides_8_150 at h
  refine lv_aload_n hx hb dX7_divides_150 rfl (lv_at hl 0 rfl) ?_
  refine fx_get C hH (fx_w8 g M) rfl in_X7 12 (by decide) u_835 rfl rfl dX7_divides_151 ?_
  refine lv_iload hx hb dX7_divides_154 (lv_at hl 3 rfl) ?_
  refine lv_dup2_11 hx hb dX7_divides_156 rfl rfl ?_
  obtain ⟨hi1, h⟩ := h
  refine fx_lald (j := x8.toNatClampNeg) C hH 37 (fx_w37 g M) rfl hi1 dX7_divides_157 ?_
  refine lv_lconst (v := 1) hx hb dX7_divides_158 (by decide) ?_
  refine lv_ladd hx hb dX7_divides_159 ?_
  obtain ⟨hi2, h⟩ := h
  refine fx_last (j := x8.toNatClampNeg) (M' := fx_sl M 37 x8.toNatClampNeg ((M.2.2 37 x8.toNatClampNeg) + 1)) C hH 37 rfl (fx_w37 g M) (fx_p37 g M _ _) hi2 dX7_divides_160 (fun H locs hH => ?_)
  generalize eM3 : fx_sl M 37 x8.toNatClampNeg ((M.2.2 37 x8.toNatClampNeg) + 1) = M3 at hH
  replace h := h M3 eM3.symm
  refine lv_aload_n hx hb dX7_divides_161 rfl (lv_at hl 0 rfl) ?_
  refine fx_get C hH (fx_w8 g M3) rfl in_X7 13 (by decide) u_836 rfl rfl dX7_divides_162 ?_
  refine lv_iload hx hb dX7_divides_165 (lv_at hl 3 rfl) ?_
  refine lv_ldc2 hx hb hown (hts _ u_953) dX7_divides_167 ?_
  obtain ⟨hi4, h⟩ := h
  refine fx_last (j := x8.toNatClampNeg) (M' := fx_sl M3 38 x8.toNatClampNeg (-1)) C hH 38 rfl (fx_w38 g M3) (fx_p38 g M3 _ _) hi4 dX7_divides_170 (fun H locs hH => ?_)
  generalize eM5 : fx_sl M3 38 x8.toNatClampNeg (-1) = M5 at hH
  replace h := h M5 eM5.symm
  refine lv_lload hx hb dX7_divides_171 (lv_at hl 2 rfl) ?_
  refine lv_lconst (v := 1) hx hb dX7_divides_173 (by decide) ?_
  refine lv_lsub hx hb dX7_divides_174 ?_
  refine lv_topl (fun w6 ew6 => ?_)
  replace h := h w6 ew6
  refine lv_lstore (lv' := [(6, .long w6), (0, .ref (fx_a g 8)), (3, .int x3), (8, .int x8)]) hx hb dX7_divides_175 hl (by decide) rfl (fun ls hl => ?_)
  refine lv_goto (tgt := 98) hx hb dX7_divides_177 (by decide) ?_
  exact hk98 x3 w6 M5 h  H locs ls hH (lv_sub hl [1, 2, 0] rfl)
def wb_X7_divides_8_98 (k98 : Int32 → Int64 → fx_Mem → Prop) (Q : fx_Mem → Prop) (x3 : Int32) (y6 : Int64) (M : fx_Mem) : Prop :=
  ((lg_cmp y6 0 ≤ 0 → Q M) ∧ (¬ lg_cmp y6 0 ≤ 0 → ∃ n111 : Nat, wl_X7_divides_8_111 (wb_X7_divides_8_150 k98 Q) Q n111 x3 y6 0 1 M))
set_option maxHeartbeats 4000000 in
set_option maxRecDepth 100000 in
theorem tb_X7_divides_8_98 {g : fx_Geo} {p : Program} {l : Launch} {e : Env} {s : State} {m : MethodId} {args : Array Value} {below : List Frame} {meth : Method} {c : Code} (C : fx_Cx g p s m args meth c RX7 cX7_divides 10 none) (k98 : Int32 → Int64 → fx_Mem → Prop) (Q : fx_Mem → Prop) (hk98 : ∀ (x3 : Int32) (y6 : Int64) (M : fx_Mem), k98 x3 y6 M → ∀ (H : Heap) (locs : List Loc) (ls : Array Slot), fx_H g s M H locs → lv_has ls 10 [(0, .ref (fx_a g 8)), (3, .int x3), (6, .long y6)] → W p l e rm_X7_divides_8 s m args below meth c H locs 0 0 (MQ below (va_Qv Q (fx_Pw g) (fx_A g)) args s 0 0 (fx_A g)) (F0 m 98 ls [])) (x3 : Int32) (y6 : Int64) (M : fx_Mem) (h : wb_X7_divides_8_98 k98 Q x3 y6 M) (H : Heap) (locs : List Loc) (ls : Array Slot) (hH : fx_H g s M H locs) (hl : lv_has ls 10 [(0, .ref (fx_a g 8)), (3, .int x3), (6, .long y6)]) : W p l e rm_X7_divides_8 s m args below meth c H locs 0 0 (MQ below (va_Qv Q (fx_Pw g) (fx_A g)) args s 0 0 (fx_A g)) (F0 m 98 ls []) := by
  obtain ⟨hx, hb, hr, hml, hown, hts, hlocks, hsz, hK, hG, hSt⟩ := id C
  unfold wb_X7_divides_8_98 at h
  refine lv_lload hx hb dX7_divides_98 (lv_at hl 2 rfl) ?_
  refine lv_lconst (v := 0) hx hb dX7_divides_100 (by decide) ?_
  refine W.lcmp hx hb dX7_divides_101 ?_
  refine lv_if_le (tgt := 180) hx hb dX7_divides_102 (by decide) (fun c1 => ?_) (fun c1 => ?_)
  · replace h := h.1 c1
    exact fx_vret C hH h dX7_divides_180
  · replace h := h.2 c1
    refine lv_iconst (v := 0) hx hb dX7_divides_105 (by decide) ?_
    refine lv_istore (lv' := [(8, .int 0), (0, .ref (fx_a g 8)), (3, .int x3), (6, .long y6)]) hx hb dX7_divides_106 hl (by decide) rfl (fun ls hl => ?_)
    refine lv_iconst (v := 1) hx hb dX7_divides_108 (by decide) ?_
    refine lv_istore (lv' := [(9, .int 1), (8, .int 0), (0, .ref (fx_a g 8)), (3, .int x3), (6, .long y6)]) hx hb dX7_divides_109 hl (by decide) rfl (fun ls hl => ?_)
    obtain ⟨n111, h⟩ := h
    exact tl_X7_divides_8_111 C (wb_X7_divides_8_150 k98 Q) Q (tb_X7_divides_8_150 C k98 Q hk98) n111 x3 y6 0 1 M h  H locs ls hH (lv_sub hl [2, 3, 4, 1, 0] rfl)
def wl_X7_divides_8_98 (Q : fx_Mem → Prop) (n : Nat) (x3 : Int32) (y6 : Int64) (M : fx_Mem) : Prop :=
  fx_lp (α := Int32 × Int64 × fx_Mem) (fun k a => wb_X7_divides_8_98 (fun x3 y6 M => k (x3, y6, M)) Q a.1 a.2.1 a.2.2) n (x3, y6, M)
set_option maxHeartbeats 4000000 in
theorem tl_X7_divides_8_98 {g : fx_Geo} {p : Program} {l : Launch} {e : Env} {s : State} {m : MethodId} {args : Array Value} {below : List Frame} {meth : Method} {c : Code} (C : fx_Cx g p s m args meth c RX7 cX7_divides 10 none) (Q : fx_Mem → Prop) : ∀ (n : Nat) (x3 : Int32) (y6 : Int64) (M : fx_Mem), wl_X7_divides_8_98  Q n x3 y6 M → ∀ (H : Heap) (locs : List Loc) (ls : Array Slot), fx_H g s M H locs → lv_has ls 10 [(0, .ref (fx_a g 8)), (3, .int x3), (6, .long y6)] → W p l e rm_X7_divides_8 s m args below meth c H locs 0 0 (MQ below (va_Qv Q (fx_Pw g) (fx_A g)) args s 0 0 (fx_A g)) (F0 m 98 ls []) := by
  intro n
  induction n with
  | zero => intro x3 y6 M h; exact False.elim h
  | succ n ih => intro x3 y6 M h  H locs ls hH hl; exact tb_X7_divides_8_98 C (wl_X7_divides_8_98  Q n) Q ih x3 y6 M h  H locs ls hH hl
def wb_X7_divides_8_30 (Q : fx_Mem → Prop) (y1 : Int64) (x3 : Int32) (y4 : Int64) (M : fx_Mem) : Prop :=
  ∃ n36 : Nat, wl_X7_divides_8_36 (fun x3 y6 M => ∃ n : Nat, wl_X7_divides_8_98 Q n x3 y6 M) Q n36 y1 x3 y4 y1 0 M
set_option maxHeartbeats 4000000 in
set_option maxRecDepth 100000 in
theorem tb_X7_divides_8_30 {g : fx_Geo} {p : Program} {l : Launch} {e : Env} {s : State} {m : MethodId} {args : Array Value} {below : List Frame} {meth : Method} {c : Code} (C : fx_Cx g p s m args meth c RX7 cX7_divides 10 none) (Q : fx_Mem → Prop) (y1 : Int64) (x3 : Int32) (y4 : Int64) (M : fx_Mem) (h : wb_X7_divides_8_30 Q y1 x3 y4 M) (H : Heap) (locs : List Loc) (ls : Array Slot) (hH : fx_H g s M H locs) (hl : lv_has ls 10 [(0, .ref (fx_a g 8)), (1, .long y1), (3, .int x3), (4, .long y4)]) : W p l e rm_X7_divides_8 s m args below meth c H locs 0 0 (MQ below (va_Qv Q (fx_Pw g) (fx_A g)) args s 0 0 (fx_A g)) (F0 m 30 ls []) := by
  obtain ⟨hx, hb, hr, hml, hown, hts, hlocks, hsz, hK, hG, hSt⟩ := id C
  unfold wb_X7_divides_8_30 at h
  refine lv_lload_n hx hb dX7_divides_30 rfl (lv_at hl 1 rfl) ?_
  refine lv_lstore (lv' := [(6, .long y1), (0, .ref (fx_a g 8)), (1, .long y1), (3, .int x3), (4, .long y4)]) hx hb dX7_divides_31 hl (by decide) rfl (fun ls hl => ?_)
  refine lv_iconst (v := 0) hx hb dX7_divides_33 (by decide) ?_
  refine lv_istore (lv' := [(8, .int 0), (6, .long y1), (0, .ref (fx_a g 8)), (1, .long y1), (3, .int x3), (4, .long y4)]) hx hb dX7_divides_34 hl (by decide) rfl (fun ls hl => ?_)
  obtain ⟨n36, h⟩ := h
  exact tl_X7_divides_8_36 C (fun x3 y6 M => ∃ n : Nat, wl_X7_divides_8_98 Q n x3 y6 M) Q (fun x3 y6 M h => by obtain ⟨n, h⟩ := h; exact tl_X7_divides_8_98 C Q n x3 y6 M h) n36 y1 x3 y4 y1 0 M h  H locs ls hH (lv_sub hl [2, 3, 4, 5, 1, 0] rfl)
def wp_X7_divides_8 (a1 : Int64) (a3 : Int32) (M : fx_Mem) (Q : fx_Mem → Prop) : Prop :=
  ∃ n6 : Nat, wl_X7_divides_8_6 (wb_X7_divides_8_30 Q) Q n6 a1 a3 0 0 M
set_option maxHeartbeats 4000000 in
set_option maxRecDepth 100000 in
theorem c_X7_divides_8 (l : Launch) {g : fx_Geo} (hG : fx_Gd g) (a1 : Int64) (a3 : Int32) (M : fx_Mem) (Q : fx_Mem → Prop) (h : wp_X7_divides_8 a1 a3 M Q) : Met l yX7_divides (.code yX7_divides cX7_divides 10 none :: fx_U) rm_X7_divides_8 (va_Pc [.ref (fx_a g 8), .long a1, .int a3] (fx_At g M)) (va_Qv Q (fx_Pw g) (fx_A g)) 0 0 (fx_A g) := by
  refine Met.ofW (cc := cX7_divides) (maxL := 10) (ret := none) (by decide +kernel) rfl ?_
  intro p e s m args below meth c s₁ B hml hv
  obtain ⟨rfl, hv⟩ := hv
  have hts := atoms_spec (ws := .code yX7_divides cX7_divides 10 none :: fx_U) B.pre
  obtain ⟨C, hH⟩ := fx_body (own := RX7) B hml rfl (fun w hw => hts w (List.mem_cons_of_mem _ hw)) hG hv
  replace hts := fun w hw => hts w (List.mem_cons_of_mem _ hw)
  obtain ⟨hx, hb, hr, -, hown, -, hlocks, hsz, hK, -, hSt⟩ := id C
  have hl := lv_entry ([.ref (fx_a g 8), .long a1, .int a3]) (n := 10) (Nat.le_of_ble_eq_true rfl)
  rw [lg_entry_eq]
  generalize (lg_sl ([.ref (fx_a g 8), .long a1, .int a3]) ++ List.replicate (10 - (lg_sl ([.ref (fx_a g 8), .long a1, .int a3])).length) Slot.unset).toArray = ls at hl ⊢
  have hl : lv_has ls 10 [(0, .ref (fx_a g 8)), (1, .long a1), (3, .int a3)] := hl
  obtain ⟨H, eH⟩ : ∃ H : Heap, H = s.heap := ⟨_, rfl⟩
  obtain ⟨locs, elocs⟩ : ∃ q : List Loc, q = [] := ⟨_, rfl⟩
  rw [← eH, ← elocs] at hH
  show W p l e rm_X7_divides_8 s m _ below meth c s.heap [] 0 0 _ _
  rw [← eH, ← elocs]
  unfold wp_X7_divides_8 at h
  refine lv_lconst (v := 0) hx hb dX7_divides_0 (by decide) ?_
  refine lv_lstore (lv' := [(4, .long 0), (0, .ref (fx_a g 8)), (1, .long a1), (3, .int a3)]) hx hb dX7_divides_1 hl (by decide) rfl (fun ls hl => ?_)
  refine lv_iconst (v := 0) hx hb dX7_divides_3 (by decide) ?_
  refine lv_istore (lv' := [(6, .int 0), (4, .long 0), (0, .ref (fx_a g 8)), (1, .long a1), (3, .int a3)]) hx hb dX7_divides_4 hl (by decide) rfl (fun ls hl => ?_)
  obtain ⟨n6, h⟩ := h
  exact tl_X7_divides_8_6 C (wb_X7_divides_8_30 Q) Q (tb_X7_divides_8_30 C Q ) n6 a1 a3 0 0 M h  H locs ls hH (lv_sub hl [2, 3, 4, 1, 0] rfl)
/-! FlexLayoutModel.clamped(II)I (8,) -/
def rm_X7_clamped_8 : Room := { frames := 1, cells := 0, slots := 0, locals := 22 }
def wb_X7_clamped_8_29 (Q : Int32 → fx_Mem → Prop) (x1 : Int32) (s0 : Int32) (M : fx_Mem) : Prop :=
  wp_X7_of_8 x1 3 M (fun r2 M1 => ((r2 ≤ s0 → Q s0 M1) ∧ (¬ r2 ≤ s0 → wp_X7_of_8 x1 3 M1 (fun r5 M4 => Q r5 M4))))
set_option maxHeartbeats 4000000 in
set_option maxRecDepth 100000 in
theorem tb_X7_clamped_8_29 {g : fx_Geo} {p : Program} {l : Launch} {e : Env} {s : State} {m : MethodId} {args : Array Value} {below : List Frame} {meth : Method} {c : Code} (C : fx_Cx g p s m args meth c RX7 cX7_clamped 4 (some .int)) (Q : Int32 → fx_Mem → Prop) (x1 : Int32) (s0 : Int32) (M : fx_Mem) (h : wb_X7_clamped_8_29 Q x1 s0 M) (H : Heap) (locs : List Loc) (ls : Array Slot) (hH : fx_H g s M H locs) (hl : lv_has ls 4 [(0, .ref (fx_a g 8)), (1, .int x1)]) : W p l e rm_X7_clamped_8 s m args below meth c H locs 0 0 (MQ below (va_Qi Q (fx_Pw g) (fx_A g)) args s 0 0 (fx_A g)) (F0 m 29 ls [.int s0]) := by
  obtain ⟨hx, hb, hr, hml, hown, hts, hlocks, hsz, hK, hG, hSt⟩ := id C
  unfold wb_X7_clamped_8_29 at h
  refine lv_istore_n (lv' := [(3, .int s0), (0, .ref (fx_a g 8)), (1, .int x1)]) hx hb dX7_clamped_29 rfl hl (by decide) rfl (fun ls hl => ?_)
  refine lv_iload_n hx hb dX7_clamped_30 rfl (lv_at hl 0 rfl) ?_
  refine lv_aload_n hx hb dX7_clamped_31 rfl (lv_at hl 1 rfl) ?_
  refine lv_iload_n hx hb dX7_clamped_32 rfl (lv_at hl 2 rfl) ?_
  refine lv_iconst (v := 3) hx hb dX7_clamped_33 (by decide) ?_
  refine fx_ci hH (fx_runV (As := [.int x1, .int 3]) (rest := [.int s0]) C hH (c_X7_of_8 l C.2.2.2.2.2.2.2.2.2.1 x1 3 M _ h) (fx_cwV 2 hts u_997 u_999 us_27 u_8 u_1000 rfl rfl (by decide +kernel) ⟨(Nat.le_of_ble_eq_true rfl), (Nat.le_of_ble_eq_true rfl)⟩) (fx_w8 g M) rfl rfl hl.1 rfl (Nat.le_of_ble_eq_true rfl) dX7_clamped_34 ⟨(Nat.le_of_ble_eq_true rfl), (Nat.le_of_ble_eq_true rfl)⟩) (fun r2 M1 H locs h hH => ?_)
  refine lv_icmp_ge (tgt := 49) hx hb dX7_clamped_37 (by decide) (fun c3 => ?_) (fun c3 => ?_)
  · replace h := h.1 c3
    refine lv_iload_n hx hb dX7_clamped_49 rfl (lv_at hl 0 rfl) ?_
    exact fx_iret C hH h dX7_clamped_50
  · replace h := h.2 c3
    refine lv_aload_n hx hb dX7_clamped_40 rfl (lv_at hl 1 rfl) ?_
    refine lv_iload_n hx hb dX7_clamped_41 rfl (lv_at hl 2 rfl) ?_
    refine lv_iconst (v := 3) hx hb dX7_clamped_42 (by decide) ?_
    refine fx_ci hH (fx_runV (As := [.int x1, .int 3]) (rest := []) C hH (c_X7_of_8 l C.2.2.2.2.2.2.2.2.2.1 x1 3 M1 _ h) (fx_cwV 2 hts u_997 u_999 us_27 u_8 u_1000 rfl rfl (by decide +kernel) ⟨(Nat.le_of_ble_eq_true rfl), (Nat.le_of_ble_eq_true rfl)⟩) (fx_w8 g M1) rfl rfl hl.1 rfl (Nat.le_of_ble_eq_true rfl) dX7_clamped_43 ⟨(Nat.le_of_ble_eq_true rfl), (Nat.le_of_ble_eq_true rfl)⟩) (fun r5 M4 H locs h hH => ?_)
    refine lv_goto (tgt := 50) hx hb dX7_clamped_46 (by decide) ?_
    exact fx_iret C hH h dX7_clamped_50
def wb_X7_clamped_8_28 (Q : Int32 → fx_Mem → Prop) (x1 : Int32) (x2 : Int32) (M : fx_Mem) : Prop :=
  wb_X7_clamped_8_29 Q x1 x2 M
set_option maxHeartbeats 4000000 in
set_option maxRecDepth 100000 in
theorem tb_X7_clamped_8_28 {g : fx_Geo} {p : Program} {l : Launch} {e : Env} {s : State} {m : MethodId} {args : Array Value} {below : List Frame} {meth : Method} {c : Code} (C : fx_Cx g p s m args meth c RX7 cX7_clamped 4 (some .int)) (Q : Int32 → fx_Mem → Prop) (x1 : Int32) (x2 : Int32) (M : fx_Mem) (h : wb_X7_clamped_8_28 Q x1 x2 M) (H : Heap) (locs : List Loc) (ls : Array Slot) (hH : fx_H g s M H locs) (hl : lv_has ls 4 [(0, .ref (fx_a g 8)), (1, .int x1), (2, .int x2)]) : W p l e rm_X7_clamped_8 s m args below meth c H locs 0 0 (MQ below (va_Qi Q (fx_Pw g) (fx_A g)) args s 0 0 (fx_A g)) (F0 m 28 ls []) := by
  obtain ⟨hx, hb, hr, hml, hown, hts, hlocks, hsz, hK, hG, hSt⟩ := id C
  unfold wb_X7_clamped_8_28 at h
  refine lv_iload_n hx hb dX7_clamped_28 rfl (lv_at hl 2 rfl) ?_
  exact tb_X7_clamped_8_29 C Q  x1 x2 M h  H locs ls hH (lv_sub hl [0, 1] rfl)
def wp_X7_clamped_8 (a1 : Int32) (a2 : Int32) (M : fx_Mem) (Q : Int32 → fx_Mem → Prop) : Prop :=
  wp_X7_of_8 a1 4 M (fun r2 M1 => ((r2 < 0 → wb_X7_clamped_8_28 Q a1 a2 M1) ∧ (¬ r2 < 0 → wp_X7_of_8 a1 4 M1 (fun r5 M4 => ((a2 ≤ r5 → wb_X7_clamped_8_28 Q a1 a2 M4) ∧ (¬ a2 ≤ r5 → wp_X7_of_8 a1 4 M4 (fun r8 M7 => wb_X7_clamped_8_29 Q a1 r8 M7)))))))
set_option maxHeartbeats 4000000 in
set_option maxRecDepth 100000 in
theorem c_X7_clamped_8 (l : Launch) {g : fx_Geo} (hG : fx_Gd g) (a1 : Int32) (a2 : Int32) (M : fx_Mem) (Q : Int32 → fx_Mem → Prop) (h : wp_X7_clamped_8 a1 a2 M Q) : Met l yX7_clamped (.code yX7_clamped cX7_clamped 4 (some .int) :: fx_U) rm_X7_clamped_8 (va_Pc [.ref (fx_a g 8), .int a1, .int a2] (fx_At g M)) (va_Qi Q (fx_Pw g) (fx_A g)) 0 0 (fx_A g) := by
  refine Met.ofW (cc := cX7_clamped) (maxL := 4) (ret := (some .int)) (by decide +kernel) rfl ?_
  intro p e s m args below meth c s₁ B hml hv
  obtain ⟨rfl, hv⟩ := hv
  have hts := atoms_spec (ws := .code yX7_clamped cX7_clamped 4 (some .int) :: fx_U) B.pre
  obtain ⟨C, hH⟩ := fx_body (own := RX7) B hml rfl (fun w hw => hts w (List.mem_cons_of_mem _ hw)) hG hv
  replace hts := fun w hw => hts w (List.mem_cons_of_mem _ hw)
  obtain ⟨hx, hb, hr, -, hown, -, hlocks, hsz, hK, -, hSt⟩ := id C
  have hl := lv_entry ([.ref (fx_a g 8), .int a1, .int a2]) (n := 4) (Nat.le_of_ble_eq_true rfl)
  rw [lg_entry_eq]
  generalize (lg_sl ([.ref (fx_a g 8), .int a1, .int a2]) ++ List.replicate (4 - (lg_sl ([.ref (fx_a g 8), .int a1, .int a2])).length) Slot.unset).toArray = ls at hl ⊢
  have hl : lv_has ls 4 [(0, .ref (fx_a g 8)), (1, .int a1), (2, .int a2)] := hl
  obtain ⟨H, eH⟩ : ∃ H : Heap, H = s.heap := ⟨_, rfl⟩
  obtain ⟨locs, elocs⟩ : ∃ q : List Loc, q = [] := ⟨_, rfl⟩
  rw [← eH, ← elocs] at hH
  show W p l e rm_X7_clamped_8 s m _ below meth c s.heap [] 0 0 _ _
  rw [← eH, ← elocs]
  unfold wp_X7_clamped_8 at h
  refine lv_aload_n hx hb dX7_clamped_0 rfl (lv_at hl 0 rfl) ?_
  refine lv_iload_n hx hb dX7_clamped_1 rfl (lv_at hl 1 rfl) ?_
  refine lv_iconst (v := 4) hx hb dX7_clamped_2 (by decide) ?_
  refine fx_ci hH (fx_runV (As := [.int a1, .int 4]) (rest := []) C hH (c_X7_of_8 l C.2.2.2.2.2.2.2.2.2.1 a1 4 M _ h) (fx_cwV 2 hts u_997 u_999 us_27 u_8 u_1000 rfl rfl (by decide +kernel) ⟨(Nat.le_of_ble_eq_true rfl), (Nat.le_of_ble_eq_true rfl)⟩) (fx_w8 g M) rfl rfl hl.1 rfl (Nat.le_of_ble_eq_true rfl) dX7_clamped_3 ⟨(Nat.le_of_ble_eq_true rfl), (Nat.le_of_ble_eq_true rfl)⟩) (fun r2 M1 H locs h hH => ?_)
  refine lv_if_lt (tgt := 28) hx hb dX7_clamped_6 (by decide) (fun c3 => ?_) (fun c3 => ?_)
  · replace h := h.1 c3
    exact tb_X7_clamped_8_28 C Q  a1 a2 M1 h  H locs ls hH (lv_sub hl [0, 1, 2] rfl)
  · replace h := h.2 c3
    refine lv_iload_n hx hb dX7_clamped_9 rfl (lv_at hl 2 rfl) ?_
    refine lv_aload_n hx hb dX7_clamped_10 rfl (lv_at hl 0 rfl) ?_
    refine lv_iload_n hx hb dX7_clamped_11 rfl (lv_at hl 1 rfl) ?_
    refine lv_iconst (v := 4) hx hb dX7_clamped_12 (by decide) ?_
    refine fx_ci hH (fx_runV (As := [.int a1, .int 4]) (rest := [.int a2]) C hH (c_X7_of_8 l C.2.2.2.2.2.2.2.2.2.1 a1 4 M1 _ h) (fx_cwV 2 hts u_997 u_999 us_27 u_8 u_1000 rfl rfl (by decide +kernel) ⟨(Nat.le_of_ble_eq_true rfl), (Nat.le_of_ble_eq_true rfl)⟩) (fx_w8 g M1) rfl rfl hl.1 rfl (Nat.le_of_ble_eq_true rfl) dX7_clamped_13 ⟨(Nat.le_of_ble_eq_true rfl), (Nat.le_of_ble_eq_true rfl)⟩) (fun r5 M4 H locs h hH => ?_)
    refine lv_icmp_le (tgt := 28) hx hb dX7_clamped_16 (by decide) (fun c6 => ?_) (fun c6 => ?_)
    · replace h := h.1 c6
      exact tb_X7_clamped_8_28 C Q  a1 a2 M4 h  H locs ls hH (lv_sub hl [0, 1, 2] rfl)
    · replace h := h.2 c6
      refine lv_aload_n hx hb dX7_clamped_19 rfl (lv_at hl 0 rfl) ?_
      refine lv_iload_n hx hb dX7_clamped_20 rfl (lv_at hl 1 rfl) ?_
      refine lv_iconst (v := 4) hx hb dX7_clamped_21 (by decide) ?_
      refine fx_ci hH (fx_runV (As := [.int a1, .int 4]) (rest := []) C hH (c_X7_of_8 l C.2.2.2.2.2.2.2.2.2.1 a1 4 M4 _ h) (fx_cwV 2 hts u_997 u_999 us_27 u_8 u_1000 rfl rfl (by decide +kernel) ⟨(Nat.le_of_ble_eq_true rfl), (Nat.le_of_ble_eq_true rfl)⟩) (fx_w8 g M4) rfl rfl hl.1 rfl (Nat.le_of_ble_eq_true rfl) dX7_clamped_22 ⟨(Nat.le_of_ble_eq_true rfl), (Nat.le_of_ble_eq_true rfl)⟩) (fun r8 M7 H locs h hH => ?_)
      refine lv_goto (tgt := 29) hx hb dX7_clamped_25 (by decide) ?_
      exact tb_X7_clamped_8_29 C Q  a1 r8 M7 h  H locs ls hH (lv_sub hl [0, 1] rfl)
/-! FlexLayoutModel.hypothetical(I)I (8,) -/
def rm_X7_hypothetical_8 : Room := { frames := 2, cells := 0, slots := 0, locals := 45 }
def wp_X7_hypothetical_8 (a1 : Int32) (M : fx_Mem) (Q : Int32 → fx_Mem → Prop) : Prop :=
  wp_X7_of_8 a1 0 M (fun r2 M1 => wp_X7_clamped_8 a1 r2 M1 (fun r4 M3 => Q r4 M3))
set_option maxHeartbeats 4000000 in
set_option maxRecDepth 100000 in
theorem c_X7_hypothetical_8 (l : Launch) {g : fx_Geo} (hG : fx_Gd g) (a1 : Int32) (M : fx_Mem) (Q : Int32 → fx_Mem → Prop) (h : wp_X7_hypothetical_8 a1 M Q) : Met l yX7_hypothetical (.code yX7_hypothetical cX7_hypothetical 2 (some .int) :: fx_U) rm_X7_hypothetical_8 (va_Pc [.ref (fx_a g 8), .int a1] (fx_At g M)) (va_Qi Q (fx_Pw g) (fx_A g)) 0 0 (fx_A g) := by
  refine Met.ofW (cc := cX7_hypothetical) (maxL := 2) (ret := (some .int)) (by decide +kernel) rfl ?_
  intro p e s m args below meth c s₁ B hml hv
  obtain ⟨rfl, hv⟩ := hv
  have hts := atoms_spec (ws := .code yX7_hypothetical cX7_hypothetical 2 (some .int) :: fx_U) B.pre
  obtain ⟨C, hH⟩ := fx_body (own := RX7) B hml rfl (fun w hw => hts w (List.mem_cons_of_mem _ hw)) hG hv
  replace hts := fun w hw => hts w (List.mem_cons_of_mem _ hw)
  obtain ⟨hx, hb, hr, -, hown, -, hlocks, hsz, hK, -, hSt⟩ := id C
  have hl := lv_entry ([.ref (fx_a g 8), .int a1]) (n := 2) (Nat.le_of_ble_eq_true rfl)
  rw [lg_entry_eq]
  generalize (lg_sl ([.ref (fx_a g 8), .int a1]) ++ List.replicate (2 - (lg_sl ([.ref (fx_a g 8), .int a1])).length) Slot.unset).toArray = ls at hl ⊢
  have hl : lv_has ls 2 [(0, .ref (fx_a g 8)), (1, .int a1)] := hl
  obtain ⟨H, eH⟩ : ∃ H : Heap, H = s.heap := ⟨_, rfl⟩
  obtain ⟨locs, elocs⟩ : ∃ q : List Loc, q = [] := ⟨_, rfl⟩
  rw [← eH, ← elocs] at hH
  show W p l e rm_X7_hypothetical_8 s m _ below meth c s.heap [] 0 0 _ _
  rw [← eH, ← elocs]
  unfold wp_X7_hypothetical_8 at h
  refine lv_aload_n hx hb dX7_hypothetical_0 rfl (lv_at hl 0 rfl) ?_
  refine lv_iload_n hx hb dX7_hypothetical_1 rfl (lv_at hl 1 rfl) ?_
  refine lv_aload_n hx hb dX7_hypothetical_2 rfl (lv_at hl 0 rfl) ?_
  refine lv_iload_n hx hb dX7_hypothetical_3 rfl (lv_at hl 1 rfl) ?_
  refine lv_iconst (v := 0) hx hb dX7_hypothetical_4 (by decide) ?_
  refine fx_ci hH (fx_runV (As := [.int a1, .int 0]) (rest := [.int a1, .ref (fx_a g 8)]) C hH (c_X7_of_8 l C.2.2.2.2.2.2.2.2.2.1 a1 0 M _ h) (fx_cwV 2 hts u_997 u_999 us_27 u_8 u_1000 rfl rfl (by decide +kernel) ⟨(Nat.le_of_ble_eq_true rfl), (Nat.le_of_ble_eq_true rfl)⟩) (fx_w8 g M) rfl rfl hl.1 rfl (Nat.le_of_ble_eq_true rfl) dX7_hypothetical_5 ⟨(Nat.le_of_ble_eq_true rfl), (Nat.le_of_ble_eq_true rfl)⟩) (fun r2 M1 H locs h hH => ?_)
  refine fx_ci hH (fx_runV (As := [.int a1, .int r2]) (rest := []) C hH (c_X7_clamped_8 l C.2.2.2.2.2.2.2.2.2.1 a1 r2 M1 _ h) (fx_cwV 2 hts u_1050 u_1052 us_35 u_8 u_1053 rfl rfl (by decide +kernel) ⟨(Nat.le_of_ble_eq_true rfl), (Nat.le_of_ble_eq_true rfl)⟩) (fx_w8 g M1) rfl rfl hl.1 rfl (Nat.le_of_ble_eq_true rfl) dX7_hypothetical_8 ⟨(Nat.le_of_ble_eq_true rfl), (Nat.le_of_ble_eq_true rfl)⟩) (fun r4 M3 H locs h hH => ?_)
  exact fx_iret C hH h dX7_hypothetical_11
/-! FlexLayoutModel.findSequence()V (8,) -/
def rm_X7_findSequence_8 : Room := { frames := 1, cells := 0, slots := 0, locals := 22 }
def wb_X7_findSequence_8_12 (k12 : Int32 → Int32 → fx_Mem → Prop) (k60 : Int32 → Int32 → fx_Mem → Prop) (Q : fx_Mem → Prop) (x1 : Int32) (x2 : Int32) (M : fx_Mem) : Prop :=
  ((x2 ≤ 0 → k60 x1 x2 M) ∧ (¬ x2 ≤ 0 → vp_in (x2 - 1) 20 ∧ wp_X7_of_8 (M.2.1 39 ((x2 - 1).toNatClampNeg)) 8 M (fun r4 M3 => wp_X7_of_8 x1 8 M3 (fun r6 M5 => ((r4 ≤ r6 → k60 x1 x2 M5) ∧ (¬ r4 ≤ r6 → vp_in (x2 - 1) 20 ∧ vp_in x2 20 ∧ ∀ M10 : fx_Mem, M10 = fx_sa M5 39 x2.toNatClampNeg (M5.2.1 39 ((x2 - 1).toNatClampNeg)) → ∀ v11 : Int32, v11 = x2 + (-1) → k12 x1 v11 M10))))))
set_option maxHeartbeats 4000000 in
set_option maxRecDepth 100000 in
theorem tb_X7_findSequence_8_12 {g : fx_Geo} {p : Program} {l : Launch} {e : Env} {s : State} {m : MethodId} {args : Array Value} {below : List Frame} {meth : Method} {c : Code} (C : fx_Cx g p s m args meth c RX7 cX7_findSequence 3 none) (k12 : Int32 → Int32 → fx_Mem → Prop) (k60 : Int32 → Int32 → fx_Mem → Prop) (Q : fx_Mem → Prop) (hk12 : ∀ (x1 : Int32) (x2 : Int32) (M : fx_Mem), k12 x1 x2 M → ∀ (H : Heap) (locs : List Loc) (ls : Array Slot), fx_H g s M H locs → lv_has ls 3 [(0, .ref (fx_a g 8)), (1, .int x1), (2, .int x2)] → W p l e rm_X7_findSequence_8 s m args below meth c H locs 0 0 (MQ below (va_Qv Q (fx_Pw g) (fx_A g)) args s 0 0 (fx_A g)) (F0 m 12 ls [])) (hk60 : ∀ (x1 : Int32) (x2 : Int32) (M : fx_Mem), k60 x1 x2 M → ∀ (H : Heap) (locs : List Loc) (ls : Array Slot), fx_H g s M H locs → lv_has ls 3 [(0, .ref (fx_a g 8)), (1, .int x1), (2, .int x2)] → W p l e rm_X7_findSequence_8 s m args below meth c H locs 0 0 (MQ below (va_Qv Q (fx_Pw g) (fx_A g)) args s 0 0 (fx_A g)) (F0 m 60 ls [])) (x1 : Int32) (x2 : Int32) (M : fx_Mem) (h : wb_X7_findSequence_8_12 k12 k60 Q x1 x2 M) (H : Heap) (locs : List Loc) (ls : Array Slot) (hH : fx_H g s M H locs) (hl : lv_has ls 3 [(0, .ref (fx_a g 8)), (1, .int x1), (2, .int x2)]) : W p l e rm_X7_findSequence_8 s m args below meth c H locs 0 0 (MQ below (va_Qv Q (fx_Pw g) (fx_A g)) args s 0 0 (fx_A g)) (F0 m 12 ls []) := by
  obtain ⟨hx, hb, hr, hml, hown, hts, hlocks, hsz, hK, hG, hSt⟩ := id C
  unfold wb_X7_findSequence_8_12 at h
  refine lv_iload_n hx hb dX7_findSequence_12 rfl (lv_at hl 2 rfl) ?_
  refine lv_if_le (tgt := 60) hx hb dX7_findSequence_13 (by decide) (fun c1 => ?_) (fun c1 => ?_)
  · replace h := h.1 c1
    exact hk60 x1 x2 M h  H locs ls hH (lv_sub hl [0, 1, 2] rfl)
  · replace h := h.2 c1
    refine lv_aload_n hx hb dX7_findSequence_16 rfl (lv_at hl 0 rfl) ?_
    refine lv_aload_n hx hb dX7_findSequence_17 rfl (lv_at hl 0 rfl) ?_
    refine fx_get C hH (fx_w8 g M) rfl in_X7 14 (by decide) u_837 rfl rfl dX7_findSequence_18 ?_
    refine lv_iload_n hx hb dX7_findSequence_21 rfl (lv_at hl 2 rfl) ?_
    refine lv_iconst (v := 1) hx hb dX7_findSequence_22 (by decide) ?_
    refine lv_isub hx hb dX7_findSequence_23 ?_
    obtain ⟨hi2, h⟩ := h
    refine fx_iald (j := (x2 - 1).toNatClampNeg) C hH 39 (fx_w39 g M) rfl hi2 dX7_findSequence_24 ?_
    refine lv_bipush (v := 8) hx hb dX7_findSequence_25 (by decide) ?_
    refine fx_ci hH (fx_runV (As := [.int (M.2.1 39 ((x2 - 1).toNatClampNeg)), .int 8]) (rest := []) C hH (c_X7_of_8 l C.2.2.2.2.2.2.2.2.2.1 (M.2.1 39 ((x2 - 1).toNatClampNeg)) 8 M _ h) (fx_cwV 2 hts u_997 u_999 us_27 u_8 u_1000 rfl rfl (by decide +kernel) ⟨(Nat.le_of_ble_eq_true rfl), (Nat.le_of_ble_eq_true rfl)⟩) (fx_w8 g M) rfl rfl hl.1 rfl (Nat.le_of_ble_eq_true rfl) dX7_findSequence_27 ⟨(Nat.le_of_ble_eq_true rfl), (Nat.le_of_ble_eq_true rfl)⟩) (fun r4 M3 H locs h hH => ?_)
    refine lv_aload_n hx hb dX7_findSequence_30 rfl (lv_at hl 0 rfl) ?_
    refine lv_iload_n hx hb dX7_findSequence_31 rfl (lv_at hl 1 rfl) ?_
    refine lv_bipush (v := 8) hx hb dX7_findSequence_32 (by decide) ?_
    refine fx_ci hH (fx_runV (As := [.int x1, .int 8]) (rest := [.int r4]) C hH (c_X7_of_8 l C.2.2.2.2.2.2.2.2.2.1 x1 8 M3 _ h) (fx_cwV 2 hts u_997 u_999 us_27 u_8 u_1000 rfl rfl (by decide +kernel) ⟨(Nat.le_of_ble_eq_true rfl), (Nat.le_of_ble_eq_true rfl)⟩) (fx_w8 g M3) rfl rfl hl.1 rfl (Nat.le_of_ble_eq_true rfl) dX7_findSequence_34 ⟨(Nat.le_of_ble_eq_true rfl), (Nat.le_of_ble_eq_true rfl)⟩) (fun r6 M5 H locs h hH => ?_)
    refine lv_icmp_le (tgt := 60) hx hb dX7_findSequence_37 (by decide) (fun c7 => ?_) (fun c7 => ?_)
    · replace h := h.1 c7
      exact hk60 x1 x2 M5 h  H locs ls hH (lv_sub hl [0, 1, 2] rfl)
    · replace h := h.2 c7
      refine lv_aload_n hx hb dX7_findSequence_40 rfl (lv_at hl 0 rfl) ?_
      refine fx_get C hH (fx_w8 g M5) rfl in_X7 14 (by decide) u_837 rfl rfl dX7_findSequence_41 ?_
      refine lv_iload_n hx hb dX7_findSequence_44 rfl (lv_at hl 2 rfl) ?_
      refine lv_aload_n hx hb dX7_findSequence_45 rfl (lv_at hl 0 rfl) ?_
      refine fx_get C hH (fx_w8 g M5) rfl in_X7 14 (by decide) u_837 rfl rfl dX7_findSequence_46 ?_
      refine lv_iload_n hx hb dX7_findSequence_49 rfl (lv_at hl 2 rfl) ?_
      refine lv_iconst (v := 1) hx hb dX7_findSequence_50 (by decide) ?_
      refine lv_isub hx hb dX7_findSequence_51 ?_
      obtain ⟨hi8, h⟩ := h
      refine fx_iald (j := (x2 - 1).toNatClampNeg) C hH 39 (fx_w39 g M5) rfl hi8 dX7_findSequence_52 ?_
      obtain ⟨hi9, h⟩ := h
      refine fx_iast (j := x2.toNatClampNeg) (M' := fx_sa M5 39 x2.toNatClampNeg (M5.2.1 39 ((x2 - 1).toNatClampNeg))) C hH 39 rfl (fx_w39 g M5) (fx_p39 g M5 _) hi9 dX7_findSequence_53 (fun H locs hH => ?_)
      generalize eM10 : fx_sa M5 39 x2.toNatClampNeg (M5.2.1 39 ((x2 - 1).toNatClampNeg)) = M10 at hH
      replace h := h M10 eM10.symm
      obtain ⟨v11, ev11⟩ : ∃ z : Int32, z = x2 + (-1) := ⟨_, rfl⟩
      refine lv_iinc (v := v11) (lv' := [(2, .int v11), (0, .ref (fx_a g 8)), (1, .int x1)]) hx hb dX7_findSequence_54 hl (k := 2) rfl (by rw [ev11]; rfl) (by decide) rfl (fun ls hl => ?_)
      replace h := h v11 ev11
      refine lv_goto (tgt := 12) hx hb dX7_findSequence_57 (by decide) ?_
      exact hk12 x1 v11 M10 h  H locs ls hH (lv_sub hl [1, 2, 0] rfl)
def wl_X7_findSequence_8_12 (k60 : Int32 → Int32 → fx_Mem → Prop) (Q : fx_Mem → Prop) (n : Nat) (x1 : Int32) (x2 : Int32) (M : fx_Mem) : Prop :=
  fx_lp (α := Int32 × Int32 × fx_Mem) (fun k a => wb_X7_findSequence_8_12 (fun x1 x2 M => k (x1, x2, M)) k60 Q a.1 a.2.1 a.2.2) n (x1, x2, M)
set_option maxHeartbeats 4000000 in
theorem tl_X7_findSequence_8_12 {g : fx_Geo} {p : Program} {l : Launch} {e : Env} {s : State} {m : MethodId} {args : Array Value} {below : List Frame} {meth : Method} {c : Code} (C : fx_Cx g p s m args meth c RX7 cX7_findSequence 3 none) (k60 : Int32 → Int32 → fx_Mem → Prop) (Q : fx_Mem → Prop) (hk60 : ∀ (x1 : Int32) (x2 : Int32) (M : fx_Mem), k60 x1 x2 M → ∀ (H : Heap) (locs : List Loc) (ls : Array Slot), fx_H g s M H locs → lv_has ls 3 [(0, .ref (fx_a g 8)), (1, .int x1), (2, .int x2)] → W p l e rm_X7_findSequence_8 s m args below meth c H locs 0 0 (MQ below (va_Qv Q (fx_Pw g) (fx_A g)) args s 0 0 (fx_A g)) (F0 m 60 ls [])) : ∀ (n : Nat) (x1 : Int32) (x2 : Int32) (M : fx_Mem), wl_X7_findSequence_8_12 k60 Q n x1 x2 M → ∀ (H : Heap) (locs : List Loc) (ls : Array Slot), fx_H g s M H locs → lv_has ls 3 [(0, .ref (fx_a g 8)), (1, .int x1), (2, .int x2)] → W p l e rm_X7_findSequence_8 s m args below meth c H locs 0 0 (MQ below (va_Qv Q (fx_Pw g) (fx_A g)) args s 0 0 (fx_A g)) (F0 m 12 ls []) := by
  intro n
  induction n with
  | zero => intro x1 x2 M h; exact False.elim h
  | succ n ih => intro x1 x2 M h  H locs ls hH hl; exact tb_X7_findSequence_8_12 C (wl_X7_findSequence_8_12 k60 Q n) k60 Q ih hk60 x1 x2 M h  H locs ls hH hl
def wb_X7_findSequence_8_60 (k2 : Int32 → fx_Mem → Prop) (k73 : fx_Mem → Prop) (Q : fx_Mem → Prop) (x1 : Int32) (x2 : Int32) (M : fx_Mem) : Prop :=
  vp_in x2 20 ∧ ∀ M2 : fx_Mem, M2 = fx_sa M 39 x2.toNatClampNeg x1 → ∀ v3 : Int32, v3 = x1 + 1 → k2 v3 M2
set_option maxHeartbeats 4000000 in
set_option maxRecDepth 100000 in
theorem tb_X7_findSequence_8_60 {g : fx_Geo} {p : Program} {l : Launch} {e : Env} {s : State} {m : MethodId} {args : Array Value} {below : List Frame} {meth : Method} {c : Code} (C : fx_Cx g p s m args meth c RX7 cX7_findSequence 3 none) (k2 : Int32 → fx_Mem → Prop) (k73 : fx_Mem → Prop) (Q : fx_Mem → Prop) (hk2 : ∀ (x1 : Int32) (M : fx_Mem), k2 x1 M → ∀ (H : Heap) (locs : List Loc) (ls : Array Slot), fx_H g s M H locs → lv_has ls 3 [(0, .ref (fx_a g 8)), (1, .int x1)] → W p l e rm_X7_findSequence_8 s m args below meth c H locs 0 0 (MQ below (va_Qv Q (fx_Pw g) (fx_A g)) args s 0 0 (fx_A g)) (F0 m 2 ls [])) (hk73 : ∀ (M : fx_Mem), k73 M → ∀ (H : Heap) (locs : List Loc) (ls : Array Slot), fx_H g s M H locs → lv_has ls 3 [(0, .ref (fx_a g 8))] → W p l e rm_X7_findSequence_8 s m args below meth c H locs 0 0 (MQ below (va_Qv Q (fx_Pw g) (fx_A g)) args s 0 0 (fx_A g)) (F0 m 73 ls [])) (x1 : Int32) (x2 : Int32) (M : fx_Mem) (h : wb_X7_findSequence_8_60 k2 k73 Q x1 x2 M) (H : Heap) (locs : List Loc) (ls : Array Slot) (hH : fx_H g s M H locs) (hl : lv_has ls 3 [(0, .ref (fx_a g 8)), (1, .int x1), (2, .int x2)]) : W p l e rm_X7_findSequence_8 s m args below meth c H locs 0 0 (MQ below (va_Qv Q (fx_Pw g) (fx_A g)) args s 0 0 (fx_A g)) (F0 m 60 ls []) := by
  obtain ⟨hx, hb, hr, hml, hown, hts, hlocks, hsz, hK, hG, hSt⟩ := id C
  unfold wb_X7_findSequence_8_60 at h
  refine lv_aload_n hx hb dX7_findSequence_60 rfl (lv_at hl 0 rfl) ?_
  refine fx_get C hH (fx_w8 g M) rfl in_X7 14 (by decide) u_837 rfl rfl dX7_findSequence_61 ?_
  refine lv_iload_n hx hb dX7_findSequence_64 rfl (lv_at hl 2 rfl) ?_
  refine lv_iload_n hx hb dX7_findSequence_65 rfl (lv_at hl 1 rfl) ?_
  obtain ⟨hi1, h⟩ := h
  refine fx_iast (j := x2.toNatClampNeg) (M' := fx_sa M 39 x2.toNatClampNeg x1) C hH 39 rfl (fx_w39 g M) (fx_p39 g M _) hi1 dX7_findSequence_66 (fun H locs hH => ?_)
  generalize eM2 : fx_sa M 39 x2.toNatClampNeg x1 = M2 at hH
  replace h := h M2 eM2.symm
  obtain ⟨v3, ev3⟩ : ∃ z : Int32, z = x1 + 1 := ⟨_, rfl⟩
  refine lv_iinc (v := v3) (lv' := [(1, .int v3), (0, .ref (fx_a g 8)), (2, .int x2)]) hx hb dX7_findSequence_67 hl (k := 1) rfl (by rw [ev3]; rfl) (by decide) rfl (fun ls hl => ?_)
  replace h := h v3 ev3
  refine lv_goto (tgt := 2) hx hb dX7_findSequence_70 (by decide) ?_
  exact hk2 v3 M2 h  H locs ls hH (lv_sub hl [1, 0] rfl)
def wb_X7_findSequence_8_2 (k2 : Int32 → fx_Mem → Prop) (k73 : fx_Mem → Prop) (Q : fx_Mem → Prop) (x1 : Int32) (M : fx_Mem) : Prop :=
  ((M.1 515 ≤ x1 → k73  M) ∧ (¬ M.1 515 ≤ x1 → ∃ n12 : Nat, wl_X7_findSequence_8_12 (wb_X7_findSequence_8_60 k2 k73 Q) Q n12 x1 x1 M))
set_option maxHeartbeats 4000000 in
set_option maxRecDepth 100000 in
theorem tb_X7_findSequence_8_2 {g : fx_Geo} {p : Program} {l : Launch} {e : Env} {s : State} {m : MethodId} {args : Array Value} {below : List Frame} {meth : Method} {c : Code} (C : fx_Cx g p s m args meth c RX7 cX7_findSequence 3 none) (k2 : Int32 → fx_Mem → Prop) (k73 : fx_Mem → Prop) (Q : fx_Mem → Prop) (hk2 : ∀ (x1 : Int32) (M : fx_Mem), k2 x1 M → ∀ (H : Heap) (locs : List Loc) (ls : Array Slot), fx_H g s M H locs → lv_has ls 3 [(0, .ref (fx_a g 8)), (1, .int x1)] → W p l e rm_X7_findSequence_8 s m args below meth c H locs 0 0 (MQ below (va_Qv Q (fx_Pw g) (fx_A g)) args s 0 0 (fx_A g)) (F0 m 2 ls [])) (hk73 : ∀ (M : fx_Mem), k73 M → ∀ (H : Heap) (locs : List Loc) (ls : Array Slot), fx_H g s M H locs → lv_has ls 3 [(0, .ref (fx_a g 8))] → W p l e rm_X7_findSequence_8 s m args below meth c H locs 0 0 (MQ below (va_Qv Q (fx_Pw g) (fx_A g)) args s 0 0 (fx_A g)) (F0 m 73 ls [])) (x1 : Int32) (M : fx_Mem) (h : wb_X7_findSequence_8_2 k2 k73 Q x1 M) (H : Heap) (locs : List Loc) (ls : Array Slot) (hH : fx_H g s M H locs) (hl : lv_has ls 3 [(0, .ref (fx_a g 8)), (1, .int x1)]) : W p l e rm_X7_findSequence_8 s m args below meth c H locs 0 0 (MQ below (va_Qv Q (fx_Pw g) (fx_A g)) args s 0 0 (fx_A g)) (F0 m 2 ls []) := by
  obtain ⟨hx, hb, hr, hml, hown, hts, hlocks, hsz, hK, hG, hSt⟩ := id C
  unfold wb_X7_findSequence_8_2 at h
  refine lv_iload_n hx hb dX7_findSequence_2 rfl (lv_at hl 1 rfl) ?_
  refine lv_aload_n hx hb dX7_findSequence_3 rfl (lv_at hl 0 rfl) ?_
  refine fx_get C hH (fx_w8 g M) rfl in_X7 3 (by decide) u_826 rfl rfl dX7_findSequence_4 ?_
  refine lv_icmp_ge (tgt := 73) hx hb dX7_findSequence_7 (by decide) (fun c1 => ?_) (fun c1 => ?_)
  · replace h := h.1 c1
    exact hk73  M h  H locs ls hH (lv_sub hl [0] rfl)
  · replace h := h.2 c1
    refine lv_iload_n hx hb dX7_findSequence_10 rfl (lv_at hl 1 rfl) ?_
    refine lv_istore_n (lv' := [(2, .int x1), (0, .ref (fx_a g 8)), (1, .int x1)]) hx hb dX7_findSequence_11 rfl hl (by decide) rfl (fun ls hl => ?_)
    obtain ⟨n12, h⟩ := h
    exact tl_X7_findSequence_8_12 C (wb_X7_findSequence_8_60 k2 k73 Q) Q (tb_X7_findSequence_8_60 C k2 k73 Q hk2 hk73) n12 x1 x1 M h  H locs ls hH (lv_sub hl [1, 2, 0] rfl)
def wl_X7_findSequence_8_2 (k73 : fx_Mem → Prop) (Q : fx_Mem → Prop) (n : Nat) (x1 : Int32) (M : fx_Mem) : Prop :=
  fx_lp (α := Int32 × fx_Mem) (fun k a => wb_X7_findSequence_8_2 (fun x1 M => k (x1, M)) k73 Q a.1 a.2) n (x1, M)
set_option maxHeartbeats 4000000 in
theorem tl_X7_findSequence_8_2 {g : fx_Geo} {p : Program} {l : Launch} {e : Env} {s : State} {m : MethodId} {args : Array Value} {below : List Frame} {meth : Method} {c : Code} (C : fx_Cx g p s m args meth c RX7 cX7_findSequence 3 none) (k73 : fx_Mem → Prop) (Q : fx_Mem → Prop) (hk73 : ∀ (M : fx_Mem), k73  M → ∀ (H : Heap) (locs : List Loc) (ls : Array Slot), fx_H g s M H locs → lv_has ls 3 [(0, .ref (fx_a g 8))] → W p l e rm_X7_findSequence_8 s m args below meth c H locs 0 0 (MQ below (va_Qv Q (fx_Pw g) (fx_A g)) args s 0 0 (fx_A g)) (F0 m 73 ls [])) : ∀ (n : Nat) (x1 : Int32) (M : fx_Mem), wl_X7_findSequence_8_2 k73 Q n x1 M → ∀ (H : Heap) (locs : List Loc) (ls : Array Slot), fx_H g s M H locs → lv_has ls 3 [(0, .ref (fx_a g 8)), (1, .int x1)] → W p l e rm_X7_findSequence_8 s m args below meth c H locs 0 0 (MQ below (va_Qv Q (fx_Pw g) (fx_A g)) args s 0 0 (fx_A g)) (F0 m 2 ls []) := by
  intro n
  induction n with
  | zero => intro x1 M h; exact False.elim h
  | succ n ih => intro x1 M h  H locs ls hH hl; exact tb_X7_findSequence_8_2 C (wl_X7_findSequence_8_2 k73 Q n) k73 Q ih hk73 x1 M h  H locs ls hH hl
def wb_X7_findSequence_8_75 (k75 : Int32 → fx_Mem → Prop) (Q : fx_Mem → Prop) (x1 : Int32) (M : fx_Mem) : Prop :=
  ((M.1 515 ≤ x1 → Q M) ∧ (¬ M.1 515 ≤ x1 → vp_in x1 20 ∧ vp_in (M.2.1 39 x1.toNatClampNeg) 20 ∧ ∀ M4 : fx_Mem, M4 = fx_sa M 45 ((M.2.1 39 x1.toNatClampNeg).toNatClampNeg) x1 → ∀ v5 : Int32, v5 = x1 + 1 → k75 v5 M4))
set_option maxHeartbeats 4000000 in
set_option maxRecDepth 100000 in
theorem tb_X7_findSequence_8_75 {g : fx_Geo} {p : Program} {l : Launch} {e : Env} {s : State} {m : MethodId} {args : Array Value} {below : List Frame} {meth : Method} {c : Code} (C : fx_Cx g p s m args meth c RX7 cX7_findSequence 3 none) (k75 : Int32 → fx_Mem → Prop) (Q : fx_Mem → Prop) (hk75 : ∀ (x1 : Int32) (M : fx_Mem), k75 x1 M → ∀ (H : Heap) (locs : List Loc) (ls : Array Slot), fx_H g s M H locs → lv_has ls 3 [(0, .ref (fx_a g 8)), (1, .int x1)] → W p l e rm_X7_findSequence_8 s m args below meth c H locs 0 0 (MQ below (va_Qv Q (fx_Pw g) (fx_A g)) args s 0 0 (fx_A g)) (F0 m 75 ls [])) (x1 : Int32) (M : fx_Mem) (h : wb_X7_findSequence_8_75 k75 Q x1 M) (H : Heap) (locs : List Loc) (ls : Array Slot) (hH : fx_H g s M H locs) (hl : lv_has ls 3 [(0, .ref (fx_a g 8)), (1, .int x1)]) : W p l e rm_X7_findSequence_8 s m args below meth c H locs 0 0 (MQ below (va_Qv Q (fx_Pw g) (fx_A g)) args s 0 0 (fx_A g)) (F0 m 75 ls []) := by
  obtain ⟨hx, hb, hr, hml, hown, hts, hlocks, hsz, hK, hG, hSt⟩ := id C
  unfold wb_X7_findSequence_8_75 at h
  refine lv_iload_n hx hb dX7_findSequence_75 rfl (lv_at hl 1 rfl) ?_
  refine lv_aload_n hx hb dX7_findSequence_76 rfl (lv_at hl 0 rfl) ?_
  refine fx_get C hH (fx_w8 g M) rfl in_X7 3 (by decide) u_826 rfl rfl dX7_findSequence_77 ?_
  refine lv_icmp_ge (tgt := 101) hx hb dX7_findSequence_80 (by decide) (fun c1 => ?_) (fun c1 => ?_)
  · replace h := h.1 c1
    exact fx_vret C hH h dX7_findSequence_101
  · replace h := h.2 c1
    refine lv_aload_n hx hb dX7_findSequence_83 rfl (lv_at hl 0 rfl) ?_
    refine fx_get C hH (fx_w8 g M) rfl in_X7 20 (by decide) u_843 rfl rfl dX7_findSequence_84 ?_
    refine lv_aload_n hx hb dX7_findSequence_87 rfl (lv_at hl 0 rfl) ?_
    refine fx_get C hH (fx_w8 g M) rfl in_X7 14 (by decide) u_837 rfl rfl dX7_findSequence_88 ?_
    refine lv_iload_n hx hb dX7_findSequence_91 rfl (lv_at hl 1 rfl) ?_
    obtain ⟨hi2, h⟩ := h
    refine fx_iald (j := x1.toNatClampNeg) C hH 39 (fx_w39 g M) rfl hi2 dX7_findSequence_92 ?_
    refine lv_iload_n hx hb dX7_findSequence_93 rfl (lv_at hl 1 rfl) ?_
    obtain ⟨hi3, h⟩ := h
    refine fx_iast (j := (M.2.1 39 x1.toNatClampNeg).toNatClampNeg) (M' := fx_sa M 45 ((M.2.1 39 x1.toNatClampNeg).toNatClampNeg) x1) C hH 45 rfl (fx_w45 g M) (fx_p45 g M _) hi3 dX7_findSequence_94 (fun H locs hH => ?_)
    generalize eM4 : fx_sa M 45 ((M.2.1 39 x1.toNatClampNeg).toNatClampNeg) x1 = M4 at hH
    replace h := h M4 eM4.symm
    obtain ⟨v5, ev5⟩ : ∃ z : Int32, z = x1 + 1 := ⟨_, rfl⟩
    refine lv_iinc (v := v5) (lv' := [(1, .int v5), (0, .ref (fx_a g 8))]) hx hb dX7_findSequence_95 hl (k := 1) rfl (by rw [ev5]; rfl) (by decide) rfl (fun ls hl => ?_)
    replace h := h v5 ev5
    refine lv_goto (tgt := 75) hx hb dX7_findSequence_98 (by decide) ?_
    exact hk75 v5 M4 h  H locs ls hH (lv_sub hl [1, 0] rfl)
def wl_X7_findSequence_8_75 (Q : fx_Mem → Prop) (n : Nat) (x1 : Int32) (M : fx_Mem) : Prop :=
  fx_lp (α := Int32 × fx_Mem) (fun k a => wb_X7_findSequence_8_75 (fun x1 M => k (x1, M)) Q a.1 a.2) n (x1, M)
set_option maxHeartbeats 4000000 in
theorem tl_X7_findSequence_8_75 {g : fx_Geo} {p : Program} {l : Launch} {e : Env} {s : State} {m : MethodId} {args : Array Value} {below : List Frame} {meth : Method} {c : Code} (C : fx_Cx g p s m args meth c RX7 cX7_findSequence 3 none) (Q : fx_Mem → Prop) : ∀ (n : Nat) (x1 : Int32) (M : fx_Mem), wl_X7_findSequence_8_75  Q n x1 M → ∀ (H : Heap) (locs : List Loc) (ls : Array Slot), fx_H g s M H locs → lv_has ls 3 [(0, .ref (fx_a g 8)), (1, .int x1)] → W p l e rm_X7_findSequence_8 s m args below meth c H locs 0 0 (MQ below (va_Qv Q (fx_Pw g) (fx_A g)) args s 0 0 (fx_A g)) (F0 m 75 ls []) := by
  intro n
  induction n with
  | zero => intro x1 M h; exact False.elim h
  | succ n ih => intro x1 M h  H locs ls hH hl; exact tb_X7_findSequence_8_75 C (wl_X7_findSequence_8_75  Q n) Q ih x1 M h  H locs ls hH hl
def wb_X7_findSequence_8_73 (Q : fx_Mem → Prop) (M : fx_Mem) : Prop :=
  ∃ n75 : Nat, wl_X7_findSequence_8_75 Q n75 0 M
set_option maxHeartbeats 4000000 in
set_option maxRecDepth 100000 in
theorem tb_X7_findSequence_8_73 {g : fx_Geo} {p : Program} {l : Launch} {e : Env} {s : State} {m : MethodId} {args : Array Value} {below : List Frame} {meth : Method} {c : Code} (C : fx_Cx g p s m args meth c RX7 cX7_findSequence 3 none) (Q : fx_Mem → Prop) (M : fx_Mem) (h : wb_X7_findSequence_8_73 Q M) (H : Heap) (locs : List Loc) (ls : Array Slot) (hH : fx_H g s M H locs) (hl : lv_has ls 3 [(0, .ref (fx_a g 8))]) : W p l e rm_X7_findSequence_8 s m args below meth c H locs 0 0 (MQ below (va_Qv Q (fx_Pw g) (fx_A g)) args s 0 0 (fx_A g)) (F0 m 73 ls []) := by
  obtain ⟨hx, hb, hr, hml, hown, hts, hlocks, hsz, hK, hG, hSt⟩ := id C
  unfold wb_X7_findSequence_8_73 at h
  refine lv_iconst (v := 0) hx hb dX7_findSequence_73 (by decide) ?_
  refine lv_istore_n (lv' := [(1, .int 0), (0, .ref (fx_a g 8))]) hx hb dX7_findSequence_74 rfl hl (by decide) rfl (fun ls hl => ?_)
  obtain ⟨n75, h⟩ := h
  exact tl_X7_findSequence_8_75 C Q  n75 0 M h  H locs ls hH (lv_sub hl [1, 0] rfl)
def wp_X7_findSequence_8 (M : fx_Mem) (Q : fx_Mem → Prop) : Prop :=
  ∃ n2 : Nat, wl_X7_findSequence_8_2 (wb_X7_findSequence_8_73 Q) Q n2 0 M
set_option maxHeartbeats 4000000 in
set_option maxRecDepth 100000 in
theorem c_X7_findSequence_8 (l : Launch) {g : fx_Geo} (hG : fx_Gd g) (M : fx_Mem) (Q : fx_Mem → Prop) (h : wp_X7_findSequence_8 M Q) : Met l yX7_findSequence (.code yX7_findSequence cX7_findSequence 3 none :: fx_U) rm_X7_findSequence_8 (va_Pc [.ref (fx_a g 8)] (fx_At g M)) (va_Qv Q (fx_Pw g) (fx_A g)) 0 0 (fx_A g) := by
  refine Met.ofW (cc := cX7_findSequence) (maxL := 3) (ret := none) (by decide +kernel) rfl ?_
  intro p e s m args below meth c s₁ B hml hv
  obtain ⟨rfl, hv⟩ := hv
  have hts := atoms_spec (ws := .code yX7_findSequence cX7_findSequence 3 none :: fx_U) B.pre
  obtain ⟨C, hH⟩ := fx_body (own := RX7) B hml rfl (fun w hw => hts w (List.mem_cons_of_mem _ hw)) hG hv
  replace hts := fun w hw => hts w (List.mem_cons_of_mem _ hw)
  obtain ⟨hx, hb, hr, -, hown, -, hlocks, hsz, hK, -, hSt⟩ := id C
  have hl := lv_entry ([.ref (fx_a g 8)]) (n := 3) (Nat.le_of_ble_eq_true rfl)
  rw [lg_entry_eq]
  generalize (lg_sl ([.ref (fx_a g 8)]) ++ List.replicate (3 - (lg_sl ([.ref (fx_a g 8)])).length) Slot.unset).toArray = ls at hl ⊢
  have hl : lv_has ls 3 [(0, .ref (fx_a g 8))] := hl
  obtain ⟨H, eH⟩ : ∃ H : Heap, H = s.heap := ⟨_, rfl⟩
  obtain ⟨locs, elocs⟩ : ∃ q : List Loc, q = [] := ⟨_, rfl⟩
  rw [← eH, ← elocs] at hH
  show W p l e rm_X7_findSequence_8 s m _ below meth c s.heap [] 0 0 _ _
  rw [← eH, ← elocs]
  unfold wp_X7_findSequence_8 at h
  refine lv_iconst (v := 0) hx hb dX7_findSequence_0 (by decide) ?_
  refine lv_istore_n (lv' := [(1, .int 0), (0, .ref (fx_a g 8))]) hx hb dX7_findSequence_1 rfl hl (by decide) rfl (fun ls hl => ?_)
  obtain ⟨n2, h⟩ := h
  exact tl_X7_findSequence_8_2 C (wb_X7_findSequence_8_73 Q) Q (tb_X7_findSequence_8_73 C Q ) n2 0 M h  H locs ls hH (lv_sub hl [1, 0] rfl)
