/-! FlexLayout$ItemText.next(IC)I () -/
def rm_X4_next : Room := { frames := 1, cells := 0, slots := 0, locals := 21 }
def wb_X4_next_63 (Q : Int32 → fx_Mem → Prop) (x0 : Int32) (x1 : Int32) (M : fx_Mem) : Prop :=
  ((x1 = 32 → ((x0 < 3 → Q (-1) M) ∧ (¬ x0 < 3 → Q 0 M))) ∧ (¬ x1 = 32 → Q (-1) M))
set_option maxHeartbeats 4000000 in
set_option maxRecDepth 100000 in
theorem tb_X4_next_63 {g : fx_Geo} {p : Program} {l : Launch} {e : Env} {s : State} {m : MethodId} {args : Array Value} {below : List Frame} {meth : Method} {c : Code} (C : fx_Cx g p s m args meth c RX4 cX4_next 2 (some .int)) (Q : Int32 → fx_Mem → Prop) (x0 : Int32) (x1 : Int32) (M : fx_Mem) (h : wb_X4_next_63 Q x0 x1 M) (H : Heap) (locs : List Loc) (ls : Array Slot) (hH : fx_H g s M H locs) (hl : lv_has ls 2 [(0, .int x0), (1, .int x1)]) : W p l e rm_X4_next s m args below meth c H locs 0 0 (MQ below (va_Qi Q (fx_Pw g) (fx_A g)) args s 0 0 (fx_A g)) (F0 m 63 ls []) := by
  obtain ⟨hx, hb, hr, hml, hown, hts, hlocks, hsz, hK, hG, hSt⟩ := id C
  unfold wb_X4_next_63 at h
  refine lv_iload_n hx hb dX4_next_63 rfl (lv_at hl 1 rfl) ?_
  refine lv_bipush (v := 32) hx hb dX4_next_64 (by decide) ?_
  refine lv_icmp_ne (tgt := 78) hx hb dX4_next_66 (by decide) (fun c1 => ?_) (fun c1 => ?_)
  · replace h := h.2 c1
    refine lv_iconst (v := -1) hx hb dX4_next_78 (by decide) ?_
    exact fx_iret C hH h dX4_next_79
  · replace h := h.1 c1
    refine lv_iload_n hx hb dX4_next_69 rfl (lv_at hl 0 rfl) ?_
    refine lv_iconst (v := 3) hx hb dX4_next_70 (by decide) ?_
    refine lv_icmp_lt (tgt := 78) hx hb dX4_next_71 (by decide) (fun c2 => ?_) (fun c2 => ?_)
    · replace h := h.1 c2
      refine lv_iconst (v := -1) hx hb dX4_next_78 (by decide) ?_
      exact fx_iret C hH h dX4_next_79
    · replace h := h.2 c2
      refine lv_iconst (v := 0) hx hb dX4_next_74 (by decide) ?_
      refine lv_goto (tgt := 79) hx hb dX4_next_75 (by decide) ?_
      exact fx_iret C hH h dX4_next_79
def wb_X4_next_50 (Q : Int32 → fx_Mem → Prop) (x0 : Int32) (x1 : Int32) (M : fx_Mem) : Prop :=
  ((x1 = 45 → ((x0 = 1 → Q 2 M) ∧ (¬ x0 = 1 → wb_X4_next_63 Q x0 x1 M))) ∧ (¬ x1 = 45 → wb_X4_next_63 Q x0 x1 M))
set_option maxHeartbeats 4000000 in
set_option maxRecDepth 100000 in
theorem tb_X4_next_50 {g : fx_Geo} {p : Program} {l : Launch} {e : Env} {s : State} {m : MethodId} {args : Array Value} {below : List Frame} {meth : Method} {c : Code} (C : fx_Cx g p s m args meth c RX4 cX4_next 2 (some .int)) (Q : Int32 → fx_Mem → Prop) (x0 : Int32) (x1 : Int32) (M : fx_Mem) (h : wb_X4_next_50 Q x0 x1 M) (H : Heap) (locs : List Loc) (ls : Array Slot) (hH : fx_H g s M H locs) (hl : lv_has ls 2 [(0, .int x0), (1, .int x1)]) : W p l e rm_X4_next s m args below meth c H locs 0 0 (MQ below (va_Qi Q (fx_Pw g) (fx_A g)) args s 0 0 (fx_A g)) (F0 m 50 ls []) := by
  obtain ⟨hx, hb, hr, hml, hown, hts, hlocks, hsz, hK, hG, hSt⟩ := id C
  unfold wb_X4_next_50 at h
  refine lv_iload_n hx hb dX4_next_50 rfl (lv_at hl 1 rfl) ?_
  refine lv_bipush (v := 45) hx hb dX4_next_51 (by decide) ?_
  refine lv_icmp_ne (tgt := 63) hx hb dX4_next_53 (by decide) (fun c1 => ?_) (fun c1 => ?_)
  · replace h := h.2 c1
    exact tb_X4_next_63 C Q  x0 x1 M h  H locs ls hH (lv_sub hl [0, 1] rfl)
  · replace h := h.1 c1
    refine lv_iload_n hx hb dX4_next_56 rfl (lv_at hl 0 rfl) ?_
    refine lv_iconst (v := 1) hx hb dX4_next_57 (by decide) ?_
    refine lv_icmp_ne (tgt := 63) hx hb dX4_next_58 (by decide) (fun c2 => ?_) (fun c2 => ?_)
    · replace h := h.2 c2
      exact tb_X4_next_63 C Q  x0 x1 M h  H locs ls hH (lv_sub hl [0, 1] rfl)
    · replace h := h.1 c2
      refine lv_iconst (v := 2) hx hb dX4_next_61 (by decide) ?_
      exact fx_iret C hH h dX4_next_62
def wp_X4_next (a0 : Int32) (a1 : Int32) (M : fx_Mem) (Q : Int32 → fx_Mem → Prop) : Prop :=
  ((a0 = 0 → wp_X4_propertyFor a1 M (fun r7 M6 => ((10 ≤ r7 → Q (-1) M6) ∧ (¬ 10 ≤ r7 → Q 1 M6)))) ∧ (¬ a0 = 0 → ((a1 < 48 → wb_X4_next_50 Q a0 a1 M) ∧ (¬ a1 < 48 → ((57 < a1 → wb_X4_next_50 Q a0 a1 M) ∧ (¬ 57 < a1 → ((6 ≤ a0 → wb_X4_next_50 Q a0 a1 M) ∧ (¬ 6 ≤ a0 → ((3 ≤ a0 → Q (a0 + 1) M) ∧ (¬ 3 ≤ a0 → Q 3 M))))))))))
set_option maxHeartbeats 4000000 in
set_option maxRecDepth 100000 in
theorem c_X4_next (l : Launch) {g : fx_Geo} (hG : fx_Gd g) (a0 : Int32) (a1 : Int32) (M : fx_Mem) (Q : Int32 → fx_Mem → Prop) (h : wp_X4_next a0 a1 M Q) : Met l yX4_next (.code yX4_next cX4_next 2 (some .int) :: fx_U) rm_X4_next (va_Pc [.int a0, .int a1] (fx_At g M)) (va_Qi Q (fx_Pw g) (fx_A g)) 0 0 (fx_A g) := by
  refine Met.ofW (cc := cX4_next) (maxL := 2) (ret := (some .int)) (by decide +kernel) rfl ?_
  intro p e s m args below meth c s₁ B hml hv
  obtain ⟨rfl, hv⟩ := hv
  have hts := atoms_spec (ws := .code yX4_next cX4_next 2 (some .int) :: fx_U) B.pre
  obtain ⟨C, hH⟩ := fx_body (own := RX4) B hml rfl (fun w hw => hts w (List.mem_cons_of_mem _ hw)) hG hv
  replace hts := fun w hw => hts w (List.mem_cons_of_mem _ hw)
  obtain ⟨hx, hb, hr, -, hown, -, hlocks, hsz, hK, -, hSt⟩ := id C
  have hl := lv_entry ([.int a0, .int a1]) (n := 2) (Nat.le_of_ble_eq_true rfl)
  rw [lg_entry_eq]
  generalize (lg_sl ([.int a0, .int a1]) ++ List.replicate (2 - (lg_sl ([.int a0, .int a1])).length) Slot.unset).toArray = ls at hl ⊢
  have hl : lv_has ls 2 [(0, .int a0), (1, .int a1)] := hl
  obtain ⟨H, eH⟩ : ∃ H : Heap, H = s.heap := ⟨_, rfl⟩
  obtain ⟨locs, elocs⟩ : ∃ q : List Loc, q = [] := ⟨_, rfl⟩
  rw [← eH, ← elocs] at hH
  show W p l e rm_X4_next s m _ below meth c s.heap [] 0 0 _ _
  rw [← eH, ← elocs]
  unfold wp_X4_next at h
  refine lv_iload_n hx hb dX4_next_0 rfl (lv_at hl 0 rfl) ?_
  refine lv_if_ne (tgt := 19) hx hb dX4_next_1 (by decide) (fun c1 => ?_) (fun c1 => ?_)
  · replace h := h.2 c1
    refine lv_iload_n hx hb dX4_next_19 rfl (lv_at hl 1 rfl) ?_
    refine lv_bipush (v := 48) hx hb dX4_next_20 (by decide) ?_
    refine lv_icmp_lt (tgt := 50) hx hb dX4_next_22 (by decide) (fun c2 => ?_) (fun c2 => ?_)
    · replace h := h.1 c2
      exact tb_X4_next_50 C Q  a0 a1 M h  H locs ls hH (lv_sub hl [0, 1] rfl)
    · replace h := h.2 c2
      refine lv_iload_n hx hb dX4_next_25 rfl (lv_at hl 1 rfl) ?_
      refine lv_bipush (v := 57) hx hb dX4_next_26 (by decide) ?_
      refine lv_icmp_gt (tgt := 50) hx hb dX4_next_28 (by decide) (fun c3 => ?_) (fun c3 => ?_)
      · replace h := h.1 c3
        exact tb_X4_next_50 C Q  a0 a1 M h  H locs ls hH (lv_sub hl [0, 1] rfl)
      · replace h := h.2 c3
        refine lv_iload_n hx hb dX4_next_31 rfl (lv_at hl 0 rfl) ?_
        refine lv_bipush (v := 6) hx hb dX4_next_32 (by decide) ?_
        refine lv_icmp_ge (tgt := 50) hx hb dX4_next_34 (by decide) (fun c4 => ?_) (fun c4 => ?_)
        · replace h := h.1 c4
          exact tb_X4_next_50 C Q  a0 a1 M h  H locs ls hH (lv_sub hl [0, 1] rfl)
        · replace h := h.2 c4
          refine lv_iload_n hx hb dX4_next_37 rfl (lv_at hl 0 rfl) ?_
          refine lv_iconst (v := 3) hx hb dX4_next_38 (by decide) ?_
          refine lv_icmp_ge (tgt := 46) hx hb dX4_next_39 (by decide) (fun c5 => ?_) (fun c5 => ?_)
          · replace h := h.1 c5
            refine lv_iload_n hx hb dX4_next_46 rfl (lv_at hl 0 rfl) ?_
            refine lv_iconst (v := 1) hx hb dX4_next_47 (by decide) ?_
            refine lv_iadd hx hb dX4_next_48 ?_
            exact fx_iret C hH h dX4_next_49
          · replace h := h.2 c5
            refine lv_iconst (v := 3) hx hb dX4_next_42 (by decide) ?_
            refine lv_goto (tgt := 49) hx hb dX4_next_43 (by decide) ?_
            exact fx_iret C hH h dX4_next_49
  · replace h := h.1 c1
    refine lv_iload_n hx hb dX4_next_4 rfl (lv_at hl 1 rfl) ?_
    refine fx_ci hH (fx_runS (As := [.int a1]) (rest := []) C hH (c_X4_propertyFor l C.2.2.2.2.2.2.2.2.2.1 a1 M _ h) (fx_cwS 1 hts u_646 u_647 u_3 u_648 rfl rfl (by decide +kernel) ⟨(Nat.le_of_ble_eq_true rfl), (Nat.le_of_ble_eq_true rfl)⟩) rfl hl.1 rfl (Nat.le_of_ble_eq_true rfl) dX4_next_5 ⟨(Nat.le_of_ble_eq_true rfl), (Nat.le_of_ble_eq_true rfl)⟩) (fun r7 M6 H locs h hH => ?_)
    refine lv_bipush (v := 10) hx hb dX4_next_8 (by decide) ?_
    refine lv_icmp_ge (tgt := 17) hx hb dX4_next_10 (by decide) (fun c8 => ?_) (fun c8 => ?_)
    · replace h := h.1 c8
      refine lv_iconst (v := -1) hx hb dX4_next_17 (by decide) ?_
      exact fx_iret C hH h dX4_next_18
    · replace h := h.2 c8
      refine lv_iconst (v := 1) hx hb dX4_next_13 (by decide) ?_
      refine lv_goto (tgt := 18) hx hb dX4_next_14 (by decide) ?_
      exact fx_iret C hH h dX4_next_18
/-! FlexLayout$ItemText.syntaxError()I (3,) -/
def rm_X4_syntaxError_3 : Room := { frames := 2, cells := 0, slots := 0, locals := 42 }
def wb_X4_syntaxError_3_4 (k4 : Int32 → Int32 → fx_Mem → Prop) (k36 : Int32 → fx_Mem → Prop) (Q : Int32 → fx_Mem → Prop) (x1 : Int32) (x2 : Int32) (M : fx_Mem) : Prop :=
  ((M.1 193 ≤ x2 → k36 x1 M) ∧ (¬ M.1 193 ≤ x2 → vp_in x2 80 ∧ wp_X4_next x1 (M.2.1 14 x2.toNatClampNeg) M (fun r4 M3 => ((r4 = (-1) → Q x2 M3) ∧ (¬ r4 = (-1) → ∀ v6 : Int32, v6 = x2 + 1 → k4 r4 v6 M3)))))
set_option maxHeartbeats 4000000 in
set_option maxRecDepth 100000 in
theorem tb_X4_syntaxError_3_4 {g : fx_Geo} {p : Program} {l : Launch} {e : Env} {s : State} {m : MethodId} {args : Array Value} {below : List Frame} {meth : Method} {c : Code} (C : fx_Cx g p s m args meth c RX4 cX4_syntaxError 3 (some .int)) (k4 : Int32 → Int32 → fx_Mem → Prop) (k36 : Int32 → fx_Mem → Prop) (Q : Int32 → fx_Mem → Prop) (hk4 : ∀ (x1 : Int32) (x2 : Int32) (M : fx_Mem), k4 x1 x2 M → ∀ (H : Heap) (locs : List Loc) (ls : Array Slot), fx_H g s M H locs → lv_has ls 3 [(0, .ref (fx_a g 3)), (1, .int x1), (2, .int x2)] → W p l e rm_X4_syntaxError_3 s m args below meth c H locs 0 0 (MQ below (va_Qi Q (fx_Pw g) (fx_A g)) args s 0 0 (fx_A g)) (F0 m 4 ls [])) (hk36 : ∀ (x1 : Int32) (M : fx_Mem), k36 x1 M → ∀ (H : Heap) (locs : List Loc) (ls : Array Slot), fx_H g s M H locs → lv_has ls 3 [(0, .ref (fx_a g 3)), (1, .int x1)] → W p l e rm_X4_syntaxError_3 s m args below meth c H locs 0 0 (MQ below (va_Qi Q (fx_Pw g) (fx_A g)) args s 0 0 (fx_A g)) (F0 m 36 ls [])) (x1 : Int32) (x2 : Int32) (M : fx_Mem) (h : wb_X4_syntaxError_3_4 k4 k36 Q x1 x2 M) (H : Heap) (locs : List Loc) (ls : Array Slot) (hH : fx_H g s M H locs) (hl : lv_has ls 3 [(0, .ref (fx_a g 3)), (1, .int x1), (2, .int x2)]) : W p l e rm_X4_syntaxError_3 s m args below meth c H locs 0 0 (MQ below (va_Qi Q (fx_Pw g) (fx_A g)) args s 0 0 (fx_A g)) (F0 m 4 ls []) := by
  obtain ⟨hx, hb, hr, hml, hown, hts, hlocks, hsz, hK, hG, hSt⟩ := id C
  unfold wb_X4_syntaxError_3_4 at h
  refine lv_iload_n hx hb dX4_syntaxError_4 rfl (lv_at hl 2 rfl) ?_
  refine lv_aload_n hx hb dX4_syntaxError_5 rfl (lv_at hl 0 rfl) ?_
  refine fx_get C hH (fx_w3 g M) rfl in_X4 1 (by decide) u_87 rfl rfl dX4_syntaxError_6 ?_
  refine lv_icmp_ge (tgt := 36) hx hb dX4_syntaxError_9 (by decide) (fun c1 => ?_) (fun c1 => ?_)
  · replace h := h.1 c1
    exact hk36 x1 M h  H locs ls hH (lv_sub hl [0, 1] rfl)
  · replace h := h.2 c1
    refine lv_iload_n hx hb dX4_syntaxError_12 rfl (lv_at hl 1 rfl) ?_
    refine lv_aload_n hx hb dX4_syntaxError_13 rfl (lv_at hl 0 rfl) ?_
    refine fx_get C hH (fx_w3 g M) rfl in_X4 0 (by decide) u_85 rfl rfl dX4_syntaxError_14 ?_
    refine lv_iload_n hx hb dX4_syntaxError_17 rfl (lv_at hl 2 rfl) ?_
    obtain ⟨hi2, h⟩ := h
    refine fx_cald (j := x2.toNatClampNeg) C hH 14 (fx_w14 g M) rfl hi2 dX4_syntaxError_18 ?_
    refine fx_ci hH (fx_runS (As := [.int x1, .int (M.2.1 14 x2.toNatClampNeg)]) (rest := []) C hH (c_X4_next l C.2.2.2.2.2.2.2.2.2.1 x1 (M.2.1 14 x2.toNatClampNeg) M _ h) (fx_cwS 2 hts u_643 u_644 u_3 u_645 rfl rfl (by decide +kernel) ⟨(Nat.le_of_ble_eq_true rfl), (Nat.le_of_ble_eq_true rfl)⟩) rfl hl.1 rfl (Nat.le_of_ble_eq_true rfl) dX4_syntaxError_19 ⟨(Nat.le_of_ble_eq_true rfl), (Nat.le_of_ble_eq_true rfl)⟩) (fun r4 M3 H locs h hH => ?_)
    refine lv_istore_n (lv' := [(1, .int r4), (0, .ref (fx_a g 3)), (2, .int x2)]) hx hb dX4_syntaxError_22 rfl hl (by decide) rfl (fun ls hl => ?_)
    refine lv_iload_n hx hb dX4_syntaxError_23 rfl (lv_at hl 0 rfl) ?_
    refine lv_iconst (v := -1) hx hb dX4_syntaxError_24 (by decide) ?_
    refine lv_icmp_ne (tgt := 30) hx hb dX4_syntaxError_25 (by decide) (fun c5 => ?_) (fun c5 => ?_)
    · replace h := h.2 c5
      obtain ⟨v6, ev6⟩ : ∃ z : Int32, z = x2 + 1 := ⟨_, rfl⟩
      refine lv_iinc (v := v6) (lv' := [(2, .int v6), (1, .int r4), (0, .ref (fx_a g 3))]) hx hb dX4_syntaxError_30 hl (k := 2) rfl (by rw [ev6]; rfl) (by decide) rfl (fun ls hl => ?_)
      replace h := h v6 ev6
      refine lv_goto (tgt := 4) hx hb dX4_syntaxError_33 (by decide) ?_
      exact hk4 r4 v6 M3 h  H locs ls hH (lv_sub hl [2, 1, 0] rfl)
    · replace h := h.1 c5
      refine lv_iload_n hx hb dX4_syntaxError_28 rfl (lv_at hl 2 rfl) ?_
      exact fx_iret C hH h dX4_syntaxError_29
def wl_X4_syntaxError_3_4 (k36 : Int32 → fx_Mem → Prop) (Q : Int32 → fx_Mem → Prop) (n : Nat) (x1 : Int32) (x2 : Int32) (M : fx_Mem) : Prop :=
  fx_lp (α := Int32 × Int32 × fx_Mem) (fun k a => wb_X4_syntaxError_3_4 (fun x1 x2 M => k (x1, x2, M)) k36 Q a.1 a.2.1 a.2.2) n (x1, x2, M)
set_option maxHeartbeats 4000000 in
theorem tl_X4_syntaxError_3_4 {g : fx_Geo} {p : Program} {l : Launch} {e : Env} {s : State} {m : MethodId} {args : Array Value} {below : List Frame} {meth : Method} {c : Code} (C : fx_Cx g p s m args meth c RX4 cX4_syntaxError 3 (some .int)) (k36 : Int32 → fx_Mem → Prop) (Q : Int32 → fx_Mem → Prop) (hk36 : ∀ (x1 : Int32) (M : fx_Mem), k36 x1 M → ∀ (H : Heap) (locs : List Loc) (ls : Array Slot), fx_H g s M H locs → lv_has ls 3 [(0, .ref (fx_a g 3)), (1, .int x1)] → W p l e rm_X4_syntaxError_3 s m args below meth c H locs 0 0 (MQ below (va_Qi Q (fx_Pw g) (fx_A g)) args s 0 0 (fx_A g)) (F0 m 36 ls [])) : ∀ (n : Nat) (x1 : Int32) (x2 : Int32) (M : fx_Mem), wl_X4_syntaxError_3_4 k36 Q n x1 x2 M → ∀ (H : Heap) (locs : List Loc) (ls : Array Slot), fx_H g s M H locs → lv_has ls 3 [(0, .ref (fx_a g 3)), (1, .int x1), (2, .int x2)] → W p l e rm_X4_syntaxError_3 s m args below meth c H locs 0 0 (MQ below (va_Qi Q (fx_Pw g) (fx_A g)) args s 0 0 (fx_A g)) (F0 m 4 ls []) := by
  intro n
  induction n with
  | zero => intro x1 x2 M h; exact False.elim h
  | succ n ih => intro x1 x2 M h  H locs ls hH hl; exact tb_X4_syntaxError_3_4 C (wl_X4_syntaxError_3_4 k36 Q n) k36 Q ih hk36 x1 x2 M h  H locs ls hH hl
def wb_X4_syntaxError_3_36 (Q : Int32 → fx_Mem → Prop) (x1 : Int32) (M : fx_Mem) : Prop :=
  ((x1 < 3 → Q (M.1 193) M) ∧ (¬ x1 < 3 → Q (-1) M))
set_option maxHeartbeats 4000000 in
set_option maxRecDepth 100000 in
theorem tb_X4_syntaxError_3_36 {g : fx_Geo} {p : Program} {l : Launch} {e : Env} {s : State} {m : MethodId} {args : Array Value} {below : List Frame} {meth : Method} {c : Code} (C : fx_Cx g p s m args meth c RX4 cX4_syntaxError 3 (some .int)) (Q : Int32 → fx_Mem → Prop) (x1 : Int32) (M : fx_Mem) (h : wb_X4_syntaxError_3_36 Q x1 M) (H : Heap) (locs : List Loc) (ls : Array Slot) (hH : fx_H g s M H locs) (hl : lv_has ls 3 [(0, .ref (fx_a g 3)), (1, .int x1)]) : W p l e rm_X4_syntaxError_3 s m args below meth c H locs 0 0 (MQ below (va_Qi Q (fx_Pw g) (fx_A g)) args s 0 0 (fx_A g)) (F0 m 36 ls []) := by
  obtain ⟨hx, hb, hr, hml, hown, hts, hlocks, hsz, hK, hG, hSt⟩ := id C
  unfold wb_X4_syntaxError_3_36 at h
  refine lv_iload_n hx hb dX4_syntaxError_36 rfl (lv_at hl 1 rfl) ?_
  refine lv_iconst (v := 3) hx hb dX4_syntaxError_37 (by decide) ?_
  refine lv_icmp_lt (tgt := 45) hx hb dX4_syntaxError_38 (by decide) (fun c1 => ?_) (fun c1 => ?_)
  · replace h := h.1 c1
    refine lv_aload_n hx hb dX4_syntaxError_45 rfl (lv_at hl 0 rfl) ?_
    refine fx_get C hH (fx_w3 g M) rfl in_X4 1 (by decide) u_87 rfl rfl dX4_syntaxError_46 ?_
    exact fx_iret C hH h dX4_syntaxError_49
  · replace h := h.2 c1
    refine lv_iconst (v := -1) hx hb dX4_syntaxError_41 (by decide) ?_
    refine lv_goto (tgt := 49) hx hb dX4_syntaxError_42 (by decide) ?_
    exact fx_iret C hH h dX4_syntaxError_49
def wp_X4_syntaxError_3 (M : fx_Mem) (Q : Int32 → fx_Mem → Prop) : Prop :=
  ∃ n4 : Nat, wl_X4_syntaxError_3_4 (wb_X4_syntaxError_3_36 Q) Q n4 0 0 M
set_option maxHeartbeats 4000000 in
set_option maxRecDepth 100000 in
theorem c_X4_syntaxError_3 (l : Launch) {g : fx_Geo} (hG : fx_Gd g) (M : fx_Mem) (Q : Int32 → fx_Mem → Prop) (h : wp_X4_syntaxError_3 M Q) : Met l yX4_syntaxError (.code yX4_syntaxError cX4_syntaxError 3 (some .int) :: fx_U) rm_X4_syntaxError_3 (va_Pc [.ref (fx_a g 3)] (fx_At g M)) (va_Qi Q (fx_Pw g) (fx_A g)) 0 0 (fx_A g) := by
  refine Met.ofW (cc := cX4_syntaxError) (maxL := 3) (ret := (some .int)) (by decide +kernel) rfl ?_
  intro p e s m args below meth c s₁ B hml hv
  obtain ⟨rfl, hv⟩ := hv
  have hts := atoms_spec (ws := .code yX4_syntaxError cX4_syntaxError 3 (some .int) :: fx_U) B.pre
  obtain ⟨C, hH⟩ := fx_body (own := RX4) B hml rfl (fun w hw => hts w (List.mem_cons_of_mem _ hw)) hG hv
  replace hts := fun w hw => hts w (List.mem_cons_of_mem _ hw)
  obtain ⟨hx, hb, hr, -, hown, -, hlocks, hsz, hK, -, hSt⟩ := id C
  have hl := lv_entry ([.ref (fx_a g 3)]) (n := 3) (Nat.le_of_ble_eq_true rfl)
  rw [lg_entry_eq]
  generalize (lg_sl ([.ref (fx_a g 3)]) ++ List.replicate (3 - (lg_sl ([.ref (fx_a g 3)])).length) Slot.unset).toArray = ls at hl ⊢
  have hl : lv_has ls 3 [(0, .ref (fx_a g 3))] := hl
  obtain ⟨H, eH⟩ : ∃ H : Heap, H = s.heap := ⟨_, rfl⟩
  obtain ⟨locs, elocs⟩ : ∃ q : List Loc, q = [] := ⟨_, rfl⟩
  rw [← eH, ← elocs] at hH
  show W p l e rm_X4_syntaxError_3 s m _ below meth c s.heap [] 0 0 _ _
  rw [← eH, ← elocs]
  unfold wp_X4_syntaxError_3 at h
  refine lv_iconst (v := 0) hx hb dX4_syntaxError_0 (by decide) ?_
  refine lv_istore_n (lv' := [(1, .int 0), (0, .ref (fx_a g 3))]) hx hb dX4_syntaxError_1 rfl hl (by decide) rfl (fun ls hl => ?_)
  refine lv_iconst (v := 0) hx hb dX4_syntaxError_2 (by decide) ?_
  refine lv_istore_n (lv' := [(2, .int 0), (1, .int 0), (0, .ref (fx_a g 3))]) hx hb dX4_syntaxError_3 rfl hl (by decide) rfl (fun ls hl => ?_)
  obtain ⟨n4, h⟩ := h
  exact tl_X4_syntaxError_3_4 C (wb_X4_syntaxError_3_36 Q) Q (tb_X4_syntaxError_3_36 C Q ) n4 0 0 M h  H locs ls hH (lv_sub hl [2, 1, 0] rfl)
/-! FlexLayout$ItemText.number(II)I (3,) -/
def rm_X4_number_3 : Room := { frames := 0, cells := 0, slots := 0, locals := 0 }
def wb_X4_number_3_48 (k8 : Int32 → Int32 → Int32 → Int32 → fx_Mem → Prop) (k54 : Int32 → Int32 → fx_Mem → Prop) (Q : Int32 → fx_Mem → Prop) (x2 : Int32) (x3 : Int32) (x4 : Int32) (x5 : Int32) (M : fx_Mem) : Prop :=
  ∀ v1 : Int32, v1 = x5 + 1 → k8 x2 x3 x4 v1 M
set_option maxHeartbeats 4000000 in
set_option maxRecDepth 100000 in
theorem tb_X4_number_3_48 {g : fx_Geo} {p : Program} {l : Launch} {e : Env} {s : State} {m : MethodId} {args : Array Value} {below : List Frame} {meth : Method} {c : Code} (C : fx_Cx g p s m args meth c RX4 cX4_number 6 (some .int)) (k8 : Int32 → Int32 → Int32 → Int32 → fx_Mem → Prop) (k54 : Int32 → Int32 → fx_Mem → Prop) (Q : Int32 → fx_Mem → Prop) (hk8 : ∀ (x2 : Int32) (x3 : Int32) (x4 : Int32) (x5 : Int32) (M : fx_Mem), k8 x2 x3 x4 x5 M → ∀ (H : Heap) (locs : List Loc) (ls : Array Slot), fx_H g s M H locs → lv_has ls 6 [(0, .ref (fx_a g 3)), (2, .int x2), (3, .int x3), (4, .int x4), (5, .int x5)] → W p l e rm_X4_number_3 s m args below meth c H locs 0 0 (MQ below (va_Qi Q (fx_Pw g) (fx_A g)) args s 0 0 (fx_A g)) (F0 m 8 ls [])) (hk54 : ∀ (x3 : Int32) (x4 : Int32) (M : fx_Mem), k54 x3 x4 M → ∀ (H : Heap) (locs : List Loc) (ls : Array Slot), fx_H g s M H locs → lv_has ls 6 [(3, .int x3), (4, .int x4)] → W p l e rm_X4_number_3 s m args below meth c H locs 0 0 (MQ below (va_Qi Q (fx_Pw g) (fx_A g)) args s 0 0 (fx_A g)) (F0 m 54 ls [])) (x2 : Int32) (x3 : Int32) (x4 : Int32) (x5 : Int32) (M : fx_Mem) (h : wb_X4_number_3_48 k8 k54 Q x2 x3 x4 x5 M) (H : Heap) (locs : List Loc) (ls : Array Slot) (hH : fx_H g s M H locs) (hl : lv_has ls 6 [(0, .ref (fx_a g 3)), (2, .int x2), (3, .int x3), (4, .int x4), (5, .int x5)]) : W p l e rm_X4_number_3 s m args below meth c H locs 0 0 (MQ below (va_Qi Q (fx_Pw g) (fx_A g)) args s 0 0 (fx_A g)) (F0 m 48 ls []) := by
  obtain ⟨hx, hb, hr, hml, hown, hts, hlocks, hsz, hK, hG, hSt⟩ := id C
  unfold wb_X4_number_3_48 at h
  obtain ⟨v1, ev1⟩ : ∃ z : Int32, z = x5 + 1 := ⟨_, rfl⟩
  refine lv_iinc (v := v1) (lv' := [(5, .int v1), (0, .ref (fx_a g 3)), (2, .int x2), (3, .int x3), (4, .int x4)]) hx hb dX4_number_48 hl (k := 4) rfl (by rw [ev1]; rfl) (by decide) rfl (fun ls hl => ?_)
  replace h := h v1 ev1
  refine lv_goto (tgt := 8) hx hb dX4_number_51 (by decide) ?_
  exact hk8 x2 x3 x4 v1 M h  H locs ls hH (lv_sub hl [1, 2, 3, 4, 0] rfl)
def wb_X4_number_3_8 (k8 : Int32 → Int32 → Int32 → Int32 → fx_Mem → Prop) (k54 : Int32 → Int32 → fx_Mem → Prop) (Q : Int32 → fx_Mem → Prop) (x2 : Int32) (x3 : Int32) (x4 : Int32) (x5 : Int32) (M : fx_Mem) : Prop :=
  ((x2 ≤ x5 → k54 x3 x4 M) ∧ (¬ x2 ≤ x5 → vp_in x5 80 ∧ ((M.2.1 14 x5.toNatClampNeg = 45 → wb_X4_number_3_48 k8 k54 Q x2 x3 1 x5 M) ∧ (¬ M.2.1 14 x5.toNatClampNeg = 45 → vp_in x5 80 ∧ ∀ v5 : Int32, v5 = (10 * x3) + ((M.2.1 14 x5.toNatClampNeg) - 48) → wb_X4_number_3_48 k8 k54 Q x2 v5 x4 x5 M))))
set_option maxHeartbeats 4000000 in
set_option maxRecDepth 100000 in
theorem tb_X4_number_3_8 {g : fx_Geo} {p : Program} {l : Launch} {e : Env} {s : State} {m : MethodId} {args : Array Value} {below : List Frame} {meth : Method} {c : Code} (C : fx_Cx g p s m args meth c RX4 cX4_number 6 (some .int)) (k8 : Int32 → Int32 → Int32 → Int32 → fx_Mem → Prop) (k54 : Int32 → Int32 → fx_Mem → Prop) (Q : Int32 → fx_Mem → Prop) (hk8 : ∀ (x2 : Int32) (x3 : Int32) (x4 : Int32) (x5 : Int32) (M : fx_Mem), k8 x2 x3 x4 x5 M → ∀ (H : Heap) (locs : List Loc) (ls : Array Slot), fx_H g s M H locs → lv_has ls 6 [(0, .ref (fx_a g 3)), (2, .int x2), (3, .int x3), (4, .int x4), (5, .int x5)] → W p l e rm_X4_number_3 s m args below meth c H locs 0 0 (MQ below (va_Qi Q (fx_Pw g) (fx_A g)) args s 0 0 (fx_A g)) (F0 m 8 ls [])) (hk54 : ∀ (x3 : Int32) (x4 : Int32) (M : fx_Mem), k54 x3 x4 M → ∀ (H : Heap) (locs : List Loc) (ls : Array Slot), fx_H g s M H locs → lv_has ls 6 [(3, .int x3), (4, .int x4)] → W p l e rm_X4_number_3 s m args below meth c H locs 0 0 (MQ below (va_Qi Q (fx_Pw g) (fx_A g)) args s 0 0 (fx_A g)) (F0 m 54 ls [])) (x2 : Int32) (x3 : Int32) (x4 : Int32) (x5 : Int32) (M : fx_Mem) (h : wb_X4_number_3_8 k8 k54 Q x2 x3 x4 x5 M) (H : Heap) (locs : List Loc) (ls : Array Slot) (hH : fx_H g s M H locs) (hl : lv_has ls 6 [(0, .ref (fx_a g 3)), (2, .int x2), (3, .int x3), (4, .int x4), (5, .int x5)]) : W p l e rm_X4_number_3 s m args below meth c H locs 0 0 (MQ below (va_Qi Q (fx_Pw g) (fx_A g)) args s 0 0 (fx_A g)) (F0 m 8 ls []) := by
  obtain ⟨hx, hb, hr, hml, hown, hts, hlocks, hsz, hK, hG, hSt⟩ := id C
  unfold wb_X4_number_3_8 at h
  refine lv_iload hx hb dX4_number_8 (lv_at hl 4 rfl) ?_
  refine lv_iload_n hx hb dX4_number_10 rfl (lv_at hl 1 rfl) ?_
  refine lv_icmp_ge (tgt := 54) hx hb dX4_number_11 (by decide) (fun c1 => ?_) (fun c1 => ?_)
  · replace h := h.1 c1
    exact hk54 x3 x4 M h  H locs ls hH (lv_sub hl [2, 3] rfl)
  · replace h := h.2 c1
    refine lv_aload_n hx hb dX4_number_14 rfl (lv_at hl 0 rfl) ?_
    refine fx_get C hH (fx_w3 g M) rfl in_X4 0 (by decide) u_85 rfl rfl dX4_number_15 ?_
    refine lv_iload hx hb dX4_number_18 (lv_at hl 4 rfl) ?_
    obtain ⟨hi2, h⟩ := h
    refine fx_cald (j := x5.toNatClampNeg) C hH 14 (fx_w14 g M) rfl hi2 dX4_number_20 ?_
    refine lv_bipush (v := 45) hx hb dX4_number_21 (by decide) ?_
    refine lv_icmp_ne (tgt := 32) hx hb dX4_number_23 (by decide) (fun c3 => ?_) (fun c3 => ?_)
    · replace h := h.2 c3
      refine lv_bipush (v := 10) hx hb dX4_number_32 (by decide) ?_
      refine lv_iload_n hx hb dX4_number_34 rfl (lv_at hl 2 rfl) ?_
      refine lv_imul hx hb dX4_number_35 ?_
      refine lv_aload_n hx hb dX4_number_36 rfl (lv_at hl 0 rfl) ?_
      refine fx_get C hH (fx_w3 g M) rfl in_X4 0 (by decide) u_85 rfl rfl dX4_number_37 ?_
      refine lv_iload hx hb dX4_number_40 (lv_at hl 4 rfl) ?_
      obtain ⟨hi4, h⟩ := h
      refine fx_cald (j := x5.toNatClampNeg) C hH 14 (fx_w14 g M) rfl hi4 dX4_number_42 ?_
      refine lv_bipush (v := 48) hx hb dX4_number_43 (by decide) ?_
      refine lv_isub hx hb dX4_number_45 ?_
      refine lv_iadd hx hb dX4_number_46 ?_
      refine lv_topi (fun v5 ev5 => ?_)
      replace h := h v5 ev5
      refine lv_istore_n (lv' := [(3, .int v5), (0, .ref (fx_a g 3)), (2, .int x2), (4, .int x4), (5, .int x5)]) hx hb dX4_number_47 rfl hl (by decide) rfl (fun ls hl => ?_)
      exact tb_X4_number_3_48 C k8 k54 Q hk8 hk54 x2 v5 x4 x5 M h  H locs ls hH (lv_sub hl [1, 2, 0, 3, 4] rfl)
    · replace h := h.1 c3
      refine lv_iconst (v := 1) hx hb dX4_number_26 (by decide) ?_
      refine lv_istore (lv' := [(4, .int 1), (0, .ref (fx_a g 3)), (2, .int x2), (3, .int x3), (5, .int x5)]) hx hb dX4_number_27 hl (by decide) rfl (fun ls hl => ?_)
      refine lv_goto (tgt := 48) hx hb dX4_number_29 (by decide) ?_
      exact tb_X4_number_3_48 C k8 k54 Q hk8 hk54 x2 x3 1 x5 M h  H locs ls hH (lv_sub hl [1, 2, 3, 0, 4] rfl)
def wl_X4_number_3_8 (k54 : Int32 → Int32 → fx_Mem → Prop) (Q : Int32 → fx_Mem → Prop) (n : Nat) (x2 : Int32) (x3 : Int32) (x4 : Int32) (x5 : Int32) (M : fx_Mem) : Prop :=
  fx_lp (α := Int32 × Int32 × Int32 × Int32 × fx_Mem) (fun k a => wb_X4_number_3_8 (fun x2 x3 x4 x5 M => k (x2, x3, x4, x5, M)) k54 Q a.1 a.2.1 a.2.2.1 a.2.2.2.1 a.2.2.2.2) n (x2, x3, x4, x5, M)
set_option maxHeartbeats 4000000 in
theorem tl_X4_number_3_8 {g : fx_Geo} {p : Program} {l : Launch} {e : Env} {s : State} {m : MethodId} {args : Array Value} {below : List Frame} {meth : Method} {c : Code} (C : fx_Cx g p s m args meth c RX4 cX4_number 6 (some .int)) (k54 : Int32 → Int32 → fx_Mem → Prop) (Q : Int32 → fx_Mem → Prop) (hk54 : ∀ (x3 : Int32) (x4 : Int32) (M : fx_Mem), k54 x3 x4 M → ∀ (H : Heap) (locs : List Loc) (ls : Array Slot), fx_H g s M H locs → lv_has ls 6 [(3, .int x3), (4, .int x4)] → W p l e rm_X4_number_3 s m args below meth c H locs 0 0 (MQ below (va_Qi Q (fx_Pw g) (fx_A g)) args s 0 0 (fx_A g)) (F0 m 54 ls [])) : ∀ (n : Nat) (x2 : Int32) (x3 : Int32) (x4 : Int32) (x5 : Int32) (M : fx_Mem), wl_X4_number_3_8 k54 Q n x2 x3 x4 x5 M → ∀ (H : Heap) (locs : List Loc) (ls : Array Slot), fx_H g s M H locs → lv_has ls 6 [(0, .ref (fx_a g 3)), (2, .int x2), (3, .int x3), (4, .int x4), (5, .int x5)] → W p l e rm_X4_number_3 s m args below meth c H locs 0 0 (MQ below (va_Qi Q (fx_Pw g) (fx_A g)) args s 0 0 (fx_A g)) (F0 m 8 ls []) := by
  intro n
  induction n with
  | zero => intro x2 x3 x4 x5 M h; exact False.elim h
  | succ n ih => intro x2 x3 x4 x5 M h  H locs ls hH hl; exact tb_X4_number_3_8 C (wl_X4_number_3_8 k54 Q n) k54 Q ih hk54 x2 x3 x4 x5 M h  H locs ls hH hl
def wb_X4_number_3_54 (Q : Int32 → fx_Mem → Prop) (x3 : Int32) (x4 : Int32) (M : fx_Mem) : Prop :=
  ((x4 = 0 → Q x3 M) ∧ (¬ x4 = 0 → Q (-x3) M))
set_option maxHeartbeats 4000000 in
set_option maxRecDepth 100000 in
theorem tb_X4_number_3_54 {g : fx_Geo} {p : Program} {l : Launch} {e : Env} {s : State} {m : MethodId} {args : Array Value} {below : List Frame} {meth : Method} {c : Code} (C : fx_Cx g p s m args meth c RX4 cX4_number 6 (some .int)) (Q : Int32 → fx_Mem → Prop) (x3 : Int32) (x4 : Int32) (M : fx_Mem) (h : wb_X4_number_3_54 Q x3 x4 M) (H : Heap) (locs : List Loc) (ls : Array Slot) (hH : fx_H g s M H locs) (hl : lv_has ls 6 [(3, .int x3), (4, .int x4)]) : W p l e rm_X4_number_3 s m args below meth c H locs 0 0 (MQ below (va_Qi Q (fx_Pw g) (fx_A g)) args s 0 0 (fx_A g)) (F0 m 54 ls []) := by
  obtain ⟨hx, hb, hr, hml, hown, hts, hlocks, hsz, hK, hG, hSt⟩ := id C
  unfold wb_X4_number_3_54 at h
  refine lv_iload hx hb dX4_number_54 (lv_at hl 1 rfl) ?_
  refine lv_if_eq (tgt := 64) hx hb dX4_number_56 (by decide) (fun c1 => ?_) (fun c1 => ?_)
  · replace h := h.1 c1
    refine lv_iload_n hx hb dX4_number_64 rfl (lv_at hl 0 rfl) ?_
    exact fx_iret C hH h dX4_number_65
  · replace h := h.2 c1
    refine lv_iload_n hx hb dX4_number_59 rfl (lv_at hl 0 rfl) ?_
    refine lv_ineg hx hb dX4_number_60 ?_
    refine lv_goto (tgt := 65) hx hb dX4_number_61 (by decide) ?_
    exact fx_iret C hH h dX4_number_65
def wp_X4_number_3 (a1 : Int32) (a2 : Int32) (M : fx_Mem) (Q : Int32 → fx_Mem → Prop) : Prop :=
  ∃ n8 : Nat, wl_X4_number_3_8 (wb_X4_number_3_54 Q) Q n8 a2 0 0 a1 M
set_option maxHeartbeats 4000000 in
set_option maxRecDepth 100000 in
theorem c_X4_number_3 (l : Launch) {g : fx_Geo} (hG : fx_Gd g) (a1 : Int32) (a2 : Int32) (M : fx_Mem) (Q : Int32 → fx_Mem → Prop) (h : wp_X4_number_3 a1 a2 M Q) : Met l yX4_number (.code yX4_number cX4_number 6 (some .int) :: fx_U) rm_X4_number_3 (va_Pc [.ref (fx_a g 3), .int a1, .int a2] (fx_At g M)) (va_Qi Q (fx_Pw g) (fx_A g)) 0 0 (fx_A g) := by
  refine Met.ofW (cc := cX4_number) (maxL := 6) (ret := (some .int)) (by decide +kernel) rfl ?_
  intro p e s m args below meth c s₁ B hml hv
  obtain ⟨rfl, hv⟩ := hv
  have hts := atoms_spec (ws := .code yX4_number cX4_number 6 (some .int) :: fx_U) B.pre
  obtain ⟨C, hH⟩ := fx_body (own := RX4) B hml rfl (fun w hw => hts w (List.mem_cons_of_mem _ hw)) hG hv
  replace hts := fun w hw => hts w (List.mem_cons_of_mem _ hw)
  obtain ⟨hx, hb, hr, -, hown, -, hlocks, hsz, hK, -, hSt⟩ := id C
  have hl := lv_entry ([.ref (fx_a g 3), .int a1, .int a2]) (n := 6) (Nat.le_of_ble_eq_true rfl)
  rw [lg_entry_eq]
  generalize (lg_sl ([.ref (fx_a g 3), .int a1, .int a2]) ++ List.replicate (6 - (lg_sl ([.ref (fx_a g 3), .int a1, .int a2])).length) Slot.unset).toArray = ls at hl ⊢
  have hl : lv_has ls 6 [(0, .ref (fx_a g 3)), (1, .int a1), (2, .int a2)] := hl
  obtain ⟨H, eH⟩ : ∃ H : Heap, H = s.heap := ⟨_, rfl⟩
  obtain ⟨locs, elocs⟩ : ∃ q : List Loc, q = [] := ⟨_, rfl⟩
  rw [← eH, ← elocs] at hH
  show W p l e rm_X4_number_3 s m _ below meth c s.heap [] 0 0 _ _
  rw [← eH, ← elocs]
  unfold wp_X4_number_3 at h
  refine lv_iconst (v := 0) hx hb dX4_number_0 (by decide) ?_
  refine lv_istore_n (lv' := [(3, .int 0), (0, .ref (fx_a g 3)), (1, .int a1), (2, .int a2)]) hx hb dX4_number_1 rfl hl (by decide) rfl (fun ls hl => ?_)
  refine lv_iconst (v := 0) hx hb dX4_number_2 (by decide) ?_
  refine lv_istore (lv' := [(4, .int 0), (3, .int 0), (0, .ref (fx_a g 3)), (1, .int a1), (2, .int a2)]) hx hb dX4_number_3 hl (by decide) rfl (fun ls hl => ?_)
  refine lv_iload_n hx hb dX4_number_5 rfl (lv_at hl 3 rfl) ?_
  refine lv_istore (lv' := [(5, .int a1), (4, .int 0), (3, .int 0), (0, .ref (fx_a g 3)), (1, .int a1), (2, .int a2)]) hx hb dX4_number_6 hl (by decide) rfl (fun ls hl => ?_)
  obtain ⟨n8, h⟩ := h
  exact tl_X4_number_3_8 C (wb_X4_number_3_54 Q) Q (tb_X4_number_3_54 C Q ) n8 a2 0 0 a1 M h  H locs ls hH (lv_sub hl [3, 5, 2, 1, 0] rfl)
/-! FlexLayout$ItemText.readInto([I)I (3, ('row', 57)) -/
def rm_X4_readInto_3_p57 : Room := { frames := 2, cells := 0, slots := 0, locals := 43 }
def wb_X4_readInto_3_p57_74 (k4 : Nat → Int32 → Int32 → fx_Mem → Prop) (Q : Int32 → fx_Mem → Prop) (j1 : Nat) (x2 : Int32) (x3 : Int32) (M : fx_Mem) : Prop :=
  ∀ v1 : Int32, v1 = x3 + 1 → k4 j1 x2 v1 M
set_option maxHeartbeats 4000000 in
set_option maxRecDepth 100000 in
theorem tb_X4_readInto_3_p57_74 {g : fx_Geo} {p : Program} {l : Launch} {e : Env} {s : State} {m : MethodId} {args : Array Value} {below : List Frame} {meth : Method} {c : Code} (C : fx_Cx g p s m args meth c RX4 cX4_readInto 6 (some .int)) (k4 : Nat → Int32 → Int32 → fx_Mem → Prop) (Q : Int32 → fx_Mem → Prop) (hk4 : ∀ (j1 : Nat) (x2 : Int32) (x3 : Int32) (M : fx_Mem), k4 j1 x2 x3 M → j1 < 20 → ∀ (H : Heap) (locs : List Loc) (ls : Array Slot), fx_H g s M H locs → lv_has ls 6 [(0, .ref (fx_a g 3)), (1, .ref (fx_a g (57 + j1))), (2, .int x2), (3, .int x3)] → W p l e rm_X4_readInto_3_p57 s m args below meth c H locs 0 0 (MQ below (va_Qi Q (fx_Pw g) (fx_A g)) args s 0 0 (fx_A g)) (F0 m 4 ls [])) (j1 : Nat) (x2 : Int32) (x3 : Int32) (M : fx_Mem) (h : wb_X4_readInto_3_p57_74 k4 Q j1 x2 x3 M) (hj1 : j1 < 20) (H : Heap) (locs : List Loc) (ls : Array Slot) (hH : fx_H g s M H locs) (hl : lv_has ls 6 [(0, .ref (fx_a g 3)), (1, .ref (fx_a g (57 + j1))), (2, .int x2), (3, .int x3)]) : W p l e rm_X4_readInto_3_p57 s m args below meth c H locs 0 0 (MQ below (va_Qi Q (fx_Pw g) (fx_A g)) args s 0 0 (fx_A g)) (F0 m 74 ls []) := by
  obtain ⟨hx, hb, hr, hml, hown, hts, hlocks, hsz, hK, hG, hSt⟩ := id C
  unfold wb_X4_readInto_3_p57_74 at h
  obtain ⟨v1, ev1⟩ : ∃ z : Int32, z = x3 + 1 := ⟨_, rfl⟩
  refine lv_iinc (v := v1) (lv' := [(3, .int v1), (0, .ref (fx_a g 3)), (1, .ref (fx_a g (57 + j1))), (2, .int x2)]) hx hb dX4_readInto_74 hl (k := 3) rfl (by rw [ev1]; rfl) (by decide) rfl (fun ls hl => ?_)
  replace h := h v1 ev1
  refine lv_goto (tgt := 4) hx hb dX4_readInto_77 (by decide) ?_
  exact hk4 j1 x2 v1 M h hj1 H locs ls hH (lv_sub hl [1, 2, 3, 0] rfl)
def wb_X4_readInto_3_p57_31 (k4 : Nat → Int32 → Int32 → fx_Mem → Prop) (Q : Int32 → fx_Mem → Prop) (j1 : Nat) (x2 : Int32) (x3 : Int32) (M : fx_Mem) : Prop :=
  vp_in x2 80 ∧ wp_X4_propertyFor (M.2.1 14 x2.toNatClampNeg) M (fun r3 M2 => wp_X4_number_3 (x2 + 1) x3 M2 (fun r5 M4 => wp_X6_canHave r3 r5 M4 (fun r7 M6 => ((r7 = 0 → Q x2 M6) ∧ (¬ r7 = 0 → vp_in r3 10 ∧ ∀ M10 : fx_Mem, M10 = fx_sa M6 (57 + j1) r3.toNatClampNeg r5 → ∀ v11 : Int32, v11 = x3 + 1 → wb_X4_readInto_3_p57_74 k4 Q j1 v11 x3 M10)))))
set_option maxHeartbeats 4000000 in
set_option maxRecDepth 100000 in
theorem tb_X4_readInto_3_p57_31 {g : fx_Geo} {p : Program} {l : Launch} {e : Env} {s : State} {m : MethodId} {args : Array Value} {below : List Frame} {meth : Method} {c : Code} (C : fx_Cx g p s m args meth c RX4 cX4_readInto 6 (some .int)) (k4 : Nat → Int32 → Int32 → fx_Mem → Prop) (Q : Int32 → fx_Mem → Prop) (hk4 : ∀ (j1 : Nat) (x2 : Int32) (x3 : Int32) (M : fx_Mem), k4 j1 x2 x3 M → j1 < 20 → ∀ (H : Heap) (locs : List Loc) (ls : Array Slot), fx_H g s M H locs → lv_has ls 6 [(0, .ref (fx_a g 3)), (1, .ref (fx_a g (57 + j1))), (2, .int x2), (3, .int x3)] → W p l e rm_X4_readInto_3_p57 s m args below meth c H locs 0 0 (MQ below (va_Qi Q (fx_Pw g) (fx_A g)) args s 0 0 (fx_A g)) (F0 m 4 ls [])) (j1 : Nat) (x2 : Int32) (x3 : Int32) (M : fx_Mem) (h : wb_X4_readInto_3_p57_31 k4 Q j1 x2 x3 M) (hj1 : j1 < 20) (H : Heap) (locs : List Loc) (ls : Array Slot) (hH : fx_H g s M H locs) (hl : lv_has ls 6 [(0, .ref (fx_a g 3)), (1, .ref (fx_a g (57 + j1))), (2, .int x2), (3, .int x3)]) : W p l e rm_X4_readInto_3_p57 s m args below meth c H locs 0 0 (MQ below (va_Qi Q (fx_Pw g) (fx_A g)) args s 0 0 (fx_A g)) (F0 m 31 ls []) := by
  obtain ⟨hx, hb, hr, hml, hown, hts, hlocks, hsz, hK, hG, hSt⟩ := id C
  unfold wb_X4_readInto_3_p57_31 at h
  refine lv_aload_n hx hb dX4_readInto_31 rfl (lv_at hl 0 rfl) ?_
  refine fx_get C hH (fx_w3 g M) rfl in_X4 0 (by decide) u_85 rfl rfl dX4_readInto_32 ?_
  refine lv_iload_n hx hb dX4_readInto_35 rfl (lv_at hl 2 rfl) ?_
  obtain ⟨hi1, h⟩ := h
  refine fx_cald (j := x2.toNatClampNeg) C hH 14 (fx_w14 g M) rfl hi1 dX4_readInto_36 ?_
  refine fx_ci hH (fx_runS (As := [.int (M.2.1 14 x2.toNatClampNeg)]) (rest := []) C hH (c_X4_propertyFor l C.2.2.2.2.2.2.2.2.2.1 (M.2.1 14 x2.toNatClampNeg) M _ h) (fx_cwS 1 hts u_646 u_647 u_3 u_648 rfl rfl (by decide +kernel) ⟨(Nat.le_of_ble_eq_true rfl), (Nat.le_of_ble_eq_true rfl)⟩) rfl hl.1 rfl (Nat.le_of_ble_eq_true rfl) dX4_readInto_37 ⟨(Nat.le_of_ble_eq_true rfl), (Nat.le_of_ble_eq_true rfl)⟩) (fun r3 M2 H locs h hH => ?_)
  refine lv_istore (lv' := [(4, .int r3), (0, .ref (fx_a g 3)), (1, .ref (fx_a g (57 + j1))), (2, .int x2), (3, .int x3)]) hx hb dX4_readInto_40 hl (by decide) rfl (fun ls hl => ?_)
  refine lv_aload_n hx hb dX4_readInto_42 rfl (lv_at hl 1 rfl) ?_
  refine lv_iload_n hx hb dX4_readInto_43 rfl (lv_at hl 3 rfl) ?_
  refine lv_iconst (v := 1) hx hb dX4_readInto_44 (by decide) ?_
  refine lv_iadd hx hb dX4_readInto_45 ?_
  refine lv_iload_n hx hb dX4_readInto_46 rfl (lv_at hl 4 rfl) ?_
  refine fx_ci hH (fx_runV (As := [.int (x2 + 1), .int x3]) (rest := []) C hH (c_X4_number_3 l C.2.2.2.2.2.2.2.2.2.1 (x2 + 1) x3 M2 _ h) (fx_cwV 2 hts u_655 u_657 us_20 u_3 u_658 rfl rfl (by decide +kernel) ⟨(Nat.le_of_ble_eq_true rfl), (Nat.le_of_ble_eq_true rfl)⟩) (fx_w3 g M2) rfl rfl hl.1 rfl (Nat.le_of_ble_eq_true rfl) dX4_readInto_47 ⟨(Nat.le_of_ble_eq_true rfl), (Nat.le_of_ble_eq_true rfl)⟩) (fun r5 M4 H locs h hH => ?_)
  refine lv_istore (lv' := [(5, .int r5), (4, .int r3), (0, .ref (fx_a g 3)), (1, .ref (fx_a g (57 + j1))), (2, .int x2), (3, .int x3)]) hx hb dX4_readInto_50 hl (by decide) rfl (fun ls hl => ?_)
  refine lv_iload hx hb dX4_readInto_52 (lv_at hl 1 rfl) ?_
  refine lv_iload hx hb dX4_readInto_54 (lv_at hl 0 rfl) ?_
  refine fx_ci hH (fx_runSN (As := [.int r3, .int r5]) (rest := []) C hH (c_X6_canHave l C.2.2.2.2.2.2.2.2.2.1 r3 r5 M4 _ h) (fx_cwSN 2 hts (hSt.2.2.1 (RX4, 31, yX6_canHave, "FlexLayout") (by decide +kernel)) u_551 u_1 u_552 rfl rfl (by decide +kernel) ⟨(Nat.le_of_ble_eq_true rfl), (Nat.le_of_ble_eq_true rfl)⟩) rfl hl.1 rfl (Nat.le_of_ble_eq_true rfl) dX4_readInto_56 ⟨(Nat.le_of_ble_eq_true rfl), (Nat.le_of_ble_eq_true rfl)⟩) (fun r7 M6 H locs h hH => ?_)
  refine lv_if_ne (tgt := 64) hx hb dX4_readInto_59 (by decide) (fun c8 => ?_) (fun c8 => ?_)
  · replace h := h.2 c8
    refine lv_aload_n hx hb dX4_readInto_64 rfl (lv_at hl 3 rfl) ?_
    refine lv_iload hx hb dX4_readInto_65 (lv_at hl 1 rfl) ?_
    refine lv_iload hx hb dX4_readInto_67 (lv_at hl 0 rfl) ?_
    obtain ⟨hi9, h⟩ := h
    refine fx_iast (j := r3.toNatClampNeg) (M' := fx_sa M6 (57 + j1) r3.toNatClampNeg r5) C hH (57 + j1) rfl (fx_r1 g M6 j1 hj1) (fx_q1 g M6 _ j1 hj1) hi9 dX4_readInto_69 (fun H locs hH => ?_)
    generalize eM10 : fx_sa M6 (57 + j1) r3.toNatClampNeg r5 = M10 at hH
    replace h := h M10 eM10.symm
    refine lv_iload_n hx hb dX4_readInto_70 rfl (lv_at hl 5 rfl) ?_
    refine lv_iconst (v := 1) hx hb dX4_readInto_71 (by decide) ?_
    refine lv_iadd hx hb dX4_readInto_72 ?_
    refine lv_topi (fun v11 ev11 => ?_)
    replace h := h v11 ev11
    refine lv_istore_n (lv' := [(2, .int v11), (5, .int r5), (4, .int r3), (0, .ref (fx_a g 3)), (1, .ref (fx_a g (57 + j1))), (3, .int x3)]) hx hb dX4_readInto_73 rfl hl (by decide) rfl (fun ls hl => ?_)
    exact tb_X4_readInto_3_p57_74 C k4 Q hk4 j1 v11 x3 M10 h hj1 H locs ls hH (lv_sub hl [3, 4, 0, 5] rfl)
  · replace h := h.1 c8
    refine lv_iload_n hx hb dX4_readInto_62 rfl (lv_at hl 4 rfl) ?_
    exact fx_iret C hH h dX4_readInto_63
def wb_X4_readInto_3_p57_4 (k4 : Nat → Int32 → Int32 → fx_Mem → Prop) (Q : Int32 → fx_Mem → Prop) (j1 : Nat) (x2 : Int32) (x3 : Int32) (M : fx_Mem) : Prop :=
  ((M.1 193 < x3 → Q (-1) M) ∧ (¬ M.1 193 < x3 → ((x3 = M.1 193 → wb_X4_readInto_3_p57_31 k4 Q j1 x2 x3 M) ∧ (¬ x3 = M.1 193 → vp_in x3 80 ∧ ((M.2.1 14 x3.toNatClampNeg = 32 → wb_X4_readInto_3_p57_31 k4 Q j1 x2 x3 M) ∧ (¬ M.2.1 14 x3.toNatClampNeg = 32 → wb_X4_readInto_3_p57_74 k4 Q j1 x2 x3 M))))))
set_option maxHeartbeats 4000000 in
set_option maxRecDepth 100000 in
theorem tb_X4_readInto_3_p57_4 {g : fx_Geo} {p : Program} {l : Launch} {e : Env} {s : State} {m : MethodId} {args : Array Value} {below : List Frame} {meth : Method} {c : Code} (C : fx_Cx g p s m args meth c RX4 cX4_readInto 6 (some .int)) (k4 : Nat → Int32 → Int32 → fx_Mem → Prop) (Q : Int32 → fx_Mem → Prop) (hk4 : ∀ (j1 : Nat) (x2 : Int32) (x3 : Int32) (M : fx_Mem), k4 j1 x2 x3 M → j1 < 20 → ∀ (H : Heap) (locs : List Loc) (ls : Array Slot), fx_H g s M H locs → lv_has ls 6 [(0, .ref (fx_a g 3)), (1, .ref (fx_a g (57 + j1))), (2, .int x2), (3, .int x3)] → W p l e rm_X4_readInto_3_p57 s m args below meth c H locs 0 0 (MQ below (va_Qi Q (fx_Pw g) (fx_A g)) args s 0 0 (fx_A g)) (F0 m 4 ls [])) (j1 : Nat) (x2 : Int32) (x3 : Int32) (M : fx_Mem) (h : wb_X4_readInto_3_p57_4 k4 Q j1 x2 x3 M) (hj1 : j1 < 20) (H : Heap) (locs : List Loc) (ls : Array Slot) (hH : fx_H g s M H locs) (hl : lv_has ls 6 [(0, .ref (fx_a g 3)), (1, .ref (fx_a g (57 + j1))), (2, .int x2), (3, .int x3)]) : W p l e rm_X4_readInto_3_p57 s m args below meth c H locs 0 0 (MQ below (va_Qi Q (fx_Pw g) (fx_A g)) args s 0 0 (fx_A g)) (F0 m 4 ls []) := by
  obtain ⟨hx, hb, hr, hml, hown, hts, hlocks, hsz, hK, hG, hSt⟩ := id C
  unfold wb_X4_readInto_3_p57_4 at h
  refine lv_iload_n hx hb dX4_readInto_4 rfl (lv_at hl 3 rfl) ?_
  refine lv_aload_n hx hb dX4_readInto_5 rfl (lv_at hl 0 rfl) ?_
  refine fx_get C hH (fx_w3 g M) rfl in_X4 1 (by decide) u_87 rfl rfl dX4_readInto_6 ?_
  refine lv_icmp_gt (tgt := 80) hx hb dX4_readInto_9 (by decide) (fun c1 => ?_) (fun c1 => ?_)
  · replace h := h.1 c1
    refine lv_iconst (v := -1) hx hb dX4_readInto_80 (by decide) ?_
    exact fx_iret C hH h dX4_readInto_81
  · replace h := h.2 c1
    refine lv_iload_n hx hb dX4_readInto_12 rfl (lv_at hl 3 rfl) ?_
    refine lv_aload_n hx hb dX4_readInto_13 rfl (lv_at hl 0 rfl) ?_
    refine fx_get C hH (fx_w3 g M) rfl in_X4 1 (by decide) u_87 rfl rfl dX4_readInto_14 ?_
    refine lv_icmp_eq (tgt := 31) hx hb dX4_readInto_17 (by decide) (fun c2 => ?_) (fun c2 => ?_)
    · replace h := h.1 c2
      exact tb_X4_readInto_3_p57_31 C k4 Q hk4 j1 x2 x3 M h hj1 H locs ls hH (lv_sub hl [0, 1, 2, 3] rfl)
    · replace h := h.2 c2
      refine lv_aload_n hx hb dX4_readInto_20 rfl (lv_at hl 0 rfl) ?_
      refine fx_get C hH (fx_w3 g M) rfl in_X4 0 (by decide) u_85 rfl rfl dX4_readInto_21 ?_
      refine lv_iload_n hx hb dX4_readInto_24 rfl (lv_at hl 3 rfl) ?_
      obtain ⟨hi3, h⟩ := h
      refine fx_cald (j := x3.toNatClampNeg) C hH 14 (fx_w14 g M) rfl hi3 dX4_readInto_25 ?_
      refine lv_bipush (v := 32) hx hb dX4_readInto_26 (by decide) ?_
      refine lv_icmp_ne (tgt := 74) hx hb dX4_readInto_28 (by decide) (fun c4 => ?_) (fun c4 => ?_)
      · replace h := h.2 c4
        exact tb_X4_readInto_3_p57_74 C k4 Q hk4 j1 x2 x3 M h hj1 H locs ls hH (lv_sub hl [0, 1, 2, 3] rfl)
      · replace h := h.1 c4
        exact tb_X4_readInto_3_p57_31 C k4 Q hk4 j1 x2 x3 M h hj1 H locs ls hH (lv_sub hl [0, 1, 2, 3] rfl)
def wl_X4_readInto_3_p57_4 (Q : Int32 → fx_Mem → Prop) (n : Nat) (j1 : Nat) (x2 : Int32) (x3 : Int32) (M : fx_Mem) : Prop :=
  fx_lp (α := Nat × Int32 × Int32 × fx_Mem) (fun k a => wb_X4_readInto_3_p57_4 (fun j1 x2 x3 M => k (j1, x2, x3, M)) Q a.1 a.2.1 a.2.2.1 a.2.2.2) n (j1, x2, x3, M)
set_option maxHeartbeats 4000000 in
theorem tl_X4_readInto_3_p57_4 {g : fx_Geo} {p : Program} {l : Launch} {e : Env} {s : State} {m : MethodId} {args : Array Value} {below : List Frame} {meth : Method} {c : Code} (C : fx_Cx g p s m args meth c RX4 cX4_readInto 6 (some .int)) (Q : Int32 → fx_Mem → Prop) : ∀ (n : Nat) (j1 : Nat) (x2 : Int32) (x3 : Int32) (M : fx_Mem), wl_X4_readInto_3_p57_4  Q n j1 x2 x3 M → j1 < 20 → ∀ (H : Heap) (locs : List Loc) (ls : Array Slot), fx_H g s M H locs → lv_has ls 6 [(0, .ref (fx_a g 3)), (1, .ref (fx_a g (57 + j1))), (2, .int x2), (3, .int x3)] → W p l e rm_X4_readInto_3_p57 s m args below meth c H locs 0 0 (MQ below (va_Qi Q (fx_Pw g) (fx_A g)) args s 0 0 (fx_A g)) (F0 m 4 ls []) := by
  intro n
  induction n with
  | zero => intro j1 x2 x3 M h; exact False.elim h
  | succ n ih => intro j1 x2 x3 M h hj1 H locs ls hH hl; exact tb_X4_readInto_3_p57_4 C (wl_X4_readInto_3_p57_4  Q n) Q ih j1 x2 x3 M h hj1 H locs ls hH hl
def wp_X4_readInto_3_p57 (j1 : Nat) (M : fx_Mem) (Q : Int32 → fx_Mem → Prop) : Prop :=
  ∃ n4 : Nat, wl_X4_readInto_3_p57_4 Q n4 j1 0 1 M
set_option maxHeartbeats 4000000 in
set_option maxRecDepth 100000 in
theorem c_X4_readInto_3_p57 (l : Launch) {g : fx_Geo} (hG : fx_Gd g) (j1 : Nat) (M : fx_Mem) (Q : Int32 → fx_Mem → Prop) (h : wp_X4_readInto_3_p57 j1 M Q) (hj1 : j1 < 20) : Met l yX4_readInto (.code yX4_readInto cX4_readInto 6 (some .int) :: fx_U) rm_X4_readInto_3_p57 (va_Pc [.ref (fx_a g 3), .ref (fx_a g (57 + j1))] (fx_At g M)) (va_Qi Q (fx_Pw g) (fx_A g)) 0 0 (fx_A g) := by
  refine Met.ofW (cc := cX4_readInto) (maxL := 6) (ret := (some .int)) (by decide +kernel) rfl ?_
  intro p e s m args below meth c s₁ B hml hv
  obtain ⟨rfl, hv⟩ := hv
  have hts := atoms_spec (ws := .code yX4_readInto cX4_readInto 6 (some .int) :: fx_U) B.pre
  obtain ⟨C, hH⟩ := fx_body (own := RX4) B hml rfl (fun w hw => hts w (List.mem_cons_of_mem _ hw)) hG hv
  replace hts := fun w hw => hts w (List.mem_cons_of_mem _ hw)
  obtain ⟨hx, hb, hr, -, hown, -, hlocks, hsz, hK, -, hSt⟩ := id C
  have hl := lv_entry ([.ref (fx_a g 3), .ref (fx_a g (57 + j1))]) (n := 6) (Nat.le_of_ble_eq_true rfl)
  rw [lg_entry_eq]
  generalize (lg_sl ([.ref (fx_a g 3), .ref (fx_a g (57 + j1))]) ++ List.replicate (6 - (lg_sl ([.ref (fx_a g 3), .ref (fx_a g (57 + j1))])).length) Slot.unset).toArray = ls at hl ⊢
  have hl : lv_has ls 6 [(0, .ref (fx_a g 3)), (1, .ref (fx_a g (57 + j1)))] := hl
  obtain ⟨H, eH⟩ : ∃ H : Heap, H = s.heap := ⟨_, rfl⟩
  obtain ⟨locs, elocs⟩ : ∃ q : List Loc, q = [] := ⟨_, rfl⟩
  rw [← eH, ← elocs] at hH
  show W p l e rm_X4_readInto_3_p57 s m _ below meth c s.heap [] 0 0 _ _
  rw [← eH, ← elocs]
  unfold wp_X4_readInto_3_p57 at h
  refine lv_iconst (v := 0) hx hb dX4_readInto_0 (by decide) ?_
  refine lv_istore_n (lv' := [(2, .int 0), (0, .ref (fx_a g 3)), (1, .ref (fx_a g (57 + j1)))]) hx hb dX4_readInto_1 rfl hl (by decide) rfl (fun ls hl => ?_)
  refine lv_iconst (v := 1) hx hb dX4_readInto_2 (by decide) ?_
  refine lv_istore_n (lv' := [(3, .int 1), (2, .int 0), (0, .ref (fx_a g 3)), (1, .ref (fx_a g (57 + j1)))]) hx hb dX4_readInto_3 rfl hl (by decide) rfl (fun ls hl => ?_)
  obtain ⟨n4, h⟩ := h
  exact tl_X4_readInto_3_p57_4 C Q  n4 j1 0 1 M h hj1 H locs ls hH (lv_sub hl [2, 3, 1, 0] rfl)
/-! FlexLayout.readItem()I (0,) -/
def rm_X6_readItem_0 : Room := { frames := 7, cells := 1, slots := 6, locals := 110 }
def wb_X6_readItem_0_32 (Q : Int32 → fx_Mem → Prop) (X : String → fx_Mem → Prop) (x1 : Int32) (M : fx_Mem) : Prop :=
  ∀ M1 : fx_Mem, M1 = fx_si M 193 0 → ((x1 = (-1) → wp_X1_takeFreshRow_1  M1 (fun r4 M3 => Q r4 M3)) ∧ (¬ x1 = (-1) → Q ((-100) - x1) M1))
set_option maxHeartbeats 4000000 in
set_option maxRecDepth 100000 in
theorem tb_X6_readItem_0_32 {g : fx_Geo} {p : Program} {l : Launch} {e : Env} {s : State} {m : MethodId} {args : Array Value} {below : List Frame} {meth : Method} {c : Code} (C : fx_Cx g p s m args meth c RX6 cX6_readItem 2 (some .int)) (hfl : fx_fl l c) (Q : Int32 → fx_Mem → Prop) (X : String → fx_Mem → Prop) (x1 : Int32) (M : fx_Mem) (h : wb_X6_readItem_0_32 Q X x1 M) (H : Heap) (locs : List Loc) (ls : Array Slot) (hH : fx_H g s M H locs) (hl : lv_has ls 2 [(0, .ref (fx_a g 0)), (1, .int x1)]) : W p l e rm_X6_readItem_0 s m args below meth c H locs 1 6 (vx_MQ below (va_Qi Q (fx_Pw g) (fx_A g)) (fx_XC g X) args s 1 6 (fx_A g)) (F0 m 32 ls []) := by
  obtain ⟨hx, hb, hr, hml, hown, hts, hlocks, hsz, hK, hG, hSt⟩ := id C
  unfold wb_X6_readItem_0_32 at h
  refine lv_aload_n hx hb dX6_readItem_32 rfl (lv_at hl 0 rfl) ?_
  refine fx_get C hH (fx_w0 g M) rfl in_X6 3 (by decide) u_202 rfl rfl dX6_readItem_33 ?_
  refine lv_iconst (v := 0) hx hb dX6_readItem_36 (by decide) ?_
  refine fx_put C hH (fx_w3 g M) rfl in_X4 tyX4 tyX4_ok nmX4 1 (by decide) u_88 rfl rfl (ty := .int) (by decide +kernel) rfl rfl (Nat.le_of_ble_eq_true rfl) (fx_p3_1 g M 0) dX6_readItem_37 (fun H locs hH => ?_)
  generalize eM1 : fx_si M 193 0 = M1 at hH
  replace h := h M1 eM1.symm
  refine lv_iload_n hx hb dX6_readItem_40 rfl (lv_at hl 1 rfl) ?_
  refine lv_iconst (v := -1) hx hb dX6_readItem_41 (by decide) ?_
  refine lv_icmp_ne (tgt := 55) hx hb dX6_readItem_42 (by decide) (fun c2 => ?_) (fun c2 => ?_)
  · replace h := h.2 c2
    refine lv_bipush (v := -100) hx hb dX6_readItem_55 (by decide) ?_
    refine lv_iload_n hx hb dX6_readItem_57 rfl (lv_at hl 1 rfl) ?_
    refine lv_isub hx hb dX6_readItem_58 ?_
    refine vx_ret (W.widen (k := 1) (n := 6) (Nat.le_of_ble_eq_true rfl) (Nat.le_of_ble_eq_true rfl) ?_)
    exact fx_iret C hH h dX6_readItem_59
  · replace h := h.1 c2
    refine lv_aload_n hx hb dX6_readItem_45 rfl (lv_at hl 0 rfl) ?_
    refine fx_get C hH (fx_w0 g M1) rfl in_X6 0 (by decide) u_199 rfl rfl dX6_readItem_46 ?_
    refine fx_ci hH (fx_runV (As := []) (rest := []) C hH (c_X1_takeFreshRow_1 l C.2.2.2.2.2.2.2.2.2.1  M1 _ h) (fx_cwV 0 hts u_585 u_586 u_587 u_2 u_588 rfl rfl (by decide +kernel) ⟨(Nat.le_of_ble_eq_true rfl), (Nat.le_of_ble_eq_true rfl)⟩) (fx_w1 g M1) rfl rfl hl.1 rfl (Nat.le_of_ble_eq_true rfl) dX6_readItem_49 ⟨(Nat.le_of_ble_eq_true rfl), (Nat.le_of_ble_eq_true rfl)⟩) (fun r4 M3 H locs h hH => ?_)
    refine lv_goto (tgt := 59) hx hb dX6_readItem_52 (by decide) ?_
    refine vx_ret (W.widen (k := 1) (n := 6) (Nat.le_of_ble_eq_true rfl) (Nat.le_of_ble_eq_true rfl) ?_)
    exact fx_iret C hH h dX6_readItem_59
def wp_X6_readItem_0 (M : fx_Mem) (Q : Int32 → fx_Mem → Prop) (X : String → fx_Mem → Prop) : Prop :=
  wp_X6_requireRoom_0  M (fun M1 => wp_X4_syntaxError_3  M1 (fun r3 M2 => ((r3 = (-1) → wp_X1_freshRow_1  M2 (fun jr6 M5 => wp_X4_readInto_3_p57 jr6 M5 (fun r8 M7 => wb_X6_readItem_0_32 Q X r8 M7))) ∧ (¬ r3 = (-1) → wb_X6_readItem_0_32 Q X r3 M2)))) X
set_option maxHeartbeats 4000000 in
set_option maxRecDepth 100000 in
theorem c_X6_readItem_0 (l : Launch) {g : fx_Geo} (hG : fx_Gd g) (hfl0 : l.stackTraces = false) (M : fx_Mem) (Q : Int32 → fx_Mem → Prop) (X : String → fx_Mem → Prop) (h : wp_X6_readItem_0 M Q X) : vx_Met l yX6_readItem (.code yX6_readItem cX6_readItem 2 (some .int) :: fx_U) rm_X6_readItem_0 (va_Pc [.ref (fx_a g 0)] (fx_At g M)) (va_Qi Q (fx_Pw g) (fx_A g)) (fx_XC g X) 1 6 (fx_A g) := by
  refine vx_ofW (cc := cX6_readItem) (maxL := 2) (ret := (some .int)) (by decide +kernel) rfl ?_
  intro p e s m args below meth c s₁ B hml hex hv
  have hfl : fx_fl l c := ⟨hfl0, hex⟩
  obtain ⟨rfl, hv⟩ := hv
  have hts := atoms_spec (ws := .code yX6_readItem cX6_readItem 2 (some .int) :: fx_U) B.pre
  obtain ⟨C, hH⟩ := fx_body (own := RX6) B hml rfl (fun w hw => hts w (List.mem_cons_of_mem _ hw)) hG hv
  replace hts := fun w hw => hts w (List.mem_cons_of_mem _ hw)
  obtain ⟨hx, hb, hr, -, hown, -, hlocks, hsz, hK, -, hSt⟩ := id C
  have hl := lv_entry ([.ref (fx_a g 0)]) (n := 2) (Nat.le_of_ble_eq_true rfl)
  rw [lg_entry_eq]
  generalize (lg_sl ([.ref (fx_a g 0)]) ++ List.replicate (2 - (lg_sl ([.ref (fx_a g 0)])).length) Slot.unset).toArray = ls at hl ⊢
  have hl : lv_has ls 2 [(0, .ref (fx_a g 0))] := hl
  obtain ⟨H, eH⟩ : ∃ H : Heap, H = s.heap := ⟨_, rfl⟩
  obtain ⟨locs, elocs⟩ : ∃ q : List Loc, q = [] := ⟨_, rfl⟩
  rw [← eH, ← elocs] at hH
  show W p l e rm_X6_readItem_0 s m _ below meth c s.heap [] 0 0 _ _
  rw [← eH, ← elocs]
  unfold wp_X6_readItem_0 at h
  refine lv_aload_n hx hb dX6_readItem_0 rfl (lv_at hl 0 rfl) ?_
  refine fx_xcv (mc := 1) (ms := 6) C hfl hH (fx_xrunV (As := []) (rest := []) C hH (c_X6_requireRoom_0 l C.2.2.2.2.2.2.2.2.2.1 hfl.1  M _ _ h) (fx_cwV 0 hts u_558 u_560 us_18 u_1 u_561 rfl rfl (by decide +kernel) ⟨(Nat.le_of_ble_eq_true rfl), (Nat.le_of_ble_eq_true rfl)⟩) (fx_w0 g M) rfl rfl hl.1 rfl (Nat.le_of_ble_eq_true rfl) dX6_readItem_1 ⟨(Nat.le_of_ble_eq_true rfl), (Nat.le_of_ble_eq_true rfl)⟩) (fun E M9 hx9 => hx9) (Nat.le_of_ble_eq_true rfl) (Nat.le_of_ble_eq_true rfl) (fun M1 H locs h hH => ?_)
  refine lv_aload_n hx hb dX6_readItem_4 rfl (lv_at hl 0 rfl) ?_
  refine fx_get C hH (fx_w0 g M1) rfl in_X6 3 (by decide) u_202 rfl rfl dX6_readItem_5 ?_
  refine fx_ci hH (fx_runV (As := []) (rest := []) C hH (c_X4_syntaxError_3 l C.2.2.2.2.2.2.2.2.2.1  M1 _ h) (fx_cwV 0 hts u_639 u_640 u_641 u_3 u_642 rfl rfl (by decide +kernel) ⟨(Nat.le_of_ble_eq_true rfl), (Nat.le_of_ble_eq_true rfl)⟩) (fx_w3 g M1) rfl rfl hl.1 rfl (Nat.le_of_ble_eq_true rfl) dX6_readItem_8 ⟨(Nat.le_of_ble_eq_true rfl), (Nat.le_of_ble_eq_true rfl)⟩) (fun r3 M2 H locs h hH => ?_)
  refine lv_istore_n (lv' := [(1, .int r3), (0, .ref (fx_a g 0))]) hx hb dX6_readItem_11 rfl hl (by decide) rfl (fun ls hl => ?_)
  refine lv_iload_n hx hb dX6_readItem_12 rfl (lv_at hl 0 rfl) ?_
  refine lv_iconst (v := -1) hx hb dX6_readItem_13 (by decide) ?_
  refine lv_icmp_ne (tgt := 32) hx hb dX6_readItem_14 (by decide) (fun c4 => ?_) (fun c4 => ?_)
  · replace h := h.2 c4
    exact tb_X6_readItem_0_32 C hfl Q X  r3 M2 h  H locs ls hH (lv_sub hl [1, 0] rfl)
  · replace h := h.1 c4
    refine lv_aload_n hx hb dX6_readItem_17 rfl (lv_at hl 1 rfl) ?_
    refine fx_get C hH (fx_w0 g M2) rfl in_X6 3 (by decide) u_202 rfl rfl dX6_readItem_18 ?_
    refine lv_aload_n hx hb dX6_readItem_21 rfl (lv_at hl 1 rfl) ?_
    refine fx_get C hH (fx_w0 g M2) rfl in_X6 0 (by decide) u_199 rfl rfl dX6_readItem_22 ?_
    refine fx_cr hH (fx_runV (As := []) (rest := [.ref (fx_a g 3)]) C hH (c_X1_freshRow_1 l C.2.2.2.2.2.2.2.2.2.1  M2 _ h) (fx_cwV 0 hts u_578 u_579 u_580 u_2 u_581 rfl rfl (by decide +kernel) ⟨(Nat.le_of_ble_eq_true rfl), (Nat.le_of_ble_eq_true rfl)⟩) (fx_w1 g M2) rfl rfl hl.1 rfl (Nat.le_of_ble_eq_true rfl) dX6_readItem_25 ⟨(Nat.le_of_ble_eq_true rfl), (Nat.le_of_ble_eq_true rfl)⟩) (fun jr6 M5 H locs h hH hjr6 => ?_)
    refine fx_ci hH (fx_runV (As := [.ref (fx_a g (57 + jr6))]) (rest := []) C hH (c_X4_readInto_3_p57 l C.2.2.2.2.2.2.2.2.2.1 jr6 M5 _ h hjr6) (fx_cwV 1 hts u_651 u_652 u_653 u_3 u_654 rfl rfl (by decide +kernel) ⟨(Nat.le_of_ble_eq_true rfl), (Nat.le_of_ble_eq_true rfl)⟩) (fx_w3 g M5) rfl rfl hl.1 rfl (Nat.le_of_ble_eq_true rfl) dX6_readItem_28 ⟨(Nat.le_of_ble_eq_true rfl), (Nat.le_of_ble_eq_true rfl)⟩) (fun r8 M7 H locs h hH => ?_)
    refine lv_istore_n (lv' := [(1, .int r8), (0, .ref (fx_a g 0))]) hx hb dX6_readItem_31 rfl hl (by decide) rfl (fun ls hl => ?_)
    exact tb_X6_readItem_0_32 C hfl Q X  r8 M7 h  H locs ls hH (lv_sub hl [1, 0] rfl)
/-! FlexLayout$Arrangement.putInSequence(LFlexLayout$Container;)V (5, 1) -/
def rm_X0_putInSequence_5_1 : Room := { frames := 0, cells := 0, slots := 0, locals := 0 }
def wb_X0_putInSequence_5_1_23 (k23 : Int32 → Int32 → Int32 → fx_Mem → Prop) (k71 : Int32 → Int32 → fx_Mem → Prop) (Q : fx_Mem → Prop) (x2 : Int32) (x3 : Int32) (x4 : Int32) (M : fx_Mem) : Prop :=
  ((x4 ≤ 0 → k71 x2 x4 M) ∧ (¬ x4 ≤ 0 → vp_in (x4 - 1) 20 ∧ vp_in (M.2.1 18 ((x4 - 1).toNatClampNeg)) 20 ∧ ((M.2.1 (57 + ((M.2.1 18 ((x4 - 1).toNatClampNeg)).toNatClampNeg)) 8 ≤ x3 → k71 x2 x4 M) ∧ (¬ M.2.1 (57 + ((M.2.1 18 ((x4 - 1).toNatClampNeg)).toNatClampNeg)) 8 ≤ x3 → vp_in (x4 - 1) 20 ∧ vp_in x4 20 ∧ ∀ M8 : fx_Mem, M8 = fx_sa M 18 x4.toNatClampNeg (M.2.1 18 ((x4 - 1).toNatClampNeg)) → ∀ v9 : Int32, v9 = x4 + (-1) → k23 x2 x3 v9 M8))))
set_option maxHeartbeats 4000000 in
set_option maxRecDepth 100000 in
theorem tb_X0_putInSequence_5_1_23 {g : fx_Geo} {p : Program} {l : Launch} {e : Env} {s : State} {m : MethodId} {args : Array Value} {below : List Frame} {meth : Method} {c : Code} (C : fx_Cx g p s m args meth c RX0 cX0_putInSequence 5 none) (k23 : Int32 → Int32 → Int32 → fx_Mem → Prop) (k71 : Int32 → Int32 → fx_Mem → Prop) (Q : fx_Mem → Prop) (hk23 : ∀ (x2 : Int32) (x3 : Int32) (x4 : Int32) (M : fx_Mem), k23 x2 x3 x4 M → ∀ (H : Heap) (locs : List Loc) (ls : Array Slot), fx_H g s M H locs → lv_has ls 5 [(0, .ref (fx_a g 5)), (1, .ref (fx_a g 1)), (2, .int x2), (3, .int x3), (4, .int x4)] → W p l e rm_X0_putInSequence_5_1 s m args below meth c H locs 0 0 (MQ below (va_Qv Q (fx_Pw g) (fx_A g)) args s 0 0 (fx_A g)) (F0 m 23 ls [])) (hk71 : ∀ (x2 : Int32) (x4 : Int32) (M : fx_Mem), k71 x2 x4 M → ∀ (H : Heap) (locs : List Loc) (ls : Array Slot), fx_H g s M H locs → lv_has ls 5 [(0, .ref (fx_a g 5)), (1, .ref (fx_a g 1)), (2, .int x2), (4, .int x4)] → W p l e rm_X0_putInSequence_5_1 s m args below meth c H locs 0 0 (MQ below (va_Qv Q (fx_Pw g) (fx_A g)) args s 0 0 (fx_A g)) (F0 m 71 ls [])) (x2 : Int32) (x3 : Int32) (x4 : Int32) (M : fx_Mem) (h : wb_X0_putInSequence_5_1_23 k23 k71 Q x2 x3 x4 M) (H : Heap) (locs : List Loc) (ls : Array Slot) (hH : fx_H g s M H locs) (hl : lv_has ls 5 [(0, .ref (fx_a g 5)), (1, .ref (fx_a g 1)), (2, .int x2), (3, .int x3), (4, .int x4)]) : W p l e rm_X0_putInSequence_5_1 s m args below meth c H locs 0 0 (MQ below (va_Qv Q (fx_Pw g) (fx_A g)) args s 0 0 (fx_A g)) (F0 m 23 ls []) := by
  obtain ⟨hx, hb, hr, hml, hown, hts, hlocks, hsz, hK, hG, hSt⟩ := id C
  unfold wb_X0_putInSequence_5_1_23 at h
  refine lv_iload hx hb dX0_putInSequence_23 (lv_at hl 4 rfl) ?_
  refine lv_if_le (tgt := 71) hx hb dX0_putInSequence_25 (by decide) (fun c1 => ?_) (fun c1 => ?_)
  · replace h := h.1 c1
    exact hk71 x2 x4 M h  H locs ls hH (lv_sub hl [0, 1, 2, 4] rfl)
  · replace h := h.2 c1
    refine lv_aload_n hx hb dX0_putInSequence_28 rfl (lv_at hl 1 rfl) ?_
    refine fx_get C hH (fx_w1 g M) rfl in_X1 5 (by decide) u_56 rfl rfl dX0_putInSequence_29 ?_
    refine lv_aload_n hx hb dX0_putInSequence_32 rfl (lv_at hl 0 rfl) ?_
    refine fx_get C hH (fx_w5 g M) rfl in_X0 0 (by decide) u_124 rfl rfl dX0_putInSequence_33 ?_
    refine lv_iload hx hb dX0_putInSequence_36 (lv_at hl 4 rfl) ?_
    refine lv_iconst (v := 1) hx hb dX0_putInSequence_38 (by decide) ?_
    refine lv_isub hx hb dX0_putInSequence_39 ?_
    obtain ⟨hi2, h⟩ := h
    refine fx_iald (j := (x4 - 1).toNatClampNeg) C hH 18 (fx_w18 g M) rfl hi2 dX0_putInSequence_40 ?_
    obtain ⟨hi3, h⟩ := h
    have hj4 : (M.2.1 18 ((x4 - 1).toNatClampNeg)).toNatClampNeg < 20 := Nat.not_le.mp fun q => hi3 (Or.inr q)
    refine fx_aald C hH 11 (fx_w11 g M) hi3 dX0_putInSequence_41 ?_
    refine lv_bipush (v := 8) hx hb dX0_putInSequence_42 (by decide) ?_
    refine fx_iald (j := 8) C hH (57 + ((M.2.1 18 ((x4 - 1).toNatClampNeg)).toNatClampNeg)) (fx_r1 g M ((M.2.1 18 ((x4 - 1).toNatClampNeg)).toNatClampNeg) hj4) (by decide) (by unfold vp_in; decide) dX0_putInSequence_44 ?_
    refine lv_iload_n hx hb dX0_putInSequence_45 rfl (lv_at hl 3 rfl) ?_
    refine lv_icmp_le (tgt := 71) hx hb dX0_putInSequence_46 (by decide) (fun c5 => ?_) (fun c5 => ?_)
    · replace h := h.1 c5
      exact hk71 x2 x4 M h  H locs ls hH (lv_sub hl [0, 1, 2, 4] rfl)
    · replace h := h.2 c5
      refine lv_aload_n hx hb dX0_putInSequence_49 rfl (lv_at hl 0 rfl) ?_
      refine fx_get C hH (fx_w5 g M) rfl in_X0 0 (by decide) u_124 rfl rfl dX0_putInSequence_50 ?_
      refine lv_iload hx hb dX0_putInSequence_53 (lv_at hl 4 rfl) ?_
      refine lv_aload_n hx hb dX0_putInSequence_55 rfl (lv_at hl 0 rfl) ?_
      refine fx_get C hH (fx_w5 g M) rfl in_X0 0 (by decide) u_124 rfl rfl dX0_putInSequence_56 ?_
      refine lv_iload hx hb dX0_putInSequence_59 (lv_at hl 4 rfl) ?_
      refine lv_iconst (v := 1) hx hb dX0_putInSequence_61 (by decide) ?_
      refine lv_isub hx hb dX0_putInSequence_62 ?_
      obtain ⟨hi6, h⟩ := h
      refine fx_iald (j := (x4 - 1).toNatClampNeg) C hH 18 (fx_w18 g M) rfl hi6 dX0_putInSequence_63 ?_
      obtain ⟨hi7, h⟩ := h
      refine fx_iast (j := x4.toNatClampNeg) (M' := fx_sa M 18 x4.toNatClampNeg (M.2.1 18 ((x4 - 1).toNatClampNeg))) C hH 18 rfl (fx_w18 g M) (fx_p18 g M _) hi7 dX0_putInSequence_64 (fun H locs hH => ?_)
      generalize eM8 : fx_sa M 18 x4.toNatClampNeg (M.2.1 18 ((x4 - 1).toNatClampNeg)) = M8 at hH
      replace h := h M8 eM8.symm
      obtain ⟨v9, ev9⟩ : ∃ z : Int32, z = x4 + (-1) := ⟨_, rfl⟩
      refine lv_iinc (v := v9) (lv' := [(4, .int v9), (0, .ref (fx_a g 5)), (1, .ref (fx_a g 1)), (2, .int x2), (3, .int x3)]) hx hb dX0_putInSequence_65 hl (k := 4) rfl (by rw [ev9]; rfl) (by decide) rfl (fun ls hl => ?_)
      replace h := h v9 ev9
      refine lv_goto (tgt := 23) hx hb dX0_putInSequence_68 (by decide) ?_
      exact hk23 x2 x3 v9 M8 h  H locs ls hH (lv_sub hl [1, 2, 3, 4, 0] rfl)
def wl_X0_putInSequence_5_1_23 (k71 : Int32 → Int32 → fx_Mem → Prop) (Q : fx_Mem → Prop) (n : Nat) (x2 : Int32) (x3 : Int32) (x4 : Int32) (M : fx_Mem) : Prop :=
  fx_lp (α := Int32 × Int32 × Int32 × fx_Mem) (fun k a => wb_X0_putInSequence_5_1_23 (fun x2 x3 x4 M => k (x2, x3, x4, M)) k71 Q a.1 a.2.1 a.2.2.1 a.2.2.2) n (x2, x3, x4, M)
set_option maxHeartbeats 4000000 in
theorem tl_X0_putInSequence_5_1_23 {g : fx_Geo} {p : Program} {l : Launch} {e : Env} {s : State} {m : MethodId} {args : Array Value} {below : List Frame} {meth : Method} {c : Code} (C : fx_Cx g p s m args meth c RX0 cX0_putInSequence 5 none) (k71 : Int32 → Int32 → fx_Mem → Prop) (Q : fx_Mem → Prop) (hk71 : ∀ (x2 : Int32) (x4 : Int32) (M : fx_Mem), k71 x2 x4 M → ∀ (H : Heap) (locs : List Loc) (ls : Array Slot), fx_H g s M H locs → lv_has ls 5 [(0, .ref (fx_a g 5)), (1, .ref (fx_a g 1)), (2, .int x2), (4, .int x4)] → W p l e rm_X0_putInSequence_5_1 s m args below meth c H locs 0 0 (MQ below (va_Qv Q (fx_Pw g) (fx_A g)) args s 0 0 (fx_A g)) (F0 m 71 ls [])) : ∀ (n : Nat) (x2 : Int32) (x3 : Int32) (x4 : Int32) (M : fx_Mem), wl_X0_putInSequence_5_1_23 k71 Q n x2 x3 x4 M → ∀ (H : Heap) (locs : List Loc) (ls : Array Slot), fx_H g s M H locs → lv_has ls 5 [(0, .ref (fx_a g 5)), (1, .ref (fx_a g 1)), (2, .int x2), (3, .int x3), (4, .int x4)] → W p l e rm_X0_putInSequence_5_1 s m args below meth c H locs 0 0 (MQ below (va_Qv Q (fx_Pw g) (fx_A g)) args s 0 0 (fx_A g)) (F0 m 23 ls []) := by
  intro n
  induction n with
  | zero => intro x2 x3 x4 M h; exact False.elim h
  | succ n ih => intro x2 x3 x4 M h  H locs ls hH hl; exact tb_X0_putInSequence_5_1_23 C (wl_X0_putInSequence_5_1_23 k71 Q n) k71 Q ih hk71 x2 x3 x4 M h  H locs ls hH hl
def wb_X0_putInSequence_5_1_71 (k2 : Int32 → fx_Mem → Prop) (Q : fx_Mem → Prop) (x2 : Int32) (x4 : Int32) (M : fx_Mem) : Prop :=
  vp_in x4 20 ∧ ∀ M2 : fx_Mem, M2 = fx_sa M 18 x4.toNatClampNeg x2 → ∀ v3 : Int32, v3 = x2 + 1 → k2 v3 M2
set_option maxHeartbeats 4000000 in
set_option maxRecDepth 100000 in
theorem tb_X0_putInSequence_5_1_71 {g : fx_Geo} {p : Program} {l : Launch} {e : Env} {s : State} {m : MethodId} {args : Array Value} {below : List Frame} {meth : Method} {c : Code} (C : fx_Cx g p s m args meth c RX0 cX0_putInSequence 5 none) (k2 : Int32 → fx_Mem → Prop) (Q : fx_Mem → Prop) (hk2 : ∀ (x2 : Int32) (M : fx_Mem), k2 x2 M → ∀ (H : Heap) (locs : List Loc) (ls : Array Slot), fx_H g s M H locs → lv_has ls 5 [(0, .ref (fx_a g 5)), (1, .ref (fx_a g 1)), (2, .int x2)] → W p l e rm_X0_putInSequence_5_1 s m args below meth c H locs 0 0 (MQ below (va_Qv Q (fx_Pw g) (fx_A g)) args s 0 0 (fx_A g)) (F0 m 2 ls [])) (x2 : Int32) (x4 : Int32) (M : fx_Mem) (h : wb_X0_putInSequence_5_1_71 k2 Q x2 x4 M) (H : Heap) (locs : List Loc) (ls : Array Slot) (hH : fx_H g s M H locs) (hl : lv_has ls 5 [(0, .ref (fx_a g 5)), (1, .ref (fx_a g 1)), (2, .int x2), (4, .int x4)]) : W p l e rm_X0_putInSequence_5_1 s m args below meth c H locs 0 0 (MQ below (va_Qv Q (fx_Pw g) (fx_A g)) args s 0 0 (fx_A g)) (F0 m 71 ls []) := by
  obtain ⟨hx, hb, hr, hml, hown, hts, hlocks, hsz, hK, hG, hSt⟩ := id C
  unfold wb_X0_putInSequence_5_1_71 at h
  refine lv_aload_n hx hb dX0_putInSequence_71 rfl (lv_at hl 0 rfl) ?_
  refine fx_get C hH (fx_w5 g M) rfl in_X0 0 (by decide) u_124 rfl rfl dX0_putInSequence_72 ?_
  refine lv_iload hx hb dX0_putInSequence_75 (lv_at hl 3 rfl) ?_
  refine lv_iload_n hx hb dX0_putInSequence_77 rfl (lv_at hl 2 rfl) ?_
  obtain ⟨hi1, h⟩ := h
  refine fx_iast (j := x4.toNatClampNeg) (M' := fx_sa M 18 x4.toNatClampNeg x2) C hH 18 rfl (fx_w18 g M) (fx_p18 g M _) hi1 dX0_putInSequence_78 (fun H locs hH => ?_)
  generalize eM2 : fx_sa M 18 x4.toNatClampNeg x2 = M2 at hH
  replace h := h M2 eM2.symm
  obtain ⟨v3, ev3⟩ : ∃ z : Int32, z = x2 + 1 := ⟨_, rfl⟩
  refine lv_iinc (v := v3) (lv' := [(2, .int v3), (0, .ref (fx_a g 5)), (1, .ref (fx_a g 1)), (4, .int x4)]) hx hb dX0_putInSequence_79 hl (k := 2) rfl (by rw [ev3]; rfl) (by decide) rfl (fun ls hl => ?_)
  replace h := h v3 ev3
  refine lv_goto (tgt := 2) hx hb dX0_putInSequence_82 (by decide) ?_
  exact hk2 v3 M2 h  H locs ls hH (lv_sub hl [1, 2, 0] rfl)
def wb_X0_putInSequence_5_1_2 (k2 : Int32 → fx_Mem → Prop) (Q : fx_Mem → Prop) (x2 : Int32) (M : fx_Mem) : Prop :=
  ((M.1 70 ≤ x2 → Q M) ∧ (¬ M.1 70 ≤ x2 → vp_in x2 20 ∧ ∀ v4 : Int32, v4 = M.2.1 (57 + x2.toNatClampNeg) 8 → ∃ n23 : Nat, wl_X0_putInSequence_5_1_23 (wb_X0_putInSequence_5_1_71 k2 Q) Q n23 x2 v4 x2 M))
set_option maxHeartbeats 4000000 in
set_option maxRecDepth 100000 in
theorem tb_X0_putInSequence_5_1_2 {g : fx_Geo} {p : Program} {l : Launch} {e : Env} {s : State} {m : MethodId} {args : Array Value} {below : List Frame} {meth : Method} {c : Code} (C : fx_Cx g p s m args meth c RX0 cX0_putInSequence 5 none) (k2 : Int32 → fx_Mem → Prop) (Q : fx_Mem → Prop) (hk2 : ∀ (x2 : Int32) (M : fx_Mem), k2 x2 M → ∀ (H : Heap) (locs : List Loc) (ls : Array Slot), fx_H g s M H locs → lv_has ls 5 [(0, .ref (fx_a g 5)), (1, .ref (fx_a g 1)), (2, .int x2)] → W p l e rm_X0_putInSequence_5_1 s m args below meth c H locs 0 0 (MQ below (va_Qv Q (fx_Pw g) (fx_A g)) args s 0 0 (fx_A g)) (F0 m 2 ls [])) (x2 : Int32) (M : fx_Mem) (h : wb_X0_putInSequence_5_1_2 k2 Q x2 M) (H : Heap) (locs : List Loc) (ls : Array Slot) (hH : fx_H g s M H locs) (hl : lv_has ls 5 [(0, .ref (fx_a g 5)), (1, .ref (fx_a g 1)), (2, .int x2)]) : W p l e rm_X0_putInSequence_5_1 s m args below meth c H locs 0 0 (MQ below (va_Qv Q (fx_Pw g) (fx_A g)) args s 0 0 (fx_A g)) (F0 m 2 ls []) := by
  obtain ⟨hx, hb, hr, hml, hown, hts, hlocks, hsz, hK, hG, hSt⟩ := id C
  unfold wb_X0_putInSequence_5_1_2 at h
  refine lv_iload_n hx hb dX0_putInSequence_2 rfl (lv_at hl 2 rfl) ?_
  refine lv_aload_n hx hb dX0_putInSequence_3 rfl (lv_at hl 1 rfl) ?_
  refine fx_get C hH (fx_w1 g M) rfl in_X1 6 (by decide) u_61 rfl rfl dX0_putInSequence_4 ?_
  refine lv_icmp_ge (tgt := 85) hx hb dX0_putInSequence_7 (by decide) (fun c1 => ?_) (fun c1 => ?_)
  · replace h := h.1 c1
    exact fx_vret C hH h dX0_putInSequence_85
  · replace h := h.2 c1
    refine lv_aload_n hx hb dX0_putInSequence_10 rfl (lv_at hl 1 rfl) ?_
    refine fx_get C hH (fx_w1 g M) rfl in_X1 5 (by decide) u_56 rfl rfl dX0_putInSequence_11 ?_
    refine lv_iload_n hx hb dX0_putInSequence_14 rfl (lv_at hl 2 rfl) ?_
    obtain ⟨hi2, h⟩ := h
    have hj3 : x2.toNatClampNeg < 20 := Nat.not_le.mp fun q => hi2 (Or.inr q)
    refine fx_aald C hH 11 (fx_w11 g M) hi2 dX0_putInSequence_15 ?_
    refine lv_bipush (v := 8) hx hb dX0_putInSequence_16 (by decide) ?_
    refine fx_iald (j := 8) C hH (57 + x2.toNatClampNeg) (fx_r1 g M x2.toNatClampNeg hj3) (by decide) (by unfold vp_in; decide) dX0_putInSequence_18 ?_
    refine lv_topi (fun v4 ev4 => ?_)
    replace h := h v4 ev4
    refine lv_istore_n (lv' := [(3, .int v4), (0, .ref (fx_a g 5)), (1, .ref (fx_a g 1)), (2, .int x2)]) hx hb dX0_putInSequence_19 rfl hl (by decide) rfl (fun ls hl => ?_)
    refine lv_iload_n hx hb dX0_putInSequence_20 rfl (lv_at hl 3 rfl) ?_
    refine lv_istore (lv' := [(4, .int x2), (3, .int v4), (0, .ref (fx_a g 5)), (1, .ref (fx_a g 1)), (2, .int x2)]) hx hb dX0_putInSequence_21 hl (by decide) rfl (fun ls hl => ?_)
    obtain ⟨n23, h⟩ := h
    exact tl_X0_putInSequence_5_1_23 C (wb_X0_putInSequence_5_1_71 k2 Q) Q (tb_X0_putInSequence_5_1_71 C k2 Q hk2) n23 x2 v4 x2 M h  H locs ls hH (lv_sub hl [2, 3, 4, 1, 0] rfl)
def wl_X0_putInSequence_5_1_2 (Q : fx_Mem → Prop) (n : Nat) (x2 : Int32) (M : fx_Mem) : Prop :=
  fx_lp (α := Int32 × fx_Mem) (fun k a => wb_X0_putInSequence_5_1_2 (fun x2 M => k (x2, M)) Q a.1 a.2) n (x2, M)
set_option maxHeartbeats 4000000 in
theorem tl_X0_putInSequence_5_1_2 {g : fx_Geo} {p : Program} {l : Launch} {e : Env} {s : State} {m : MethodId} {args : Array Value} {below : List Frame} {meth : Method} {c : Code} (C : fx_Cx g p s m args meth c RX0 cX0_putInSequence 5 none) (Q : fx_Mem → Prop) : ∀ (n : Nat) (x2 : Int32) (M : fx_Mem), wl_X0_putInSequence_5_1_2  Q n x2 M → ∀ (H : Heap) (locs : List Loc) (ls : Array Slot), fx_H g s M H locs → lv_has ls 5 [(0, .ref (fx_a g 5)), (1, .ref (fx_a g 1)), (2, .int x2)] → W p l e rm_X0_putInSequence_5_1 s m args below meth c H locs 0 0 (MQ below (va_Qv Q (fx_Pw g) (fx_A g)) args s 0 0 (fx_A g)) (F0 m 2 ls []) := by
  intro n
  induction n with
  | zero => intro x2 M h; exact False.elim h
  | succ n ih => intro x2 M h  H locs ls hH hl; exact tb_X0_putInSequence_5_1_2 C (wl_X0_putInSequence_5_1_2  Q n) Q ih x2 M h  H locs ls hH hl
def wp_X0_putInSequence_5_1 (M : fx_Mem) (Q : fx_Mem → Prop) : Prop :=
  ∃ n2 : Nat, wl_X0_putInSequence_5_1_2 Q n2 0 M
set_option maxHeartbeats 4000000 in
set_option maxRecDepth 100000 in
theorem c_X0_putInSequence_5_1 (l : Launch) {g : fx_Geo} (hG : fx_Gd g) (M : fx_Mem) (Q : fx_Mem → Prop) (h : wp_X0_putInSequence_5_1 M Q) : Met l yX0_putInSequence (.code yX0_putInSequence cX0_putInSequence 5 none :: fx_U) rm_X0_putInSequence_5_1 (va_Pc [.ref (fx_a g 5), .ref (fx_a g 1)] (fx_At g M)) (va_Qv Q (fx_Pw g) (fx_A g)) 0 0 (fx_A g) := by
  refine Met.ofW (cc := cX0_putInSequence) (maxL := 5) (ret := none) (by decide +kernel) rfl ?_
  intro p e s m args below meth c s₁ B hml hv
  obtain ⟨rfl, hv⟩ := hv
  have hts := atoms_spec (ws := .code yX0_putInSequence cX0_putInSequence 5 none :: fx_U) B.pre
  obtain ⟨C, hH⟩ := fx_body (own := RX0) B hml rfl (fun w hw => hts w (List.mem_cons_of_mem _ hw)) hG hv
  replace hts := fun w hw => hts w (List.mem_cons_of_mem _ hw)
  obtain ⟨hx, hb, hr, -, hown, -, hlocks, hsz, hK, -, hSt⟩ := id C
  have hl := lv_entry ([.ref (fx_a g 5), .ref (fx_a g 1)]) (n := 5) (Nat.le_of_ble_eq_true rfl)
  rw [lg_entry_eq]
  generalize (lg_sl ([.ref (fx_a g 5), .ref (fx_a g 1)]) ++ List.replicate (5 - (lg_sl ([.ref (fx_a g 5), .ref (fx_a g 1)])).length) Slot.unset).toArray = ls at hl ⊢
  have hl : lv_has ls 5 [(0, .ref (fx_a g 5)), (1, .ref (fx_a g 1))] := hl
  obtain ⟨H, eH⟩ : ∃ H : Heap, H = s.heap := ⟨_, rfl⟩
  obtain ⟨locs, elocs⟩ : ∃ q : List Loc, q = [] := ⟨_, rfl⟩
  rw [← eH, ← elocs] at hH
  show W p l e rm_X0_putInSequence_5_1 s m _ below meth c s.heap [] 0 0 _ _
  rw [← eH, ← elocs]
  unfold wp_X0_putInSequence_5_1 at h
  refine lv_iconst (v := 0) hx hb dX0_putInSequence_0 (by decide) ?_
  refine lv_istore_n (lv' := [(2, .int 0), (0, .ref (fx_a g 5)), (1, .ref (fx_a g 1))]) hx hb dX0_putInSequence_1 rfl hl (by decide) rfl (fun ls hl => ?_)
  obtain ⟨n2, h⟩ := h
  exact tl_X0_putInSequence_5_1_2 C Q  n2 0 M h  H locs ls hH (lv_sub hl [1, 2, 0] rfl)
/-! FlexLayout$Container.wraps()Z (1,) -/
def rm_X1_wraps_1 : Room := { frames := 0, cells := 0, slots := 0, locals := 0 }
def wp_X1_wraps_1 (M : fx_Mem) (Q : Int32 → fx_Mem → Prop) : Prop :=
  ((M.2.1 10 1 = 0 → Q 0 M) ∧ (¬ M.2.1 10 1 = 0 → Q 1 M))
set_option maxHeartbeats 4000000 in
set_option maxRecDepth 100000 in
theorem c_X1_wraps_1 (l : Launch) {g : fx_Geo} (hG : fx_Gd g) (M : fx_Mem) (Q : Int32 → fx_Mem → Prop) (h : wp_X1_wraps_1 M Q) : Met l yX1_wraps (.code yX1_wraps cX1_wraps 1 (some .boolean) :: fx_U) rm_X1_wraps_1 (va_Pc [.ref (fx_a g 1)] (fx_At g M)) (va_Qi Q (fx_Pw g) (fx_A g)) 0 0 (fx_A g) := by
  refine Met.ofW (cc := cX1_wraps) (maxL := 1) (ret := (some .boolean)) (by decide +kernel) rfl ?_
  intro p e s m args below meth c s₁ B hml hv
  obtain ⟨rfl, hv⟩ := hv
  have hts := atoms_spec (ws := .code yX1_wraps cX1_wraps 1 (some .boolean) :: fx_U) B.pre
  obtain ⟨C, hH⟩ := fx_body (own := RX1) B hml rfl (fun w hw => hts w (List.mem_cons_of_mem _ hw)) hG hv
  replace hts := fun w hw => hts w (List.mem_cons_of_mem _ hw)
  obtain ⟨hx, hb, hr, -, hown, -, hlocks, hsz, hK, -, hSt⟩ := id C
  have hl := lv_entry ([.ref (fx_a g 1)]) (n := 1) (Nat.le_of_ble_eq_true rfl)
  rw [lg_entry_eq]
  generalize (lg_sl ([.ref (fx_a g 1)]) ++ List.replicate (1 - (lg_sl ([.ref (fx_a g 1)])).length) Slot.unset).toArray = ls at hl ⊢
  have hl : lv_has ls 1 [(0, .ref (fx_a g 1))] := hl
  obtain ⟨H, eH⟩ : ∃ H : Heap, H = s.heap := ⟨_, rfl⟩
  obtain ⟨locs, elocs⟩ : ∃ q : List Loc, q = [] := ⟨_, rfl⟩
  rw [← eH, ← elocs] at hH
  show W p l e rm_X1_wraps_1 s m _ below meth c s.heap [] 0 0 _ _
  rw [← eH, ← elocs]
  unfold wp_X1_wraps_1 at h
  refine lv_aload_n hx hb dX1_wraps_0 rfl (lv_at hl 0 rfl) ?_
  refine fx_get C hH (fx_w1 g M) rfl in_X1 4 (by decide) u_51 rfl rfl dX1_wraps_1 ?_
  refine lv_iconst (v := 1) hx hb dX1_wraps_4 (by decide) ?_
  refine fx_iald (j := 1) C hH 10 (fx_w10 g M) (by decide) (by unfold vp_in; decide) dX1_wraps_5 ?_
  refine lv_if_eq (tgt := 13) hx hb dX1_wraps_6 (by decide) (fun c1 => ?_) (fun c1 => ?_)
  · replace h := h.1 c1
    refine lv_iconst (v := 0) hx hb dX1_wraps_13 (by decide) ?_
    exact fx_zret C hH (by decide) h dX1_wraps_14
  · replace h := h.2 c1
    refine lv_iconst (v := 1) hx hb dX1_wraps_9 (by decide) ?_
    refine lv_goto (tgt := 14) hx hb dX1_wraps_10 (by decide) ?_
    exact fx_zret C hH (by decide) h dX1_wraps_14
/-! FlexLayout$Container.clamp(II)I (1,) -/
def rm_X1_clamp_1 : Room := { frames := 0, cells := 0, slots := 0, locals := 0 }
def wb_X1_clamp_1_34 (Q : Int32 → fx_Mem → Prop) (x4 : Int32) (s0 : Int32) (M : fx_Mem) : Prop :=
  ((x4 ≤ s0 → Q s0 M) ∧ (¬ x4 ≤ s0 → Q x4 M))
set_option maxHeartbeats 4000000 in
set_option maxRecDepth 100000 in
theorem tb_X1_clamp_1_34 {g : fx_Geo} {p : Program} {l : Launch} {e : Env} {s : State} {m : MethodId} {args : Array Value} {below : List Frame} {meth : Method} {c : Code} (C : fx_Cx g p s m args meth c RX1 cX1_clamp 6 (some .int)) (Q : Int32 → fx_Mem → Prop) (x4 : Int32) (s0 : Int32) (M : fx_Mem) (h : wb_X1_clamp_1_34 Q x4 s0 M) (H : Heap) (locs : List Loc) (ls : Array Slot) (hH : fx_H g s M H locs) (hl : lv_has ls 6 [(4, .int x4)]) : W p l e rm_X1_clamp_1 s m args below meth c H locs 0 0 (MQ below (va_Qi Q (fx_Pw g) (fx_A g)) args s 0 0 (fx_A g)) (F0 m 34 ls [.int s0]) := by
  obtain ⟨hx, hb, hr, hml, hown, hts, hlocks, hsz, hK, hG, hSt⟩ := id C
  unfold wb_X1_clamp_1_34 at h
  refine lv_istore (lv' := [(5, .int s0), (4, .int x4)]) hx hb dX1_clamp_34 hl (by decide) rfl (fun ls hl => ?_)
  refine lv_iload hx hb dX1_clamp_36 (lv_at hl 0 rfl) ?_
  refine lv_iload hx hb dX1_clamp_38 (lv_at hl 1 rfl) ?_
  refine lv_icmp_ge (tgt := 48) hx hb dX1_clamp_40 (by decide) (fun c1 => ?_) (fun c1 => ?_)
  · replace h := h.1 c1
    refine lv_iload hx hb dX1_clamp_48 (lv_at hl 0 rfl) ?_
    exact fx_iret C hH h dX1_clamp_50
  · replace h := h.2 c1
    refine lv_iload hx hb dX1_clamp_43 (lv_at hl 1 rfl) ?_
    refine lv_goto (tgt := 50) hx hb dX1_clamp_45 (by decide) ?_
    exact fx_iret C hH h dX1_clamp_50
def wb_X1_clamp_1_33 (Q : Int32 → fx_Mem → Prop) (x2 : Int32) (x4 : Int32) (M : fx_Mem) : Prop :=
  wb_X1_clamp_1_34 Q x4 x2 M
set_option maxHeartbeats 4000000 in
set_option maxRecDepth 100000 in
theorem tb_X1_clamp_1_33 {g : fx_Geo} {p : Program} {l : Launch} {e : Env} {s : State} {m : MethodId} {args : Array Value} {below : List Frame} {meth : Method} {c : Code} (C : fx_Cx g p s m args meth c RX1 cX1_clamp 6 (some .int)) (Q : Int32 → fx_Mem → Prop) (x2 : Int32) (x4 : Int32) (M : fx_Mem) (h : wb_X1_clamp_1_33 Q x2 x4 M) (H : Heap) (locs : List Loc) (ls : Array Slot) (hH : fx_H g s M H locs) (hl : lv_has ls 6 [(2, .int x2), (4, .int x4)]) : W p l e rm_X1_clamp_1 s m args below meth c H locs 0 0 (MQ below (va_Qi Q (fx_Pw g) (fx_A g)) args s 0 0 (fx_A g)) (F0 m 33 ls []) := by
  obtain ⟨hx, hb, hr, hml, hown, hts, hlocks, hsz, hK, hG, hSt⟩ := id C
  unfold wb_X1_clamp_1_33 at h
  refine lv_iload_n hx hb dX1_clamp_33 rfl (lv_at hl 0 rfl) ?_
  exact tb_X1_clamp_1_34 C Q  x4 x2 M h  H locs ls hH (lv_sub hl [1] rfl)
def wp_X1_clamp_1 (a1 : Int32) (a2 : Int32) (M : fx_Mem) (Q : Int32 → fx_Mem → Prop) : Prop :=
  vp_in a1 20 ∧ ∀ v3 : Int32, v3 = M.2.1 (57 + a1.toNatClampNeg) 4 → vp_in a1 20 ∧ ∀ v6 : Int32, v6 = M.2.1 (57 + a1.toNatClampNeg) 3 → ((v3 = (-1) → wb_X1_clamp_1_33 Q a2 v6 M) ∧ (¬ v3 = (-1) → ((a2 ≤ v3 → wb_X1_clamp_1_33 Q a2 v6 M) ∧ (¬ a2 ≤ v3 → wb_X1_clamp_1_34 Q v6 v3 M))))
set_option maxHeartbeats 4000000 in
set_option maxRecDepth 100000 in
theorem c_X1_clamp_1 (l : Launch) {g : fx_Geo} (hG : fx_Gd g) (a1 : Int32) (a2 : Int32) (M : fx_Mem) (Q : Int32 → fx_Mem → Prop) (h : wp_X1_clamp_1 a1 a2 M Q) : Met l yX1_clamp (.code yX1_clamp cX1_clamp 6 (some .int) :: fx_U) rm_X1_clamp_1 (va_Pc [.ref (fx_a g 1), .int a1, .int a2] (fx_At g M)) (va_Qi Q (fx_Pw g) (fx_A g)) 0 0 (fx_A g) := by
  refine Met.ofW (cc := cX1_clamp) (maxL := 6) (ret := (some .int)) (by decide +kernel) rfl ?_
  intro p e s m args below meth c s₁ B hml hv
  obtain ⟨rfl, hv⟩ := hv
  have hts := atoms_spec (ws := .code yX1_clamp cX1_clamp 6 (some .int) :: fx_U) B.pre
  obtain ⟨C, hH⟩ := fx_body (own := RX1) B hml rfl (fun w hw => hts w (List.mem_cons_of_mem _ hw)) hG hv
  replace hts := fun w hw => hts w (List.mem_cons_of_mem _ hw)
  obtain ⟨hx, hb, hr, -, hown, -, hlocks, hsz, hK, -, hSt⟩ := id C
  have hl := lv_entry ([.ref (fx_a g 1), .int a1, .int a2]) (n := 6) (Nat.le_of_ble_eq_true rfl)
  rw [lg_entry_eq]
  generalize (lg_sl ([.ref (fx_a g 1), .int a1, .int a2]) ++ List.replicate (6 - (lg_sl ([.ref (fx_a g 1), .int a1, .int a2])).length) Slot.unset).toArray = ls at hl ⊢
  have hl : lv_has ls 6 [(0, .ref (fx_a g 1)), (1, .int a1), (2, .int a2)] := hl
  obtain ⟨H, eH⟩ : ∃ H : Heap, H = s.heap := ⟨_, rfl⟩
  obtain ⟨locs, elocs⟩ : ∃ q : List Loc, q = [] := ⟨_, rfl⟩
  rw [← eH, ← elocs] at hH
  show W p l e rm_X1_clamp_1 s m _ below meth c s.heap [] 0 0 _ _
  rw [← eH, ← elocs]
  unfold wp_X1_clamp_1 at h
  refine lv_aload_n hx hb dX1_clamp_0 rfl (lv_at hl 0 rfl) ?_
  refine fx_get C hH (fx_w1 g M) rfl in_X1 5 (by decide) u_55 rfl rfl dX1_clamp_1 ?_
  refine lv_iload_n hx hb dX1_clamp_4 rfl (lv_at hl 1 rfl) ?_
  obtain ⟨hi1, h⟩ := h
  have hj2 : a1.toNatClampNeg < 20 := Nat.not_le.mp fun q => hi1 (Or.inr q)
  refine fx_aald C hH 11 (fx_w11 g M) hi1 dX1_clamp_5 ?_
  refine lv_iconst (v := 4) hx hb dX1_clamp_6 (by decide) ?_
  refine fx_iald (j := 4) C hH (57 + a1.toNatClampNeg) (fx_r1 g M a1.toNatClampNeg hj2) (by decide) (by unfold vp_in; decide) dX1_clamp_7 ?_
  refine lv_topi (fun v3 ev3 => ?_)
  replace h := h v3 ev3
  refine lv_istore_n (lv' := [(3, .int v3), (0, .ref (fx_a g 1)), (1, .int a1), (2, .int a2)]) hx hb dX1_clamp_8 rfl hl (by decide) rfl (fun ls hl => ?_)
  refine lv_aload_n hx hb dX1_clamp_9 rfl (lv_at hl 1 rfl) ?_
  refine fx_get C hH (fx_w1 g M) rfl in_X1 5 (by decide) u_55 rfl rfl dX1_clamp_10 ?_
  refine lv_iload_n hx hb dX1_clamp_13 rfl (lv_at hl 2 rfl) ?_
  obtain ⟨hi4, h⟩ := h
  have hj5 : a1.toNatClampNeg < 20 := Nat.not_le.mp fun q => hi4 (Or.inr q)
  refine fx_aald C hH 11 (fx_w11 g M) hi4 dX1_clamp_14 ?_
  refine lv_iconst (v := 3) hx hb dX1_clamp_15 (by decide) ?_
  refine fx_iald (j := 3) C hH (57 + a1.toNatClampNeg) (fx_r1 g M a1.toNatClampNeg hj5) (by decide) (by unfold vp_in; decide) dX1_clamp_16 ?_
  refine lv_topi (fun v6 ev6 => ?_)
  replace h := h v6 ev6
  refine lv_istore (lv' := [(4, .int v6), (3, .int v3), (0, .ref (fx_a g 1)), (1, .int a1), (2, .int a2)]) hx hb dX1_clamp_17 hl (by decide) rfl (fun ls hl => ?_)
  refine lv_iload_n hx hb dX1_clamp_19 rfl (lv_at hl 1 rfl) ?_
  refine lv_iconst (v := -1) hx hb dX1_clamp_20 (by decide) ?_
  refine lv_icmp_eq (tgt := 33) hx hb dX1_clamp_21 (by decide) (fun c7 => ?_) (fun c7 => ?_)
  · replace h := h.1 c7
    exact tb_X1_clamp_1_33 C Q  a2 v6 M h  H locs ls hH (lv_sub hl [4, 0] rfl)
  · replace h := h.2 c7
    refine lv_iload_n hx hb dX1_clamp_24 rfl (lv_at hl 4 rfl) ?_
    refine lv_iload_n hx hb dX1_clamp_25 rfl (lv_at hl 1 rfl) ?_
    refine lv_icmp_le (tgt := 33) hx hb dX1_clamp_26 (by decide) (fun c8 => ?_) (fun c8 => ?_)
    · replace h := h.1 c8
      exact tb_X1_clamp_1_33 C Q  a2 v6 M h  H locs ls hH (lv_sub hl [4, 0] rfl)
    · replace h := h.2 c8
      refine lv_iload_n hx hb dX1_clamp_29 rfl (lv_at hl 1 rfl) ?_
      refine lv_goto (tgt := 34) hx hb dX1_clamp_30 (by decide) ?_
      exact tb_X1_clamp_1_34 C Q  v6 v3 M h  H locs ls hH (lv_sub hl [0] rfl)
/-! FlexLayout$Container.hypothetical(I)I (1,) -/
def rm_X1_hypothetical_1 : Room := { frames := 1, cells := 0, slots := 0, locals := 25 }
def wp_X1_hypothetical_1 (a1 : Int32) (M : fx_Mem) (Q : Int32 → fx_Mem → Prop) : Prop :=
  vp_in a1 20 ∧ wp_X1_clamp_1 a1 (M.2.1 (57 + a1.toNatClampNeg) 0) M (fun r4 M3 => Q r4 M3)
set_option maxHeartbeats 4000000 in
set_option maxRecDepth 100000 in
theorem c_X1_hypothetical_1 (l : Launch) {g : fx_Geo} (hG : fx_Gd g) (a1 : Int32) (M : fx_Mem) (Q : Int32 → fx_Mem → Prop) (h : wp_X1_hypothetical_1 a1 M Q) : Met l yX1_hypothetical (.code yX1_hypothetical cX1_hypothetical 2 (some .int) :: fx_U) rm_X1_hypothetical_1 (va_Pc [.ref (fx_a g 1), .int a1] (fx_At g M)) (va_Qi Q (fx_Pw g) (fx_A g)) 0 0 (fx_A g) := by
  refine Met.ofW (cc := cX1_hypothetical) (maxL := 2) (ret := (some .int)) (by decide +kernel) rfl ?_
  intro p e s m args below meth c s₁ B hml hv
  obtain ⟨rfl, hv⟩ := hv
  have hts := atoms_spec (ws := .code yX1_hypothetical cX1_hypothetical 2 (some .int) :: fx_U) B.pre
  obtain ⟨C, hH⟩ := fx_body (own := RX1) B hml rfl (fun w hw => hts w (List.mem_cons_of_mem _ hw)) hG hv
  replace hts := fun w hw => hts w (List.mem_cons_of_mem _ hw)
  obtain ⟨hx, hb, hr, -, hown, -, hlocks, hsz, hK, -, hSt⟩ := id C
  have hl := lv_entry ([.ref (fx_a g 1), .int a1]) (n := 2) (Nat.le_of_ble_eq_true rfl)
  rw [lg_entry_eq]
  generalize (lg_sl ([.ref (fx_a g 1), .int a1]) ++ List.replicate (2 - (lg_sl ([.ref (fx_a g 1), .int a1])).length) Slot.unset).toArray = ls at hl ⊢
  have hl : lv_has ls 2 [(0, .ref (fx_a g 1)), (1, .int a1)] := hl
  obtain ⟨H, eH⟩ : ∃ H : Heap, H = s.heap := ⟨_, rfl⟩
  obtain ⟨locs, elocs⟩ : ∃ q : List Loc, q = [] := ⟨_, rfl⟩
  rw [← eH, ← elocs] at hH
  show W p l e rm_X1_hypothetical_1 s m _ below meth c s.heap [] 0 0 _ _
  rw [← eH, ← elocs]
  unfold wp_X1_hypothetical_1 at h
  refine lv_aload_n hx hb dX1_hypothetical_0 rfl (lv_at hl 0 rfl) ?_
  refine lv_iload_n hx hb dX1_hypothetical_1 rfl (lv_at hl 1 rfl) ?_
  refine lv_aload_n hx hb dX1_hypothetical_2 rfl (lv_at hl 0 rfl) ?_
  refine fx_get C hH (fx_w1 g M) rfl in_X1 5 (by decide) u_55 rfl rfl dX1_hypothetical_3 ?_
  refine lv_iload_n hx hb dX1_hypothetical_6 rfl (lv_at hl 1 rfl) ?_
  obtain ⟨hi1, h⟩ := h
  have hj2 : a1.toNatClampNeg < 20 := Nat.not_le.mp fun q => hi1 (Or.inr q)
  refine fx_aald C hH 11 (fx_w11 g M) hi1 dX1_hypothetical_7 ?_
  refine lv_iconst (v := 0) hx hb dX1_hypothetical_8 (by decide) ?_
  refine fx_iald (j := 0) C hH (57 + a1.toNatClampNeg) (fx_r1 g M a1.toNatClampNeg hj2) (by decide) (by unfold vp_in; decide) dX1_hypothetical_9 ?_
  refine fx_ci hH (fx_runV (As := [.int a1, .int (M.2.1 (57 + a1.toNatClampNeg) 0)]) (rest := []) C hH (c_X1_clamp_1 l C.2.2.2.2.2.2.2.2.2.1 a1 (M.2.1 (57 + a1.toNatClampNeg) 0) M _ h) (fx_cwV 2 hts u_252 u_253 u_254 u_2 u_255 rfl rfl (by decide +kernel) ⟨(Nat.le_of_ble_eq_true rfl), (Nat.le_of_ble_eq_true rfl)⟩) (fx_w1 g M) rfl rfl hl.1 rfl (Nat.le_of_ble_eq_true rfl) dX1_hypothetical_10 ⟨(Nat.le_of_ble_eq_true rfl), (Nat.le_of_ble_eq_true rfl)⟩) (fun r4 M3 H locs h hH => ?_)
  exact fx_iret C hH h dX1_hypothetical_13
/-! FlexLayout$Arrangement.fillLines(LFlexLayout$Container;I)I (5, 1) -/
def rm_X0_fillLines_5_1 : Room := { frames := 2, cells := 0, slots := 0, locals := 46 }
def wb_X0_fillLines_5_1_75 (k8 : Int32 → Int32 → Int32 → Int32 → fx_Mem → Prop) (k81 : Int32 → fx_Mem → Prop) (Q : Int32 → fx_Mem → Prop) (x2 : Int32) (x3 : Int32) (x4 : Int32) (x5 : Int32) (M : fx_Mem) : Prop :=
  ∀ v1 : Int32, v1 = x5 + 1 → k8 x2 x3 x4 v1 M
set_option maxHeartbeats 4000000 in
set_option maxRecDepth 100000 in
theorem tb_X0_fillLines_5_1_75 {g : fx_Geo} {p : Program} {l : Launch} {e : Env} {s : State} {m : MethodId} {args : Array Value} {below : List Frame} {meth : Method} {c : Code} (C : fx_Cx g p s m args meth c RX0 cX0_fillLines 8 (some .int)) (k8 : Int32 → Int32 → Int32 → Int32 → fx_Mem → Prop) (k81 : Int32 → fx_Mem → Prop) (Q : Int32 → fx_Mem → Prop) (hk8 : ∀ (x2 : Int32) (x3 : Int32) (x4 : Int32) (x5 : Int32) (M : fx_Mem), k8 x2 x3 x4 x5 M → ∀ (H : Heap) (locs : List Loc) (ls : Array Slot), fx_H g s M H locs → lv_has ls 8 [(0, .ref (fx_a g 5)), (1, .ref (fx_a g 1)), (2, .int x2), (3, .int x3), (4, .int x4), (5, .int x5)] → W p l e rm_X0_fillLines_5_1 s m args below meth c H locs 0 0 (MQ below (va_Qi Q (fx_Pw g) (fx_A g)) args s 0 0 (fx_A g)) (F0 m 8 ls [])) (hk81 : ∀ (x3 : Int32) (M : fx_Mem), k81 x3 M → ∀ (H : Heap) (locs : List Loc) (ls : Array Slot), fx_H g s M H locs → lv_has ls 8 [(0, .ref (fx_a g 5)), (1, .ref (fx_a g 1)), (3, .int x3)] → W p l e rm_X0_fillLines_5_1 s m args below meth c H locs 0 0 (MQ below (va_Qi Q (fx_Pw g) (fx_A g)) args s 0 0 (fx_A g)) (F0 m 81 ls [])) (x2 : Int32) (x3 : Int32) (x4 : Int32) (x5 : Int32) (M : fx_Mem) (h : wb_X0_fillLines_5_1_75 k8 k81 Q x2 x3 x4 x5 M) (H : Heap) (locs : List Loc) (ls : Array Slot) (hH : fx_H g s M H locs) (hl : lv_has ls 8 [(0, .ref (fx_a g 5)), (1, .ref (fx_a g 1)), (2, .int x2), (3, .int x3), (4, .int x4), (5, .int x5)]) : W p l e rm_X0_fillLines_5_1 s m args below meth c H locs 0 0 (MQ below (va_Qi Q (fx_Pw g) (fx_A g)) args s 0 0 (fx_A g)) (F0 m 75 ls []) := by
  obtain ⟨hx, hb, hr, hml, hown, hts, hlocks, hsz, hK, hG, hSt⟩ := id C
  unfold wb_X0_fillLines_5_1_75 at h
  obtain ⟨v1, ev1⟩ : ∃ z : Int32, z = x5 + 1 := ⟨_, rfl⟩
  refine lv_iinc (v := v1) (lv' := [(5, .int v1), (0, .ref (fx_a g 5)), (1, .ref (fx_a g 1)), (2, .int x2), (3, .int x3), (4, .int x4)]) hx hb dX0_fillLines_75 hl (k := 5) rfl (by rw [ev1]; rfl) (by decide) rfl (fun ls hl => ?_)
  replace h := h v1 ev1
  refine lv_goto (tgt := 8) hx hb dX0_fillLines_78 (by decide) ?_
  exact hk8 x2 x3 x4 v1 M h  H locs ls hH (lv_sub hl [1, 2, 3, 4, 5, 0] rfl)
def wb_X0_fillLines_5_1_53 (k8 : Int32 → Int32 → Int32 → Int32 → fx_Mem → Prop) (k81 : Int32 → fx_Mem → Prop) (Q : Int32 → fx_Mem → Prop) (x2 : Int32) (x3 : Int32) (x5 : Int32) (x6 : Int32) (M : fx_Mem) : Prop :=
  vp_in x3 21 ∧ ∀ M2 : fx_Mem, M2 = fx_sa M 19 x3.toNatClampNeg x5 → ∀ v3 : Int32, v3 = x3 + 1 → wb_X0_fillLines_5_1_75 k8 k81 Q x2 v3 x6 x5 M2
set_option maxHeartbeats 4000000 in
set_option maxRecDepth 100000 in
theorem tb_X0_fillLines_5_1_53 {g : fx_Geo} {p : Program} {l : Launch} {e : Env} {s : State} {m : MethodId} {args : Array Value} {below : List Frame} {meth : Method} {c : Code} (C : fx_Cx g p s m args meth c RX0 cX0_fillLines 8 (some .int)) (k8 : Int32 → Int32 → Int32 → Int32 → fx_Mem → Prop) (k81 : Int32 → fx_Mem → Prop) (Q : Int32 → fx_Mem → Prop) (hk8 : ∀ (x2 : Int32) (x3 : Int32) (x4 : Int32) (x5 : Int32) (M : fx_Mem), k8 x2 x3 x4 x5 M → ∀ (H : Heap) (locs : List Loc) (ls : Array Slot), fx_H g s M H locs → lv_has ls 8 [(0, .ref (fx_a g 5)), (1, .ref (fx_a g 1)), (2, .int x2), (3, .int x3), (4, .int x4), (5, .int x5)] → W p l e rm_X0_fillLines_5_1 s m args below meth c H locs 0 0 (MQ below (va_Qi Q (fx_Pw g) (fx_A g)) args s 0 0 (fx_A g)) (F0 m 8 ls [])) (hk81 : ∀ (x3 : Int32) (M : fx_Mem), k81 x3 M → ∀ (H : Heap) (locs : List Loc) (ls : Array Slot), fx_H g s M H locs → lv_has ls 8 [(0, .ref (fx_a g 5)), (1, .ref (fx_a g 1)), (3, .int x3)] → W p l e rm_X0_fillLines_5_1 s m args below meth c H locs 0 0 (MQ below (va_Qi Q (fx_Pw g) (fx_A g)) args s 0 0 (fx_A g)) (F0 m 81 ls [])) (x2 : Int32) (x3 : Int32) (x5 : Int32) (x6 : Int32) (M : fx_Mem) (h : wb_X0_fillLines_5_1_53 k8 k81 Q x2 x3 x5 x6 M) (H : Heap) (locs : List Loc) (ls : Array Slot) (hH : fx_H g s M H locs) (hl : lv_has ls 8 [(0, .ref (fx_a g 5)), (1, .ref (fx_a g 1)), (2, .int x2), (3, .int x3), (5, .int x5), (6, .int x6)]) : W p l e rm_X0_fillLines_5_1 s m args below meth c H locs 0 0 (MQ below (va_Qi Q (fx_Pw g) (fx_A g)) args s 0 0 (fx_A g)) (F0 m 53 ls []) := by
  obtain ⟨hx, hb, hr, hml, hown, hts, hlocks, hsz, hK, hG, hSt⟩ := id C
  unfold wb_X0_fillLines_5_1_53 at h
  refine lv_aload_n hx hb dX0_fillLines_53 rfl (lv_at hl 0 rfl) ?_
  refine fx_get C hH (fx_w5 g M) rfl in_X0 1 (by decide) u_128 rfl rfl dX0_fillLines_54 ?_
  refine lv_iload_n hx hb dX0_fillLines_57 rfl (lv_at hl 3 rfl) ?_
  refine lv_iload hx hb dX0_fillLines_58 (lv_at hl 4 rfl) ?_
  obtain ⟨hi1, h⟩ := h
  refine fx_iast (j := x3.toNatClampNeg) (M' := fx_sa M 19 x3.toNatClampNeg x5) C hH 19 rfl (fx_w19 g M) (fx_p19 g M _) hi1 dX0_fillLines_60 (fun H locs hH => ?_)
  generalize eM2 : fx_sa M 19 x3.toNatClampNeg x5 = M2 at hH
  replace h := h M2 eM2.symm
  obtain ⟨v3, ev3⟩ : ∃ z : Int32, z = x3 + 1 := ⟨_, rfl⟩
  refine lv_iinc (v := v3) (lv' := [(3, .int v3), (0, .ref (fx_a g 5)), (1, .ref (fx_a g 1)), (2, .int x2), (5, .int x5), (6, .int x6)]) hx hb dX0_fillLines_61 hl (k := 3) rfl (by rw [ev3]; rfl) (by decide) rfl (fun ls hl => ?_)
  replace h := h v3 ev3
  refine lv_iload hx hb dX0_fillLines_64 (lv_at hl 5 rfl) ?_
  refine lv_istore (lv' := [(4, .int x6), (3, .int v3), (0, .ref (fx_a g 5)), (1, .ref (fx_a g 1)), (2, .int x2), (5, .int x5), (6, .int x6)]) hx hb dX0_fillLines_66 hl (by decide) rfl (fun ls hl => ?_)
  refine lv_goto (tgt := 75) hx hb dX0_fillLines_68 (by decide) ?_
  exact tb_X0_fillLines_5_1_75 C k8 k81 Q hk8 hk81 x2 v3 x6 x5 M2 h  H locs ls hH (lv_sub hl [2, 3, 4, 1, 0, 5] rfl)
def wb_X0_fillLines_5_1_8 (k8 : Int32 → Int32 → Int32 → Int32 → fx_Mem → Prop) (k81 : Int32 → fx_Mem → Prop) (Q : Int32 → fx_Mem → Prop) (x2 : Int32) (x3 : Int32) (x4 : Int32) (x5 : Int32) (M : fx_Mem) : Prop :=
  ((M.1 70 ≤ x5 → k81 x3 M) ∧ (¬ M.1 70 ≤ x5 → vp_in x5 20 ∧ wp_X1_hypothetical_1 (M.2.1 18 x5.toNatClampNeg) M (fun r4 M3 => ∀ v5 : Int32, v5 = (x4 + (M3.1 66)) + r4 → ((x5 = 0 → wb_X0_fillLines_5_1_53 k8 k81 Q x2 x3 x5 r4 M3) ∧ (¬ x5 = 0 → ((v5 ≤ x2 → wb_X0_fillLines_5_1_75 k8 k81 Q x2 x3 v5 x5 M3) ∧ (¬ v5 ≤ x2 → wb_X0_fillLines_5_1_53 k8 k81 Q x2 x3 x5 r4 M3)))))))
set_option maxHeartbeats 4000000 in
set_option maxRecDepth 100000 in
theorem tb_X0_fillLines_5_1_8 {g : fx_Geo} {p : Program} {l : Launch} {e : Env} {s : State} {m : MethodId} {args : Array Value} {below : List Frame} {meth : Method} {c : Code} (C : fx_Cx g p s m args meth c RX0 cX0_fillLines 8 (some .int)) (k8 : Int32 → Int32 → Int32 → Int32 → fx_Mem → Prop) (k81 : Int32 → fx_Mem → Prop) (Q : Int32 → fx_Mem → Prop) (hk8 : ∀ (x2 : Int32) (x3 : Int32) (x4 : Int32) (x5 : Int32) (M : fx_Mem), k8 x2 x3 x4 x5 M → ∀ (H : Heap) (locs : List Loc) (ls : Array Slot), fx_H g s M H locs → lv_has ls 8 [(0, .ref (fx_a g 5)), (1, .ref (fx_a g 1)), (2, .int x2), (3, .int x3), (4, .int x4), (5, .int x5)] → W p l e rm_X0_fillLines_5_1 s m args below meth c H locs 0 0 (MQ below (va_Qi Q (fx_Pw g) (fx_A g)) args s 0 0 (fx_A g)) (F0 m 8 ls [])) (hk81 : ∀ (x3 : Int32) (M : fx_Mem), k81 x3 M → ∀ (H : Heap) (locs : List Loc) (ls : Array Slot), fx_H g s M H locs → lv_has ls 8 [(0, .ref (fx_a g 5)), (1, .ref (fx_a g 1)), (3, .int x3)] → W p l e rm_X0_fillLines_5_1 s m args below meth c H locs 0 0 (MQ below (va_Qi Q (fx_Pw g) (fx_A g)) args s 0 0 (fx_A g)) (F0 m 81 ls [])) (x2 : Int32) (x3 : Int32) (x4 : Int32) (x5 : Int32) (M : fx_Mem) (h : wb_X0_fillLines_5_1_8 k8 k81 Q x2 x3 x4 x5 M) (H : Heap) (locs : List Loc) (ls : Array Slot) (hH : fx_H g s M H locs) (hl : lv_has ls 8 [(0, .ref (fx_a g 5)), (1, .ref (fx_a g 1)), (2, .int x2), (3, .int x3), (4, .int x4), (5, .int x5)]) : W p l e rm_X0_fillLines_5_1 s m args below meth c H locs 0 0 (MQ below (va_Qi Q (fx_Pw g) (fx_A g)) args s 0 0 (fx_A g)) (F0 m 8 ls []) := by
  obtain ⟨hx, hb, hr, hml, hown, hts, hlocks, hsz, hK, hG, hSt⟩ := id C
  unfold wb_X0_fillLines_5_1_8 at h
  refine lv_iload hx hb dX0_fillLines_8 (lv_at hl 5 rfl) ?_
  refine lv_aload_n hx hb dX0_fillLines_10 rfl (lv_at hl 1 rfl) ?_
  refine fx_get C hH (fx_w1 g M) rfl in_X1 6 (by decide) u_61 rfl rfl dX0_fillLines_11 ?_
  refine lv_icmp_ge (tgt := 81) hx hb dX0_fillLines_14 (by decide) (fun c1 => ?_) (fun c1 => ?_)
  · replace h := h.1 c1
    exact hk81 x3 M h  H locs ls hH (lv_sub hl [0, 1, 3] rfl)
  · replace h := h.2 c1
    refine lv_aload_n hx hb dX0_fillLines_17 rfl (lv_at hl 1 rfl) ?_
    refine lv_aload_n hx hb dX0_fillLines_18 rfl (lv_at hl 0 rfl) ?_
    refine fx_get C hH (fx_w5 g M) rfl in_X0 0 (by decide) u_124 rfl rfl dX0_fillLines_19 ?_
    refine lv_iload hx hb dX0_fillLines_22 (lv_at hl 5 rfl) ?_
    obtain ⟨hi2, h⟩ := h
    refine fx_iald (j := x5.toNatClampNeg) C hH 18 (fx_w18 g M) rfl hi2 dX0_fillLines_24 ?_
    refine fx_ci hH (fx_runV (As := [.int (M.2.1 18 x5.toNatClampNeg)]) (rest := []) C hH (c_X1_hypothetical_1 l C.2.2.2.2.2.2.2.2.2.1 (M.2.1 18 x5.toNatClampNeg) M _ h) (fx_cwV 1 hts u_248 u_249 u_250 u_2 u_251 rfl rfl (by decide +kernel) ⟨(Nat.le_of_ble_eq_true rfl), (Nat.le_of_ble_eq_true rfl)⟩) (fx_w1 g M) rfl rfl hl.1 rfl (Nat.le_of_ble_eq_true rfl) dX0_fillLines_25 ⟨(Nat.le_of_ble_eq_true rfl), (Nat.le_of_ble_eq_true rfl)⟩) (fun r4 M3 H locs h hH => ?_)
    refine lv_istore (lv' := [(6, .int r4), (0, .ref (fx_a g 5)), (1, .ref (fx_a g 1)), (2, .int x2), (3, .int x3), (4, .int x4), (5, .int x5)]) hx hb dX0_fillLines_28 hl (by decide) rfl (fun ls hl => ?_)
    refine lv_iload hx hb dX0_fillLines_30 (lv_at hl 5 rfl) ?_
    refine lv_aload_n hx hb dX0_fillLines_32 rfl (lv_at hl 2 rfl) ?_
    refine fx_get C hH (fx_w1 g M3) rfl in_X1 2 (by decide) u_45 rfl rfl dX0_fillLines_33 ?_
    refine lv_iadd hx hb dX0_fillLines_36 ?_
    refine lv_iload hx hb dX0_fillLines_37 (lv_at hl 0 rfl) ?_
    refine lv_iadd hx hb dX0_fillLines_39 ?_
    refine lv_topi (fun v5 ev5 => ?_)
    replace h := h v5 ev5
    refine lv_istore (lv' := [(7, .int v5), (6, .int r4), (0, .ref (fx_a g 5)), (1, .ref (fx_a g 1)), (2, .int x2), (3, .int x3), (4, .int x4), (5, .int x5)]) hx hb dX0_fillLines_40 hl (by decide) rfl (fun ls hl => ?_)
    refine lv_iload hx hb dX0_fillLines_42 (lv_at hl 7 rfl) ?_
    refine lv_if_eq (tgt := 53) hx hb dX0_fillLines_44 (by decide) (fun c6 => ?_) (fun c6 => ?_)
    · replace h := h.1 c6
      exact tb_X0_fillLines_5_1_53 C k8 k81 Q hk8 hk81 x2 x3 x5 r4 M3 h  H locs ls hH (lv_sub hl [2, 3, 4, 5, 7, 1] rfl)
    · replace h := h.2 c6
      refine lv_iload hx hb dX0_fillLines_47 (lv_at hl 0 rfl) ?_
      refine lv_iload_n hx hb dX0_fillLines_49 rfl (lv_at hl 4 rfl) ?_
      refine lv_icmp_le (tgt := 71) hx hb dX0_fillLines_50 (by decide) (fun c7 => ?_) (fun c7 => ?_)
      · replace h := h.1 c7
        refine lv_iload hx hb dX0_fillLines_71 (lv_at hl 0 rfl) ?_
        refine lv_istore (lv' := [(4, .int v5), (7, .int v5), (6, .int r4), (0, .ref (fx_a g 5)), (1, .ref (fx_a g 1)), (2, .int x2), (3, .int x3), (5, .int x5)]) hx hb dX0_fillLines_73 hl (by decide) rfl (fun ls hl => ?_)
        exact tb_X0_fillLines_5_1_75 C k8 k81 Q hk8 hk81 x2 x3 v5 x5 M3 h  H locs ls hH (lv_sub hl [3, 4, 5, 6, 0, 7] rfl)
      · replace h := h.2 c7
        exact tb_X0_fillLines_5_1_53 C k8 k81 Q hk8 hk81 x2 x3 x5 r4 M3 h  H locs ls hH (lv_sub hl [2, 3, 4, 5, 7, 1] rfl)
def wl_X0_fillLines_5_1_8 (k81 : Int32 → fx_Mem → Prop) (Q : Int32 → fx_Mem → Prop) (n : Nat) (x2 : Int32) (x3 : Int32) (x4 : Int32) (x5 : Int32) (M : fx_Mem) : Prop :=
  fx_lp (α := Int32 × Int32 × Int32 × Int32 × fx_Mem) (fun k a => wb_X0_fillLines_5_1_8 (fun x2 x3 x4 x5 M => k (x2, x3, x4, x5, M)) k81 Q a.1 a.2.1 a.2.2.1 a.2.2.2.1 a.2.2.2.2) n (x2, x3, x4, x5, M)
set_option maxHeartbeats 4000000 in
theorem tl_X0_fillLines_5_1_8 {g : fx_Geo} {p : Program} {l : Launch} {e : Env} {s : State} {m : MethodId} {args : Array Value} {below : List Frame} {meth : Method} {c : Code} (C : fx_Cx g p s m args meth c RX0 cX0_fillLines 8 (some .int)) (k81 : Int32 → fx_Mem → Prop) (Q : Int32 → fx_Mem → Prop) (hk81 : ∀ (x3 : Int32) (M : fx_Mem), k81 x3 M → ∀ (H : Heap) (locs : List Loc) (ls : Array Slot), fx_H g s M H locs → lv_has ls 8 [(0, .ref (fx_a g 5)), (1, .ref (fx_a g 1)), (3, .int x3)] → W p l e rm_X0_fillLines_5_1 s m args below meth c H locs 0 0 (MQ below (va_Qi Q (fx_Pw g) (fx_A g)) args s 0 0 (fx_A g)) (F0 m 81 ls [])) : ∀ (n : Nat) (x2 : Int32) (x3 : Int32) (x4 : Int32) (x5 : Int32) (M : fx_Mem), wl_X0_fillLines_5_1_8 k81 Q n x2 x3 x4 x5 M → ∀ (H : Heap) (locs : List Loc) (ls : Array Slot), fx_H g s M H locs → lv_has ls 8 [(0, .ref (fx_a g 5)), (1, .ref (fx_a g 1)), (2, .int x2), (3, .int x3), (4, .int x4), (5, .int x5)] → W p l e rm_X0_fillLines_5_1 s m args below meth c H locs 0 0 (MQ below (va_Qi Q (fx_Pw g) (fx_A g)) args s 0 0 (fx_A g)) (F0 m 8 ls []) := by
  intro n
  induction n with
  | zero => intro x2 x3 x4 x5 M h; exact False.elim h
  | succ n ih => intro x2 x3 x4 x5 M h  H locs ls hH hl; exact tb_X0_fillLines_5_1_8 C (wl_X0_fillLines_5_1_8 k81 Q n) k81 Q ih hk81 x2 x3 x4 x5 M h  H locs ls hH hl
def wb_X0_fillLines_5_1_81 (Q : Int32 → fx_Mem → Prop) (x3 : Int32) (M : fx_Mem) : Prop :=
  vp_in x3 21 ∧ ∀ M2 : fx_Mem, M2 = fx_sa M 19 x3.toNatClampNeg (M.1 70) → Q x3 M2
set_option maxHeartbeats 4000000 in
set_option maxRecDepth 100000 in
theorem tb_X0_fillLines_5_1_81 {g : fx_Geo} {p : Program} {l : Launch} {e : Env} {s : State} {m : MethodId} {args : Array Value} {below : List Frame} {meth : Method} {c : Code} (C : fx_Cx g p s m args meth c RX0 cX0_fillLines 8 (some .int)) (Q : Int32 → fx_Mem → Prop) (x3 : Int32) (M : fx_Mem) (h : wb_X0_fillLines_5_1_81 Q x3 M) (H : Heap) (locs : List Loc) (ls : Array Slot) (hH : fx_H g s M H locs) (hl : lv_has ls 8 [(0, .ref (fx_a g 5)), (1, .ref (fx_a g 1)), (3, .int x3)]) : W p l e rm_X0_fillLines_5_1 s m args below meth c H locs 0 0 (MQ below (va_Qi Q (fx_Pw g) (fx_A g)) args s 0 0 (fx_A g)) (F0 m 81 ls []) := by
  obtain ⟨hx, hb, hr, hml, hown, hts, hlocks, hsz, hK, hG, hSt⟩ := id C
  unfold wb_X0_fillLines_5_1_81 at h
  refine lv_aload_n hx hb dX0_fillLines_81 rfl (lv_at hl 0 rfl) ?_
  refine fx_get C hH (fx_w5 g M) rfl in_X0 1 (by decide) u_128 rfl rfl dX0_fillLines_82 ?_
  refine lv_iload_n hx hb dX0_fillLines_85 rfl (lv_at hl 2 rfl) ?_
  refine lv_aload_n hx hb dX0_fillLines_86 rfl (lv_at hl 1 rfl) ?_
  refine fx_get C hH (fx_w1 g M) rfl in_X1 6 (by decide) u_61 rfl rfl dX0_fillLines_87 ?_
  obtain ⟨hi1, h⟩ := h
  refine fx_iast (j := x3.toNatClampNeg) (M' := fx_sa M 19 x3.toNatClampNeg (M.1 70)) C hH 19 rfl (fx_w19 g M) (fx_p19 g M _) hi1 dX0_fillLines_90 (fun H locs hH => ?_)
  generalize eM2 : fx_sa M 19 x3.toNatClampNeg (M.1 70) = M2 at hH
  replace h := h M2 eM2.symm
  refine lv_iload_n hx hb dX0_fillLines_91 rfl (lv_at hl 2 rfl) ?_
  exact fx_iret C hH h dX0_fillLines_92
def wp_X0_fillLines_5_1 (a2 : Int32) (M : fx_Mem) (Q : Int32 → fx_Mem → Prop) : Prop :=
  ∃ n8 : Nat, wl_X0_fillLines_5_1_8 (wb_X0_fillLines_5_1_81 Q) Q n8 a2 0 0 0 M
set_option maxHeartbeats 4000000 in
set_option maxRecDepth 100000 in
theorem c_X0_fillLines_5_1 (l : Launch) {g : fx_Geo} (hG : fx_Gd g) (a2 : Int32) (M : fx_Mem) (Q : Int32 → fx_Mem → Prop) (h : wp_X0_fillLines_5_1 a2 M Q) : Met l yX0_fillLines (.code yX0_fillLines cX0_fillLines 8 (some .int) :: fx_U) rm_X0_fillLines_5_1 (va_Pc [.ref (fx_a g 5), .ref (fx_a g 1), .int a2] (fx_At g M)) (va_Qi Q (fx_Pw g) (fx_A g)) 0 0 (fx_A g) := by
  refine Met.ofW (cc := cX0_fillLines) (maxL := 8) (ret := (some .int)) (by decide +kernel) rfl ?_
  intro p e s m args below meth c s₁ B hml hv
  obtain ⟨rfl, hv⟩ := hv
  have hts := atoms_spec (ws := .code yX0_fillLines cX0_fillLines 8 (some .int) :: fx_U) B.pre
  obtain ⟨C, hH⟩ := fx_body (own := RX0) B hml rfl (fun w hw => hts w (List.mem_cons_of_mem _ hw)) hG hv
  replace hts := fun w hw => hts w (List.mem_cons_of_mem _ hw)
  obtain ⟨hx, hb, hr, -, hown, -, hlocks, hsz, hK, -, hSt⟩ := id C
  have hl := lv_entry ([.ref (fx_a g 5), .ref (fx_a g 1), .int a2]) (n := 8) (Nat.le_of_ble_eq_true rfl)
  rw [lg_entry_eq]
  generalize (lg_sl ([.ref (fx_a g 5), .ref (fx_a g 1), .int a2]) ++ List.replicate (8 - (lg_sl ([.ref (fx_a g 5), .ref (fx_a g 1), .int a2])).length) Slot.unset).toArray = ls at hl ⊢
  have hl : lv_has ls 8 [(0, .ref (fx_a g 5)), (1, .ref (fx_a g 1)), (2, .int a2)] := hl
  obtain ⟨H, eH⟩ : ∃ H : Heap, H = s.heap := ⟨_, rfl⟩
  obtain ⟨locs, elocs⟩ : ∃ q : List Loc, q = [] := ⟨_, rfl⟩
  rw [← eH, ← elocs] at hH
  show W p l e rm_X0_fillLines_5_1 s m _ below meth c s.heap [] 0 0 _ _
  rw [← eH, ← elocs]
  unfold wp_X0_fillLines_5_1 at h
  refine lv_iconst (v := 0) hx hb dX0_fillLines_0 (by decide) ?_
  refine lv_istore_n (lv' := [(3, .int 0), (0, .ref (fx_a g 5)), (1, .ref (fx_a g 1)), (2, .int a2)]) hx hb dX0_fillLines_1 rfl hl (by decide) rfl (fun ls hl => ?_)
  refine lv_iconst (v := 0) hx hb dX0_fillLines_2 (by decide) ?_
  refine lv_istore (lv' := [(4, .int 0), (3, .int 0), (0, .ref (fx_a g 5)), (1, .ref (fx_a g 1)), (2, .int a2)]) hx hb dX0_fillLines_3 hl (by decide) rfl (fun ls hl => ?_)
  refine lv_iconst (v := 0) hx hb dX0_fillLines_5 (by decide) ?_
  refine lv_istore (lv' := [(5, .int 0), (4, .int 0), (3, .int 0), (0, .ref (fx_a g 5)), (1, .ref (fx_a g 1)), (2, .int a2)]) hx hb dX0_fillLines_6 hl (by decide) rfl (fun ls hl => ?_)
  obtain ⟨n8, h⟩ := h
  exact tl_X0_fillLines_5_1_8 C (wb_X0_fillLines_5_1_81 Q) Q (tb_X0_fillLines_5_1_81 C Q ) n8 a2 0 0 0 M h  H locs ls hH (lv_sub hl [3, 4, 5, 2, 1, 0] rfl)
