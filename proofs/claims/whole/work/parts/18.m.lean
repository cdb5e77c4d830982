/-! FlexLayout.narrowest(I)I (0,) -/
def rm_X6_narrowest_0 : Room := { frames := 6, cells := 1, slots := 6, locals := 90 }
def wb_X6_narrowest_0_115 (k68 : Int32 → Int32 → Int32 → Int32 → fx_Mem → Prop) (Q : Int32 → fx_Mem → Prop) (X : String → fx_Mem → Prop) (x1 : Int32) (x2 : Int32) (x3 : Int32) (x4 : Int32) (M : fx_Mem) : Prop :=
  ∀ v1 : Int32, v1 = x4 + 1 → k68 x1 x2 x3 v1 M
set_option maxHeartbeats 4000000 in
set_option maxRecDepth 100000 in
theorem tb_X6_narrowest_0_115 {g : fx_Geo} {p : Program} {l : Launch} {e : Env} {s : State} {m : MethodId} {args : Array Value} {below : List Frame} {meth : Method} {c : Code} (C : fx_Cx g p s m args meth c RX6 cX6_narrowest 6 (some .int)) (hfl : fx_fl l c) (k68 : Int32 → Int32 → Int32 → Int32 → fx_Mem → Prop) (Q : Int32 → fx_Mem → Prop) (X : String → fx_Mem → Prop) (hk68 : ∀ (x1 : Int32) (x2 : Int32) (x3 : Int32) (x4 : Int32) (M : fx_Mem), k68 x1 x2 x3 x4 M → ∀ (H : Heap) (locs : List Loc) (ls : Array Slot), fx_H g s M H locs → lv_has ls 6 [(0, .ref (fx_a g 0)), (1, .int x1), (2, .int x2), (3, .int x3), (4, .int x4)] → W p l e rm_X6_narrowest_0 s m args below meth c H locs 0 0 (vx_MQ below (va_Qi Q (fx_Pw g) (fx_A g)) (fx_XC g X) args s 1 6 (fx_A g)) (F0 m 68 ls [])) (x1 : Int32) (x2 : Int32) (x3 : Int32) (x4 : Int32) (M : fx_Mem) (h : wb_X6_narrowest_0_115 k68 Q X x1 x2 x3 x4 M) (H : Heap) (locs : List Loc) (ls : Array Slot) (hH : fx_H g s M H locs) (hl : lv_has ls 6 [(0, .ref (fx_a g 0)), (1, .int x1), (2, .int x2), (3, .int x3), (4, .int x4)]) : W p l e rm_X6_narrowest_0 s m args below meth c H locs 0 0 (vx_MQ below (va_Qi Q (fx_Pw g) (fx_A g)) (fx_XC g X) args s 1 6 (fx_A g)) (F0 m 115 ls []) := by
  obtain ⟨hx, hb, hr, hml, hown, hts, hlocks, hsz, hK, hG, hSt⟩ := id C
  unfold wb_X6_narrowest_0_115 at h
  obtain ⟨v1, ev1⟩ : ∃ z : Int32, z = x4 + 1 := ⟨_, rfl⟩
  refine lv_iinc (v := v1) (lv' := [(4, .int v1), (0, .ref (fx_a g 0)), (1, .int x1), (2, .int x2), (3, .int x3)]) hx hb dX6_narrowest_115 hl (k := 4) rfl (by rw [ev1]; rfl) (by decide) rfl (fun ls hl => ?_)
  replace h := h v1 ev1
  refine lv_goto (tgt := 68) hx hb dX6_narrowest_118 (by decide) ?_
  exact hk68 x1 x2 x3 v1 M h  H locs ls hH (lv_sub hl [1, 2, 3, 4, 0] rfl)
def wb_X6_narrowest_0_68 (k68 : Int32 → Int32 → Int32 → Int32 → fx_Mem → Prop) (Q : Int32 → fx_Mem → Prop) (X : String → fx_Mem → Prop) (x1 : Int32) (x2 : Int32) (x3 : Int32) (x4 : Int32) (M : fx_Mem) : Prop :=
  ((14 ≤ x4 → Q x2 M) ∧ (¬ 14 ≤ x4 → ((x3 ≤ x2 → Q x2 M) ∧ (¬ x3 ≤ x2 → ∀ v3 : Int32, v3 = (x2 + x3) / 2 → wp_X0_fillLines_5_1 v3 M (fun r5 M4 => ((r5 ≤ x1 → wb_X6_narrowest_0_115 k68 Q X x1 x2 v3 x4 M4) ∧ (¬ r5 ≤ x1 → ∀ v7 : Int32, v7 = v3 + 1 → wb_X6_narrowest_0_115 k68 Q X x1 v7 x3 x4 M4)))))))
set_option maxHeartbeats 4000000 in
set_option maxRecDepth 100000 in
theorem tb_X6_narrowest_0_68 {g : fx_Geo} {p : Program} {l : Launch} {e : Env} {s : State} {m : MethodId} {args : Array Value} {below : List Frame} {meth : Method} {c : Code} (C : fx_Cx g p s m args meth c RX6 cX6_narrowest 6 (some .int)) (hfl : fx_fl l c) (k68 : Int32 → Int32 → Int32 → Int32 → fx_Mem → Prop) (Q : Int32 → fx_Mem → Prop) (X : String → fx_Mem → Prop) (hk68 : ∀ (x1 : Int32) (x2 : Int32) (x3 : Int32) (x4 : Int32) (M : fx_Mem), k68 x1 x2 x3 x4 M → ∀ (H : Heap) (locs : List Loc) (ls : Array Slot), fx_H g s M H locs → lv_has ls 6 [(0, .ref (fx_a g 0)), (1, .int x1), (2, .int x2), (3, .int x3), (4, .int x4)] → W p l e rm_X6_narrowest_0 s m args below meth c H locs 0 0 (vx_MQ below (va_Qi Q (fx_Pw g) (fx_A g)) (fx_XC g X) args s 1 6 (fx_A g)) (F0 m 68 ls [])) (x1 : Int32) (x2 : Int32) (x3 : Int32) (x4 : Int32) (M : fx_Mem) (h : wb_X6_narrowest_0_68 k68 Q X x1 x2 x3 x4 M) (H : Heap) (locs : List Loc) (ls : Array Slot) (hH : fx_H g s M H locs) (hl : lv_has ls 6 [(0, .ref (fx_a g 0)), (1, .int x1), (2, .int x2), (3, .int x3), (4, .int x4)]) : W p l e rm_X6_narrowest_0 s m args below meth c H locs 0 0 (vx_MQ below (va_Qi Q (fx_Pw g) (fx_A g)) (fx_XC g X) args s 1 6 (fx_A g)) (F0 m 68 ls []) := by
  obtain ⟨hx, hb, hr, hml, hown, hts, hlocks, hsz, hK, hG, hSt⟩ := id C
  unfold wb_X6_narrowest_0_68 at h
  refine lv_iload hx hb dX6_narrowest_68 (lv_at hl 4 rfl) ?_
  refine lv_bipush (v := 14) hx hb dX6_narrowest_70 (by decide) ?_
  refine lv_icmp_ge (tgt := 121) hx hb dX6_narrowest_72 (by decide) (fun c1 => ?_) (fun c1 => ?_)
  · replace h := h.1 c1
    refine lv_iload_n hx hb dX6_narrowest_121 rfl (lv_at hl 2 rfl) ?_
    refine vx_ret (W.widen (k := 1) (n := 6) (Nat.le_of_ble_eq_true rfl) (Nat.le_of_ble_eq_true rfl) ?_)
    exact fx_iret C hH h dX6_narrowest_122
  · replace h := h.2 c1
    refine lv_iload_n hx hb dX6_narrowest_75 rfl (lv_at hl 2 rfl) ?_
    refine lv_iload_n hx hb dX6_narrowest_76 rfl (lv_at hl 3 rfl) ?_
    refine lv_icmp_ge (tgt := 121) hx hb dX6_narrowest_77 (by decide) (fun c2 => ?_) (fun c2 => ?_)
    · replace h := h.1 c2
      refine lv_iload_n hx hb dX6_narrowest_121 rfl (lv_at hl 2 rfl) ?_
      refine vx_ret (W.widen (k := 1) (n := 6) (Nat.le_of_ble_eq_true rfl) (Nat.le_of_ble_eq_true rfl) ?_)
      exact fx_iret C hH h dX6_narrowest_122
    · replace h := h.2 c2
      refine lv_iload_n hx hb dX6_narrowest_80 rfl (lv_at hl 2 rfl) ?_
      refine lv_iload_n hx hb dX6_narrowest_81 rfl (lv_at hl 3 rfl) ?_
      refine lv_iadd hx hb dX6_narrowest_82 ?_
      refine lv_iconst (v := 2) hx hb dX6_narrowest_83 (by decide) ?_
      refine lv_idiv hx hb dX6_narrowest_84 (by decide) ?_
      refine lv_topi (fun v3 ev3 => ?_)
      replace h := h v3 ev3
      refine lv_istore (lv' := [(5, .int v3), (0, .ref (fx_a g 0)), (1, .int x1), (2, .int x2), (3, .int x3), (4, .int x4)]) hx hb dX6_narrowest_85 hl (by decide) rfl (fun ls hl => ?_)
      refine lv_aload_n hx hb dX6_narrowest_87 rfl (lv_at hl 1 rfl) ?_
      refine fx_get C hH (fx_w0 g M) rfl in_X6 5 (by decide) u_204 rfl rfl dX6_narrowest_88 ?_
      refine lv_aload_n hx hb dX6_narrowest_91 rfl (lv_at hl 1 rfl) ?_
      refine fx_get C hH (fx_w0 g M) rfl in_X6 0 (by decide) u_199 rfl rfl dX6_narrowest_92 ?_
      refine lv_iload hx hb dX6_narrowest_95 (lv_at hl 0 rfl) ?_
      refine fx_ci hH (fx_runV (As := [.ref (fx_a g 1), .int v3]) (rest := []) C hH (c_X0_fillLines_5_1 l C.2.2.2.2.2.2.2.2.2.1 v3 M _ h) (fx_cwV 2 hts u_776 u_245 u_246 u_5 u_247 rfl rfl (by decide +kernel) ⟨(Nat.le_of_ble_eq_true rfl), (Nat.le_of_ble_eq_true rfl)⟩) (fx_w5 g M) rfl rfl hl.1 rfl (Nat.le_of_ble_eq_true rfl) dX6_narrowest_97 ⟨(Nat.le_of_ble_eq_true rfl), (Nat.le_of_ble_eq_true rfl)⟩) (fun r5 M4 H locs h hH => ?_)
      refine lv_iload_n hx hb dX6_narrowest_100 rfl (lv_at hl 2 rfl) ?_
      refine lv_icmp_le (tgt := 112) hx hb dX6_narrowest_101 (by decide) (fun c6 => ?_) (fun c6 => ?_)
      · replace h := h.1 c6
        refine lv_iload hx hb dX6_narrowest_112 (lv_at hl 0 rfl) ?_
        refine lv_istore_n (lv' := [(3, .int v3), (5, .int v3), (0, .ref (fx_a g 0)), (1, .int x1), (2, .int x2), (4, .int x4)]) hx hb dX6_narrowest_114 rfl hl (by decide) rfl (fun ls hl => ?_)
        exact tb_X6_narrowest_0_115 C hfl k68 Q X hk68 x1 x2 v3 x4 M4 h  H locs ls hH (lv_sub hl [2, 3, 4, 0, 5] rfl)
      · replace h := h.2 c6
        refine lv_iload hx hb dX6_narrowest_104 (lv_at hl 0 rfl) ?_
        refine lv_iconst (v := 1) hx hb dX6_narrowest_106 (by decide) ?_
        refine lv_iadd hx hb dX6_narrowest_107 ?_
        refine lv_topi (fun v7 ev7 => ?_)
        replace h := h v7 ev7
        refine lv_istore_n (lv' := [(2, .int v7), (5, .int v3), (0, .ref (fx_a g 0)), (1, .int x1), (3, .int x3), (4, .int x4)]) hx hb dX6_narrowest_108 rfl hl (by decide) rfl (fun ls hl => ?_)
        refine lv_goto (tgt := 115) hx hb dX6_narrowest_109 (by decide) ?_
        exact tb_X6_narrowest_0_115 C hfl k68 Q X hk68 x1 v7 x3 x4 M4 h  H locs ls hH (lv_sub hl [2, 3, 0, 4, 5] rfl)
def wl_X6_narrowest_0_68 (Q : Int32 → fx_Mem → Prop) (X : String → fx_Mem → Prop) (n : Nat) (x1 : Int32) (x2 : Int32) (x3 : Int32) (x4 : Int32) (M : fx_Mem) : Prop :=
  fx_lp (α := Int32 × Int32 × Int32 × Int32 × fx_Mem) (fun k a => wb_X6_narrowest_0_68 (fun x1 x2 x3 x4 M => k (x1, x2, x3, x4, M)) Q X a.1 a.2.1 a.2.2.1 a.2.2.2.1 a.2.2.2.2) n (x1, x2, x3, x4, M)
set_option maxHeartbeats 4000000 in
theorem tl_X6_narrowest_0_68 {g : fx_Geo} {p : Program} {l : Launch} {e : Env} {s : State} {m : MethodId} {args : Array Value} {below : List Frame} {meth : Method} {c : Code} (C : fx_Cx g p s m args meth c RX6 cX6_narrowest 6 (some .int)) (hfl : fx_fl l c) (Q : Int32 → fx_Mem → Prop) (X : String → fx_Mem → Prop) : ∀ (n : Nat) (x1 : Int32) (x2 : Int32) (x3 : Int32) (x4 : Int32) (M : fx_Mem), wl_X6_narrowest_0_68  Q X n x1 x2 x3 x4 M → ∀ (H : Heap) (locs : List Loc) (ls : Array Slot), fx_H g s M H locs → lv_has ls 6 [(0, .ref (fx_a g 0)), (1, .int x1), (2, .int x2), (3, .int x3), (4, .int x4)] → W p l e rm_X6_narrowest_0 s m args below meth c H locs 0 0 (vx_MQ below (va_Qi Q (fx_Pw g) (fx_A g)) (fx_XC g X) args s 1 6 (fx_A g)) (F0 m 68 ls []) := by
  intro n
  induction n with
  | zero => intro x1 x2 x3 x4 M h; exact False.elim h
  | succ n ih => intro x1 x2 x3 x4 M h  H locs ls hH hl; exact tb_X6_narrowest_0_68 C hfl (wl_X6_narrowest_0_68  Q X n) Q X ih x1 x2 x3 x4 M h  H locs ls hH hl
def wp_X6_narrowest_0 (a1 : Int32) (M : fx_Mem) (Q : Int32 → fx_Mem → Prop) (X : String → fx_Mem → Prop) : Prop :=
  wp_X6_isWithin a1 1 20 M (fun r2 M1 => ((r2 = 0 → X "java/lang/IllegalArgumentException" M1) ∧ (¬ r2 = 0 → wp_X0_putInSequence_5_1  M1 (fun M4 => wp_X0_fillLines_5_1 9999 M4 (fun r6 M5 => ((r6 ≤ a1 → ∃ n68 : Nat, wl_X6_narrowest_0_68 Q X n68 a1 0 9999 0 M5) ∧ (¬ r6 ≤ a1 → X "java/util/NoSuchElementException" M5)))))))
set_option maxHeartbeats 4000000 in
set_option maxRecDepth 100000 in
theorem c_X6_narrowest_0 (l : Launch) {g : fx_Geo} (hG : fx_Gd g) (hfl0 : l.stackTraces = false) (a1 : Int32) (M : fx_Mem) (Q : Int32 → fx_Mem → Prop) (X : String → fx_Mem → Prop) (h : wp_X6_narrowest_0 a1 M Q X) : vx_Met l yX6_narrowest (.code yX6_narrowest cX6_narrowest 6 (some .int) :: fx_U) rm_X6_narrowest_0 (va_Pc [.ref (fx_a g 0), .int a1] (fx_At g M)) (va_Qi Q (fx_Pw g) (fx_A g)) (fx_XC g X) 1 6 (fx_A g) := by
  refine vx_ofW (cc := cX6_narrowest) (maxL := 6) (ret := (some .int)) (by decide +kernel) rfl ?_
  intro p e s m args below meth c s₁ B hml hex hv
  have hfl : fx_fl l c := ⟨hfl0, hex⟩
  obtain ⟨rfl, hv⟩ := hv
  have hts := atoms_spec (ws := .code yX6_narrowest cX6_narrowest 6 (some .int) :: fx_U) B.pre
  obtain ⟨C, hH⟩ := fx_body (own := RX6) B hml rfl (fun w hw => hts w (List.mem_cons_of_mem _ hw)) hG hv
  replace hts := fun w hw => hts w (List.mem_cons_of_mem _ hw)
  obtain ⟨hx, hb, hr, -, hown, -, hlocks, hsz, hK, -, hSt⟩ := id C
  have hl := lv_entry ([.ref (fx_a g 0), .int a1]) (n := 6) (Nat.le_of_ble_eq_true rfl)
  rw [lg_entry_eq]
  generalize (lg_sl ([.ref (fx_a g 0), .int a1]) ++ List.replicate (6 - (lg_sl ([.ref (fx_a g 0), .int a1])).length) Slot.unset).toArray = ls at hl ⊢
  have hl : lv_has ls 6 [(0, .ref (fx_a g 0)), (1, .int a1)] := hl
  obtain ⟨H, eH⟩ : ∃ H : Heap, H = s.heap := ⟨_, rfl⟩
  obtain ⟨locs, elocs⟩ : ∃ q : List Loc, q = [] := ⟨_, rfl⟩
  rw [← eH, ← elocs] at hH
  show W p l e rm_X6_narrowest_0 s m _ below meth c s.heap [] 0 0 _ _
  rw [← eH, ← elocs]
  unfold wp_X6_narrowest_0 at h
  refine lv_iload_n hx hb dX6_narrowest_0 rfl (lv_at hl 1 rfl) ?_
  refine lv_iconst (v := 1) hx hb dX6_narrowest_1 (by decide) ?_
  refine lv_bipush (v := 20) hx hb dX6_narrowest_2 (by decide) ?_
  refine fx_ci hH (fx_runS (As := [.int a1, .int 1, .int 20]) (rest := []) C hH (c_X6_isWithin l C.2.2.2.2.2.2.2.2.2.1 a1 1 20 M _ h) (fx_cwS 3 hts u_405 u_406 u_1 u_407 rfl rfl (by decide +kernel) ⟨(Nat.le_of_ble_eq_true rfl), (Nat.le_of_ble_eq_true rfl)⟩) rfl hl.1 rfl (Nat.le_of_ble_eq_true rfl) dX6_narrowest_4 ⟨(Nat.le_of_ble_eq_true rfl), (Nat.le_of_ble_eq_true rfl)⟩) (fun r2 M1 H locs h hH => ?_)
  refine lv_if_ne (tgt := 20) hx hb dX6_narrowest_7 (by decide) (fun c3 => ?_) (fun c3 => ?_)
  · replace h := h.2 c3
    refine lv_aload_n hx hb dX6_narrowest_20 rfl (lv_at hl 0 rfl) ?_
    refine fx_get C hH (fx_w0 g M1) rfl in_X6 5 (by decide) u_204 rfl rfl dX6_narrowest_21 ?_
    refine lv_aload_n hx hb dX6_narrowest_24 rfl (lv_at hl 0 rfl) ?_
    refine fx_get C hH (fx_w0 g M1) rfl in_X6 0 (by decide) u_199 rfl rfl dX6_narrowest_25 ?_
    refine fx_cv hH (fx_runV (As := [.ref (fx_a g 1)]) (rest := []) C hH (c_X0_putInSequence_5_1 l C.2.2.2.2.2.2.2.2.2.1  M1 _ h) (fx_cwV 1 hts u_679 u_237 u_238 u_5 u_239 rfl rfl (by decide +kernel) ⟨(Nat.le_of_ble_eq_true rfl), (Nat.le_of_ble_eq_true rfl)⟩) (fx_w5 g M1) rfl rfl hl.1 rfl (Nat.le_of_ble_eq_true rfl) dX6_narrowest_28 ⟨(Nat.le_of_ble_eq_true rfl), (Nat.le_of_ble_eq_true rfl)⟩) (fun M4 H locs h hH => ?_)
    refine lv_aload_n hx hb dX6_narrowest_31 rfl (lv_at hl 0 rfl) ?_
    refine fx_get C hH (fx_w0 g M4) rfl in_X6 5 (by decide) u_204 rfl rfl dX6_narrowest_32 ?_
    refine lv_aload_n hx hb dX6_narrowest_35 rfl (lv_at hl 0 rfl) ?_
    refine fx_get C hH (fx_w0 g M4) rfl in_X6 0 (by decide) u_199 rfl rfl dX6_narrowest_36 ?_
    refine lv_sipush (v := 9999) hx hb dX6_narrowest_39 (by decide) ?_
    refine fx_ci hH (fx_runV (As := [.ref (fx_a g 1), .int 9999]) (rest := []) C hH (c_X0_fillLines_5_1 l C.2.2.2.2.2.2.2.2.2.1 9999 M4 _ h) (fx_cwV 2 hts u_776 u_245 u_246 u_5 u_247 rfl rfl (by decide +kernel) ⟨(Nat.le_of_ble_eq_true rfl), (Nat.le_of_ble_eq_true rfl)⟩) (fx_w5 g M4) rfl rfl hl.1 rfl (Nat.le_of_ble_eq_true rfl) dX6_narrowest_42 ⟨(Nat.le_of_ble_eq_true rfl), (Nat.le_of_ble_eq_true rfl)⟩) (fun r6 M5 H locs h hH => ?_)
    refine lv_iload_n hx hb dX6_narrowest_45 rfl (lv_at hl 1 rfl) ?_
    refine lv_icmp_le (tgt := 59) hx hb dX6_narrowest_46 (by decide) (fun c7 => ?_) (fun c7 => ?_)
    · replace h := h.1 c7
      refine lv_iconst (v := 0) hx hb dX6_narrowest_59 (by decide) ?_
      refine lv_istore_n (lv' := [(2, .int 0), (0, .ref (fx_a g 0)), (1, .int a1)]) hx hb dX6_narrowest_60 rfl hl (by decide) rfl (fun ls hl => ?_)
      refine lv_sipush (v := 9999) hx hb dX6_narrowest_61 (by decide) ?_
      refine lv_istore_n (lv' := [(3, .int 9999), (2, .int 0), (0, .ref (fx_a g 0)), (1, .int a1)]) hx hb dX6_narrowest_64 rfl hl (by decide) rfl (fun ls hl => ?_)
      refine lv_iconst (v := 0) hx hb dX6_narrowest_65 (by decide) ?_
      refine lv_istore (lv' := [(4, .int 0), (3, .int 9999), (2, .int 0), (0, .ref (fx_a g 0)), (1, .int a1)]) hx hb dX6_narrowest_66 hl (by decide) rfl (fun ls hl => ?_)
      obtain ⟨n68, h⟩ := h
      exact tl_X6_narrowest_0_68 C hfl Q X  n68 a1 0 9999 0 M5 h  H locs ls hH (lv_sub hl [3, 4, 2, 1, 0] rfl)
    · replace h := h.2 c7
      exact fx_throwNS (text := "no main size is wide enough") C hfl hH u_752 u_19 16 rfl at_223 (by decide +kernel) (by decide +kernel) (by decide +kernel) dX6_narrowest_49 dX6_narrowest_52 dX6_narrowest_53 dX6_narrowest_55 dX6_narrowest_58 (Nat.le_of_ble_eq_true rfl) (Nat.le_of_ble_eq_true rfl) (Nat.le_of_ble_eq_true rfl) (Nat.le_of_ble_eq_true rfl) hl.1 h (Nat.le_of_ble_eq_true rfl) (Nat.le_of_ble_eq_true rfl)
  · replace h := h.1 c3
    exact fx_throwS (text := "no such number of lines") C hfl hH u_408 u_12 15 rfl at_66 (by decide +kernel) (by decide +kernel) (by decide +kernel) dX6_narrowest_10 dX6_narrowest_13 dX6_narrowest_14 dX6_narrowest_16 dX6_narrowest_19 (Nat.le_of_ble_eq_true rfl) (Nat.le_of_ble_eq_true rfl) (Nat.le_of_ble_eq_true rfl) (Nat.le_of_ble_eq_true rfl) hl.1 h (Nat.le_of_ble_eq_true rfl) (Nat.le_of_ble_eq_true rfl)
/-! FlexLayout.canBeWeight(I)Z () -/
def rm_X6_canBeWeight : Room := { frames := 1, cells := 0, slots := 0, locals := 22 }
def wb_X6_canBeWeight_14 (Q : Int32 → fx_Mem → Prop) (M : fx_Mem) : Prop :=
  Q 1 M
set_option maxHeartbeats 4000000 in
set_option maxRecDepth 100000 in
theorem tb_X6_canBeWeight_14 {g : fx_Geo} {p : Program} {l : Launch} {e : Env} {s : State} {m : MethodId} {args : Array Value} {below : List Frame} {meth : Method} {c : Code} (C : fx_Cx g p s m args meth c RX6 cX6_canBeWeight 1 (some .boolean)) (Q : Int32 → fx_Mem → Prop) (M : fx_Mem) (h : wb_X6_canBeWeight_14 Q M) (H : Heap) (locs : List Loc) (ls : Array Slot) (hH : fx_H g s M H locs) (hl : lv_has ls 1 []) : W p l e rm_X6_canBeWeight s m args below meth c H locs 0 0 (MQ below (va_Qi Q (fx_Pw g) (fx_A g)) args s 0 0 (fx_A g)) (F0 m 14 ls []) := by
  obtain ⟨hx, hb, hr, hml, hown, hts, hlocks, hsz, hK, hG, hSt⟩ := id C
  unfold wb_X6_canBeWeight_14 at h
  refine lv_iconst (v := 1) hx hb dX6_canBeWeight_14 (by decide) ?_
  refine lv_goto (tgt := 19) hx hb dX6_canBeWeight_15 (by decide) ?_
  exact fx_zret C hH (by decide) h dX6_canBeWeight_19
def wp_X6_canBeWeight (a0 : Int32) (M : fx_Mem) (Q : Int32 → fx_Mem → Prop) : Prop :=
  wp_X6_isWithin a0 0 3 M (fun r2 M1 => ((r2 = 0 → ((a0 = 5 → wb_X6_canBeWeight_14 Q  M1) ∧ (¬ a0 = 5 → Q 0 M1))) ∧ (¬ r2 = 0 → wb_X6_canBeWeight_14 Q  M1)))
set_option maxHeartbeats 4000000 in
set_option maxRecDepth 100000 in
theorem c_X6_canBeWeight (l : Launch) {g : fx_Geo} (hG : fx_Gd g) (a0 : Int32) (M : fx_Mem) (Q : Int32 → fx_Mem → Prop) (h : wp_X6_canBeWeight a0 M Q) : Met l yX6_canBeWeight (.code yX6_canBeWeight cX6_canBeWeight 1 (some .boolean) :: fx_U) rm_X6_canBeWeight (va_Pc [.int a0] (fx_At g M)) (va_Qi Q (fx_Pw g) (fx_A g)) 0 0 (fx_A g) := by
  refine Met.ofW (cc := cX6_canBeWeight) (maxL := 1) (ret := (some .boolean)) (by decide +kernel) rfl ?_
  intro p e s m args below meth c s₁ B hml hv
  obtain ⟨rfl, hv⟩ := hv
  have hts := atoms_spec (ws := .code yX6_canBeWeight cX6_canBeWeight 1 (some .boolean) :: fx_U) B.pre
  obtain ⟨C, hH⟩ := fx_body (own := RX6) B hml rfl (fun w hw => hts w (List.mem_cons_of_mem _ hw)) hG hv
  replace hts := fun w hw => hts w (List.mem_cons_of_mem _ hw)
  obtain ⟨hx, hb, hr, -, hown, -, hlocks, hsz, hK, -, hSt⟩ := id C
  have hl := lv_entry ([.int a0]) (n := 1) (Nat.le_of_ble_eq_true rfl)
  rw [lg_entry_eq]
  generalize (lg_sl ([.int a0]) ++ List.replicate (1 - (lg_sl ([.int a0])).length) Slot.unset).toArray = ls at hl ⊢
  have hl : lv_has ls 1 [(0, .int a0)] := hl
  obtain ⟨H, eH⟩ : ∃ H : Heap, H = s.heap := ⟨_, rfl⟩
  obtain ⟨locs, elocs⟩ : ∃ q : List Loc, q = [] := ⟨_, rfl⟩
  rw [← eH, ← elocs] at hH
  show W p l e rm_X6_canBeWeight s m _ below meth c s.heap [] 0 0 _ _
  rw [← eH, ← elocs]
  unfold wp_X6_canBeWeight at h
  refine lv_iload_n hx hb dX6_canBeWeight_0 rfl (lv_at hl 0 rfl) ?_
  refine lv_iconst (v := 0) hx hb dX6_canBeWeight_1 (by decide) ?_
  refine lv_iconst (v := 3) hx hb dX6_canBeWeight_2 (by decide) ?_
  refine fx_ci hH (fx_runS (As := [.int a0, .int 0, .int 3]) (rest := []) C hH (c_X6_isWithin l C.2.2.2.2.2.2.2.2.2.1 a0 0 3 M _ h) (fx_cwS 3 hts u_405 u_406 u_1 u_407 rfl rfl (by decide +kernel) ⟨(Nat.le_of_ble_eq_true rfl), (Nat.le_of_ble_eq_true rfl)⟩) rfl hl.1 rfl (Nat.le_of_ble_eq_true rfl) dX6_canBeWeight_3 ⟨(Nat.le_of_ble_eq_true rfl), (Nat.le_of_ble_eq_true rfl)⟩) (fun r2 M1 H locs h hH => ?_)
  refine lv_if_ne (tgt := 14) hx hb dX6_canBeWeight_6 (by decide) (fun c3 => ?_) (fun c3 => ?_)
  · replace h := h.2 c3
    exact tb_X6_canBeWeight_14 C Q   M1 h  H locs ls hH (lv_sub hl [] rfl)
  · replace h := h.1 c3
    refine lv_iload_n hx hb dX6_canBeWeight_9 rfl (lv_at hl 0 rfl) ?_
    refine lv_iconst (v := 5) hx hb dX6_canBeWeight_10 (by decide) ?_
    refine lv_icmp_ne (tgt := 18) hx hb dX6_canBeWeight_11 (by decide) (fun c4 => ?_) (fun c4 => ?_)
    · replace h := h.2 c4
      refine lv_iconst (v := 0) hx hb dX6_canBeWeight_18 (by decide) ?_
      exact fx_zret C hH (by decide) h dX6_canBeWeight_19
    · replace h := h.1 c4
      exact tb_X6_canBeWeight_14 C Q   M1 h  H locs ls hH (lv_sub hl [] rfl)
/-! FlexLayout.share(III)I (0,) -/
def rm_X6_share_0 : Room := { frames := 7, cells := 2, slots := 12, locals := 111 }
def wb_X6_share_0_17 (Q : Int32 → fx_Mem → Prop) (X : String → fx_Mem → Prop) (M : fx_Mem) : Prop :=
  X "java/lang/IllegalArgumentException" M
set_option maxHeartbeats 4000000 in
set_option maxRecDepth 100000 in
theorem tb_X6_share_0_17 {g : fx_Geo} {p : Program} {l : Launch} {e : Env} {s : State} {m : MethodId} {args : Array Value} {below : List Frame} {meth : Method} {c : Code} (C : fx_Cx g p s m args meth c RX6 cX6_share 5 (some .int)) (hfl : fx_fl l c) (Q : Int32 → fx_Mem → Prop) (X : String → fx_Mem → Prop) (M : fx_Mem) (h : wb_X6_share_0_17 Q X M) (H : Heap) (locs : List Loc) (ls : Array Slot) (hH : fx_H g s M H locs) (hl : lv_has ls 5 []) : W p l e rm_X6_share_0 s m args below meth c H locs 0 0 (vx_MQ below (va_Qi Q (fx_Pw g) (fx_A g)) (fx_XC g X) args s 2 12 (fx_A g)) (F0 m 17 ls []) := by
  obtain ⟨hx, hb, hr, hml, hown, hts, hlocks, hsz, hK, hG, hSt⟩ := id C
  unfold wb_X6_share_0_17 at h
  exact fx_throwS (text := "no such number of pixels or weight") C hfl hH u_408 u_12 17 rfl at_66 (by decide +kernel) (by decide +kernel) (by decide +kernel) dX6_share_17 dX6_share_20 dX6_share_21 dX6_share_23 dX6_share_26 (Nat.le_of_ble_eq_true rfl) (Nat.le_of_ble_eq_true rfl) (Nat.le_of_ble_eq_true rfl) (Nat.le_of_ble_eq_true rfl) hl.1 h (Nat.le_of_ble_eq_true rfl) (Nat.le_of_ble_eq_true rfl)
def wb_X6_share_0_35 (k35 : Int32 → Int32 → Int32 → Int32 → fx_Mem → Prop) (k76 : Int32 → Int32 → fx_Mem → Prop) (Q : Int32 → fx_Mem → Prop) (X : String → fx_Mem → Prop) (x1 : Int32) (x2 : Int32) (x3 : Int32) (x4 : Int32) (M : fx_Mem) : Prop :=
  ((M.1 70 ≤ x4 → k76 x1 x3 M) ∧ (¬ M.1 70 ≤ x4 → vp_in x4 20 ∧ vp_in x2 10 ∧ vp_in x4 20 ∧ ∀ M6 : fx_Mem, M6 = fx_sl M 15 x4.toNatClampNeg ((M.2.1 (57 + x4.toNatClampNeg) x2.toNatClampNeg).toInt64) → ∀ v7 : Int32, v7 = x4 + 1 → k35 x1 x2 x3 v7 M6))
set_option maxHeartbeats 4000000 in
set_option maxRecDepth 100000 in
theorem tb_X6_share_0_35 {g : fx_Geo} {p : Program} {l : Launch} {e : Env} {s : State} {m : MethodId} {args : Array Value} {below : List Frame} {meth : Method} {c : Code} (C : fx_Cx g p s m args meth c RX6 cX6_share 5 (some .int)) (hfl : fx_fl l c) (k35 : Int32 → Int32 → Int32 → Int32 → fx_Mem → Prop) (k76 : Int32 → Int32 → fx_Mem → Prop) (Q : Int32 → fx_Mem → Prop) (X : String → fx_Mem → Prop) (hk35 : ∀ (x1 : Int32) (x2 : Int32) (x3 : Int32) (x4 : Int32) (M : fx_Mem), k35 x1 x2 x3 x4 M → ∀ (H : Heap) (locs : List Loc) (ls : Array Slot), fx_H g s M H locs → lv_has ls 5 [(0, .ref (fx_a g 0)), (1, .int x1), (2, .int x2), (3, .int x3), (4, .int x4)] → W p l e rm_X6_share_0 s m args below meth c H locs 1 6 (vx_MQ below (va_Qi Q (fx_Pw g) (fx_A g)) (fx_XC g X) args s 2 12 (fx_A g)) (F0 m 35 ls [])) (hk76 : ∀ (x1 : Int32) (x3 : Int32) (M : fx_Mem), k76 x1 x3 M → ∀ (H : Heap) (locs : List Loc) (ls : Array Slot), fx_H g s M H locs → lv_has ls 5 [(0, .ref (fx_a g 0)), (1, .int x1), (3, .int x3)] → W p l e rm_X6_share_0 s m args below meth c H locs 1 6 (vx_MQ below (va_Qi Q (fx_Pw g) (fx_A g)) (fx_XC g X) args s 2 12 (fx_A g)) (F0 m 76 ls [])) (x1 : Int32) (x2 : Int32) (x3 : Int32) (x4 : Int32) (M : fx_Mem) (h : wb_X6_share_0_35 k35 k76 Q X x1 x2 x3 x4 M) (H : Heap) (locs : List Loc) (ls : Array Slot) (hH : fx_H g s M H locs) (hl : lv_has ls 5 [(0, .ref (fx_a g 0)), (1, .int x1), (2, .int x2), (3, .int x3), (4, .int x4)]) : W p l e rm_X6_share_0 s m args below meth c H locs 1 6 (vx_MQ below (va_Qi Q (fx_Pw g) (fx_A g)) (fx_XC g X) args s 2 12 (fx_A g)) (F0 m 35 ls []) := by
  obtain ⟨hx, hb, hr, hml, hown, hts, hlocks, hsz, hK, hG, hSt⟩ := id C
  unfold wb_X6_share_0_35 at h
  refine lv_iload hx hb dX6_share_35 (lv_at hl 4 rfl) ?_
  refine lv_aload_n hx hb dX6_share_37 rfl (lv_at hl 0 rfl) ?_
  refine fx_get C hH (fx_w0 g M) rfl in_X6 0 (by decide) u_199 rfl rfl dX6_share_38 ?_
  refine fx_get C hH (fx_w1 g M) rfl in_X1 6 (by decide) u_62 rfl rfl dX6_share_41 ?_
  refine lv_icmp_ge (tgt := 76) hx hb dX6_share_44 (by decide) (fun c1 => ?_) (fun c1 => ?_)
  · replace h := h.1 c1
    exact hk76 x1 x3 M h  H locs ls hH (lv_sub hl [0, 1, 3] rfl)
  · replace h := h.2 c1
    refine lv_aload_n hx hb dX6_share_47 rfl (lv_at hl 0 rfl) ?_
    refine fx_get C hH (fx_w0 g M) rfl in_X6 4 (by decide) u_203 rfl rfl dX6_share_48 ?_
    refine fx_get C hH (fx_w4 g M) rfl in_X3 0 (by decide) u_104 rfl rfl dX6_share_51 ?_
    refine lv_iload hx hb dX6_share_54 (lv_at hl 4 rfl) ?_
    refine lv_aload_n hx hb dX6_share_56 rfl (lv_at hl 0 rfl) ?_
    refine fx_get C hH (fx_w0 g M) rfl in_X6 0 (by decide) u_199 rfl rfl dX6_share_57 ?_
    refine fx_get C hH (fx_w1 g M) rfl in_X1 5 (by decide) u_59 rfl rfl dX6_share_60 ?_
    refine lv_iload hx hb dX6_share_63 (lv_at hl 4 rfl) ?_
    obtain ⟨hi2, h⟩ := h
    have hj3 : x4.toNatClampNeg < 20 := Nat.not_le.mp fun q => hi2 (Or.inr q)
    refine fx_aald C hH 11 (fx_w11 g M) hi2 dX6_share_65 ?_
    refine lv_iload_n hx hb dX6_share_66 rfl (lv_at hl 2 rfl) ?_
    obtain ⟨hi4, h⟩ := h
    refine fx_iald (j := x2.toNatClampNeg) C hH (57 + x4.toNatClampNeg) (fx_r1 g M x4.toNatClampNeg hj3) rfl hi4 dX6_share_67 ?_
    refine lv_i2l hx hb dX6_share_68 rfl ?_
    obtain ⟨hi5, h⟩ := h
    refine fx_last (j := x4.toNatClampNeg) (M' := fx_sl M 15 x4.toNatClampNeg ((M.2.1 (57 + x4.toNatClampNeg) x2.toNatClampNeg).toInt64)) C hH 15 rfl (fx_w15 g M) (fx_p15 g M _ _) hi5 dX6_share_69 (fun H locs hH => ?_)
    generalize eM6 : fx_sl M 15 x4.toNatClampNeg ((M.2.1 (57 + x4.toNatClampNeg) x2.toNatClampNeg).toInt64) = M6 at hH
    replace h := h M6 eM6.symm
    obtain ⟨v7, ev7⟩ : ∃ z : Int32, z = x4 + 1 := ⟨_, rfl⟩
    refine lv_iinc (v := v7) (lv' := [(4, .int v7), (0, .ref (fx_a g 0)), (1, .int x1), (2, .int x2), (3, .int x3)]) hx hb dX6_share_70 hl (k := 4) rfl (by rw [ev7]; rfl) (by decide) rfl (fun ls hl => ?_)
    replace h := h v7 ev7
    refine lv_goto (tgt := 35) hx hb dX6_share_73 (by decide) ?_
    exact hk35 x1 x2 x3 v7 M6 h  H locs ls hH (lv_sub hl [1, 2, 3, 4, 0] rfl)
def wl_X6_share_0_35 (k76 : Int32 → Int32 → fx_Mem → Prop) (Q : Int32 → fx_Mem → Prop) (X : String → fx_Mem → Prop) (n : Nat) (x1 : Int32) (x2 : Int32) (x3 : Int32) (x4 : Int32) (M : fx_Mem) : Prop :=
  fx_lp (α := Int32 × Int32 × Int32 × Int32 × fx_Mem) (fun k a => wb_X6_share_0_35 (fun x1 x2 x3 x4 M => k (x1, x2, x3, x4, M)) k76 Q X a.1 a.2.1 a.2.2.1 a.2.2.2.1 a.2.2.2.2) n (x1, x2, x3, x4, M)
set_option maxHeartbeats 4000000 in
theorem tl_X6_share_0_35 {g : fx_Geo} {p : Program} {l : Launch} {e : Env} {s : State} {m : MethodId} {args : Array Value} {below : List Frame} {meth : Method} {c : Code} (C : fx_Cx g p s m args meth c RX6 cX6_share 5 (some .int)) (hfl : fx_fl l c) (k76 : Int32 → Int32 → fx_Mem → Prop) (Q : Int32 → fx_Mem → Prop) (X : String → fx_Mem → Prop) (hk76 : ∀ (x1 : Int32) (x3 : Int32) (M : fx_Mem), k76 x1 x3 M → ∀ (H : Heap) (locs : List Loc) (ls : Array Slot), fx_H g s M H locs → lv_has ls 5 [(0, .ref (fx_a g 0)), (1, .int x1), (3, .int x3)] → W p l e rm_X6_share_0 s m args below meth c H locs 1 6 (vx_MQ below (va_Qi Q (fx_Pw g) (fx_A g)) (fx_XC g X) args s 2 12 (fx_A g)) (F0 m 76 ls [])) : ∀ (n : Nat) (x1 : Int32) (x2 : Int32) (x3 : Int32) (x4 : Int32) (M : fx_Mem), wl_X6_share_0_35 k76 Q X n x1 x2 x3 x4 M → ∀ (H : Heap) (locs : List Loc) (ls : Array Slot), fx_H g s M H locs → lv_has ls 5 [(0, .ref (fx_a g 0)), (1, .int x1), (2, .int x2), (3, .int x3), (4, .int x4)] → W p l e rm_X6_share_0 s m args below meth c H locs 1 6 (vx_MQ below (va_Qi Q (fx_Pw g) (fx_A g)) (fx_XC g X) args s 2 12 (fx_A g)) (F0 m 35 ls []) := by
  intro n
  induction n with
  | zero => intro x1 x2 x3 x4 M h; exact False.elim h
  | succ n ih => intro x1 x2 x3 x4 M h  H locs ls hH hl; exact tb_X6_share_0_35 C hfl (wl_X6_share_0_35 k76 Q X n) k76 Q X ih hk76 x1 x2 x3 x4 M h  H locs ls hH hl
def wb_X6_share_0_76 (Q : Int32 → fx_Mem → Prop) (X : String → fx_Mem → Prop) (x1 : Int32) (x3 : Int32) (M : fx_Mem) : Prop :=
  wp_X3_weightSum_4 (M.1 70) M (fun r2 M1 => ((lg_cmp r2 0 = 0 → X "java/lang/ArithmeticException" M1) ∧ (¬ lg_cmp r2 0 = 0 → wp_X3_divide_4 x1 (M1.1 70) M1 (fun M4 => vp_in x3 20 ∧ Q (M4.2.1 16 x3.toNatClampNeg) M4))))
set_option maxHeartbeats 4000000 in
set_option maxRecDepth 100000 in
theorem tb_X6_share_0_76 {g : fx_Geo} {p : Program} {l : Launch} {e : Env} {s : State} {m : MethodId} {args : Array Value} {below : List Frame} {meth : Method} {c : Code} (C : fx_Cx g p s m args meth c RX6 cX6_share 5 (some .int)) (hfl : fx_fl l c) (Q : Int32 → fx_Mem → Prop) (X : String → fx_Mem → Prop) (x1 : Int32) (x3 : Int32) (M : fx_Mem) (h : wb_X6_share_0_76 Q X x1 x3 M) (H : Heap) (locs : List Loc) (ls : Array Slot) (hH : fx_H g s M H locs) (hl : lv_has ls 5 [(0, .ref (fx_a g 0)), (1, .int x1), (3, .int x3)]) : W p l e rm_X6_share_0 s m args below meth c H locs 1 6 (vx_MQ below (va_Qi Q (fx_Pw g) (fx_A g)) (fx_XC g X) args s 2 12 (fx_A g)) (F0 m 76 ls []) := by
  obtain ⟨hx, hb, hr, hml, hown, hts, hlocks, hsz, hK, hG, hSt⟩ := id C
  unfold wb_X6_share_0_76 at h
  refine lv_aload_n hx hb dX6_share_76 rfl (lv_at hl 0 rfl) ?_
  refine fx_get C hH (fx_w0 g M) rfl in_X6 4 (by decide) u_203 rfl rfl dX6_share_77 ?_
  refine lv_aload_n hx hb dX6_share_80 rfl (lv_at hl 0 rfl) ?_
  refine fx_get C hH (fx_w0 g M) rfl in_X6 0 (by decide) u_199 rfl rfl dX6_share_81 ?_
  refine fx_get C hH (fx_w1 g M) rfl in_X1 6 (by decide) u_62 rfl rfl dX6_share_84 ?_
  refine fx_cl hH (fx_runV (As := [.int (M.1 70)]) (rest := []) C hH (c_X3_weightSum_4 l C.2.2.2.2.2.2.2.2.2.1 (M.1 70) M _ h) (fx_cwV 1 hts u_804 u_289 u_290 u_4 u_291 rfl rfl (by decide +kernel) ⟨(Nat.le_of_ble_eq_true rfl), (Nat.le_of_ble_eq_true rfl)⟩) (fx_w4 g M) rfl rfl hl.1 rfl (Nat.le_of_ble_eq_true rfl) dX6_share_87 ⟨(Nat.le_of_ble_eq_true rfl), (Nat.le_of_ble_eq_true rfl)⟩) (fun r2 M1 H locs h hH => ?_)
  refine lv_lconst (v := 0) hx hb dX6_share_90 (by decide) ?_
  refine W.lcmp hx hb dX6_share_91 ?_
  refine lv_if_ne (tgt := 105) hx hb dX6_share_92 (by decide) (fun c3 => ?_) (fun c3 => ?_)
  · replace h := h.2 c3
    refine lv_aload_n hx hb dX6_share_105 rfl (lv_at hl 0 rfl) ?_
    refine fx_get C hH (fx_w0 g M1) rfl in_X6 4 (by decide) u_203 rfl rfl dX6_share_106 ?_
    refine lv_iload_n hx hb dX6_share_109 rfl (lv_at hl 1 rfl) ?_
    refine lv_aload_n hx hb dX6_share_110 rfl (lv_at hl 0 rfl) ?_
    refine fx_get C hH (fx_w0 g M1) rfl in_X6 0 (by decide) u_199 rfl rfl dX6_share_111 ?_
    refine fx_get C hH (fx_w1 g M1) rfl in_X1 6 (by decide) u_62 rfl rfl dX6_share_114 ?_
    refine fx_cv hH (fx_runV (As := [.int x1, .int (M1.1 70)]) (rest := []) C hH (c_X3_divide_4 l C.2.2.2.2.2.2.2.2.2.1 x1 (M1.1 70) M1 _ h) (fx_cwV 2 hts u_808 u_285 u_286 u_4 u_287 rfl rfl (by decide +kernel) ⟨(Nat.le_of_ble_eq_true rfl), (Nat.le_of_ble_eq_true rfl)⟩) (fx_w4 g M1) rfl rfl hl.1 rfl (Nat.le_of_ble_eq_true rfl) dX6_share_117 ⟨(Nat.le_of_ble_eq_true rfl), (Nat.le_of_ble_eq_true rfl)⟩) (fun M4 H locs h hH => ?_)
    refine lv_aload_n hx hb dX6_share_120 rfl (lv_at hl 0 rfl) ?_
    refine fx_get C hH (fx_w0 g M4) rfl in_X6 4 (by decide) u_203 rfl rfl dX6_share_121 ?_
    refine fx_get C hH (fx_w4 g M4) rfl in_X3 1 (by decide) u_108 rfl rfl dX6_share_124 ?_
    refine lv_iload_n hx hb dX6_share_127 rfl (lv_at hl 2 rfl) ?_
    obtain ⟨hi5, h⟩ := h
    refine fx_iald (j := x3.toNatClampNeg) C hH 16 (fx_w16 g M4) rfl hi5 dX6_share_128 ?_
    refine vx_ret (W.widen (k := 2) (n := 12) (Nat.le_of_ble_eq_true rfl) (Nat.le_of_ble_eq_true rfl) ?_)
    exact fx_iret C hH h dX6_share_129
  · replace h := h.1 c3
    exact fx_throwS (text := "all weights are 0") C hfl hH u_805 u_20 18 rfl at_254 (by decide +kernel) (by decide +kernel) (by decide +kernel) dX6_share_95 dX6_share_98 dX6_share_99 dX6_share_101 dX6_share_104 (Nat.le_of_ble_eq_true rfl) (Nat.le_of_ble_eq_true rfl) (Nat.le_of_ble_eq_true rfl) (Nat.le_of_ble_eq_true rfl) hl.1 h (Nat.le_of_ble_eq_true rfl) (Nat.le_of_ble_eq_true rfl)
def wp_X6_share_0 (a1 : Int32) (a2 : Int32) (a3 : Int32) (M : fx_Mem) (Q : Int32 → fx_Mem → Prop) (X : String → fx_Mem → Prop) : Prop :=
  wp_X6_isWithin a1 0 99999 M (fun r2 M1 => ((r2 = 0 → wb_X6_share_0_17 Q X  M1) ∧ (¬ r2 = 0 → wp_X6_canBeWeight a2 M1 (fun r5 M4 => ((r5 = 0 → wb_X6_share_0_17 Q X  M4) ∧ (¬ r5 = 0 → wp_X6_requireItem_0 a3 M4 (fun M7 => ∃ n35 : Nat, wl_X6_share_0_35 (wb_X6_share_0_76 Q X) Q X n35 a1 a2 a3 0 M7) X))))))
set_option maxHeartbeats 4000000 in
set_option maxRecDepth 100000 in
theorem c_X6_share_0 (l : Launch) {g : fx_Geo} (hG : fx_Gd g) (hfl0 : l.stackTraces = false) (a1 : Int32) (a2 : Int32) (a3 : Int32) (M : fx_Mem) (Q : Int32 → fx_Mem → Prop) (X : String → fx_Mem → Prop) (h : wp_X6_share_0 a1 a2 a3 M Q X) : vx_Met l yX6_share (.code yX6_share cX6_share 5 (some .int) :: fx_U) rm_X6_share_0 (va_Pc [.ref (fx_a g 0), .int a1, .int a2, .int a3] (fx_At g M)) (va_Qi Q (fx_Pw g) (fx_A g)) (fx_XC g X) 2 12 (fx_A g) := by
  refine vx_ofW (cc := cX6_share) (maxL := 5) (ret := (some .int)) (by decide +kernel) rfl ?_
  intro p e s m args below meth c s₁ B hml hex hv
  have hfl : fx_fl l c := ⟨hfl0, hex⟩
  obtain ⟨rfl, hv⟩ := hv
  have hts := atoms_spec (ws := .code yX6_share cX6_share 5 (some .int) :: fx_U) B.pre
  obtain ⟨C, hH⟩ := fx_body (own := RX6) B hml rfl (fun w hw => hts w (List.mem_cons_of_mem _ hw)) hG hv
  replace hts := fun w hw => hts w (List.mem_cons_of_mem _ hw)
  obtain ⟨hx, hb, hr, -, hown, -, hlocks, hsz, hK, -, hSt⟩ := id C
  have hl := lv_entry ([.ref (fx_a g 0), .int a1, .int a2, .int a3]) (n := 5) (Nat.le_of_ble_eq_true rfl)
  rw [lg_entry_eq]
  generalize (lg_sl ([.ref (fx_a g 0), .int a1, .int a2, .int a3]) ++ List.replicate (5 - (lg_sl ([.ref (fx_a g 0), .int a1, .int a2, .int a3])).length) Slot.unset).toArray = ls at hl ⊢
  have hl : lv_has ls 5 [(0, .ref (fx_a g 0)), (1, .int a1), (2, .int a2), (3, .int a3)] := hl
  obtain ⟨H, eH⟩ : ∃ H : Heap, H = s.heap := ⟨_, rfl⟩
  obtain ⟨locs, elocs⟩ : ∃ q : List Loc, q = [] := ⟨_, rfl⟩
  rw [← eH, ← elocs] at hH
  show W p l e rm_X6_share_0 s m _ below meth c s.heap [] 0 0 _ _
  rw [← eH, ← elocs]
  unfold wp_X6_share_0 at h
  refine lv_iload_n hx hb dX6_share_0 rfl (lv_at hl 1 rfl) ?_
  refine lv_iconst (v := 0) hx hb dX6_share_1 (by decide) ?_
  refine lv_ldc hx hb hown (hts _ u_799) dX6_share_2 ?_
  refine fx_ci hH (fx_runS (As := [.int a1, .int 0, .int 99999]) (rest := []) C hH (c_X6_isWithin l C.2.2.2.2.2.2.2.2.2.1 a1 0 99999 M _ h) (fx_cwS 3 hts u_405 u_406 u_1 u_407 rfl rfl (by decide +kernel) ⟨(Nat.le_of_ble_eq_true rfl), (Nat.le_of_ble_eq_true rfl)⟩) rfl hl.1 rfl (Nat.le_of_ble_eq_true rfl) dX6_share_4 ⟨(Nat.le_of_ble_eq_true rfl), (Nat.le_of_ble_eq_true rfl)⟩) (fun r2 M1 H locs h hH => ?_)
  refine lv_if_eq (tgt := 17) hx hb dX6_share_7 (by decide) (fun c3 => ?_) (fun c3 => ?_)
  · replace h := h.1 c3
    exact tb_X6_share_0_17 C hfl Q X   M1 h  H locs ls hH (lv_sub hl [] rfl)
  · replace h := h.2 c3
    refine lv_iload_n hx hb dX6_share_10 rfl (lv_at hl 2 rfl) ?_
    refine fx_ci hH (fx_runS (As := [.int a2]) (rest := []) C hH (c_X6_canBeWeight l C.2.2.2.2.2.2.2.2.2.1 a2 M1 _ h) (fx_cwS 1 hts u_800 u_801 u_1 u_802 rfl rfl (by decide +kernel) ⟨(Nat.le_of_ble_eq_true rfl), (Nat.le_of_ble_eq_true rfl)⟩) rfl hl.1 rfl (Nat.le_of_ble_eq_true rfl) dX6_share_11 ⟨(Nat.le_of_ble_eq_true rfl), (Nat.le_of_ble_eq_true rfl)⟩) (fun r5 M4 H locs h hH => ?_)
    refine lv_if_ne (tgt := 27) hx hb dX6_share_14 (by decide) (fun c6 => ?_) (fun c6 => ?_)
    · replace h := h.2 c6
      refine lv_aload_n hx hb dX6_share_27 rfl (lv_at hl 0 rfl) ?_
      refine lv_iload_n hx hb dX6_share_28 rfl (lv_at hl 3 rfl) ?_
      refine fx_xcv (mc := 1) (ms := 6) C hfl hH (fx_xrunV (As := [.int a3]) (rest := []) C hH (c_X6_requireItem_0 l C.2.2.2.2.2.2.2.2.2.1 hfl.1 a3 M4 _ _ h) (fx_cwV 1 hts u_596 u_598 us_19 u_1 u_599 rfl rfl (by decide +kernel) ⟨(Nat.le_of_ble_eq_true rfl), (Nat.le_of_ble_eq_true rfl)⟩) (fx_w0 g M4) rfl rfl hl.1 rfl (Nat.le_of_ble_eq_true rfl) dX6_share_29 ⟨(Nat.le_of_ble_eq_true rfl), (Nat.le_of_ble_eq_true rfl)⟩) (fun E M9 hx9 => hx9) (Nat.le_of_ble_eq_true rfl) (Nat.le_of_ble_eq_true rfl) (fun M7 H locs h hH => ?_)
      refine lv_iconst (v := 0) hx hb dX6_share_32 (by decide) ?_
      refine lv_istore (lv' := [(4, .int 0), (0, .ref (fx_a g 0)), (1, .int a1), (2, .int a2), (3, .int a3)]) hx hb dX6_share_33 hl (by decide) rfl (fun ls hl => ?_)
      obtain ⟨n35, h⟩ := h
      exact tl_X6_share_0_35 C hfl (wb_X6_share_0_76 Q X) Q X (tb_X6_share_0_76 C hfl Q X ) n35 a1 a2 a3 0 M7 h  H locs ls hH (lv_sub hl [1, 2, 3, 4, 0] rfl)
    · replace h := h.1 c6
      exact tb_X6_share_0_17 C hfl Q X   M4 h  H locs ls hH (lv_sub hl [] rfl)
/-! FlexLayout$Container.copyFrom(LFlexLayout$Container;)V (2, 1) -/
def rm_X1_copyFrom_2_1 : Room := { frames := 1, cells := 0, slots := 0, locals := 64 }
def wb_X1_copyFrom_2_1_56 (k56 : Int32 → fx_Mem → Prop) (Q : fx_Mem → Prop) (x2 : Int32) (M : fx_Mem) : Prop :=
  ((20 ≤ x2 → Q M) ∧ (¬ 20 ≤ x2 → vp_in x2 20 ∧ vp_in x2 20 ∧ ∀ M6 : fx_Mem, M6 = fx_sA M (77 + x2.toNatClampNeg) (va_cpy (M.2.1 (57 + x2.toNatClampNeg)) (M.2.1 (77 + x2.toNatClampNeg)) 0 0 10) → ∀ v7 : Int32, v7 = x2 + 1 → k56 v7 M6))
set_option maxHeartbeats 4000000 in
set_option maxRecDepth 100000 in
theorem tb_X1_copyFrom_2_1_56 {g : fx_Geo} {p : Program} {l : Launch} {e : Env} {s : State} {m : MethodId} {args : Array Value} {below : List Frame} {meth : Method} {c : Code} (C : fx_Cx g p s m args meth c RX1 cX1_copyFrom 3 none) (k56 : Int32 → fx_Mem → Prop) (Q : fx_Mem → Prop) (hk56 : ∀ (x2 : Int32) (M : fx_Mem), k56 x2 M → ∀ (H : Heap) (locs : List Loc) (ls : Array Slot), fx_H g s M H locs → lv_has ls 3 [(0, .ref (fx_a g 2)), (1, .ref (fx_a g 1)), (2, .int x2)] → W p l e rm_X1_copyFrom_2_1 s m args below meth c H locs 0 0 (MQ below (va_Qv Q (fx_Pw g) (fx_A g)) args s 0 0 (fx_A g)) (F0 m 56 ls [])) (x2 : Int32) (M : fx_Mem) (h : wb_X1_copyFrom_2_1_56 k56 Q x2 M) (H : Heap) (locs : List Loc) (ls : Array Slot) (hH : fx_H g s M H locs) (hl : lv_has ls 3 [(0, .ref (fx_a g 2)), (1, .ref (fx_a g 1)), (2, .int x2)]) : W p l e rm_X1_copyFrom_2_1 s m args below meth c H locs 0 0 (MQ below (va_Qv Q (fx_Pw g) (fx_A g)) args s 0 0 (fx_A g)) (F0 m 56 ls []) := by
  obtain ⟨hx, hb, hr, hml, hown, hts, hlocks, hsz, hK, hG, hSt⟩ := id C
  unfold wb_X1_copyFrom_2_1_56 at h
  refine lv_iload_n hx hb dX1_copyFrom_56 rfl (lv_at hl 2 rfl) ?_
  refine lv_bipush (v := 20) hx hb dX1_copyFrom_57 (by decide) ?_
  refine lv_icmp_ge (tgt := 87) hx hb dX1_copyFrom_59 (by decide) (fun c1 => ?_) (fun c1 => ?_)
  · replace h := h.1 c1
    exact fx_vret C hH h dX1_copyFrom_87
  · replace h := h.2 c1
    refine lv_aload_n hx hb dX1_copyFrom_62 rfl (lv_at hl 1 rfl) ?_
    refine fx_get C hH (fx_w1 g M) rfl in_X1 5 (by decide) u_55 rfl rfl dX1_copyFrom_63 ?_
    refine lv_iload_n hx hb dX1_copyFrom_66 rfl (lv_at hl 2 rfl) ?_
    obtain ⟨hi2, h⟩ := h
    have hj3 : x2.toNatClampNeg < 20 := Nat.not_le.mp fun q => hi2 (Or.inr q)
    refine fx_aald C hH 11 (fx_w11 g M) hi2 dX1_copyFrom_67 ?_
    refine lv_iconst (v := 0) hx hb dX1_copyFrom_68 (by decide) ?_
    refine lv_aload_n hx hb dX1_copyFrom_69 rfl (lv_at hl 0 rfl) ?_
    refine fx_get C hH (fx_w2 g M) rfl in_X1 5 (by decide) u_55 rfl rfl dX1_copyFrom_70 ?_
    refine lv_iload_n hx hb dX1_copyFrom_73 rfl (lv_at hl 2 rfl) ?_
    obtain ⟨hi4, h⟩ := h
    have hj5 : x2.toNatClampNeg < 20 := Nat.not_le.mp fun q => hi4 (Or.inr q)
    refine fx_aald C hH 13 (fx_w13 g M) hi4 dX1_copyFrom_74 ?_
    refine lv_iconst (v := 0) hx hb dX1_copyFrom_75 (by decide) ?_
    refine lv_bipush (v := 10) hx hb dX1_copyFrom_76 (by decide) ?_
    refine fx_copy (M' := fx_sA M (77 + x2.toNatClampNeg) (va_cpy (M.2.1 (57 + x2.toNatClampNeg)) (M.2.1 (77 + x2.toNatClampNeg)) 0 0 10)) C hH (hts _ u_394) (hts _ u_396) (hts _ u_395) (hts _ u_18) hl.1 (57 + x2.toNatClampNeg) (77 + x2.toNatClampNeg) (fx_r1 g M x2.toNatClampNeg hj3) (fx_r2 g M x2.toNatClampNeg hj5) (fx_q2 g M _ x2.toNatClampNeg hj5) (n := 10) (k := 10) (by decide) (by decide) (Nat.le_of_ble_eq_true rfl) (Nat.le_of_ble_eq_true rfl) (Nat.le_of_ble_eq_true rfl) (Nat.le_of_ble_eq_true rfl) dX1_copyFrom_78 (fun H locs hH => ?_)
    generalize eM6 : fx_sA M (77 + x2.toNatClampNeg) (va_cpy (M.2.1 (57 + x2.toNatClampNeg)) (M.2.1 (77 + x2.toNatClampNeg)) 0 0 10) = M6 at hH
    replace h := h M6 eM6.symm
    obtain ⟨v7, ev7⟩ : ∃ z : Int32, z = x2 + 1 := ⟨_, rfl⟩
    refine lv_iinc (v := v7) (lv' := [(2, .int v7), (0, .ref (fx_a g 2)), (1, .ref (fx_a g 1))]) hx hb dX1_copyFrom_81 hl (k := 2) rfl (by rw [ev7]; rfl) (by decide) rfl (fun ls hl => ?_)
    replace h := h v7 ev7
    refine lv_goto (tgt := 56) hx hb dX1_copyFrom_84 (by decide) ?_
    exact hk56 v7 M6 h  H locs ls hH (lv_sub hl [1, 2, 0] rfl)
def wl_X1_copyFrom_2_1_56 (Q : fx_Mem → Prop) (n : Nat) (x2 : Int32) (M : fx_Mem) : Prop :=
  fx_lp (α := Int32 × fx_Mem) (fun k a => wb_X1_copyFrom_2_1_56 (fun x2 M => k (x2, M)) Q a.1 a.2) n (x2, M)
set_option maxHeartbeats 4000000 in
theorem tl_X1_copyFrom_2_1_56 {g : fx_Geo} {p : Program} {l : Launch} {e : Env} {s : State} {m : MethodId} {args : Array Value} {below : List Frame} {meth : Method} {c : Code} (C : fx_Cx g p s m args meth c RX1 cX1_copyFrom 3 none) (Q : fx_Mem → Prop) : ∀ (n : Nat) (x2 : Int32) (M : fx_Mem), wl_X1_copyFrom_2_1_56  Q n x2 M → ∀ (H : Heap) (locs : List Loc) (ls : Array Slot), fx_H g s M H locs → lv_has ls 3 [(0, .ref (fx_a g 2)), (1, .ref (fx_a g 1)), (2, .int x2)] → W p l e rm_X1_copyFrom_2_1 s m args below meth c H locs 0 0 (MQ below (va_Qv Q (fx_Pw g) (fx_A g)) args s 0 0 (fx_A g)) (F0 m 56 ls []) := by
  intro n
  induction n with
  | zero => intro x2 M h; exact False.elim h
  | succ n ih => intro x2 M h  H locs ls hH hl; exact tb_X1_copyFrom_2_1_56 C (wl_X1_copyFrom_2_1_56  Q n) Q ih x2 M h  H locs ls hH hl
def wp_X1_copyFrom_2_1 (M : fx_Mem) (Q : fx_Mem → Prop) : Prop :=
  ∀ M1 : fx_Mem, M1 = fx_si M 128 (M.1 64) → ∀ M2 : fx_Mem, M2 = fx_si M1 129 (M1.1 65) → ∀ M3 : fx_Mem, M3 = fx_si M2 130 (M2.1 66) → ∀ M4 : fx_Mem, M4 = fx_si M3 131 (M3.1 67) → ∀ M5 : fx_Mem, M5 = fx_si M4 134 (M4.1 70) → ∀ M6 : fx_Mem, M6 = fx_sA M5 12 (va_cpy (M5.2.1 10) (M5.2.1 12) 0 0 5) → ∃ n56 : Nat, wl_X1_copyFrom_2_1_56 Q n56 0 M6
set_option maxHeartbeats 4000000 in
set_option maxRecDepth 100000 in
theorem c_X1_copyFrom_2_1 (l : Launch) {g : fx_Geo} (hG : fx_Gd g) (M : fx_Mem) (Q : fx_Mem → Prop) (h : wp_X1_copyFrom_2_1 M Q) : Met l yX1_copyFrom (.code yX1_copyFrom cX1_copyFrom 3 none :: fx_U) rm_X1_copyFrom_2_1 (va_Pc [.ref (fx_a g 2), .ref (fx_a g 1)] (fx_At g M)) (va_Qv Q (fx_Pw g) (fx_A g)) 0 0 (fx_A g) := by
  refine Met.ofW (cc := cX1_copyFrom) (maxL := 3) (ret := none) (by decide +kernel) rfl ?_
  intro p e s m args below meth c s₁ B hml hv
  obtain ⟨rfl, hv⟩ := hv
  have hts := atoms_spec (ws := .code yX1_copyFrom cX1_copyFrom 3 none :: fx_U) B.pre
  obtain ⟨C, hH⟩ := fx_body (own := RX1) B hml rfl (fun w hw => hts w (List.mem_cons_of_mem _ hw)) hG hv
  replace hts := fun w hw => hts w (List.mem_cons_of_mem _ hw)
  obtain ⟨hx, hb, hr, -, hown, -, hlocks, hsz, hK, -, hSt⟩ := id C
  have hl := lv_entry ([.ref (fx_a g 2), .ref (fx_a g 1)]) (n := 3) (Nat.le_of_ble_eq_true rfl)
  rw [lg_entry_eq]
  generalize (lg_sl ([.ref (fx_a g 2), .ref (fx_a g 1)]) ++ List.replicate (3 - (lg_sl ([.ref (fx_a g 2), .ref (fx_a g 1)])).length) Slot.unset).toArray = ls at hl ⊢
  have hl : lv_has ls 3 [(0, .ref (fx_a g 2)), (1, .ref (fx_a g 1))] := hl
  obtain ⟨H, eH⟩ : ∃ H : Heap, H = s.heap := ⟨_, rfl⟩
  obtain ⟨locs, elocs⟩ : ∃ q : List Loc, q = [] := ⟨_, rfl⟩
  rw [← eH, ← elocs] at hH
  show W p l e rm_X1_copyFrom_2_1 s m _ below meth c s.heap [] 0 0 _ _
  rw [← eH, ← elocs]
  unfold wp_X1_copyFrom_2_1 at h
  refine lv_aload_n hx hb dX1_copyFrom_0 rfl (lv_at hl 0 rfl) ?_
  refine lv_aload_n hx hb dX1_copyFrom_1 rfl (lv_at hl 1 rfl) ?_
  refine fx_get C hH (fx_w1 g M) rfl in_X1 0 (by decide) u_37 rfl rfl dX1_copyFrom_2 ?_
  refine fx_put C hH (fx_w2 g M) rfl in_X1 tyX1 tyX1_ok nmX1 0 (by decide) u_37 rfl rfl (ty := .int) (by decide +kernel) rfl rfl (Nat.le_of_ble_eq_true rfl) (fx_p2_0 g M (M.1 64)) dX1_copyFrom_5 (fun H locs hH => ?_)
  generalize eM1 : fx_si M 128 (M.1 64) = M1 at hH
  replace h := h M1 eM1.symm
  refine lv_aload_n hx hb dX1_copyFrom_8 rfl (lv_at hl 0 rfl) ?_
  refine lv_aload_n hx hb dX1_copyFrom_9 rfl (lv_at hl 1 rfl) ?_
  refine fx_get C hH (fx_w1 g M1) rfl in_X1 1 (by decide) u_41 rfl rfl dX1_copyFrom_10 ?_
  refine fx_put C hH (fx_w2 g M1) rfl in_X1 tyX1 tyX1_ok nmX1 1 (by decide) u_41 rfl rfl (ty := .int) (by decide +kernel) rfl rfl (Nat.le_of_ble_eq_true rfl) (fx_p2_1 g M1 (M1.1 65)) dX1_copyFrom_13 (fun H locs hH => ?_)
  generalize eM2 : fx_si M1 129 (M1.1 65) = M2 at hH
  replace h := h M2 eM2.symm
  refine lv_aload_n hx hb dX1_copyFrom_16 rfl (lv_at hl 0 rfl) ?_
  refine lv_aload_n hx hb dX1_copyFrom_17 rfl (lv_at hl 1 rfl) ?_
  refine fx_get C hH (fx_w1 g M2) rfl in_X1 2 (by decide) u_44 rfl rfl dX1_copyFrom_18 ?_
  refine fx_put C hH (fx_w2 g M2) rfl in_X1 tyX1 tyX1_ok nmX1 2 (by decide) u_44 rfl rfl (ty := .int) (by decide +kernel) rfl rfl (Nat.le_of_ble_eq_true rfl) (fx_p2_2 g M2 (M2.1 66)) dX1_copyFrom_21 (fun H locs hH => ?_)
  generalize eM3 : fx_si M2 130 (M2.1 66) = M3 at hH
  replace h := h M3 eM3.symm
  refine lv_aload_n hx hb dX1_copyFrom_24 rfl (lv_at hl 0 rfl) ?_
  refine lv_aload_n hx hb dX1_copyFrom_25 rfl (lv_at hl 1 rfl) ?_
  refine fx_get C hH (fx_w1 g M3) rfl in_X1 3 (by decide) u_48 rfl rfl dX1_copyFrom_26 ?_
  refine fx_put C hH (fx_w2 g M3) rfl in_X1 tyX1 tyX1_ok nmX1 3 (by decide) u_48 rfl rfl (ty := .int) (by decide +kernel) rfl rfl (Nat.le_of_ble_eq_true rfl) (fx_p2_3 g M3 (M3.1 67)) dX1_copyFrom_29 (fun H locs hH => ?_)
  generalize eM4 : fx_si M3 131 (M3.1 67) = M4 at hH
  replace h := h M4 eM4.symm
  refine lv_aload_n hx hb dX1_copyFrom_32 rfl (lv_at hl 0 rfl) ?_
  refine lv_aload_n hx hb dX1_copyFrom_33 rfl (lv_at hl 1 rfl) ?_
  refine fx_get C hH (fx_w1 g M4) rfl in_X1 6 (by decide) u_60 rfl rfl dX1_copyFrom_34 ?_
  refine fx_put C hH (fx_w2 g M4) rfl in_X1 tyX1 tyX1_ok nmX1 6 (by decide) u_60 rfl rfl (ty := .int) (by decide +kernel) rfl rfl (Nat.le_of_ble_eq_true rfl) (fx_p2_6 g M4 (M4.1 70)) dX1_copyFrom_37 (fun H locs hH => ?_)
  generalize eM5 : fx_si M4 134 (M4.1 70) = M5 at hH
  replace h := h M5 eM5.symm
  refine lv_aload_n hx hb dX1_copyFrom_40 rfl (lv_at hl 1 rfl) ?_
  refine fx_get C hH (fx_w1 g M5) rfl in_X1 4 (by decide) u_51 rfl rfl dX1_copyFrom_41 ?_
  refine lv_iconst (v := 0) hx hb dX1_copyFrom_44 (by decide) ?_
  refine lv_aload_n hx hb dX1_copyFrom_45 rfl (lv_at hl 0 rfl) ?_
  refine fx_get C hH (fx_w2 g M5) rfl in_X1 4 (by decide) u_51 rfl rfl dX1_copyFrom_46 ?_
  refine lv_iconst (v := 0) hx hb dX1_copyFrom_49 (by decide) ?_
  refine lv_iconst (v := 5) hx hb dX1_copyFrom_50 (by decide) ?_
  refine fx_copy (M' := fx_sA M5 12 (va_cpy (M5.2.1 10) (M5.2.1 12) 0 0 5)) C hH (hts _ u_394) (hts _ u_396) (hts _ u_395) (hts _ u_18) hl.1 10 12 (fx_w10 g M5) (fx_w12 g M5) (fx_p12 g M5 _) (n := 5) (k := 5) (by decide) (by decide) (Nat.le_of_ble_eq_true rfl) (Nat.le_of_ble_eq_true rfl) (Nat.le_of_ble_eq_true rfl) (Nat.le_of_ble_eq_true rfl) dX1_copyFrom_51 (fun H locs hH => ?_)
  generalize eM6 : fx_sA M5 12 (va_cpy (M5.2.1 10) (M5.2.1 12) 0 0 5) = M6 at hH
  replace h := h M6 eM6.symm
  refine lv_iconst (v := 0) hx hb dX1_copyFrom_54 (by decide) ?_
  refine lv_istore_n (lv' := [(2, .int 0), (0, .ref (fx_a g 2)), (1, .ref (fx_a g 1))]) hx hb dX1_copyFrom_55 rfl hl (by decide) rfl (fun ls hl => ?_)
  obtain ⟨n56, h⟩ := h
  exact tl_X1_copyFrom_2_1_56 C Q  n56 0 M6 h  H locs ls hH (lv_sub hl [1, 2, 0] rfl)
/-! FlexLayout.save()I (0,) -/
def rm_X6_save_0 : Room := { frames := 2, cells := 0, slots := 0, locals := 86 }
def wp_X6_save_0 (M : fx_Mem) (Q : Int32 → fx_Mem → Prop) : Prop :=
  wp_X1_copyFrom_2_1  M (fun M1 => ∀ M2 : fx_Mem, M2 = fx_si M1 2 1 → Q (M2.1 134) M2)
set_option maxHeartbeats 4000000 in
set_option maxRecDepth 100000 in
theorem c_X6_save_0 (l : Launch) {g : fx_Geo} (hG : fx_Gd g) (M : fx_Mem) (Q : Int32 → fx_Mem → Prop) (h : wp_X6_save_0 M Q) : Met l yX6_save (.code yX6_save cX6_save 1 (some .int) :: fx_U) rm_X6_save_0 (va_Pc [.ref (fx_a g 0)] (fx_At g M)) (va_Qi Q (fx_Pw g) (fx_A g)) 0 0 (fx_A g) := by
  refine Met.ofW (cc := cX6_save) (maxL := 1) (ret := (some .int)) (by decide +kernel) rfl ?_
  intro p e s m args below meth c s₁ B hml hv
  obtain ⟨rfl, hv⟩ := hv
  have hts := atoms_spec (ws := .code yX6_save cX6_save 1 (some .int) :: fx_U) B.pre
  obtain ⟨C, hH⟩ := fx_body (own := RX6) B hml rfl (fun w hw => hts w (List.mem_cons_of_mem _ hw)) hG hv
  replace hts := fun w hw => hts w (List.mem_cons_of_mem _ hw)
  obtain ⟨hx, hb, hr, -, hown, -, hlocks, hsz, hK, -, hSt⟩ := id C
  have hl := lv_entry ([.ref (fx_a g 0)]) (n := 1) (Nat.le_of_ble_eq_true rfl)
  rw [lg_entry_eq]
  generalize (lg_sl ([.ref (fx_a g 0)]) ++ List.replicate (1 - (lg_sl ([.ref (fx_a g 0)])).length) Slot.unset).toArray = ls at hl ⊢
  have hl : lv_has ls 1 [(0, .ref (fx_a g 0))] := hl
  obtain ⟨H, eH⟩ : ∃ H : Heap, H = s.heap := ⟨_, rfl⟩
  obtain ⟨locs, elocs⟩ : ∃ q : List Loc, q = [] := ⟨_, rfl⟩
  rw [← eH, ← elocs] at hH
  show W p l e rm_X6_save_0 s m _ below meth c s.heap [] 0 0 _ _
  rw [← eH, ← elocs]
  unfold wp_X6_save_0 at h
  refine lv_aload_n hx hb dX6_save_0 rfl (lv_at hl 0 rfl) ?_
  refine fx_get C hH (fx_w0 g M) rfl in_X6 1 (by decide) u_200 rfl rfl dX6_save_1 ?_
  refine lv_aload_n hx hb dX6_save_4 rfl (lv_at hl 0 rfl) ?_
  refine fx_get C hH (fx_w0 g M) rfl in_X6 0 (by decide) u_199 rfl rfl dX6_save_5 ?_
  refine fx_cv hH (fx_runV (As := [.ref (fx_a g 1)]) (rest := []) C hH (c_X1_copyFrom_2_1 l C.2.2.2.2.2.2.2.2.2.1  M _ h) (fx_cwV 1 hts u_390 u_391 u_392 u_2 u_393 rfl rfl (by decide +kernel) ⟨(Nat.le_of_ble_eq_true rfl), (Nat.le_of_ble_eq_true rfl)⟩) (fx_w2 g M) rfl rfl hl.1 rfl (Nat.le_of_ble_eq_true rfl) dX6_save_8 ⟨(Nat.le_of_ble_eq_true rfl), (Nat.le_of_ble_eq_true rfl)⟩) (fun M1 H locs h hH => ?_)
  refine lv_aload_n hx hb dX6_save_11 rfl (lv_at hl 0 rfl) ?_
  refine lv_iconst (v := 1) hx hb dX6_save_12 (by decide) ?_
  refine fx_put C hH (fx_w0 g M1) rfl in_X6 tyX6 tyX6_ok nmX6 2 (by decide) u_201 rfl rfl (ty := .boolean) (by decide +kernel) rfl rfl (Nat.le_of_ble_eq_true rfl) (fx_p0_2 g M1 1) dX6_save_13 (fun H locs hH => ?_)
  generalize eM2 : fx_si M1 2 1 = M2 at hH
  replace h := h M2 eM2.symm
  refine lv_aload_n hx hb dX6_save_16 rfl (lv_at hl 0 rfl) ?_
  refine fx_get C hH (fx_w0 g M2) rfl in_X6 1 (by decide) u_200 rfl rfl dX6_save_17 ?_
  refine fx_get C hH (fx_w2 g M2) rfl in_X1 6 (by decide) u_62 rfl rfl dX6_save_20 ?_
  exact fx_iret C hH h dX6_save_23
/-! FlexLayout$Container.copyFrom(LFlexLayout$Container;)V (1, 2) -/
def rm_X1_copyFrom_1_2 : Room := { frames := 1, cells := 0, slots := 0, locals := 64 }
def wb_X1_copyFrom_1_2_56 (k56 : Int32 → fx_Mem → Prop) (Q : fx_Mem → Prop) (x2 : Int32) (M : fx_Mem) : Prop :=
  ((20 ≤ x2 → Q M) ∧ (¬ 20 ≤ x2 → vp_in x2 20 ∧ vp_in x2 20 ∧ ∀ M6 : fx_Mem, M6 = fx_sA M (57 + x2.toNatClampNeg) (va_cpy (M.2.1 (77 + x2.toNatClampNeg)) (M.2.1 (57 + x2.toNatClampNeg)) 0 0 10) → ∀ v7 : Int32, v7 = x2 + 1 → k56 v7 M6))
set_option maxHeartbeats 4000000 in
set_option maxRecDepth 100000 in
theorem tb_X1_copyFrom_1_2_56 {g : fx_Geo} {p : Program} {l : Launch} {e : Env} {s : State} {m : MethodId} {args : Array Value} {below : List Frame} {meth : Method} {c : Code} (C : fx_Cx g p s m args meth c RX1 cX1_copyFrom 3 none) (k56 : Int32 → fx_Mem → Prop) (Q : fx_Mem → Prop) (hk56 : ∀ (x2 : Int32) (M : fx_Mem), k56 x2 M → ∀ (H : Heap) (locs : List Loc) (ls : Array Slot), fx_H g s M H locs → lv_has ls 3 [(0, .ref (fx_a g 1)), (1, .ref (fx_a g 2)), (2, .int x2)] → W p l e rm_X1_copyFrom_1_2 s m args below meth c H locs 0 0 (MQ below (va_Qv Q (fx_Pw g) (fx_A g)) args s 0 0 (fx_A g)) (F0 m 56 ls [])) (x2 : Int32) (M : fx_Mem) (h : wb_X1_copyFrom_1_2_56 k56 Q x2 M) (H : Heap) (locs : List Loc) (ls : Array Slot) (hH : fx_H g s M H locs) (hl : lv_has ls 3 [(0, .ref (fx_a g 1)), (1, .ref (fx_a g 2)), (2, .int x2)]) : W p l e rm_X1_copyFrom_1_2 s m args below meth c H locs 0 0 (MQ below (va_Qv Q (fx_Pw g) (fx_A g)) args s 0 0 (fx_A g)) (F0 m 56 ls []) := by
  obtain ⟨hx, hb, hr, hml, hown, hts, hlocks, hsz, hK, hG, hSt⟩ := id C
  unfold wb_X1_copyFrom_1_2_56 at h
  refine lv_iload_n hx hb dX1_copyFrom_56 rfl (lv_at hl 2 rfl) ?_
  refine lv_bipush (v := 20) hx hb dX1_copyFrom_57 (by decide) ?_
  refine lv_icmp_ge (tgt := 87) hx hb dX1_copyFrom_59 (by decide) (fun c1 => ?_) (fun c1 => ?_)
  · replace h := h.1 c1
    exact fx_vret C hH h dX1_copyFrom_87
  · replace h := h.2 c1
    refine lv_aload_n hx hb dX1_copyFrom_62 rfl (lv_at hl 1 rfl) ?_
    refine fx_get C hH (fx_w2 g M) rfl in_X1 5 (by decide) u_55 rfl rfl dX1_copyFrom_63 ?_
    refine lv_iload_n hx hb dX1_copyFrom_66 rfl (lv_at hl 2 rfl) ?_
    obtain ⟨hi2, h⟩ := h
    have hj3 : x2.toNatClampNeg < 20 := Nat.not_le.mp fun q => hi2 (Or.inr q)
    refine fx_aald C hH 13 (fx_w13 g M) hi2 dX1_copyFrom_67 ?_
    refine lv_iconst (v := 0) hx hb dX1_copyFrom_68 (by decide) ?_
    refine lv_aload_n hx hb dX1_copyFrom_69 rfl (lv_at hl 0 rfl) ?_
    refine fx_get C hH (fx_w1 g M) rfl in_X1 5 (by decide) u_55 rfl rfl dX1_copyFrom_70 ?_
    refine lv_iload_n hx hb dX1_copyFrom_73 rfl (lv_at hl 2 rfl) ?_
    obtain ⟨hi4, h⟩ := h
    have hj5 : x2.toNatClampNeg < 20 := Nat.not_le.mp fun q => hi4 (Or.inr q)
    refine fx_aald C hH 11 (fx_w11 g M) hi4 dX1_copyFrom_74 ?_
    refine lv_iconst (v := 0) hx hb dX1_copyFrom_75 (by decide) ?_
    refine lv_bipush (v := 10) hx hb dX1_copyFrom_76 (by decide) ?_
    refine fx_copy (M' := fx_sA M (57 + x2.toNatClampNeg) (va_cpy (M.2.1 (77 + x2.toNatClampNeg)) (M.2.1 (57 + x2.toNatClampNeg)) 0 0 10)) C hH (hts _ u_394) (hts _ u_396) (hts _ u_395) (hts _ u_18) hl.1 (77 + x2.toNatClampNeg) (57 + x2.toNatClampNeg) (fx_r2 g M x2.toNatClampNeg hj3) (fx_r1 g M x2.toNatClampNeg hj5) (fx_q1 g M _ x2.toNatClampNeg hj5) (n := 10) (k := 10) (by decide) (by decide) (Nat.le_of_ble_eq_true rfl) (Nat.le_of_ble_eq_true rfl) (Nat.le_of_ble_eq_true rfl) (Nat.le_of_ble_eq_true rfl) dX1_copyFrom_78 (fun H locs hH => ?_)
    generalize eM6 : fx_sA M (57 + x2.toNatClampNeg) (va_cpy (M.2.1 (77 + x2.toNatClampNeg)) (M.2.1 (57 + x2.toNatClampNeg)) 0 0 10) = M6 at hH
    replace h := h M6 eM6.symm
    obtain ⟨v7, ev7⟩ : ∃ z : Int32, z = x2 + 1 := ⟨_, rfl⟩
    refine lv_iinc (v := v7) (lv' := [(2, .int v7), (0, .ref (fx_a g 1)), (1, .ref (fx_a g 2))]) hx hb dX1_copyFrom_81 hl (k := 2) rfl (by rw [ev7]; rfl) (by decide) rfl (fun ls hl => ?_)
    replace h := h v7 ev7
    refine lv_goto (tgt := 56) hx hb dX1_copyFrom_84 (by decide) ?_
    exact hk56 v7 M6 h  H locs ls hH (lv_sub hl [1, 2, 0] rfl)
def wl_X1_copyFrom_1_2_56 (Q : fx_Mem → Prop) (n : Nat) (x2 : Int32) (M : fx_Mem) : Prop :=
  fx_lp (α := Int32 × fx_Mem) (fun k a => wb_X1_copyFrom_1_2_56 (fun x2 M => k (x2, M)) Q a.1 a.2) n (x2, M)
set_option maxHeartbeats 4000000 in
theorem tl_X1_copyFrom_1_2_56 {g : fx_Geo} {p : Program} {l : Launch} {e : Env} {s : State} {m : MethodId} {args : Array Value} {below : List Frame} {meth : Method} {c : Code} (C : fx_Cx g p s m args meth c RX1 cX1_copyFrom 3 none) (Q : fx_Mem → Prop) : ∀ (n : Nat) (x2 : Int32) (M : fx_Mem), wl_X1_copyFrom_1_2_56  Q n x2 M → ∀ (H : Heap) (locs : List Loc) (ls : Array Slot), fx_H g s M H locs → lv_has ls 3 [(0, .ref (fx_a g 1)), (1, .ref (fx_a g 2)), (2, .int x2)] → W p l e rm_X1_copyFrom_1_2 s m args below meth c H locs 0 0 (MQ below (va_Qv Q (fx_Pw g) (fx_A g)) args s 0 0 (fx_A g)) (F0 m 56 ls []) := by
  intro n
  induction n with
  | zero => intro x2 M h; exact False.elim h
  | succ n ih => intro x2 M h  H locs ls hH hl; exact tb_X1_copyFrom_1_2_56 C (wl_X1_copyFrom_1_2_56  Q n) Q ih x2 M h  H locs ls hH hl
def wp_X1_copyFrom_1_2 (M : fx_Mem) (Q : fx_Mem → Prop) : Prop :=
  ∀ M1 : fx_Mem, M1 = fx_si M 64 (M.1 128) → ∀ M2 : fx_Mem, M2 = fx_si M1 65 (M1.1 129) → ∀ M3 : fx_Mem, M3 = fx_si M2 66 (M2.1 130) → ∀ M4 : fx_Mem, M4 = fx_si M3 67 (M3.1 131) → ∀ M5 : fx_Mem, M5 = fx_si M4 70 (M4.1 134) → ∀ M6 : fx_Mem, M6 = fx_sA M5 10 (va_cpy (M5.2.1 12) (M5.2.1 10) 0 0 5) → ∃ n56 : Nat, wl_X1_copyFrom_1_2_56 Q n56 0 M6
set_option maxHeartbeats 4000000 in
set_option maxRecDepth 100000 in
theorem c_X1_copyFrom_1_2 (l : Launch) {g : fx_Geo} (hG : fx_Gd g) (M : fx_Mem) (Q : fx_Mem → Prop) (h : wp_X1_copyFrom_1_2 M Q) : Met l yX1_copyFrom (.code yX1_copyFrom cX1_copyFrom 3 none :: fx_U) rm_X1_copyFrom_1_2 (va_Pc [.ref (fx_a g 1), .ref (fx_a g 2)] (fx_At g M)) (va_Qv Q (fx_Pw g) (fx_A g)) 0 0 (fx_A g) := by
  refine Met.ofW (cc := cX1_copyFrom) (maxL := 3) (ret := none) (by decide +kernel) rfl ?_
  intro p e s m args below meth c s₁ B hml hv
  obtain ⟨rfl, hv⟩ := hv
  have hts := atoms_spec (ws := .code yX1_copyFrom cX1_copyFrom 3 none :: fx_U) B.pre
  obtain ⟨C, hH⟩ := fx_body (own := RX1) B hml rfl (fun w hw => hts w (List.mem_cons_of_mem _ hw)) hG hv
  replace hts := fun w hw => hts w (List.mem_cons_of_mem _ hw)
  obtain ⟨hx, hb, hr, -, hown, -, hlocks, hsz, hK, -, hSt⟩ := id C
  have hl := lv_entry ([.ref (fx_a g 1), .ref (fx_a g 2)]) (n := 3) (Nat.le_of_ble_eq_true rfl)
  rw [lg_entry_eq]
  generalize (lg_sl ([.ref (fx_a g 1), .ref (fx_a g 2)]) ++ List.replicate (3 - (lg_sl ([.ref (fx_a g 1), .ref (fx_a g 2)])).length) Slot.unset).toArray = ls at hl ⊢
  have hl : lv_has ls 3 [(0, .ref (fx_a g 1)), (1, .ref (fx_a g 2))] := hl
  obtain ⟨H, eH⟩ : ∃ H : Heap, H = s.heap := ⟨_, rfl⟩
  obtain ⟨locs, elocs⟩ : ∃ q : List Loc, q = [] := ⟨_, rfl⟩
  rw [← eH, ← elocs] at hH
  show W p l e rm_X1_copyFrom_1_2 s m _ below meth c s.heap [] 0 0 _ _
  rw [← eH, ← elocs]
  unfold wp_X1_copyFrom_1_2 at h
  refine lv_aload_n hx hb dX1_copyFrom_0 rfl (lv_at hl 0 rfl) ?_
  refine lv_aload_n hx hb dX1_copyFrom_1 rfl (lv_at hl 1 rfl) ?_
  refine fx_get C hH (fx_w2 g M) rfl in_X1 0 (by decide) u_37 rfl rfl dX1_copyFrom_2 ?_
  refine fx_put C hH (fx_w1 g M) rfl in_X1 tyX1 tyX1_ok nmX1 0 (by decide) u_37 rfl rfl (ty := .int) (by decide +kernel) rfl rfl (Nat.le_of_ble_eq_true rfl) (fx_p1_0 g M (M.1 128)) dX1_copyFrom_5 (fun H locs hH => ?_)
  generalize eM1 : fx_si M 64 (M.1 128) = M1 at hH
  replace h := h M1 eM1.symm
  refine lv_aload_n hx hb dX1_copyFrom_8 rfl (lv_at hl 0 rfl) ?_
  refine lv_aload_n hx hb dX1_copyFrom_9 rfl (lv_at hl 1 rfl) ?_
  refine fx_get C hH (fx_w2 g M1) rfl in_X1 1 (by decide) u_41 rfl rfl dX1_copyFrom_10 ?_
  refine fx_put C hH (fx_w1 g M1) rfl in_X1 tyX1 tyX1_ok nmX1 1 (by decide) u_41 rfl rfl (ty := .int) (by decide +kernel) rfl rfl (Nat.le_of_ble_eq_true rfl) (fx_p1_1 g M1 (M1.1 129)) dX1_copyFrom_13 (fun H locs hH => ?_)
  generalize eM2 : fx_si M1 65 (M1.1 129) = M2 at hH
  replace h := h M2 eM2.symm
  refine lv_aload_n hx hb dX1_copyFrom_16 rfl (lv_at hl 0 rfl) ?_
  refine lv_aload_n hx hb dX1_copyFrom_17 rfl (lv_at hl 1 rfl) ?_
  refine fx_get C hH (fx_w2 g M2) rfl in_X1 2 (by decide) u_44 rfl rfl dX1_copyFrom_18 ?_
  refine fx_put C hH (fx_w1 g M2) rfl in_X1 tyX1 tyX1_ok nmX1 2 (by decide) u_44 rfl rfl (ty := .int) (by decide +kernel) rfl rfl (Nat.le_of_ble_eq_true rfl) (fx_p1_2 g M2 (M2.1 130)) dX1_copyFrom_21 (fun H locs hH => ?_)
  generalize eM3 : fx_si M2 66 (M2.1 130) = M3 at hH
  replace h := h M3 eM3.symm
  refine lv_aload_n hx hb dX1_copyFrom_24 rfl (lv_at hl 0 rfl) ?_
  refine lv_aload_n hx hb dX1_copyFrom_25 rfl (lv_at hl 1 rfl) ?_
  refine fx_get C hH (fx_w2 g M3) rfl in_X1 3 (by decide) u_48 rfl rfl dX1_copyFrom_26 ?_
  refine fx_put C hH (fx_w1 g M3) rfl in_X1 tyX1 tyX1_ok nmX1 3 (by decide) u_48 rfl rfl (ty := .int) (by decide +kernel) rfl rfl (Nat.le_of_ble_eq_true rfl) (fx_p1_3 g M3 (M3.1 131)) dX1_copyFrom_29 (fun H locs hH => ?_)
  generalize eM4 : fx_si M3 67 (M3.1 131) = M4 at hH
  replace h := h M4 eM4.symm
  refine lv_aload_n hx hb dX1_copyFrom_32 rfl (lv_at hl 0 rfl) ?_
  refine lv_aload_n hx hb dX1_copyFrom_33 rfl (lv_at hl 1 rfl) ?_
  refine fx_get C hH (fx_w2 g M4) rfl in_X1 6 (by decide) u_60 rfl rfl dX1_copyFrom_34 ?_
  refine fx_put C hH (fx_w1 g M4) rfl in_X1 tyX1 tyX1_ok nmX1 6 (by decide) u_60 rfl rfl (ty := .int) (by decide +kernel) rfl rfl (Nat.le_of_ble_eq_true rfl) (fx_p1_6 g M4 (M4.1 134)) dX1_copyFrom_37 (fun H locs hH => ?_)
  generalize eM5 : fx_si M4 70 (M4.1 134) = M5 at hH
  replace h := h M5 eM5.symm
  refine lv_aload_n hx hb dX1_copyFrom_40 rfl (lv_at hl 1 rfl) ?_
  refine fx_get C hH (fx_w2 g M5) rfl in_X1 4 (by decide) u_51 rfl rfl dX1_copyFrom_41 ?_
  refine lv_iconst (v := 0) hx hb dX1_copyFrom_44 (by decide) ?_
  refine lv_aload_n hx hb dX1_copyFrom_45 rfl (lv_at hl 0 rfl) ?_
  refine fx_get C hH (fx_w1 g M5) rfl in_X1 4 (by decide) u_51 rfl rfl dX1_copyFrom_46 ?_
  refine lv_iconst (v := 0) hx hb dX1_copyFrom_49 (by decide) ?_
  refine lv_iconst (v := 5) hx hb dX1_copyFrom_50 (by decide) ?_
  refine fx_copy (M' := fx_sA M5 10 (va_cpy (M5.2.1 12) (M5.2.1 10) 0 0 5)) C hH (hts _ u_394) (hts _ u_396) (hts _ u_395) (hts _ u_18) hl.1 12 10 (fx_w12 g M5) (fx_w10 g M5) (fx_p10 g M5 _) (n := 5) (k := 5) (by decide) (by decide) (Nat.le_of_ble_eq_true rfl) (Nat.le_of_ble_eq_true rfl) (Nat.le_of_ble_eq_true rfl) (Nat.le_of_ble_eq_true rfl) dX1_copyFrom_51 (fun H locs hH => ?_)
  generalize eM6 : fx_sA M5 10 (va_cpy (M5.2.1 12) (M5.2.1 10) 0 0 5) = M6 at hH
  replace h := h M6 eM6.symm
  refine lv_iconst (v := 0) hx hb dX1_copyFrom_54 (by decide) ?_
  refine lv_istore_n (lv' := [(2, .int 0), (0, .ref (fx_a g 1)), (1, .ref (fx_a g 2))]) hx hb dX1_copyFrom_55 rfl hl (by decide) rfl (fun ls hl => ?_)
  obtain ⟨n56, h⟩ := h
  exact tl_X1_copyFrom_1_2_56 C Q  n56 0 M6 h  H locs ls hH (lv_sub hl [1, 2, 0] rfl)
/-! FlexLayout.restore()I (0,) -/
def rm_X6_restore_0 : Room := { frames := 6, cells := 1, slots := 6, locals := 90 }
def wp_X6_restore_0 (M : fx_Mem) (Q : Int32 → fx_Mem → Prop) (X : String → fx_Mem → Prop) : Prop :=
  ((M.1 2 = 0 → X "java/lang/IllegalStateException" M) ∧ (¬ M.1 2 = 0 → wp_X1_copyFrom_1_2  M (fun M2 => Q (M2.1 70) M2)))
set_option maxHeartbeats 4000000 in
set_option maxRecDepth 100000 in
theorem c_X6_restore_0 (l : Launch) {g : fx_Geo} (hG : fx_Gd g) (hfl0 : l.stackTraces = false) (M : fx_Mem) (Q : Int32 → fx_Mem → Prop) (X : String → fx_Mem → Prop) (h : wp_X6_restore_0 M Q X) : vx_Met l yX6_restore (.code yX6_restore cX6_restore 1 (some .int) :: fx_U) rm_X6_restore_0 (va_Pc [.ref (fx_a g 0)] (fx_At g M)) (va_Qi Q (fx_Pw g) (fx_A g)) (fx_XC g X) 1 6 (fx_A g) := by
  refine vx_ofW (cc := cX6_restore) (maxL := 1) (ret := (some .int)) (by decide +kernel) rfl ?_
  intro p e s m args below meth c s₁ B hml hex hv
  have hfl : fx_fl l c := ⟨hfl0, hex⟩
  obtain ⟨rfl, hv⟩ := hv
  have hts := atoms_spec (ws := .code yX6_restore cX6_restore 1 (some .int) :: fx_U) B.pre
  obtain ⟨C, hH⟩ := fx_body (own := RX6) B hml rfl (fun w hw => hts w (List.mem_cons_of_mem _ hw)) hG hv
  replace hts := fun w hw => hts w (List.mem_cons_of_mem _ hw)
  obtain ⟨hx, hb, hr, -, hown, -, hlocks, hsz, hK, -, hSt⟩ := id C
  have hl := lv_entry ([.ref (fx_a g 0)]) (n := 1) (Nat.le_of_ble_eq_true rfl)
  rw [lg_entry_eq]
  generalize (lg_sl ([.ref (fx_a g 0)]) ++ List.replicate (1 - (lg_sl ([.ref (fx_a g 0)])).length) Slot.unset).toArray = ls at hl ⊢
  have hl : lv_has ls 1 [(0, .ref (fx_a g 0))] := hl
  obtain ⟨H, eH⟩ : ∃ H : Heap, H = s.heap := ⟨_, rfl⟩
  obtain ⟨locs, elocs⟩ : ∃ q : List Loc, q = [] := ⟨_, rfl⟩
  rw [← eH, ← elocs] at hH
  show W p l e rm_X6_restore_0 s m _ below meth c s.heap [] 0 0 _ _
  rw [← eH, ← elocs]
  unfold wp_X6_restore_0 at h
  refine lv_aload_n hx hb dX6_restore_0 rfl (lv_at hl 0 rfl) ?_
  refine fx_get C hH (fx_w0 g M) rfl in_X6 2 (by decide) u_201 rfl rfl dX6_restore_1 ?_
  refine lv_if_ne (tgt := 18) hx hb dX6_restore_4 (by decide) (fun c1 => ?_) (fun c1 => ?_)
  · replace h := h.2 c1
    refine lv_aload_n hx hb dX6_restore_18 rfl (lv_at hl 0 rfl) ?_
    refine fx_get C hH (fx_w0 g M) rfl in_X6 0 (by decide) u_199 rfl rfl dX6_restore_19 ?_
    refine lv_aload_n hx hb dX6_restore_22 rfl (lv_at hl 0 rfl) ?_
    refine fx_get C hH (fx_w0 g M) rfl in_X6 1 (by decide) u_200 rfl rfl dX6_restore_23 ?_
    refine fx_cv hH (fx_runV (As := [.ref (fx_a g 2)]) (rest := []) C hH (c_X1_copyFrom_1_2 l C.2.2.2.2.2.2.2.2.2.1  M _ h) (fx_cwV 1 hts u_390 u_391 u_392 u_2 u_393 rfl rfl (by decide +kernel) ⟨(Nat.le_of_ble_eq_true rfl), (Nat.le_of_ble_eq_true rfl)⟩) (fx_w1 g M) rfl rfl hl.1 rfl (Nat.le_of_ble_eq_true rfl) dX6_restore_26 ⟨(Nat.le_of_ble_eq_true rfl), (Nat.le_of_ble_eq_true rfl)⟩) (fun M2 H locs h hH => ?_)
    refine lv_aload_n hx hb dX6_restore_29 rfl (lv_at hl 0 rfl) ?_
    refine fx_get C hH (fx_w0 g M2) rfl in_X6 0 (by decide) u_199 rfl rfl dX6_restore_30 ?_
    refine fx_get C hH (fx_w1 g M2) rfl in_X1 6 (by decide) u_62 rfl rfl dX6_restore_33 ?_
    refine vx_ret (W.widen (k := 1) (n := 6) (Nat.le_of_ble_eq_true rfl) (Nat.le_of_ble_eq_true rfl) ?_)
    exact fx_iret C hH h dX6_restore_36
  · replace h := h.1 c1
    exact fx_throwSW (text := "nothing was saved") C hfl hH u_562 u_16 19 rfl at_143 (by decide +kernel) (by decide +kernel) (by decide +kernel) dX6_restore_7 dX6_restore_10 dX6_restore_11 dX6_restore_14 dX6_restore_17 (Nat.le_of_ble_eq_true rfl) (Nat.le_of_ble_eq_true rfl) (Nat.le_of_ble_eq_true rfl) (Nat.le_of_ble_eq_true rfl) hl.1 h (Nat.le_of_ble_eq_true rfl) (Nat.le_of_ble_eq_true rfl)
/-! FlexLayoutModel.thrown()I (8,) -/
def rm_X7_thrown_8 : Room := { frames := 0, cells := 0, slots := 0, locals := 0 }
def wp_X7_thrown_8 (M : fx_Mem) (Q : Int32 → fx_Mem → Prop) : Prop :=
  Q (M.1 512) M
set_option maxHeartbeats 4000000 in
set_option maxRecDepth 100000 in
theorem c_X7_thrown_8 (l : Launch) {g : fx_Geo} (hG : fx_Gd g) (M : fx_Mem) (Q : Int32 → fx_Mem → Prop) (h : wp_X7_thrown_8 M Q) : Met l yX7_thrown (.code yX7_thrown cX7_thrown 1 (some .int) :: fx_U) rm_X7_thrown_8 (va_Pc [.ref (fx_a g 8)] (fx_At g M)) (va_Qi Q (fx_Pw g) (fx_A g)) 0 0 (fx_A g) := by
  refine Met.ofW (cc := cX7_thrown) (maxL := 1) (ret := (some .int)) (by decide +kernel) rfl ?_
  intro p e s m args below meth c s₁ B hml hv
  obtain ⟨rfl, hv⟩ := hv
  have hts := atoms_spec (ws := .code yX7_thrown cX7_thrown 1 (some .int) :: fx_U) B.pre
  obtain ⟨C, hH⟩ := fx_body (own := RX7) B hml rfl (fun w hw => hts w (List.mem_cons_of_mem _ hw)) hG hv
  replace hts := fun w hw => hts w (List.mem_cons_of_mem _ hw)
  obtain ⟨hx, hb, hr, -, hown, -, hlocks, hsz, hK, -, hSt⟩ := id C
  have hl := lv_entry ([.ref (fx_a g 8)]) (n := 1) (Nat.le_of_ble_eq_true rfl)
  rw [lg_entry_eq]
  generalize (lg_sl ([.ref (fx_a g 8)]) ++ List.replicate (1 - (lg_sl ([.ref (fx_a g 8)])).length) Slot.unset).toArray = ls at hl ⊢
  have hl : lv_has ls 1 [(0, .ref (fx_a g 8))] := hl
  obtain ⟨H, eH⟩ : ∃ H : Heap, H = s.heap := ⟨_, rfl⟩
  obtain ⟨locs, elocs⟩ : ∃ q : List Loc, q = [] := ⟨_, rfl⟩
  rw [← eH, ← elocs] at hH
  show W p l e rm_X7_thrown_8 s m _ below meth c s.heap [] 0 0 _ _
  rw [← eH, ← elocs]
  unfold wp_X7_thrown_8 at h
  refine lv_aload_n hx hb dX7_thrown_0 rfl (lv_at hl 0 rfl) ?_
  refine fx_get C hH (fx_w8 g M) rfl in_X7 0 (by decide) u_823 rfl rfl dX7_thrown_1 ?_
  exact fx_iret C hH h dX7_thrown_4
/-! FlexLayoutModel.fails(I)I (8,) -/
def rm_X7_fails_8 : Room := { frames := 0, cells := 0, slots := 0, locals := 0 }
def wp_X7_fails_8 (a1 : Int32) (M : fx_Mem) (Q : Int32 → fx_Mem → Prop) : Prop :=
  ∀ M1 : fx_Mem, M1 = fx_si M 512 a1 → Q 0 M1
set_option maxHeartbeats 4000000 in
set_option maxRecDepth 100000 in
theorem c_X7_fails_8 (l : Launch) {g : fx_Geo} (hG : fx_Gd g) (a1 : Int32) (M : fx_Mem) (Q : Int32 → fx_Mem → Prop) (h : wp_X7_fails_8 a1 M Q) : Met l yX7_fails (.code yX7_fails cX7_fails 2 (some .int) :: fx_U) rm_X7_fails_8 (va_Pc [.ref (fx_a g 8), .int a1] (fx_At g M)) (va_Qi Q (fx_Pw g) (fx_A g)) 0 0 (fx_A g) := by
  refine Met.ofW (cc := cX7_fails) (maxL := 2) (ret := (some .int)) (by decide +kernel) rfl ?_
  intro p e s m args below meth c s₁ B hml hv
  obtain ⟨rfl, hv⟩ := hv
  have hts := atoms_spec (ws := .code yX7_fails cX7_fails 2 (some .int) :: fx_U) B.pre
  obtain ⟨C, hH⟩ := fx_body (own := RX7) B hml rfl (fun w hw => hts w (List.mem_cons_of_mem _ hw)) hG hv
  replace hts := fun w hw => hts w (List.mem_cons_of_mem _ hw)
  obtain ⟨hx, hb, hr, -, hown, -, hlocks, hsz, hK, -, hSt⟩ := id C
  have hl := lv_entry ([.ref (fx_a g 8), .int a1]) (n := 2) (Nat.le_of_ble_eq_true rfl)
  rw [lg_entry_eq]
  generalize (lg_sl ([.ref (fx_a g 8), .int a1]) ++ List.replicate (2 - (lg_sl ([.ref (fx_a g 8), .int a1])).length) Slot.unset).toArray = ls at hl ⊢
  have hl : lv_has ls 2 [(0, .ref (fx_a g 8)), (1, .int a1)] := hl
  obtain ⟨H, eH⟩ : ∃ H : Heap, H = s.heap := ⟨_, rfl⟩
  obtain ⟨locs, elocs⟩ : ∃ q : List Loc, q = [] := ⟨_, rfl⟩
  rw [← eH, ← elocs] at hH
  show W p l e rm_X7_fails_8 s m _ below meth c s.heap [] 0 0 _ _
  rw [← eH, ← elocs]
  unfold wp_X7_fails_8 at h
  refine lv_aload_n hx hb dX7_fails_0 rfl (lv_at hl 0 rfl) ?_
  refine lv_iload_n hx hb dX7_fails_1 rfl (lv_at hl 1 rfl) ?_
  refine fx_put C hH (fx_w8 g M) rfl in_X7 tyX7 tyX7_ok nmX7 0 (by decide) u_823 rfl rfl (ty := .int) (by decide +kernel) rfl rfl (Nat.le_of_ble_eq_true rfl) (fx_p8_0 g M a1) dX7_fails_2 (fun H locs hH => ?_)
  generalize eM1 : fx_si M 512 a1 = M1 at hH
  replace h := h M1 eM1.symm
  refine lv_iconst (v := 0) hx hb dX7_fails_5 (by decide) ?_
  exact fx_iret C hH h dX7_fails_6
/-! FlexLayoutModel.isBetween(JJJ)Z () -/
def rm_X7_isBetween : Room := { frames := 0, cells := 0, slots := 0, locals := 0 }
def wp_X7_isBetween (a0 : Int64) (a2 : Int64) (a4 : Int64) (M : fx_Mem) (Q : Int32 → fx_Mem → Prop) : Prop :=
  ((lg_cmp a0 a2 < 0 → Q 0 M) ∧ (¬ lg_cmp a0 a2 < 0 → ((0 < lg_cmp a0 a4 → Q 0 M) ∧ (¬ 0 < lg_cmp a0 a4 → Q 1 M))))
set_option maxHeartbeats 4000000 in
set_option maxRecDepth 100000 in
theorem c_X7_isBetween (l : Launch) {g : fx_Geo} (hG : fx_Gd g) (a0 : Int64) (a2 : Int64) (a4 : Int64) (M : fx_Mem) (Q : Int32 → fx_Mem → Prop) (h : wp_X7_isBetween a0 a2 a4 M Q) : Met l yX7_isBetween (.code yX7_isBetween cX7_isBetween 6 (some .boolean) :: fx_U) rm_X7_isBetween (va_Pc [.long a0, .long a2, .long a4] (fx_At g M)) (va_Qi Q (fx_Pw g) (fx_A g)) 0 0 (fx_A g) := by
  refine Met.ofW (cc := cX7_isBetween) (maxL := 6) (ret := (some .boolean)) (by decide +kernel) rfl ?_
  intro p e s m args below meth c s₁ B hml hv
  obtain ⟨rfl, hv⟩ := hv
  have hts := atoms_spec (ws := .code yX7_isBetween cX7_isBetween 6 (some .boolean) :: fx_U) B.pre
  obtain ⟨C, hH⟩ := fx_body (own := RX7) B hml rfl (fun w hw => hts w (List.mem_cons_of_mem _ hw)) hG hv
  replace hts := fun w hw => hts w (List.mem_cons_of_mem _ hw)
  obtain ⟨hx, hb, hr, -, hown, -, hlocks, hsz, hK, -, hSt⟩ := id C
  have hl := lv_entry ([.long a0, .long a2, .long a4]) (n := 6) (Nat.le_of_ble_eq_true rfl)
  rw [lg_entry_eq]
  generalize (lg_sl ([.long a0, .long a2, .long a4]) ++ List.replicate (6 - (lg_sl ([.long a0, .long a2, .long a4])).length) Slot.unset).toArray = ls at hl ⊢
  have hl : lv_has ls 6 [(0, .long a0), (2, .long a2), (4, .long a4)] := hl
  obtain ⟨H, eH⟩ : ∃ H : Heap, H = s.heap := ⟨_, rfl⟩
  obtain ⟨locs, elocs⟩ : ∃ q : List Loc, q = [] := ⟨_, rfl⟩
  rw [← eH, ← elocs] at hH
  show W p l e rm_X7_isBetween s m _ below meth c s.heap [] 0 0 _ _
  rw [← eH, ← elocs]
  unfold wp_X7_isBetween at h
  refine lv_lload_n hx hb dX7_isBetween_0 rfl (lv_at hl 0 rfl) ?_
  refine lv_lload_n hx hb dX7_isBetween_1 rfl (lv_at hl 1 rfl) ?_
  refine W.lcmp hx hb dX7_isBetween_2 ?_
  refine lv_if_lt (tgt := 17) hx hb dX7_isBetween_3 (by decide) (fun c1 => ?_) (fun c1 => ?_)
  · replace h := h.1 c1
    refine lv_iconst (v := 0) hx hb dX7_isBetween_17 (by decide) ?_
    exact fx_zret C hH (by decide) h dX7_isBetween_18
  · replace h := h.2 c1
    refine lv_lload_n hx hb dX7_isBetween_6 rfl (lv_at hl 0 rfl) ?_
    refine lv_lload hx hb dX7_isBetween_7 (lv_at hl 2 rfl) ?_
    refine W.lcmp hx hb dX7_isBetween_9 ?_
    refine lv_if_gt (tgt := 17) hx hb dX7_isBetween_10 (by decide) (fun c2 => ?_) (fun c2 => ?_)
    · replace h := h.1 c2
      refine lv_iconst (v := 0) hx hb dX7_isBetween_17 (by decide) ?_
      exact fx_zret C hH (by decide) h dX7_isBetween_18
    · replace h := h.2 c2
      refine lv_iconst (v := 1) hx hb dX7_isBetween_13 (by decide) ?_
      refine lv_goto (tgt := 18) hx hb dX7_isBetween_14 (by decide) ?_
      exact fx_zret C hH (by decide) h dX7_isBetween_18
/-! FlexLayoutModel.replaces(II)I (8,) -/
def rm_X7_replaces_8 : Room := { frames := 0, cells := 0, slots := 0, locals := 0 }
def wp_X7_replaces_8 (a1 : Int32) (a2 : Int32) (M : fx_Mem) (Q : Int32 → fx_Mem → Prop) : Prop :=
  ∀ M1 : fx_Mem, M1 = fx_si M 512 0 → vp_in a1 9 ∧ ∀ v3 : Int32, v3 = M1.2.1 30 a1.toNatClampNeg → vp_in a1 9 ∧ ∀ M5 : fx_Mem, M5 = fx_sa M1 30 a1.toNatClampNeg a2 → Q v3 M5
set_option maxHeartbeats 4000000 in
set_option maxRecDepth 100000 in
theorem c_X7_replaces_8 (l : Launch) {g : fx_Geo} (hG : fx_Gd g) (a1 : Int32) (a2 : Int32) (M : fx_Mem) (Q : Int32 → fx_Mem → Prop) (h : wp_X7_replaces_8 a1 a2 M Q) : Met l yX7_replaces (.code yX7_replaces cX7_replaces 4 (some .int) :: fx_U) rm_X7_replaces_8 (va_Pc [.ref (fx_a g 8), .int a1, .int a2] (fx_At g M)) (va_Qi Q (fx_Pw g) (fx_A g)) 0 0 (fx_A g) := by
  refine Met.ofW (cc := cX7_replaces) (maxL := 4) (ret := (some .int)) (by decide +kernel) rfl ?_
  intro p e s m args below meth c s₁ B hml hv
  obtain ⟨rfl, hv⟩ := hv
  have hts := atoms_spec (ws := .code yX7_replaces cX7_replaces 4 (some .int) :: fx_U) B.pre
  obtain ⟨C, hH⟩ := fx_body (own := RX7) B hml rfl (fun w hw => hts w (List.mem_cons_of_mem _ hw)) hG hv
  replace hts := fun w hw => hts w (List.mem_cons_of_mem _ hw)
  obtain ⟨hx, hb, hr, -, hown, -, hlocks, hsz, hK, -, hSt⟩ := id C
  have hl := lv_entry ([.ref (fx_a g 8), .int a1, .int a2]) (n := 4) (Nat.le_of_ble_eq_true rfl)
  rw [lg_entry_eq]
  generalize (lg_sl ([.ref (fx_a g 8), .int a1, .int a2]) ++ List.replicate (4 - (lg_sl ([.ref (fx_a g 8), .int a1, .int a2])).length) Slot.unset).toArray = ls at hl ⊢
  have hl : lv_has ls 4 [(0, .ref (fx_a g 8)), (1, .int a1), (2, .int a2)] := hl
  obtain ⟨H, eH⟩ : ∃ H : Heap, H = s.heap := ⟨_, rfl⟩
  obtain ⟨locs, elocs⟩ : ∃ q : List Loc, q = [] := ⟨_, rfl⟩
  rw [← eH, ← elocs] at hH
  show W p l e rm_X7_replaces_8 s m _ below meth c s.heap [] 0 0 _ _
  rw [← eH, ← elocs]
  unfold wp_X7_replaces_8 at h
  refine lv_aload_n hx hb dX7_replaces_0 rfl (lv_at hl 0 rfl) ?_
  refine lv_iconst (v := 0) hx hb dX7_replaces_1 (by decide) ?_
  refine fx_put C hH (fx_w8 g M) rfl in_X7 tyX7 tyX7_ok nmX7 0 (by decide) u_823 rfl rfl (ty := .int) (by decide +kernel) rfl rfl (Nat.le_of_ble_eq_true rfl) (fx_p8_0 g M 0) dX7_replaces_2 (fun H locs hH => ?_)
  generalize eM1 : fx_si M 512 0 = M1 at hH
  replace h := h M1 eM1.symm
  refine lv_aload_n hx hb dX7_replaces_5 rfl (lv_at hl 0 rfl) ?_
  refine fx_get C hH (fx_w8 g M1) rfl in_X7 1 (by decide) u_824 rfl rfl dX7_replaces_6 ?_
  refine lv_iload_n hx hb dX7_replaces_9 rfl (lv_at hl 1 rfl) ?_
  obtain ⟨hi2, h⟩ := h
  refine fx_iald (j := a1.toNatClampNeg) C hH 30 (fx_w30 g M1) rfl hi2 dX7_replaces_10 ?_
  refine lv_topi (fun v3 ev3 => ?_)
  replace h := h v3 ev3
  refine lv_istore_n (lv' := [(3, .int v3), (0, .ref (fx_a g 8)), (1, .int a1), (2, .int a2)]) hx hb dX7_replaces_11 rfl hl (by decide) rfl (fun ls hl => ?_)
  refine lv_aload_n hx hb dX7_replaces_12 rfl (lv_at hl 1 rfl) ?_
  refine fx_get C hH (fx_w8 g M1) rfl in_X7 1 (by decide) u_824 rfl rfl dX7_replaces_13 ?_
  refine lv_iload_n hx hb dX7_replaces_16 rfl (lv_at hl 2 rfl) ?_
  refine lv_iload_n hx hb dX7_replaces_17 rfl (lv_at hl 3 rfl) ?_
  obtain ⟨hi4, h⟩ := h
  refine fx_iast (j := a1.toNatClampNeg) (M' := fx_sa M1 30 a1.toNatClampNeg a2) C hH 30 rfl (fx_w30 g M1) (fx_p30 g M1 _) hi4 dX7_replaces_18 (fun H locs hH => ?_)
  generalize eM5 : fx_sa M1 30 a1.toNatClampNeg a2 = M5 at hH
  replace h := h M5 eM5.symm
  refine lv_iload_n hx hb dX7_replaces_19 rfl (lv_at hl 0 rfl) ?_
  exact fx_iret C hH h dX7_replaces_20
/-! FlexLayoutModel.setMainSize(I)I (8,) -/
def rm_X7_setMainSize_8 : Room := { frames := 1, cells := 0, slots := 0, locals := 25 }
def wp_X7_setMainSize_8 (a1 : Int32) (M : fx_Mem) (Q : Int32 → fx_Mem → Prop) : Prop :=
  wp_X7_isBetween a1.toInt64 0 9999 M (fun r2 M1 => ((r2 = 0 → wp_X7_fails_8 1 M1 (fun r5 M4 => Q r5 M4)) ∧ (¬ r2 = 0 → wp_X7_replaces_8 0 a1 M1 (fun r7 M6 => Q r7 M6))))
set_option maxHeartbeats 4000000 in
set_option maxRecDepth 100000 in
theorem c_X7_setMainSize_8 (l : Launch) {g : fx_Geo} (hG : fx_Gd g) (a1 : Int32) (M : fx_Mem) (Q : Int32 → fx_Mem → Prop) (h : wp_X7_setMainSize_8 a1 M Q) : Met l yX7_setMainSize (.code yX7_setMainSize cX7_setMainSize 2 (some .int) :: fx_U) rm_X7_setMainSize_8 (va_Pc [.ref (fx_a g 8), .int a1] (fx_At g M)) (va_Qi Q (fx_Pw g) (fx_A g)) 0 0 (fx_A g) := by
  refine Met.ofW (cc := cX7_setMainSize) (maxL := 2) (ret := (some .int)) (by decide +kernel) rfl ?_
  intro p e s m args below meth c s₁ B hml hv
  obtain ⟨rfl, hv⟩ := hv
  have hts := atoms_spec (ws := .code yX7_setMainSize cX7_setMainSize 2 (some .int) :: fx_U) B.pre
  obtain ⟨C, hH⟩ := fx_body (own := RX7) B hml rfl (fun w hw => hts w (List.mem_cons_of_mem _ hw)) hG hv
  replace hts := fun w hw => hts w (List.mem_cons_of_mem _ hw)
  obtain ⟨hx, hb, hr, -, hown, -, hlocks, hsz, hK, -, hSt⟩ := id C
  have hl := lv_entry ([.ref (fx_a g 8), .int a1]) (n := 2) (Nat.le_of_ble_eq_true rfl)
  rw [lg_entry_eq]
  generalize (lg_sl ([.ref (fx_a g 8), .int a1]) ++ List.replicate (2 - (lg_sl ([.ref (fx_a g 8), .int a1])).length) Slot.unset).toArray = ls at hl ⊢
  have hl : lv_has ls 2 [(0, .ref (fx_a g 8)), (1, .int a1)] := hl
  obtain ⟨H, eH⟩ : ∃ H : Heap, H = s.heap := ⟨_, rfl⟩
  obtain ⟨locs, elocs⟩ : ∃ q : List Loc, q = [] := ⟨_, rfl⟩
  rw [← eH, ← elocs] at hH
  show W p l e rm_X7_setMainSize_8 s m _ below meth c s.heap [] 0 0 _ _
  rw [← eH, ← elocs]
  unfold wp_X7_setMainSize_8 at h
  refine lv_iload_n hx hb dX7_setMainSize_0 rfl (lv_at hl 1 rfl) ?_
  refine lv_i2l hx hb dX7_setMainSize_1 rfl ?_
  refine lv_lconst (v := 0) hx hb dX7_setMainSize_2 (by decide) ?_
  refine lv_ldc2 hx hb hown (hts _ u_937) dX7_setMainSize_3 ?_
  refine fx_ci hH (fx_runS (As := [.long a1.toInt64, .long 0, .long 9999]) (rest := []) C hH (c_X7_isBetween l C.2.2.2.2.2.2.2.2.2.1 a1.toInt64 0 9999 M _ h) (fx_cwS 3 hts u_938 u_939 u_8 u_940 rfl rfl (by decide +kernel) ⟨(Nat.le_of_ble_eq_true rfl), (Nat.le_of_ble_eq_true rfl)⟩) rfl hl.1 rfl (Nat.le_of_ble_eq_true rfl) dX7_setMainSize_6 ⟨(Nat.le_of_ble_eq_true rfl), (Nat.le_of_ble_eq_true rfl)⟩) (fun r2 M1 H locs h hH => ?_)
  refine lv_if_eq (tgt := 21) hx hb dX7_setMainSize_9 (by decide) (fun c3 => ?_) (fun c3 => ?_)
  · replace h := h.1 c3
    refine lv_aload_n hx hb dX7_setMainSize_21 rfl (lv_at hl 0 rfl) ?_
    refine lv_iconst (v := 1) hx hb dX7_setMainSize_22 (by decide) ?_
    refine fx_ci hH (fx_runV (As := [.int 1]) (rest := []) C hH (c_X7_fails_8 l C.2.2.2.2.2.2.2.2.2.1 1 M1 _ h) (fx_cwV 1 hts u_945 u_947 us_24 u_8 u_948 rfl rfl (by decide +kernel) ⟨(Nat.le_of_ble_eq_true rfl), (Nat.le_of_ble_eq_true rfl)⟩) (fx_w8 g M1) rfl rfl hl.1 rfl (Nat.le_of_ble_eq_true rfl) dX7_setMainSize_23 ⟨(Nat.le_of_ble_eq_true rfl), (Nat.le_of_ble_eq_true rfl)⟩) (fun r5 M4 H locs h hH => ?_)
    exact fx_iret C hH h dX7_setMainSize_26
  · replace h := h.2 c3
    refine lv_aload_n hx hb dX7_setMainSize_12 rfl (lv_at hl 0 rfl) ?_
    refine lv_iconst (v := 0) hx hb dX7_setMainSize_13 (by decide) ?_
    refine lv_iload_n hx hb dX7_setMainSize_14 rfl (lv_at hl 1 rfl) ?_
    refine fx_ci hH (fx_runV (As := [.int 0, .int a1]) (rest := []) C hH (c_X7_replaces_8 l C.2.2.2.2.2.2.2.2.2.1 0 a1 M1 _ h) (fx_cwV 2 hts u_941 u_943 us_23 u_8 u_944 rfl rfl (by decide +kernel) ⟨(Nat.le_of_ble_eq_true rfl), (Nat.le_of_ble_eq_true rfl)⟩) (fx_w8 g M1) rfl rfl hl.1 rfl (Nat.le_of_ble_eq_true rfl) dX7_setMainSize_15 ⟨(Nat.le_of_ble_eq_true rfl), (Nat.le_of_ble_eq_true rfl)⟩) (fun r7 M6 H locs h hH => ?_)
    refine lv_goto (tgt := 26) hx hb dX7_setMainSize_18 (by decide) ?_
    exact fx_iret C hH h dX7_setMainSize_26
/-! FlexLayoutModel.setCrossSize(I)I (8,) -/
def rm_X7_setCrossSize_8 : Room := { frames := 1, cells := 0, slots := 0, locals := 25 }
def wp_X7_setCrossSize_8 (a1 : Int32) (M : fx_Mem) (Q : Int32 → fx_Mem → Prop) : Prop :=
  wp_X7_isBetween a1.toInt64 (-1) 9999 M (fun r2 M1 => ((r2 = 0 → wp_X7_fails_8 1 M1 (fun r5 M4 => Q r5 M4)) ∧ (¬ r2 = 0 → wp_X7_replaces_8 1 a1 M1 (fun r7 M6 => Q r7 M6))))
set_option maxHeartbeats 4000000 in
set_option maxRecDepth 100000 in
theorem c_X7_setCrossSize_8 (l : Launch) {g : fx_Geo} (hG : fx_Gd g) (a1 : Int32) (M : fx_Mem) (Q : Int32 → fx_Mem → Prop) (h : wp_X7_setCrossSize_8 a1 M Q) : Met l yX7_setCrossSize (.code yX7_setCrossSize cX7_setCrossSize 2 (some .int) :: fx_U) rm_X7_setCrossSize_8 (va_Pc [.ref (fx_a g 8), .int a1] (fx_At g M)) (va_Qi Q (fx_Pw g) (fx_A g)) 0 0 (fx_A g) := by
  refine Met.ofW (cc := cX7_setCrossSize) (maxL := 2) (ret := (some .int)) (by decide +kernel) rfl ?_
  intro p e s m args below meth c s₁ B hml hv
  obtain ⟨rfl, hv⟩ := hv
  have hts := atoms_spec (ws := .code yX7_setCrossSize cX7_setCrossSize 2 (some .int) :: fx_U) B.pre
  obtain ⟨C, hH⟩ := fx_body (own := RX7) B hml rfl (fun w hw => hts w (List.mem_cons_of_mem _ hw)) hG hv
  replace hts := fun w hw => hts w (List.mem_cons_of_mem _ hw)
  obtain ⟨hx, hb, hr, -, hown, -, hlocks, hsz, hK, -, hSt⟩ := id C
  have hl := lv_entry ([.ref (fx_a g 8), .int a1]) (n := 2) (Nat.le_of_ble_eq_true rfl)
  rw [lg_entry_eq]
  generalize (lg_sl ([.ref (fx_a g 8), .int a1]) ++ List.replicate (2 - (lg_sl ([.ref (fx_a g 8), .int a1])).length) Slot.unset).toArray = ls at hl ⊢
  have hl : lv_has ls 2 [(0, .ref (fx_a g 8)), (1, .int a1)] := hl
  obtain ⟨H, eH⟩ : ∃ H : Heap, H = s.heap := ⟨_, rfl⟩
  obtain ⟨locs, elocs⟩ : ∃ q : List Loc, q = [] := ⟨_, rfl⟩
  rw [← eH, ← elocs] at hH
  show W p l e rm_X7_setCrossSize_8 s m _ below meth c s.heap [] 0 0 _ _
  rw [← eH, ← elocs]
  unfold wp_X7_setCrossSize_8 at h
  refine lv_iload_n hx hb dX7_setCrossSize_0 rfl (lv_at hl 1 rfl) ?_
  refine lv_i2l hx hb dX7_setCrossSize_1 rfl ?_
  refine lv_ldc2 hx hb hown (hts _ u_953) dX7_setCrossSize_2 ?_
  refine lv_ldc2 hx hb hown (hts _ u_937) dX7_setCrossSize_5 ?_
  refine fx_ci hH (fx_runS (As := [.long a1.toInt64, .long (-1), .long 9999]) (rest := []) C hH (c_X7_isBetween l C.2.2.2.2.2.2.2.2.2.1 a1.toInt64 (-1) 9999 M _ h) (fx_cwS 3 hts u_938 u_939 u_8 u_940 rfl rfl (by decide +kernel) ⟨(Nat.le_of_ble_eq_true rfl), (Nat.le_of_ble_eq_true rfl)⟩) rfl hl.1 rfl (Nat.le_of_ble_eq_true rfl) dX7_setCrossSize_8 ⟨(Nat.le_of_ble_eq_true rfl), (Nat.le_of_ble_eq_true rfl)⟩) (fun r2 M1 H locs h hH => ?_)
  refine lv_if_eq (tgt := 23) hx hb dX7_setCrossSize_11 (by decide) (fun c3 => ?_) (fun c3 => ?_)
  · replace h := h.1 c3
    refine lv_aload_n hx hb dX7_setCrossSize_23 rfl (lv_at hl 0 rfl) ?_
    refine lv_iconst (v := 1) hx hb dX7_setCrossSize_24 (by decide) ?_
    refine fx_ci hH (fx_runV (As := [.int 1]) (rest := []) C hH (c_X7_fails_8 l C.2.2.2.2.2.2.2.2.2.1 1 M1 _ h) (fx_cwV 1 hts u_945 u_947 us_24 u_8 u_948 rfl rfl (by decide +kernel) ⟨(Nat.le_of_ble_eq_true rfl), (Nat.le_of_ble_eq_true rfl)⟩) (fx_w8 g M1) rfl rfl hl.1 rfl (Nat.le_of_ble_eq_true rfl) dX7_setCrossSize_25 ⟨(Nat.le_of_ble_eq_true rfl), (Nat.le_of_ble_eq_true rfl)⟩) (fun r5 M4 H locs h hH => ?_)
    exact fx_iret C hH h dX7_setCrossSize_28
  · replace h := h.2 c3
    refine lv_aload_n hx hb dX7_setCrossSize_14 rfl (lv_at hl 0 rfl) ?_
    refine lv_iconst (v := 1) hx hb dX7_setCrossSize_15 (by decide) ?_
    refine lv_iload_n hx hb dX7_setCrossSize_16 rfl (lv_at hl 1 rfl) ?_
    refine fx_ci hH (fx_runV (As := [.int 1, .int a1]) (rest := []) C hH (c_X7_replaces_8 l C.2.2.2.2.2.2.2.2.2.1 1 a1 M1 _ h) (fx_cwV 2 hts u_941 u_943 us_23 u_8 u_944 rfl rfl (by decide +kernel) ⟨(Nat.le_of_ble_eq_true rfl), (Nat.le_of_ble_eq_true rfl)⟩) (fx_w8 g M1) rfl rfl hl.1 rfl (Nat.le_of_ble_eq_true rfl) dX7_setCrossSize_17 ⟨(Nat.le_of_ble_eq_true rfl), (Nat.le_of_ble_eq_true rfl)⟩) (fun r7 M6 H locs h hH => ?_)
    refine lv_goto (tgt := 28) hx hb dX7_setCrossSize_20 (by decide) ?_
    exact fx_iret C hH h dX7_setCrossSize_28
/-! FlexLayoutModel.setGaps(II)I (8,) -/
def rm_X7_setGaps_8 : Room := { frames := 1, cells := 0, slots := 0, locals := 25 }
def wb_X7_setGaps_8_24 (Q : Int32 → fx_Mem → Prop) (M : fx_Mem) : Prop :=
  wp_X7_fails_8 1 M (fun r2 M1 => Q r2 M1)
set_option maxHeartbeats 4000000 in
set_option maxRecDepth 100000 in
theorem tb_X7_setGaps_8_24 {g : fx_Geo} {p : Program} {l : Launch} {e : Env} {s : State} {m : MethodId} {args : Array Value} {below : List Frame} {meth : Method} {c : Code} (C : fx_Cx g p s m args meth c RX7 cX7_setGaps 4 (some .int)) (Q : Int32 → fx_Mem → Prop) (M : fx_Mem) (h : wb_X7_setGaps_8_24 Q M) (H : Heap) (locs : List Loc) (ls : Array Slot) (hH : fx_H g s M H locs) (hl : lv_has ls 4 [(0, .ref (fx_a g 8))]) : W p l e rm_X7_setGaps_8 s m args below meth c H locs 0 0 (MQ below (va_Qi Q (fx_Pw g) (fx_A g)) args s 0 0 (fx_A g)) (F0 m 24 ls []) := by
  obtain ⟨hx, hb, hr, hml, hown, hts, hlocks, hsz, hK, hG, hSt⟩ := id C
  unfold wb_X7_setGaps_8_24 at h
  refine lv_aload_n hx hb dX7_setGaps_24 rfl (lv_at hl 0 rfl) ?_
  refine lv_iconst (v := 1) hx hb dX7_setGaps_25 (by decide) ?_
  refine fx_ci hH (fx_runV (As := [.int 1]) (rest := []) C hH (c_X7_fails_8 l C.2.2.2.2.2.2.2.2.2.1 1 M _ h) (fx_cwV 1 hts u_945 u_947 us_24 u_8 u_948 rfl rfl (by decide +kernel) ⟨(Nat.le_of_ble_eq_true rfl), (Nat.le_of_ble_eq_true rfl)⟩) (fx_w8 g M) rfl rfl hl.1 rfl (Nat.le_of_ble_eq_true rfl) dX7_setGaps_26 ⟨(Nat.le_of_ble_eq_true rfl), (Nat.le_of_ble_eq_true rfl)⟩) (fun r2 M1 H locs h hH => ?_)
  exact fx_iret C hH h dX7_setGaps_29
def wp_X7_setGaps_8 (a1 : Int32) (a2 : Int32) (M : fx_Mem) (Q : Int32 → fx_Mem → Prop) : Prop :=
  wp_X7_isBetween a1.toInt64 0 99 M (fun r2 M1 => ((r2 = 0 → wb_X7_setGaps_8_24 Q  M1) ∧ (¬ r2 = 0 → wp_X7_isBetween a2.toInt64 0 99 M1 (fun r5 M4 => ((r5 = 0 → wb_X7_setGaps_8_24 Q  M4) ∧ (¬ r5 = 0 → wp_X7_replaces_8 2 a1 M4 (fun r8 M7 => ∀ v9 : Int32, v9 = 100 * r8 → wp_X7_replaces_8 3 a2 M7 (fun r11 M10 => Q (v9 + r11) M10))))))))
set_option maxHeartbeats 4000000 in
set_option maxRecDepth 100000 in
theorem c_X7_setGaps_8 (l : Launch) {g : fx_Geo} (hG : fx_Gd g) (a1 : Int32) (a2 : Int32) (M : fx_Mem) (Q : Int32 → fx_Mem → Prop) (h : wp_X7_setGaps_8 a1 a2 M Q) : Met l yX7_setGaps (.code yX7_setGaps cX7_setGaps 4 (some .int) :: fx_U) rm_X7_setGaps_8 (va_Pc [.ref (fx_a g 8), .int a1, .int a2] (fx_At g M)) (va_Qi Q (fx_Pw g) (fx_A g)) 0 0 (fx_A g) := by
  refine Met.ofW (cc := cX7_setGaps) (maxL := 4) (ret := (some .int)) (by decide +kernel) rfl ?_
  intro p e s m args below meth c s₁ B hml hv
  obtain ⟨rfl, hv⟩ := hv
  have hts := atoms_spec (ws := .code yX7_setGaps cX7_setGaps 4 (some .int) :: fx_U) B.pre
  obtain ⟨C, hH⟩ := fx_body (own := RX7) B hml rfl (fun w hw => hts w (List.mem_cons_of_mem _ hw)) hG hv
  replace hts := fun w hw => hts w (List.mem_cons_of_mem _ hw)
  obtain ⟨hx, hb, hr, -, hown, -, hlocks, hsz, hK, -, hSt⟩ := id C
  have hl := lv_entry ([.ref (fx_a g 8), .int a1, .int a2]) (n := 4) (Nat.le_of_ble_eq_true rfl)
  rw [lg_entry_eq]
  generalize (lg_sl ([.ref (fx_a g 8), .int a1, .int a2]) ++ List.replicate (4 - (lg_sl ([.ref (fx_a g 8), .int a1, .int a2])).length) Slot.unset).toArray = ls at hl ⊢
  have hl : lv_has ls 4 [(0, .ref (fx_a g 8)), (1, .int a1), (2, .int a2)] := hl
  obtain ⟨H, eH⟩ : ∃ H : Heap, H = s.heap := ⟨_, rfl⟩
  obtain ⟨locs, elocs⟩ : ∃ q : List Loc, q = [] := ⟨_, rfl⟩
  rw [← eH, ← elocs] at hH
  show W p l e rm_X7_setGaps_8 s m _ below meth c s.heap [] 0 0 _ _
  rw [← eH, ← elocs]
  unfold wp_X7_setGaps_8 at h
  refine lv_iload_n hx hb dX7_setGaps_0 rfl (lv_at hl 1 rfl) ?_
  refine lv_i2l hx hb dX7_setGaps_1 rfl ?_
  refine lv_lconst (v := 0) hx hb dX7_setGaps_2 (by decide) ?_
  refine lv_ldc2 hx hb hown (hts _ u_958) dX7_setGaps_3 ?_
  refine fx_ci hH (fx_runS (As := [.long a1.toInt64, .long 0, .long 99]) (rest := []) C hH (c_X7_isBetween l C.2.2.2.2.2.2.2.2.2.1 a1.toInt64 0 99 M _ h) (fx_cwS 3 hts u_938 u_939 u_8 u_940 rfl rfl (by decide +kernel) ⟨(Nat.le_of_ble_eq_true rfl), (Nat.le_of_ble_eq_true rfl)⟩) rfl hl.1 rfl (Nat.le_of_ble_eq_true rfl) dX7_setGaps_6 ⟨(Nat.le_of_ble_eq_true rfl), (Nat.le_of_ble_eq_true rfl)⟩) (fun r2 M1 H locs h hH => ?_)
  refine lv_if_eq (tgt := 24) hx hb dX7_setGaps_9 (by decide) (fun c3 => ?_) (fun c3 => ?_)
  · replace h := h.1 c3
    exact tb_X7_setGaps_8_24 C Q   M1 h  H locs ls hH (lv_sub hl [0] rfl)
  · replace h := h.2 c3
    refine lv_iload_n hx hb dX7_setGaps_12 rfl (lv_at hl 2 rfl) ?_
    refine lv_i2l hx hb dX7_setGaps_13 rfl ?_
    refine lv_lconst (v := 0) hx hb dX7_setGaps_14 (by decide) ?_
    refine lv_ldc2 hx hb hown (hts _ u_958) dX7_setGaps_15 ?_
    refine fx_ci hH (fx_runS (As := [.long a2.toInt64, .long 0, .long 99]) (rest := []) C hH (c_X7_isBetween l C.2.2.2.2.2.2.2.2.2.1 a2.toInt64 0 99 M1 _ h) (fx_cwS 3 hts u_938 u_939 u_8 u_940 rfl rfl (by decide +kernel) ⟨(Nat.le_of_ble_eq_true rfl), (Nat.le_of_ble_eq_true rfl)⟩) rfl hl.1 rfl (Nat.le_of_ble_eq_true rfl) dX7_setGaps_18 ⟨(Nat.le_of_ble_eq_true rfl), (Nat.le_of_ble_eq_true rfl)⟩) (fun r5 M4 H locs h hH => ?_)
    refine lv_if_ne (tgt := 30) hx hb dX7_setGaps_21 (by decide) (fun c6 => ?_) (fun c6 => ?_)
    · replace h := h.2 c6
      refine lv_bipush (v := 100) hx hb dX7_setGaps_30 (by decide) ?_
      refine lv_aload_n hx hb dX7_setGaps_32 rfl (lv_at hl 0 rfl) ?_
      refine lv_iconst (v := 2) hx hb dX7_setGaps_33 (by decide) ?_
      refine lv_iload_n hx hb dX7_setGaps_34 rfl (lv_at hl 1 rfl) ?_
      refine fx_ci hH (fx_runV (As := [.int 2, .int a1]) (rest := [.int 100]) C hH (c_X7_replaces_8 l C.2.2.2.2.2.2.2.2.2.1 2 a1 M4 _ h) (fx_cwV 2 hts u_941 u_943 us_23 u_8 u_944 rfl rfl (by decide +kernel) ⟨(Nat.le_of_ble_eq_true rfl), (Nat.le_of_ble_eq_true rfl)⟩) (fx_w8 g M4) rfl rfl hl.1 rfl (Nat.le_of_ble_eq_true rfl) dX7_setGaps_35 ⟨(Nat.le_of_ble_eq_true rfl), (Nat.le_of_ble_eq_true rfl)⟩) (fun r8 M7 H locs h hH => ?_)
      refine lv_imul hx hb dX7_setGaps_38 ?_
      refine lv_topi (fun v9 ev9 => ?_)
      replace h := h v9 ev9
      refine lv_istore_n (lv' := [(3, .int v9), (0, .ref (fx_a g 8)), (1, .int a1), (2, .int a2)]) hx hb dX7_setGaps_39 rfl hl (by decide) rfl (fun ls hl => ?_)
      refine lv_iload_n hx hb dX7_setGaps_40 rfl (lv_at hl 0 rfl) ?_
      refine lv_aload_n hx hb dX7_setGaps_41 rfl (lv_at hl 1 rfl) ?_
      refine lv_iconst (v := 3) hx hb dX7_setGaps_42 (by decide) ?_
      refine lv_iload_n hx hb dX7_setGaps_43 rfl (lv_at hl 3 rfl) ?_
      refine fx_ci hH (fx_runV (As := [.int 3, .int a2]) (rest := [.int v9]) C hH (c_X7_replaces_8 l C.2.2.2.2.2.2.2.2.2.1 3 a2 M7 _ h) (fx_cwV 2 hts u_941 u_943 us_23 u_8 u_944 rfl rfl (by decide +kernel) ⟨(Nat.le_of_ble_eq_true rfl), (Nat.le_of_ble_eq_true rfl)⟩) (fx_w8 g M7) rfl rfl hl.1 rfl (Nat.le_of_ble_eq_true rfl) dX7_setGaps_44 ⟨(Nat.le_of_ble_eq_true rfl), (Nat.le_of_ble_eq_true rfl)⟩) (fun r11 M10 H locs h hH => ?_)
      refine lv_iadd hx hb dX7_setGaps_47 ?_
      exact fx_iret C hH h dX7_setGaps_48
    · replace h := h.1 c6
      exact tb_X7_setGaps_8_24 C Q   M4 h  H locs ls hH (lv_sub hl [0] rfl)
