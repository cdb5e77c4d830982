/-! FlexLayout$CrossAxis.stretch(LFlexLayout$Container;LFlexLayout$Arrangement;LFlexLayout$Division;)V (7, 1, 5, 4) -/
def rm_X2_stretch_7_1_5_4 : Room := { frames := 2, cells := 0, slots := 0, locals := 53 }
def wb_X2_stretch_7_1_5_4_22 (k22 : Int32 → Int32 → fx_Mem → Prop) (k45 : Int32 → fx_Mem → Prop) (Q : fx_Mem → Prop) (x4 : Int32) (x5 : Int32) (M : fx_Mem) : Prop :=
  ((M.1 322 ≤ x5 → k45 x4 M) ∧ (¬ M.1 322 ≤ x5 → vp_in x5 20 ∧ ∀ M3 : fx_Mem, M3 = fx_sl M 15 x5.toNatClampNeg 1 → ∀ v4 : Int32, v4 = x5 + 1 → k22 x4 v4 M3))
set_option maxHeartbeats 4000000 in
set_option maxRecDepth 100000 in
theorem tb_X2_stretch_7_1_5_4_22 {g : fx_Geo} {p : Program} {l : Launch} {e : Env} {s : State} {m : MethodId} {args : Array Value} {below : List Frame} {meth : Method} {c : Code} (C : fx_Cx g p s m args meth c RX2 cX2_stretch 6 none) (k22 : Int32 → Int32 → fx_Mem → Prop) (k45 : Int32 → fx_Mem → Prop) (Q : fx_Mem → Prop) (hk22 : ∀ (x4 : Int32) (x5 : Int32) (M : fx_Mem), k22 x4 x5 M → ∀ (H : Heap) (locs : List Loc) (ls : Array Slot), fx_H g s M H locs → lv_has ls 6 [(0, .ref (fx_a g 7)), (2, .ref (fx_a g 5)), (3, .ref (fx_a g 4)), (4, .int x4), (5, .int x5)] → W p l e rm_X2_stretch_7_1_5_4 s m args below meth c H locs 0 0 (MQ below (va_Qv Q (fx_Pw g) (fx_A g)) args s 0 0 (fx_A g)) (F0 m 22 ls [])) (hk45 : ∀ (x4 : Int32) (M : fx_Mem), k45 x4 M → ∀ (H : Heap) (locs : List Loc) (ls : Array Slot), fx_H g s M H locs → lv_has ls 6 [(0, .ref (fx_a g 7)), (2, .ref (fx_a g 5)), (3, .ref (fx_a g 4)), (4, .int x4)] → W p l e rm_X2_stretch_7_1_5_4 s m args below meth c H locs 0 0 (MQ below (va_Qv Q (fx_Pw g) (fx_A g)) args s 0 0 (fx_A g)) (F0 m 45 ls [])) (x4 : Int32) (x5 : Int32) (M : fx_Mem) (h : wb_X2_stretch_7_1_5_4_22 k22 k45 Q x4 x5 M) (H : Heap) (locs : List Loc) (ls : Array Slot) (hH : fx_H g s M H locs) (hl : lv_has ls 6 [(0, .ref (fx_a g 7)), (2, .ref (fx_a g 5)), (3, .ref (fx_a g 4)), (4, .int x4), (5, .int x5)]) : W p l e rm_X2_stretch_7_1_5_4 s m args below meth c H locs 0 0 (MQ below (va_Qv Q (fx_Pw g) (fx_A g)) args s 0 0 (fx_A g)) (F0 m 22 ls []) := by
  obtain ⟨hx, hb, hr, hml, hown, hts, hlocks, hsz, hK, hG, hSt⟩ := id C
  unfold wb_X2_stretch_7_1_5_4_22 at h
  refine lv_iload hx hb dX2_stretch_22 (lv_at hl 4 rfl) ?_
  refine lv_aload_n hx hb dX2_stretch_24 rfl (lv_at hl 1 rfl) ?_
  refine fx_get C hH (fx_w5 g M) rfl in_X0 2 (by decide) u_133 rfl rfl dX2_stretch_25 ?_
  refine lv_icmp_ge (tgt := 45) hx hb dX2_stretch_28 (by decide) (fun c1 => ?_) (fun c1 => ?_)
  · replace h := h.1 c1
    exact hk45 x4 M h  H locs ls hH (lv_sub hl [0, 1, 2, 3] rfl)
  · replace h := h.2 c1
    refine lv_aload_n hx hb dX2_stretch_31 rfl (lv_at hl 2 rfl) ?_
    refine fx_get C hH (fx_w4 g M) rfl in_X3 0 (by decide) u_102 rfl rfl dX2_stretch_32 ?_
    refine lv_iload hx hb dX2_stretch_35 (lv_at hl 4 rfl) ?_
    refine lv_lconst (v := 1) hx hb dX2_stretch_37 (by decide) ?_
    obtain ⟨hi2, h⟩ := h
    refine fx_last (j := x5.toNatClampNeg) (M' := fx_sl M 15 x5.toNatClampNeg 1) C hH 15 rfl (fx_w15 g M) (fx_p15 g M _ _) hi2 dX2_stretch_38 (fun H locs hH => ?_)
    generalize eM3 : fx_sl M 15 x5.toNatClampNeg 1 = M3 at hH
    replace h := h M3 eM3.symm
    obtain ⟨v4, ev4⟩ : ∃ z : Int32, z = x5 + 1 := ⟨_, rfl⟩
    refine lv_iinc (v := v4) (lv' := [(5, .int v4), (0, .ref (fx_a g 7)), (2, .ref (fx_a g 5)), (3, .ref (fx_a g 4)), (4, .int x4)]) hx hb dX2_stretch_39 hl (k := 4) rfl (by rw [ev4]; rfl) (by decide) rfl (fun ls hl => ?_)
    replace h := h v4 ev4
    refine lv_goto (tgt := 22) hx hb dX2_stretch_42 (by decide) ?_
    exact hk22 x4 v4 M3 h  H locs ls hH (lv_sub hl [1, 2, 3, 4, 0] rfl)
def wl_X2_stretch_7_1_5_4_22 (k45 : Int32 → fx_Mem → Prop) (Q : fx_Mem → Prop) (n : Nat) (x4 : Int32) (x5 : Int32) (M : fx_Mem) : Prop :=
  fx_lp (α := Int32 × Int32 × fx_Mem) (fun k a => wb_X2_stretch_7_1_5_4_22 (fun x4 x5 M => k (x4, x5, M)) k45 Q a.1 a.2.1 a.2.2) n (x4, x5, M)
set_option maxHeartbeats 4000000 in
theorem tl_X2_stretch_7_1_5_4_22 {g : fx_Geo} {p : Program} {l : Launch} {e : Env} {s : State} {m : MethodId} {args : Array Value} {below : List Frame} {meth : Method} {c : Code} (C : fx_Cx g p s m args meth c RX2 cX2_stretch 6 none) (k45 : Int32 → fx_Mem → Prop) (Q : fx_Mem → Prop) (hk45 : ∀ (x4 : Int32) (M : fx_Mem), k45 x4 M → ∀ (H : Heap) (locs : List Loc) (ls : Array Slot), fx_H g s M H locs → lv_has ls 6 [(0, .ref (fx_a g 7)), (2, .ref (fx_a g 5)), (3, .ref (fx_a g 4)), (4, .int x4)] → W p l e rm_X2_stretch_7_1_5_4 s m args below meth c H locs 0 0 (MQ below (va_Qv Q (fx_Pw g) (fx_A g)) args s 0 0 (fx_A g)) (F0 m 45 ls [])) : ∀ (n : Nat) (x4 : Int32) (x5 : Int32) (M : fx_Mem), wl_X2_stretch_7_1_5_4_22 k45 Q n x4 x5 M → ∀ (H : Heap) (locs : List Loc) (ls : Array Slot), fx_H g s M H locs → lv_has ls 6 [(0, .ref (fx_a g 7)), (2, .ref (fx_a g 5)), (3, .ref (fx_a g 4)), (4, .int x4), (5, .int x5)] → W p l e rm_X2_stretch_7_1_5_4 s m args below meth c H locs 0 0 (MQ below (va_Qv Q (fx_Pw g) (fx_A g)) args s 0 0 (fx_A g)) (F0 m 22 ls []) := by
  intro n
  induction n with
  | zero => intro x4 x5 M h; exact False.elim h
  | succ n ih => intro x4 x5 M h  H locs ls hH hl; exact tb_X2_stretch_7_1_5_4_22 C (wl_X2_stretch_7_1_5_4_22 k45 Q n) k45 Q ih hk45 x4 x5 M h  H locs ls hH hl
def wb_X2_stretch_7_1_5_4_58 (k58 : Int32 → fx_Mem → Prop) (Q : fx_Mem → Prop) (x5 : Int32) (M : fx_Mem) : Prop :=
  ((M.1 322 ≤ x5 → Q M) ∧ (¬ M.1 322 ≤ x5 → vp_in x5 20 ∧ vp_in x5 20 ∧ vp_in x5 20 ∧ ∀ M5 : fx_Mem, M5 = fx_sa M 26 x5.toNatClampNeg ((M.2.1 26 x5.toNatClampNeg) + (M.2.1 16 x5.toNatClampNeg)) → ∀ v6 : Int32, v6 = x5 + 1 → k58 v6 M5))
set_option maxHeartbeats 4000000 in
set_option maxRecDepth 100000 in
theorem tb_X2_stretch_7_1_5_4_58 {g : fx_Geo} {p : Program} {l : Launch} {e : Env} {s : State} {m : MethodId} {args : Array Value} {below : List Frame} {meth : Method} {c : Code} (C : fx_Cx g p s m args meth c RX2 cX2_stretch 6 none) (k58 : Int32 → fx_Mem → Prop) (Q : fx_Mem → Prop) (hk58 : ∀ (x5 : Int32) (M : fx_Mem), k58 x5 M → ∀ (H : Heap) (locs : List Loc) (ls : Array Slot), fx_H g s M H locs → lv_has ls 6 [(0, .ref (fx_a g 7)), (2, .ref (fx_a g 5)), (3, .ref (fx_a g 4)), (5, .int x5)] → W p l e rm_X2_stretch_7_1_5_4 s m args below meth c H locs 0 0 (MQ below (va_Qv Q (fx_Pw g) (fx_A g)) args s 0 0 (fx_A g)) (F0 m 58 ls [])) (x5 : Int32) (M : fx_Mem) (h : wb_X2_stretch_7_1_5_4_58 k58 Q x5 M) (H : Heap) (locs : List Loc) (ls : Array Slot) (hH : fx_H g s M H locs) (hl : lv_has ls 6 [(0, .ref (fx_a g 7)), (2, .ref (fx_a g 5)), (3, .ref (fx_a g 4)), (5, .int x5)]) : W p l e rm_X2_stretch_7_1_5_4 s m args below meth c H locs 0 0 (MQ below (va_Qv Q (fx_Pw g) (fx_A g)) args s 0 0 (fx_A g)) (F0 m 58 ls []) := by
  obtain ⟨hx, hb, hr, hml, hown, hts, hlocks, hsz, hK, hG, hSt⟩ := id C
  unfold wb_X2_stretch_7_1_5_4_58 at h
  refine lv_iload hx hb dX2_stretch_58 (lv_at hl 3 rfl) ?_
  refine lv_aload_n hx hb dX2_stretch_60 rfl (lv_at hl 1 rfl) ?_
  refine fx_get C hH (fx_w5 g M) rfl in_X0 2 (by decide) u_133 rfl rfl dX2_stretch_61 ?_
  refine lv_icmp_ge (tgt := 90) hx hb dX2_stretch_64 (by decide) (fun c1 => ?_) (fun c1 => ?_)
  · replace h := h.1 c1
    exact fx_vret C hH h dX2_stretch_90
  · replace h := h.2 c1
    refine lv_aload_n hx hb dX2_stretch_67 rfl (lv_at hl 0 rfl) ?_
    refine fx_get C hH (fx_w7 g M) rfl in_X2 0 (by decide) u_178 rfl rfl dX2_stretch_68 ?_
    refine lv_iload hx hb dX2_stretch_71 (lv_at hl 3 rfl) ?_
    refine lv_dup2_11 hx hb dX2_stretch_73 rfl rfl ?_
    obtain ⟨hi2, h⟩ := h
    refine fx_iald (j := x5.toNatClampNeg) C hH 26 (fx_w26 g M) rfl hi2 dX2_stretch_74 ?_
    refine lv_aload_n hx hb dX2_stretch_75 rfl (lv_at hl 2 rfl) ?_
    refine fx_get C hH (fx_w4 g M) rfl in_X3 1 (by decide) u_106 rfl rfl dX2_stretch_76 ?_
    refine lv_iload hx hb dX2_stretch_79 (lv_at hl 3 rfl) ?_
    obtain ⟨hi3, h⟩ := h
    refine fx_iald (j := x5.toNatClampNeg) C hH 16 (fx_w16 g M) rfl hi3 dX2_stretch_81 ?_
    refine lv_iadd hx hb dX2_stretch_82 ?_
    obtain ⟨hi4, h⟩ := h
    refine fx_iast (j := x5.toNatClampNeg) (M' := fx_sa M 26 x5.toNatClampNeg ((M.2.1 26 x5.toNatClampNeg) + (M.2.1 16 x5.toNatClampNeg))) C hH 26 rfl (fx_w26 g M) (fx_p26 g M _) hi4 dX2_stretch_83 (fun H locs hH => ?_)
    generalize eM5 : fx_sa M 26 x5.toNatClampNeg ((M.2.1 26 x5.toNatClampNeg) + (M.2.1 16 x5.toNatClampNeg)) = M5 at hH
    replace h := h M5 eM5.symm
    obtain ⟨v6, ev6⟩ : ∃ z : Int32, z = x5 + 1 := ⟨_, rfl⟩
    refine lv_iinc (v := v6) (lv' := [(5, .int v6), (0, .ref (fx_a g 7)), (2, .ref (fx_a g 5)), (3, .ref (fx_a g 4))]) hx hb dX2_stretch_84 hl (k := 3) rfl (by rw [ev6]; rfl) (by decide) rfl (fun ls hl => ?_)
    replace h := h v6 ev6
    refine lv_goto (tgt := 58) hx hb dX2_stretch_87 (by decide) ?_
    exact hk58 v6 M5 h  H locs ls hH (lv_sub hl [1, 2, 3, 0] rfl)
def wl_X2_stretch_7_1_5_4_58 (Q : fx_Mem → Prop) (n : Nat) (x5 : Int32) (M : fx_Mem) : Prop :=
  fx_lp (α := Int32 × fx_Mem) (fun k a => wb_X2_stretch_7_1_5_4_58 (fun x5 M => k (x5, M)) Q a.1 a.2) n (x5, M)
set_option maxHeartbeats 4000000 in
theorem tl_X2_stretch_7_1_5_4_58 {g : fx_Geo} {p : Program} {l : Launch} {e : Env} {s : State} {m : MethodId} {args : Array Value} {below : List Frame} {meth : Method} {c : Code} (C : fx_Cx g p s m args meth c RX2 cX2_stretch 6 none) (Q : fx_Mem → Prop) : ∀ (n : Nat) (x5 : Int32) (M : fx_Mem), wl_X2_stretch_7_1_5_4_58  Q n x5 M → ∀ (H : Heap) (locs : List Loc) (ls : Array Slot), fx_H g s M H locs → lv_has ls 6 [(0, .ref (fx_a g 7)), (2, .ref (fx_a g 5)), (3, .ref (fx_a g 4)), (5, .int x5)] → W p l e rm_X2_stretch_7_1_5_4 s m args below meth c H locs 0 0 (MQ below (va_Qv Q (fx_Pw g) (fx_A g)) args s 0 0 (fx_A g)) (F0 m 58 ls []) := by
  intro n
  induction n with
  | zero => intro x5 M h; exact False.elim h
  | succ n ih => intro x5 M h  H locs ls hH hl; exact tb_X2_stretch_7_1_5_4_58 C (wl_X2_stretch_7_1_5_4_58  Q n) Q ih x5 M h  H locs ls hH hl
def wb_X2_stretch_7_1_5_4_45 (Q : fx_Mem → Prop) (x4 : Int32) (M : fx_Mem) : Prop :=
  wp_X3_divide_4 x4 (M.1 322) M (fun M1 => ∃ n58 : Nat, wl_X2_stretch_7_1_5_4_58 Q n58 0 M1)
set_option maxHeartbeats 4000000 in
set_option maxRecDepth 100000 in
theorem tb_X2_stretch_7_1_5_4_45 {g : fx_Geo} {p : Program} {l : Launch} {e : Env} {s : State} {m : MethodId} {args : Array Value} {below : List Frame} {meth : Method} {c : Code} (C : fx_Cx g p s m args meth c RX2 cX2_stretch 6 none) (Q : fx_Mem → Prop) (x4 : Int32) (M : fx_Mem) (h : wb_X2_stretch_7_1_5_4_45 Q x4 M) (H : Heap) (locs : List Loc) (ls : Array Slot) (hH : fx_H g s M H locs) (hl : lv_has ls 6 [(0, .ref (fx_a g 7)), (2, .ref (fx_a g 5)), (3, .ref (fx_a g 4)), (4, .int x4)]) : W p l e rm_X2_stretch_7_1_5_4 s m args below meth c H locs 0 0 (MQ below (va_Qv Q (fx_Pw g) (fx_A g)) args s 0 0 (fx_A g)) (F0 m 45 ls []) := by
  obtain ⟨hx, hb, hr, hml, hown, hts, hlocks, hsz, hK, hG, hSt⟩ := id C
  unfold wb_X2_stretch_7_1_5_4_45 at h
  refine lv_aload_n hx hb dX2_stretch_45 rfl (lv_at hl 2 rfl) ?_
  refine lv_iload hx hb dX2_stretch_46 (lv_at hl 3 rfl) ?_
  refine lv_aload_n hx hb dX2_stretch_48 rfl (lv_at hl 1 rfl) ?_
  refine fx_get C hH (fx_w5 g M) rfl in_X0 2 (by decide) u_133 rfl rfl dX2_stretch_49 ?_
  refine fx_cv hH (fx_runV (As := [.int x4, .int (M.1 322)]) (rest := []) C hH (c_X3_divide_4 l C.2.2.2.2.2.2.2.2.2.1 x4 (M.1 322) M _ h) (fx_cwV 2 hts u_284 u_285 u_286 u_4 u_287 rfl rfl (by decide +kernel) ⟨(Nat.le_of_ble_eq_true rfl), (Nat.le_of_ble_eq_true rfl)⟩) (fx_w4 g M) rfl rfl hl.1 rfl (Nat.le_of_ble_eq_true rfl) dX2_stretch_52 ⟨(Nat.le_of_ble_eq_true rfl), (Nat.le_of_ble_eq_true rfl)⟩) (fun M1 H locs h hH => ?_)
  refine lv_iconst (v := 0) hx hb dX2_stretch_55 (by decide) ?_
  refine lv_istore (lv' := [(5, .int 0), (0, .ref (fx_a g 7)), (2, .ref (fx_a g 5)), (3, .ref (fx_a g 4)), (4, .int x4)]) hx hb dX2_stretch_56 hl (by decide) rfl (fun ls hl => ?_)
  obtain ⟨n58, h⟩ := h
  exact tl_X2_stretch_7_1_5_4_58 C Q  n58 0 M1 h  H locs ls hH (lv_sub hl [1, 2, 3, 0] rfl)
def wp_X2_stretch_7_1_5_4 (M : fx_Mem) (Q : fx_Mem → Prop) : Prop :=
  wp_X2_lengthOfLines_7_1_5  M (fun r2 M1 => ∀ v3 : Int32, v3 = (M.1 65) - r2 → ((0 < v3 → ∃ n22 : Nat, wl_X2_stretch_7_1_5_4_22 (wb_X2_stretch_7_1_5_4_45 Q) Q n22 v3 0 M1) ∧ (¬ 0 < v3 → Q M1)))
set_option maxHeartbeats 4000000 in
set_option maxRecDepth 100000 in
theorem c_X2_stretch_7_1_5_4 (l : Launch) {g : fx_Geo} (hG : fx_Gd g) (M : fx_Mem) (Q : fx_Mem → Prop) (h : wp_X2_stretch_7_1_5_4 M Q) : Met l yX2_stretch (.code yX2_stretch cX2_stretch 6 none :: fx_U) rm_X2_stretch_7_1_5_4 (va_Pc [.ref (fx_a g 7), .ref (fx_a g 1), .ref (fx_a g 5), .ref (fx_a g 4)] (fx_At g M)) (va_Qv Q (fx_Pw g) (fx_A g)) 0 0 (fx_A g) := by
  refine Met.ofW (cc := cX2_stretch) (maxL := 6) (ret := none) (by decide +kernel) rfl ?_
  intro p e s m args below meth c s₁ B hml hv
  obtain ⟨rfl, hv⟩ := hv
  have hts := atoms_spec (ws := .code yX2_stretch cX2_stretch 6 none :: fx_U) B.pre
  obtain ⟨C, hH⟩ := fx_body (own := RX2) B hml rfl (fun w hw => hts w (List.mem_cons_of_mem _ hw)) hG hv
  replace hts := fun w hw => hts w (List.mem_cons_of_mem _ hw)
  obtain ⟨hx, hb, hr, -, hown, -, hlocks, hsz, hK, -, hSt⟩ := id C
  have hl := lv_entry ([.ref (fx_a g 7), .ref (fx_a g 1), .ref (fx_a g 5), .ref (fx_a g 4)]) (n := 6) (Nat.le_of_ble_eq_true rfl)
  rw [lg_entry_eq]
  generalize (lg_sl ([.ref (fx_a g 7), .ref (fx_a g 1), .ref (fx_a g 5), .ref (fx_a g 4)]) ++ List.replicate (6 - (lg_sl ([.ref (fx_a g 7), .ref (fx_a g 1), .ref (fx_a g 5), .ref (fx_a g 4)])).length) Slot.unset).toArray = ls at hl ⊢
  have hl : lv_has ls 6 [(0, .ref (fx_a g 7)), (1, .ref (fx_a g 1)), (2, .ref (fx_a g 5)), (3, .ref (fx_a g 4))] := hl
  obtain ⟨H, eH⟩ : ∃ H : Heap, H = s.heap := ⟨_, rfl⟩
  obtain ⟨locs, elocs⟩ : ∃ q : List Loc, q = [] := ⟨_, rfl⟩
  rw [← eH, ← elocs] at hH
  show W p l e rm_X2_stretch_7_1_5_4 s m _ below meth c s.heap [] 0 0 _ _
  rw [← eH, ← elocs]
  unfold wp_X2_stretch_7_1_5_4 at h
  refine lv_aload_n hx hb dX2_stretch_0 rfl (lv_at hl 1 rfl) ?_
  refine fx_get C hH (fx_w1 g M) rfl in_X1 1 (by decide) u_42 rfl rfl dX2_stretch_1 ?_
  refine lv_aload_n hx hb dX2_stretch_4 rfl (lv_at hl 0 rfl) ?_
  refine lv_aload_n hx hb dX2_stretch_5 rfl (lv_at hl 1 rfl) ?_
  refine lv_aload_n hx hb dX2_stretch_6 rfl (lv_at hl 2 rfl) ?_
  refine fx_ci hH (fx_runV (As := [.ref (fx_a g 1), .ref (fx_a g 5)]) (rest := [.int (M.1 65)]) C hH (c_X2_lengthOfLines_7_1_5 l C.2.2.2.2.2.2.2.2.2.1  M _ h) (fx_cwV 2 hts u_280 u_282 us_2 u_7 u_283 rfl rfl (by decide +kernel) ⟨(Nat.le_of_ble_eq_true rfl), (Nat.le_of_ble_eq_true rfl)⟩) (fx_w7 g M) rfl rfl hl.1 rfl (Nat.le_of_ble_eq_true rfl) dX2_stretch_7 ⟨(Nat.le_of_ble_eq_true rfl), (Nat.le_of_ble_eq_true rfl)⟩) (fun r2 M1 H locs h hH => ?_)
  refine lv_isub hx hb dX2_stretch_10 ?_
  refine lv_topi (fun v3 ev3 => ?_)
  replace h := h v3 ev3
  refine lv_istore (lv' := [(4, .int v3), (0, .ref (fx_a g 7)), (1, .ref (fx_a g 1)), (2, .ref (fx_a g 5)), (3, .ref (fx_a g 4))]) hx hb dX2_stretch_11 hl (by decide) rfl (fun ls hl => ?_)
  refine lv_iload hx hb dX2_stretch_13 (lv_at hl 0 rfl) ?_
  refine lv_if_gt (tgt := 19) hx hb dX2_stretch_15 (by decide) (fun c4 => ?_) (fun c4 => ?_)
  · replace h := h.1 c4
    refine lv_iconst (v := 0) hx hb dX2_stretch_19 (by decide) ?_
    refine lv_istore (lv' := [(5, .int 0), (4, .int v3), (0, .ref (fx_a g 7)), (1, .ref (fx_a g 1)), (2, .ref (fx_a g 5)), (3, .ref (fx_a g 4))]) hx hb dX2_stretch_20 hl (by decide) rfl (fun ls hl => ?_)
    obtain ⟨n22, h⟩ := h
    exact tl_X2_stretch_7_1_5_4_22 C (wb_X2_stretch_7_1_5_4_45 Q) Q (tb_X2_stretch_7_1_5_4_45 C Q ) n22 v3 0 M1 h  H locs ls hH (lv_sub hl [2, 4, 5, 1, 0] rfl)
  · replace h := h.2 c4
    exact fx_vret C hH h dX2_stretch_18
/-! FlexLayout$CrossAxis.positionInLine(LFlexLayout$Container;II)I (7, 1) -/
def rm_X2_positionInLine_7_1 : Room := { frames := 1, cells := 0, slots := 0, locals := 22 }
def wp_X2_positionInLine_7_1 (a2 : Int32) (a3 : Int32) (M : fx_Mem) (Q : Int32 → fx_Mem → Prop) : Prop :=
  vp_in a3 20 ∧ vp_in a2 20 ∧ ∀ v3 : Int32, v3 = (M.2.1 26 a3.toNatClampNeg) - (M.2.1 28 a2.toNatClampNeg) → wp_X1_alignment_1 a2 M (fun r5 M4 => ((r5 = 2 → Q v3 M4) ∧ (r5 = 3 → Q (fx_fd v3 2) M4) ∧ (r5 = 4 → vp_in a3 20 ∧ vp_in a2 20 ∧ Q ((M4.2.1 27 a3.toNatClampNeg) - (M4.2.1 (57 + a2.toNatClampNeg) 6)) M4) ∧ (¬ r5 = 2 → ¬ r5 = 3 → ¬ r5 = 4 → Q 0 M4)))
set_option maxHeartbeats 4000000 in
set_option maxRecDepth 100000 in
theorem c_X2_positionInLine_7_1 (l : Launch) {g : fx_Geo} (hG : fx_Gd g) (a2 : Int32) (a3 : Int32) (M : fx_Mem) (Q : Int32 → fx_Mem → Prop) (h : wp_X2_positionInLine_7_1 a2 a3 M Q) : Met l yX2_positionInLine (.code yX2_positionInLine cX2_positionInLine 5 (some .int) :: fx_U) rm_X2_positionInLine_7_1 (va_Pc [.ref (fx_a g 7), .ref (fx_a g 1), .int a2, .int a3] (fx_At g M)) (va_Qi Q (fx_Pw g) (fx_A g)) 0 0 (fx_A g) := by
  refine Met.ofW (cc := cX2_positionInLine) (maxL := 5) (ret := (some .int)) (by decide +kernel) rfl ?_
  intro p e s m args below meth c s₁ B hml hv
  obtain ⟨rfl, hv⟩ := hv
  have hts := atoms_spec (ws := .code yX2_positionInLine cX2_positionInLine 5 (some .int) :: fx_U) B.pre
  obtain ⟨C, hH⟩ := fx_body (own := RX2) B hml rfl (fun w hw => hts w (List.mem_cons_of_mem _ hw)) hG hv
  replace hts := fun w hw => hts w (List.mem_cons_of_mem _ hw)
  obtain ⟨hx, hb, hr, -, hown, -, hlocks, hsz, hK, -, hSt⟩ := id C
  have hl := lv_entry ([.ref (fx_a g 7), .ref (fx_a g 1), .int a2, .int a3]) (n := 5) (Nat.le_of_ble_eq_true rfl)
  rw [lg_entry_eq]
  generalize (lg_sl ([.ref (fx_a g 7), .ref (fx_a g 1), .int a2, .int a3]) ++ List.replicate (5 - (lg_sl ([.ref (fx_a g 7), .ref (fx_a g 1), .int a2, .int a3])).length) Slot.unset).toArray = ls at hl ⊢
  have hl : lv_has ls 5 [(0, .ref (fx_a g 7)), (1, .ref (fx_a g 1)), (2, .int a2), (3, .int a3)] := hl
  obtain ⟨H, eH⟩ : ∃ H : Heap, H = s.heap := ⟨_, rfl⟩
  obtain ⟨locs, elocs⟩ : ∃ q : List Loc, q = [] := ⟨_, rfl⟩
  rw [← eH, ← elocs] at hH
  show W p l e rm_X2_positionInLine_7_1 s m _ below meth c s.heap [] 0 0 _ _
  rw [← eH, ← elocs]
  unfold wp_X2_positionInLine_7_1 at h
  refine lv_aload_n hx hb dX2_positionInLine_0 rfl (lv_at hl 0 rfl) ?_
  refine fx_get C hH (fx_w7 g M) rfl in_X2 0 (by decide) u_178 rfl rfl dX2_positionInLine_1 ?_
  refine lv_iload_n hx hb dX2_positionInLine_4 rfl (lv_at hl 3 rfl) ?_
  obtain ⟨hi1, h⟩ := h
  refine fx_iald (j := a3.toNatClampNeg) C hH 26 (fx_w26 g M) rfl hi1 dX2_positionInLine_5 ?_
  refine lv_aload_n hx hb dX2_positionInLine_6 rfl (lv_at hl 0 rfl) ?_
  refine fx_get C hH (fx_w7 g M) rfl in_X2 2 (by decide) u_182 rfl rfl dX2_positionInLine_7 ?_
  refine lv_iload_n hx hb dX2_positionInLine_10 rfl (lv_at hl 2 rfl) ?_
  obtain ⟨hi2, h⟩ := h
  refine fx_iald (j := a2.toNatClampNeg) C hH 28 (fx_w28 g M) rfl hi2 dX2_positionInLine_11 ?_
  refine lv_isub hx hb dX2_positionInLine_12 ?_
  refine lv_topi (fun v3 ev3 => ?_)
  replace h := h v3 ev3
  refine lv_istore (lv' := [(4, .int v3), (0, .ref (fx_a g 7)), (1, .ref (fx_a g 1)), (2, .int a2), (3, .int a3)]) hx hb dX2_positionInLine_13 hl (by decide) rfl (fun ls hl => ?_)
  refine lv_aload_n hx hb dX2_positionInLine_15 rfl (lv_at hl 2 rfl) ?_
  refine lv_iload_n hx hb dX2_positionInLine_16 rfl (lv_at hl 3 rfl) ?_
  refine fx_ci hH (fx_runV (As := [.int a2]) (rest := []) C hH (c_X1_alignment_1 l C.2.2.2.2.2.2.2.2.2.1 a2 M _ h) (fx_cwV 1 hts u_268 u_269 u_270 u_2 u_271 rfl rfl (by decide +kernel) ⟨(Nat.le_of_ble_eq_true rfl), (Nat.le_of_ble_eq_true rfl)⟩) (fx_w1 g M) rfl rfl hl.1 rfl (Nat.le_of_ble_eq_true rfl) dX2_positionInLine_17 ⟨(Nat.le_of_ble_eq_true rfl), (Nat.le_of_ble_eq_true rfl)⟩) (fun r5 M4 H locs h hH => ?_)
  by_cases c6 : r5 = 2
  · replace h := h.1 c6
    refine lv_tableIn (off := 28) (tgt := 48) hx hb dX2_positionInLine_20 (by rw [c6]; decide) (by rw [c6]; decide) (by rw [c6]; rfl) (by decide) ?_
    refine lv_iload hx hb dX2_positionInLine_48 (lv_at hl 0 rfl) ?_
    exact fx_iret C hH h dX2_positionInLine_50
  by_cases c7 : r5 = 3
  · replace h := h.2.1 c7
    refine lv_tableIn (off := 31) (tgt := 51) hx hb dX2_positionInLine_20 (by rw [c7]; decide) (by rw [c7]; decide) (by rw [c7]; rfl) (by decide) ?_
    refine lv_iload hx hb dX2_positionInLine_51 (lv_at hl 0 rfl) ?_
    refine lv_iconst (v := 2) hx hb dX2_positionInLine_53 (by decide) ?_
    refine fx_floorDiv C hl.1 u_315 u_305 u_17 u_306 (by decide) (Nat.le_of_ble_eq_true rfl) (Nat.le_of_ble_eq_true rfl) (Nat.le_of_ble_eq_true rfl) (Nat.le_of_ble_eq_true rfl) (Nat.le_of_ble_eq_true rfl) dX2_positionInLine_54 ?_
    exact fx_iret C hH h dX2_positionInLine_57
  by_cases c11 : r5 = 4
  · replace h := h.2.2.1 c11
    refine lv_tableIn (off := 38) (tgt := 58) hx hb dX2_positionInLine_20 (by rw [c11]; decide) (by rw [c11]; decide) (by rw [c11]; rfl) (by decide) ?_
    refine lv_aload_n hx hb dX2_positionInLine_58 rfl (lv_at hl 1 rfl) ?_
    refine fx_get C hH (fx_w7 g M4) rfl in_X2 1 (by decide) u_180 rfl rfl dX2_positionInLine_59 ?_
    refine lv_iload_n hx hb dX2_positionInLine_62 rfl (lv_at hl 4 rfl) ?_
    obtain ⟨hi8, h⟩ := h
    refine fx_iald (j := a3.toNatClampNeg) C hH 27 (fx_w27 g M4) rfl hi8 dX2_positionInLine_63 ?_
    refine lv_aload_n hx hb dX2_positionInLine_64 rfl (lv_at hl 2 rfl) ?_
    refine fx_get C hH (fx_w1 g M4) rfl in_X1 5 (by decide) u_57 rfl rfl dX2_positionInLine_65 ?_
    refine lv_iload_n hx hb dX2_positionInLine_68 rfl (lv_at hl 3 rfl) ?_
    obtain ⟨hi9, h⟩ := h
    have hj10 : a2.toNatClampNeg < 20 := Nat.not_le.mp fun q => hi9 (Or.inr q)
    refine fx_aald C hH 11 (fx_w11 g M4) hi9 dX2_positionInLine_69 ?_
    refine lv_bipush (v := 6) hx hb dX2_positionInLine_70 (by decide) ?_
    refine fx_iald (j := 6) C hH (57 + a2.toNatClampNeg) (fx_r1 g M4 a2.toNatClampNeg hj10) (by decide) (by unfold vp_in; decide) dX2_positionInLine_72 ?_
    refine lv_isub hx hb dX2_positionInLine_73 ?_
    exact fx_iret C hH h dX2_positionInLine_74
  replace h := h.2.2.2 c6 c7 c11
  refine lv_tableOut (tgt := 75) hx hb dX2_positionInLine_20 (by have t0 := lv_neT (a := 2) c6 (by decide); have t1 := lv_neT (a := 3) c7 (by decide); have t2 := lv_neT (a := 4) c11 (by decide); omega) (by decide) ?_
  refine lv_iconst (v := 0) hx hb dX2_positionInLine_75 (by decide) ?_
  exact fx_iret C hH h dX2_positionInLine_76
/-! FlexLayout$CrossAxis.put(LFlexLayout$Container;III)V (7, 1) -/
def rm_X2_put_7_1 : Room := { frames := 2, cells := 0, slots := 0, locals := 46 }
def wb_X2_put_7_1_102 (Q : fx_Mem → Prop) (s0 : Int32) (s1 : Int32) (M : fx_Mem) : Prop :=
  vp_in s1 20 ∧ ∀ M2 : fx_Mem, M2 = fx_sa M 29 s1.toNatClampNeg s0 → Q M2
set_option maxHeartbeats 4000000 in
set_option maxRecDepth 100000 in
theorem tb_X2_put_7_1_102 {g : fx_Geo} {p : Program} {l : Launch} {e : Env} {s : State} {m : MethodId} {args : Array Value} {below : List Frame} {meth : Method} {c : Code} (C : fx_Cx g p s m args meth c RX2 cX2_put 8 none) (Q : fx_Mem → Prop) (s0 : Int32) (s1 : Int32) (M : fx_Mem) (h : wb_X2_put_7_1_102 Q s0 s1 M) (H : Heap) (locs : List Loc) (ls : Array Slot) (hH : fx_H g s M H locs) (hl : lv_has ls 8 []) : W p l e rm_X2_put_7_1 s m args below meth c H locs 0 0 (MQ below (va_Qv Q (fx_Pw g) (fx_A g)) args s 0 0 (fx_A g)) (F0 m 102 ls [.int s0, .int s1, .ref (fx_a g 29)]) := by
  obtain ⟨hx, hb, hr, hml, hown, hts, hlocks, hsz, hK, hG, hSt⟩ := id C
  unfold wb_X2_put_7_1_102 at h
  obtain ⟨hi1, h⟩ := h
  refine fx_iast (j := s1.toNatClampNeg) (M' := fx_sa M 29 s1.toNatClampNeg s0) C hH 29 rfl (fx_w29 g M) (fx_p29 g M _) hi1 dX2_put_102 (fun H locs hH => ?_)
  generalize eM2 : fx_sa M 29 s1.toNatClampNeg s0 = M2 at hH
  replace h := h M2 eM2.symm
  exact fx_vret C hH h dX2_put_103
def wb_X2_put_7_1_55 (Q : fx_Mem → Prop) (x2 : Int32) (x3 : Int32) (x4 : Int32) (s0 : Int32) (s1 : Int32) (M : fx_Mem) : Prop :=
  vp_in s1 20 ∧ ∀ M2 : fx_Mem, M2 = fx_sa M 28 s1.toNatClampNeg s0 → wp_X2_positionInLine_7_1 x2 x3 M2 (fun r4 M3 => ∀ v5 : Int32, v5 = x4 + r4 → ((M3.2.1 10 1 = 2 → vp_in x2 20 ∧ wb_X2_put_7_1_102 Q (((M3.1 452) - v5) - (M3.2.1 28 x2.toNatClampNeg)) x2 M3) ∧ (¬ M3.2.1 10 1 = 2 → wb_X2_put_7_1_102 Q v5 x2 M3)))
set_option maxHeartbeats 4000000 in
set_option maxRecDepth 100000 in
theorem tb_X2_put_7_1_55 {g : fx_Geo} {p : Program} {l : Launch} {e : Env} {s : State} {m : MethodId} {args : Array Value} {below : List Frame} {meth : Method} {c : Code} (C : fx_Cx g p s m args meth c RX2 cX2_put 8 none) (Q : fx_Mem → Prop) (x2 : Int32) (x3 : Int32) (x4 : Int32) (s0 : Int32) (s1 : Int32) (M : fx_Mem) (h : wb_X2_put_7_1_55 Q x2 x3 x4 s0 s1 M) (H : Heap) (locs : List Loc) (ls : Array Slot) (hH : fx_H g s M H locs) (hl : lv_has ls 8 [(0, .ref (fx_a g 7)), (1, .ref (fx_a g 1)), (2, .int x2), (3, .int x3), (4, .int x4)]) : W p l e rm_X2_put_7_1 s m args below meth c H locs 0 0 (MQ below (va_Qv Q (fx_Pw g) (fx_A g)) args s 0 0 (fx_A g)) (F0 m 55 ls [.int s0, .int s1, .ref (fx_a g 28)]) := by
  obtain ⟨hx, hb, hr, hml, hown, hts, hlocks, hsz, hK, hG, hSt⟩ := id C
  unfold wb_X2_put_7_1_55 at h
  obtain ⟨hi1, h⟩ := h
  refine fx_iast (j := s1.toNatClampNeg) (M' := fx_sa M 28 s1.toNatClampNeg s0) C hH 28 rfl (fx_w28 g M) (fx_p28 g M _) hi1 dX2_put_55 (fun H locs hH => ?_)
  generalize eM2 : fx_sa M 28 s1.toNatClampNeg s0 = M2 at hH
  replace h := h M2 eM2.symm
  refine lv_iload hx hb dX2_put_56 (lv_at hl 4 rfl) ?_
  refine lv_aload_n hx hb dX2_put_58 rfl (lv_at hl 0 rfl) ?_
  refine lv_aload_n hx hb dX2_put_59 rfl (lv_at hl 1 rfl) ?_
  refine lv_iload_n hx hb dX2_put_60 rfl (lv_at hl 2 rfl) ?_
  refine lv_iload_n hx hb dX2_put_61 rfl (lv_at hl 3 rfl) ?_
  refine fx_ci hH (fx_runV (As := [.ref (fx_a g 1), .int x2, .int x3]) (rest := [.int x4]) C hH (c_X2_positionInLine_7_1 l C.2.2.2.2.2.2.2.2.2.1 x2 x3 M2 _ h) (fx_cwV 3 hts u_311 u_313 us_6 u_7 u_314 rfl rfl (by decide +kernel) ⟨(Nat.le_of_ble_eq_true rfl), (Nat.le_of_ble_eq_true rfl)⟩) (fx_w7 g M2) rfl rfl hl.1 rfl (Nat.le_of_ble_eq_true rfl) dX2_put_62 ⟨(Nat.le_of_ble_eq_true rfl), (Nat.le_of_ble_eq_true rfl)⟩) (fun r4 M3 H locs h hH => ?_)
  refine lv_iadd hx hb dX2_put_65 ?_
  refine lv_topi (fun v5 ev5 => ?_)
  replace h := h v5 ev5
  refine lv_istore (lv' := [(7, .int v5), (0, .ref (fx_a g 7)), (1, .ref (fx_a g 1)), (2, .int x2), (3, .int x3), (4, .int x4)]) hx hb dX2_put_66 hl (by decide) rfl (fun ls hl => ?_)
  refine lv_aload_n hx hb dX2_put_68 rfl (lv_at hl 1 rfl) ?_
  refine fx_get C hH (fx_w7 g M3) rfl in_X2 3 (by decide) u_184 rfl rfl dX2_put_69 ?_
  refine lv_iload_n hx hb dX2_put_72 rfl (lv_at hl 3 rfl) ?_
  refine lv_aload_n hx hb dX2_put_73 rfl (lv_at hl 2 rfl) ?_
  refine fx_get C hH (fx_w1 g M3) rfl in_X1 4 (by decide) u_52 rfl rfl dX2_put_74 ?_
  refine lv_iconst (v := 1) hx hb dX2_put_77 (by decide) ?_
  refine fx_iald (j := 1) C hH 10 (fx_w10 g M3) (by decide) (by unfold vp_in; decide) dX2_put_78 ?_
  refine lv_iconst (v := 2) hx hb dX2_put_79 (by decide) ?_
  refine lv_icmp_ne (tgt := 100) hx hb dX2_put_80 (by decide) (fun c6 => ?_) (fun c6 => ?_)
  · replace h := h.2 c6
    refine lv_iload hx hb dX2_put_100 (lv_at hl 0 rfl) ?_
    exact tb_X2_put_7_1_102 C Q  v5 x2 M3 h  H locs ls hH (lv_sub hl [] rfl)
  · replace h := h.1 c6
    refine lv_aload_n hx hb dX2_put_83 rfl (lv_at hl 1 rfl) ?_
    refine fx_get C hH (fx_w7 g M3) rfl in_X2 4 (by decide) u_186 rfl rfl dX2_put_84 ?_
    refine lv_iload hx hb dX2_put_87 (lv_at hl 0 rfl) ?_
    refine lv_isub hx hb dX2_put_89 ?_
    refine lv_aload_n hx hb dX2_put_90 rfl (lv_at hl 1 rfl) ?_
    refine fx_get C hH (fx_w7 g M3) rfl in_X2 2 (by decide) u_182 rfl rfl dX2_put_91 ?_
    refine lv_iload_n hx hb dX2_put_94 rfl (lv_at hl 3 rfl) ?_
    obtain ⟨hi7, h⟩ := h
    refine fx_iald (j := x2.toNatClampNeg) C hH 28 (fx_w28 g M3) rfl hi7 dX2_put_95 ?_
    refine lv_isub hx hb dX2_put_96 ?_
    refine lv_goto (tgt := 102) hx hb dX2_put_97 (by decide) ?_
    exact tb_X2_put_7_1_102 C Q  (((M3.1 452) - v5) - (M3.2.1 28 x2.toNatClampNeg)) x2 M3 h  H locs ls hH (lv_sub hl [] rfl)
def wb_X2_put_7_1_30 (Q : fx_Mem → Prop) (x2 : Int32) (x3 : Int32) (x4 : Int32) (j5 : Nat) (s0 : Int32) (M : fx_Mem) : Prop :=
  ((s0 = 0 → wb_X2_put_7_1_55 Q x2 x3 x4 (M.2.1 (57 + j5) 5) x2 M) ∧ (¬ s0 = 0 → vp_in x3 20 ∧ wb_X2_put_7_1_55 Q x2 x3 x4 (M.2.1 26 x3.toNatClampNeg) x2 M))
set_option maxHeartbeats 4000000 in
set_option maxRecDepth 100000 in
theorem tb_X2_put_7_1_30 {g : fx_Geo} {p : Program} {l : Launch} {e : Env} {s : State} {m : MethodId} {args : Array Value} {below : List Frame} {meth : Method} {c : Code} (C : fx_Cx g p s m args meth c RX2 cX2_put 8 none) (Q : fx_Mem → Prop) (x2 : Int32) (x3 : Int32) (x4 : Int32) (j5 : Nat) (s0 : Int32) (M : fx_Mem) (h : wb_X2_put_7_1_30 Q x2 x3 x4 j5 s0 M) (hj5 : j5 < 20) (H : Heap) (locs : List Loc) (ls : Array Slot) (hH : fx_H g s M H locs) (hl : lv_has ls 8 [(0, .ref (fx_a g 7)), (1, .ref (fx_a g 1)), (2, .int x2), (3, .int x3), (4, .int x4), (5, .ref (fx_a g (57 + j5)))]) : W p l e rm_X2_put_7_1 s m args below meth c H locs 0 0 (MQ below (va_Qv Q (fx_Pw g) (fx_A g)) args s 0 0 (fx_A g)) (F0 m 30 ls [.int s0]) := by
  obtain ⟨hx, hb, hr, hml, hown, hts, hlocks, hsz, hK, hG, hSt⟩ := id C
  unfold wb_X2_put_7_1_30 at h
  refine lv_istore (lv' := [(6, .int s0), (0, .ref (fx_a g 7)), (1, .ref (fx_a g 1)), (2, .int x2), (3, .int x3), (4, .int x4), (5, .ref (fx_a g (57 + j5)))]) hx hb dX2_put_30 hl (by decide) rfl (fun ls hl => ?_)
  refine lv_aload_n hx hb dX2_put_32 rfl (lv_at hl 1 rfl) ?_
  refine fx_get C hH (fx_w7 g M) rfl in_X2 2 (by decide) u_182 rfl rfl dX2_put_33 ?_
  refine lv_iload_n hx hb dX2_put_36 rfl (lv_at hl 3 rfl) ?_
  refine lv_iload hx hb dX2_put_37 (lv_at hl 0 rfl) ?_
  refine lv_if_eq (tgt := 51) hx hb dX2_put_39 (by decide) (fun c1 => ?_) (fun c1 => ?_)
  · replace h := h.1 c1
    refine lv_aload hx hb dX2_put_51 (lv_at hl 6 rfl) ?_
    refine lv_iconst (v := 5) hx hb dX2_put_53 (by decide) ?_
    refine fx_iald (j := 5) C hH (57 + j5) (fx_r1 g M j5 hj5) (by decide) (by unfold vp_in; decide) dX2_put_54 ?_
    exact tb_X2_put_7_1_55 C Q  x2 x3 x4 (M.2.1 (57 + j5) 5) x2 M h  H locs ls hH (lv_sub hl [1, 2, 3, 4, 5] rfl)
  · replace h := h.2 c1
    refine lv_aload_n hx hb dX2_put_42 rfl (lv_at hl 1 rfl) ?_
    refine fx_get C hH (fx_w7 g M) rfl in_X2 0 (by decide) u_178 rfl rfl dX2_put_43 ?_
    refine lv_iload_n hx hb dX2_put_46 rfl (lv_at hl 4 rfl) ?_
    obtain ⟨hi2, h⟩ := h
    refine fx_iald (j := x3.toNatClampNeg) C hH 26 (fx_w26 g M) rfl hi2 dX2_put_47 ?_
    refine lv_goto (tgt := 55) hx hb dX2_put_48 (by decide) ?_
    exact tb_X2_put_7_1_55 C Q  x2 x3 x4 (M.2.1 26 x3.toNatClampNeg) x2 M h  H locs ls hH (lv_sub hl [1, 2, 3, 4, 5] rfl)
def wb_X2_put_7_1_29 (Q : fx_Mem → Prop) (x2 : Int32) (x3 : Int32) (x4 : Int32) (j5 : Nat) (M : fx_Mem) : Prop :=
  wb_X2_put_7_1_30 Q x2 x3 x4 j5 0 M
set_option maxHeartbeats 4000000 in
set_option maxRecDepth 100000 in
theorem tb_X2_put_7_1_29 {g : fx_Geo} {p : Program} {l : Launch} {e : Env} {s : State} {m : MethodId} {args : Array Value} {below : List Frame} {meth : Method} {c : Code} (C : fx_Cx g p s m args meth c RX2 cX2_put 8 none) (Q : fx_Mem → Prop) (x2 : Int32) (x3 : Int32) (x4 : Int32) (j5 : Nat) (M : fx_Mem) (h : wb_X2_put_7_1_29 Q x2 x3 x4 j5 M) (hj5 : j5 < 20) (H : Heap) (locs : List Loc) (ls : Array Slot) (hH : fx_H g s M H locs) (hl : lv_has ls 8 [(0, .ref (fx_a g 7)), (1, .ref (fx_a g 1)), (2, .int x2), (3, .int x3), (4, .int x4), (5, .ref (fx_a g (57 + j5)))]) : W p l e rm_X2_put_7_1 s m args below meth c H locs 0 0 (MQ below (va_Qv Q (fx_Pw g) (fx_A g)) args s 0 0 (fx_A g)) (F0 m 29 ls []) := by
  obtain ⟨hx, hb, hr, hml, hown, hts, hlocks, hsz, hK, hG, hSt⟩ := id C
  unfold wb_X2_put_7_1_29 at h
  refine lv_iconst (v := 0) hx hb dX2_put_29 (by decide) ?_
  exact tb_X2_put_7_1_30 C Q  x2 x3 x4 j5 0 M h hj5 H locs ls hH (lv_sub hl [0, 1, 2, 3, 4, 5] rfl)
def wp_X2_put_7_1 (a2 : Int32) (a3 : Int32) (a4 : Int32) (M : fx_Mem) (Q : fx_Mem → Prop) : Prop :=
  vp_in a2 20 ∧ wp_X1_alignment_1 a2 M (fun r4 M3 => ((r4 = 0 → ((M3.2.1 (57 + a2.toNatClampNeg) 9 = 1 → wb_X2_put_7_1_30 Q a2 a3 a4 a2.toNatClampNeg 1 M3) ∧ (¬ M3.2.1 (57 + a2.toNatClampNeg) 9 = 1 → wb_X2_put_7_1_29 Q a2 a3 a4 a2.toNatClampNeg M3))) ∧ (¬ r4 = 0 → wb_X2_put_7_1_29 Q a2 a3 a4 a2.toNatClampNeg M3)))
set_option maxHeartbeats 4000000 in
set_option maxRecDepth 100000 in
theorem c_X2_put_7_1 (l : Launch) {g : fx_Geo} (hG : fx_Gd g) (a2 : Int32) (a3 : Int32) (a4 : Int32) (M : fx_Mem) (Q : fx_Mem → Prop) (h : wp_X2_put_7_1 a2 a3 a4 M Q) : Met l yX2_put (.code yX2_put cX2_put 8 none :: fx_U) rm_X2_put_7_1 (va_Pc [.ref (fx_a g 7), .ref (fx_a g 1), .int a2, .int a3, .int a4] (fx_At g M)) (va_Qv Q (fx_Pw g) (fx_A g)) 0 0 (fx_A g) := by
  refine Met.ofW (cc := cX2_put) (maxL := 8) (ret := none) (by decide +kernel) rfl ?_
  intro p e s m args below meth c s₁ B hml hv
  obtain ⟨rfl, hv⟩ := hv
  have hts := atoms_spec (ws := .code yX2_put cX2_put 8 none :: fx_U) B.pre
  obtain ⟨C, hH⟩ := fx_body (own := RX2) B hml rfl (fun w hw => hts w (List.mem_cons_of_mem _ hw)) hG hv
  replace hts := fun w hw => hts w (List.mem_cons_of_mem _ hw)
  obtain ⟨hx, hb, hr, -, hown, -, hlocks, hsz, hK, -, hSt⟩ := id C
  have hl := lv_entry ([.ref (fx_a g 7), .ref (fx_a g 1), .int a2, .int a3, .int a4]) (n := 8) (Nat.le_of_ble_eq_true rfl)
  rw [lg_entry_eq]
  generalize (lg_sl ([.ref (fx_a g 7), .ref (fx_a g 1), .int a2, .int a3, .int a4]) ++ List.replicate (8 - (lg_sl ([.ref (fx_a g 7), .ref (fx_a g 1), .int a2, .int a3, .int a4])).length) Slot.unset).toArray = ls at hl ⊢
  have hl : lv_has ls 8 [(0, .ref (fx_a g 7)), (1, .ref (fx_a g 1)), (2, .int a2), (3, .int a3), (4, .int a4)] := hl
  obtain ⟨H, eH⟩ : ∃ H : Heap, H = s.heap := ⟨_, rfl⟩
  obtain ⟨locs, elocs⟩ : ∃ q : List Loc, q = [] := ⟨_, rfl⟩
  rw [← eH, ← elocs] at hH
  show W p l e rm_X2_put_7_1 s m _ below meth c s.heap [] 0 0 _ _
  rw [← eH, ← elocs]
  unfold wp_X2_put_7_1 at h
  refine lv_aload_n hx hb dX2_put_0 rfl (lv_at hl 1 rfl) ?_
  refine fx_get C hH (fx_w1 g M) rfl in_X1 5 (by decide) u_57 rfl rfl dX2_put_1 ?_
  refine lv_iload_n hx hb dX2_put_4 rfl (lv_at hl 2 rfl) ?_
  obtain ⟨hi1, h⟩ := h
  have hj2 : a2.toNatClampNeg < 20 := Nat.not_le.mp fun q => hi1 (Or.inr q)
  refine fx_aald C hH 11 (fx_w11 g M) hi1 dX2_put_5 ?_
  refine lv_astore (lv' := [(5, .ref (fx_a g (57 + a2.toNatClampNeg))), (0, .ref (fx_a g 7)), (1, .ref (fx_a g 1)), (2, .int a2), (3, .int a3), (4, .int a4)]) hx hb dX2_put_6 hl (by decide) rfl (fun ls hl => ?_)
  refine lv_aload_n hx hb dX2_put_8 rfl (lv_at hl 2 rfl) ?_
  refine lv_iload_n hx hb dX2_put_9 rfl (lv_at hl 3 rfl) ?_
  refine fx_ci hH (fx_runV (As := [.int a2]) (rest := []) C hH (c_X1_alignment_1 l C.2.2.2.2.2.2.2.2.2.1 a2 M _ h) (fx_cwV 1 hts u_268 u_269 u_270 u_2 u_271 rfl rfl (by decide +kernel) ⟨(Nat.le_of_ble_eq_true rfl), (Nat.le_of_ble_eq_true rfl)⟩) (fx_w1 g M) rfl rfl hl.1 rfl (Nat.le_of_ble_eq_true rfl) dX2_put_10 ⟨(Nat.le_of_ble_eq_true rfl), (Nat.le_of_ble_eq_true rfl)⟩) (fun r4 M3 H locs h hH => ?_)
  refine lv_if_ne (tgt := 29) hx hb dX2_put_13 (by decide) (fun c5 => ?_) (fun c5 => ?_)
  · replace h := h.2 c5
    exact tb_X2_put_7_1_29 C Q  a2 a3 a4 a2.toNatClampNeg M3 h hj2 H locs ls hH (lv_sub hl [1, 2, 3, 4, 5, 0] rfl)
  · replace h := h.1 c5
    refine lv_aload hx hb dX2_put_16 (lv_at hl 0 rfl) ?_
    refine lv_bipush (v := 9) hx hb dX2_put_18 (by decide) ?_
    refine fx_iald (j := 9) C hH (57 + a2.toNatClampNeg) (fx_r1 g M3 a2.toNatClampNeg hj2) (by decide) (by unfold vp_in; decide) dX2_put_20 ?_
    refine lv_iconst (v := 1) hx hb dX2_put_21 (by decide) ?_
    refine lv_icmp_ne (tgt := 29) hx hb dX2_put_22 (by decide) (fun c6 => ?_) (fun c6 => ?_)
    · replace h := h.2 c6
      exact tb_X2_put_7_1_29 C Q  a2 a3 a4 a2.toNatClampNeg M3 h hj2 H locs ls hH (lv_sub hl [1, 2, 3, 4, 5, 0] rfl)
    · replace h := h.1 c6
      refine lv_iconst (v := 1) hx hb dX2_put_25 (by decide) ?_
      refine lv_goto (tgt := 30) hx hb dX2_put_26 (by decide) ?_
      exact tb_X2_put_7_1_30 C Q  a2 a3 a4 a2.toNatClampNeg 1 M3 h hj2 H locs ls hH (lv_sub hl [1, 2, 3, 4, 5, 0] rfl)
/-! FlexLayout$CrossAxis.findPositions(LFlexLayout$Container;LFlexLayout$Arrangement;I)V (7, 1, 5) -/
def rm_X2_findPositions_7_1_5 : Room := { frames := 3, cells := 0, slots := 0, locals := 73 }
def wb_X2_findPositions_7_1_5_64 (k64 : Int32 → Int32 → Int32 → Int32 → Int32 → Int32 → fx_Mem → Prop) (k100 : Int32 → Int32 → Int32 → Int32 → fx_Mem → Prop) (Q : fx_Mem → Prop) (x3 : Int32) (x5 : Int32) (x6 : Int32) (x7 : Int32) (x8 : Int32) (x9 : Int32) (M : fx_Mem) : Prop :=
  vp_in (x7 + 1) 21 ∧ ((M.2.1 19 ((x7 + 1).toNatClampNeg) ≤ x9 → k100 x3 x5 x6 x7 M) ∧ (¬ M.2.1 19 ((x7 + 1).toNatClampNeg) ≤ x9 → vp_in x9 20 ∧ wp_X2_put_7_1 (M.2.1 18 x9.toNatClampNeg) x7 x8 M (fun M4 => ∀ v5 : Int32, v5 = x9 + 1 → k64 x3 x5 x6 x7 x8 v5 M4)))
set_option maxHeartbeats 4000000 in
set_option maxRecDepth 100000 in
theorem tb_X2_findPositions_7_1_5_64 {g : fx_Geo} {p : Program} {l : Launch} {e : Env} {s : State} {m : MethodId} {args : Array Value} {below : List Frame} {meth : Method} {c : Code} (C : fx_Cx g p s m args meth c RX2 cX2_findPositions 10 none) (k64 : Int32 → Int32 → Int32 → Int32 → Int32 → Int32 → fx_Mem → Prop) (k100 : Int32 → Int32 → Int32 → Int32 → fx_Mem → Prop) (Q : fx_Mem → Prop) (hk64 : ∀ (x3 : Int32) (x5 : Int32) (x6 : Int32) (x7 : Int32) (x8 : Int32) (x9 : Int32) (M : fx_Mem), k64 x3 x5 x6 x7 x8 x9 M → ∀ (H : Heap) (locs : List Loc) (ls : Array Slot), fx_H g s M H locs → lv_has ls 10 [(0, .ref (fx_a g 7)), (1, .ref (fx_a g 1)), (2, .ref (fx_a g 5)), (3, .int x3), (5, .int x5), (6, .int x6), (7, .int x7), (8, .int x8), (9, .int x9)] → W p l e rm_X2_findPositions_7_1_5 s m args below meth c H locs 0 0 (MQ below (va_Qv Q (fx_Pw g) (fx_A g)) args s 0 0 (fx_A g)) (F0 m 64 ls [])) (hk100 : ∀ (x3 : Int32) (x5 : Int32) (x6 : Int32) (x7 : Int32) (M : fx_Mem), k100 x3 x5 x6 x7 M → ∀ (H : Heap) (locs : List Loc) (ls : Array Slot), fx_H g s M H locs → lv_has ls 10 [(0, .ref (fx_a g 7)), (1, .ref (fx_a g 1)), (2, .ref (fx_a g 5)), (3, .int x3), (5, .int x5), (6, .int x6), (7, .int x7)] → W p l e rm_X2_findPositions_7_1_5 s m args below meth c H locs 0 0 (MQ below (va_Qv Q (fx_Pw g) (fx_A g)) args s 0 0 (fx_A g)) (F0 m 100 ls [])) (x3 : Int32) (x5 : Int32) (x6 : Int32) (x7 : Int32) (x8 : Int32) (x9 : Int32) (M : fx_Mem) (h : wb_X2_findPositions_7_1_5_64 k64 k100 Q x3 x5 x6 x7 x8 x9 M) (H : Heap) (locs : List Loc) (ls : Array Slot) (hH : fx_H g s M H locs) (hl : lv_has ls 10 [(0, .ref (fx_a g 7)), (1, .ref (fx_a g 1)), (2, .ref (fx_a g 5)), (3, .int x3), (5, .int x5), (6, .int x6), (7, .int x7), (8, .int x8), (9, .int x9)]) : W p l e rm_X2_findPositions_7_1_5 s m args below meth c H locs 0 0 (MQ below (va_Qv Q (fx_Pw g) (fx_A g)) args s 0 0 (fx_A g)) (F0 m 64 ls []) := by
  obtain ⟨hx, hb, hr, hml, hown, hts, hlocks, hsz, hK, hG, hSt⟩ := id C
  unfold wb_X2_findPositions_7_1_5_64 at h
  refine lv_iload hx hb dX2_findPositions_64 (lv_at hl 8 rfl) ?_
  refine lv_aload_n hx hb dX2_findPositions_66 rfl (lv_at hl 2 rfl) ?_
  refine fx_get C hH (fx_w5 g M) rfl in_X0 1 (by decide) u_129 rfl rfl dX2_findPositions_67 ?_
  refine lv_iload hx hb dX2_findPositions_70 (lv_at hl 6 rfl) ?_
  refine lv_iconst (v := 1) hx hb dX2_findPositions_72 (by decide) ?_
  refine lv_iadd hx hb dX2_findPositions_73 ?_
  obtain ⟨hi1, h⟩ := h
  refine fx_iald (j := (x7 + 1).toNatClampNeg) C hH 19 (fx_w19 g M) rfl hi1 dX2_findPositions_74 ?_
  refine lv_icmp_ge (tgt := 100) hx hb dX2_findPositions_75 (by decide) (fun c2 => ?_) (fun c2 => ?_)
  · replace h := h.1 c2
    exact hk100 x3 x5 x6 x7 M h  H locs ls hH (lv_sub hl [0, 1, 2, 3, 4, 5, 6] rfl)
  · replace h := h.2 c2
    refine lv_aload_n hx hb dX2_findPositions_78 rfl (lv_at hl 0 rfl) ?_
    refine lv_aload_n hx hb dX2_findPositions_79 rfl (lv_at hl 1 rfl) ?_
    refine lv_aload_n hx hb dX2_findPositions_80 rfl (lv_at hl 2 rfl) ?_
    refine fx_get C hH (fx_w5 g M) rfl in_X0 0 (by decide) u_125 rfl rfl dX2_findPositions_81 ?_
    refine lv_iload hx hb dX2_findPositions_84 (lv_at hl 8 rfl) ?_
    obtain ⟨hi3, h⟩ := h
    refine fx_iald (j := x9.toNatClampNeg) C hH 18 (fx_w18 g M) rfl hi3 dX2_findPositions_86 ?_
    refine lv_iload hx hb dX2_findPositions_87 (lv_at hl 6 rfl) ?_
    refine lv_iload hx hb dX2_findPositions_89 (lv_at hl 7 rfl) ?_
    refine fx_cv hH (fx_runV (As := [.ref (fx_a g 1), .int (M.2.1 18 x9.toNatClampNeg), .int x7, .int x8]) (rest := []) C hH (c_X2_put_7_1 l C.2.2.2.2.2.2.2.2.2.1 (M.2.1 18 x9.toNatClampNeg) x7 x8 M _ h) (fx_cwV 4 hts u_307 u_309 us_5 u_7 u_310 rfl rfl (by decide +kernel) ⟨(Nat.le_of_ble_eq_true rfl), (Nat.le_of_ble_eq_true rfl)⟩) (fx_w7 g M) rfl rfl hl.1 rfl (Nat.le_of_ble_eq_true rfl) dX2_findPositions_91 ⟨(Nat.le_of_ble_eq_true rfl), (Nat.le_of_ble_eq_true rfl)⟩) (fun M4 H locs h hH => ?_)
    obtain ⟨v5, ev5⟩ : ∃ z : Int32, z = x9 + 1 := ⟨_, rfl⟩
    refine lv_iinc (v := v5) (lv' := [(9, .int v5), (0, .ref (fx_a g 7)), (1, .ref (fx_a g 1)), (2, .ref (fx_a g 5)), (3, .int x3), (5, .int x5), (6, .int x6), (7, .int x7), (8, .int x8)]) hx hb dX2_findPositions_94 hl (k := 8) rfl (by rw [ev5]; rfl) (by decide) rfl (fun ls hl => ?_)
    replace h := h v5 ev5
    refine lv_goto (tgt := 64) hx hb dX2_findPositions_97 (by decide) ?_
    exact hk64 x3 x5 x6 x7 x8 v5 M4 h  H locs ls hH (lv_sub hl [1, 2, 3, 4, 5, 6, 7, 8, 0] rfl)
def wl_X2_findPositions_7_1_5_64 (k100 : Int32 → Int32 → Int32 → Int32 → fx_Mem → Prop) (Q : fx_Mem → Prop) (n : Nat) (x3 : Int32) (x5 : Int32) (x6 : Int32) (x7 : Int32) (x8 : Int32) (x9 : Int32) (M : fx_Mem) : Prop :=
  fx_lp (α := Int32 × Int32 × Int32 × Int32 × Int32 × Int32 × fx_Mem) (fun k a => wb_X2_findPositions_7_1_5_64 (fun x3 x5 x6 x7 x8 x9 M => k (x3, x5, x6, x7, x8, x9, M)) k100 Q a.1 a.2.1 a.2.2.1 a.2.2.2.1 a.2.2.2.2.1 a.2.2.2.2.2.1 a.2.2.2.2.2.2) n (x3, x5, x6, x7, x8, x9, M)
set_option maxHeartbeats 4000000 in
theorem tl_X2_findPositions_7_1_5_64 {g : fx_Geo} {p : Program} {l : Launch} {e : Env} {s : State} {m : MethodId} {args : Array Value} {below : List Frame} {meth : Method} {c : Code} (C : fx_Cx g p s m args meth c RX2 cX2_findPositions 10 none) (k100 : Int32 → Int32 → Int32 → Int32 → fx_Mem → Prop) (Q : fx_Mem → Prop) (hk100 : ∀ (x3 : Int32) (x5 : Int32) (x6 : Int32) (x7 : Int32) (M : fx_Mem), k100 x3 x5 x6 x7 M → ∀ (H : Heap) (locs : List Loc) (ls : Array Slot), fx_H g s M H locs → lv_has ls 10 [(0, .ref (fx_a g 7)), (1, .ref (fx_a g 1)), (2, .ref (fx_a g 5)), (3, .int x3), (5, .int x5), (6, .int x6), (7, .int x7)] → W p l e rm_X2_findPositions_7_1_5 s m args below meth c H locs 0 0 (MQ below (va_Qv Q (fx_Pw g) (fx_A g)) args s 0 0 (fx_A g)) (F0 m 100 ls [])) : ∀ (n : Nat) (x3 : Int32) (x5 : Int32) (x6 : Int32) (x7 : Int32) (x8 : Int32) (x9 : Int32) (M : fx_Mem), wl_X2_findPositions_7_1_5_64 k100 Q n x3 x5 x6 x7 x8 x9 M → ∀ (H : Heap) (locs : List Loc) (ls : Array Slot), fx_H g s M H locs → lv_has ls 10 [(0, .ref (fx_a g 7)), (1, .ref (fx_a g 1)), (2, .ref (fx_a g 5)), (3, .int x3), (5, .int x5), (6, .int x6), (7, .int x7), (8, .int x8), (9, .int x9)] → W p l e rm_X2_findPositions_7_1_5 s m args below meth c H locs 0 0 (MQ below (va_Qv Q (fx_Pw g) (fx_A g)) args s 0 0 (fx_A g)) (F0 m 64 ls []) := by
  intro n
  induction n with
  | zero => intro x3 x5 x6 x7 x8 x9 M h; exact False.elim h
  | succ n ih => intro x3 x5 x6 x7 x8 x9 M h  H locs ls hH hl; exact tb_X2_findPositions_7_1_5_64 C (wl_X2_findPositions_7_1_5_64 k100 Q n) k100 Q ih hk100 x3 x5 x6 x7 x8 x9 M h  H locs ls hH hl
def wb_X2_findPositions_7_1_5_100 (k29 : Int32 → Int32 → Int32 → Int32 → fx_Mem → Prop) (Q : fx_Mem → Prop) (x3 : Int32) (x5 : Int32) (x6 : Int32) (x7 : Int32) (M : fx_Mem) : Prop :=
  vp_in x7 20 ∧ ∀ v2 : Int32, v2 = x6 + ((M.2.1 26 x7.toNatClampNeg) + (M.1 67)) → ∀ v3 : Int32, v3 = x7 + 1 → k29 x3 x5 v2 v3 M
set_option maxHeartbeats 4000000 in
set_option maxRecDepth 100000 in
theorem tb_X2_findPositions_7_1_5_100 {g : fx_Geo} {p : Program} {l : Launch} {e : Env} {s : State} {m : MethodId} {args : Array Value} {below : List Frame} {meth : Method} {c : Code} (C : fx_Cx g p s m args meth c RX2 cX2_findPositions 10 none) (k29 : Int32 → Int32 → Int32 → Int32 → fx_Mem → Prop) (Q : fx_Mem → Prop) (hk29 : ∀ (x3 : Int32) (x5 : Int32) (x6 : Int32) (x7 : Int32) (M : fx_Mem), k29 x3 x5 x6 x7 M → ∀ (H : Heap) (locs : List Loc) (ls : Array Slot), fx_H g s M H locs → lv_has ls 10 [(0, .ref (fx_a g 7)), (1, .ref (fx_a g 1)), (2, .ref (fx_a g 5)), (3, .int x3), (5, .int x5), (6, .int x6), (7, .int x7)] → W p l e rm_X2_findPositions_7_1_5 s m args below meth c H locs 0 0 (MQ below (va_Qv Q (fx_Pw g) (fx_A g)) args s 0 0 (fx_A g)) (F0 m 29 ls [])) (x3 : Int32) (x5 : Int32) (x6 : Int32) (x7 : Int32) (M : fx_Mem) (h : wb_X2_findPositions_7_1_5_100 k29 Q x3 x5 x6 x7 M) (H : Heap) (locs : List Loc) (ls : Array Slot) (hH : fx_H g s M H locs) (hl : lv_has ls 10 [(0, .ref (fx_a g 7)), (1, .ref (fx_a g 1)), (2, .ref (fx_a g 5)), (3, .int x3), (5, .int x5), (6, .int x6), (7, .int x7)]) : W p l e rm_X2_findPositions_7_1_5 s m args below meth c H locs 0 0 (MQ below (va_Qv Q (fx_Pw g) (fx_A g)) args s 0 0 (fx_A g)) (F0 m 100 ls []) := by
  obtain ⟨hx, hb, hr, hml, hown, hts, hlocks, hsz, hK, hG, hSt⟩ := id C
  unfold wb_X2_findPositions_7_1_5_100 at h
  refine lv_iload hx hb dX2_findPositions_100 (lv_at hl 5 rfl) ?_
  refine lv_aload_n hx hb dX2_findPositions_102 rfl (lv_at hl 0 rfl) ?_
  refine fx_get C hH (fx_w7 g M) rfl in_X2 0 (by decide) u_178 rfl rfl dX2_findPositions_103 ?_
  refine lv_iload hx hb dX2_findPositions_106 (lv_at hl 6 rfl) ?_
  obtain ⟨hi1, h⟩ := h
  refine fx_iald (j := x7.toNatClampNeg) C hH 26 (fx_w26 g M) rfl hi1 dX2_findPositions_108 ?_
  refine lv_aload_n hx hb dX2_findPositions_109 rfl (lv_at hl 1 rfl) ?_
  refine fx_get C hH (fx_w1 g M) rfl in_X1 3 (by decide) u_50 rfl rfl dX2_findPositions_110 ?_
  refine lv_iadd hx hb dX2_findPositions_113 ?_
  refine lv_iadd hx hb dX2_findPositions_114 ?_
  refine lv_topi (fun v2 ev2 => ?_)
  replace h := h v2 ev2
  refine lv_istore (lv' := [(6, .int v2), (0, .ref (fx_a g 7)), (1, .ref (fx_a g 1)), (2, .ref (fx_a g 5)), (3, .int x3), (5, .int x5), (7, .int x7)]) hx hb dX2_findPositions_115 hl (by decide) rfl (fun ls hl => ?_)
  obtain ⟨v3, ev3⟩ : ∃ z : Int32, z = x7 + 1 := ⟨_, rfl⟩
  refine lv_iinc (v := v3) (lv' := [(7, .int v3), (6, .int v2), (0, .ref (fx_a g 7)), (1, .ref (fx_a g 1)), (2, .ref (fx_a g 5)), (3, .int x3), (5, .int x5)]) hx hb dX2_findPositions_117 hl (k := 6) rfl (by rw [ev3]; rfl) (by decide) rfl (fun ls hl => ?_)
  replace h := h v3 ev3
  refine lv_goto (tgt := 29) hx hb dX2_findPositions_120 (by decide) ?_
  exact hk29 x3 x5 v2 v3 M h  H locs ls hH (lv_sub hl [2, 3, 4, 5, 6, 1, 0] rfl)
def wb_X2_findPositions_7_1_5_29 (k29 : Int32 → Int32 → Int32 → Int32 → fx_Mem → Prop) (Q : fx_Mem → Prop) (x3 : Int32) (x5 : Int32) (x6 : Int32) (x7 : Int32) (M : fx_Mem) : Prop :=
  ((M.1 322 ≤ x7 → Q M) ∧ (¬ M.1 322 ≤ x7 → wp_X6_offset x5 x3 x7 (M.1 322) M (fun r3 M2 => ∀ v4 : Int32, v4 = x6 + r3 → vp_in x7 21 ∧ ∀ v6 : Int32, v6 = M2.2.1 19 x7.toNatClampNeg → ∃ n64 : Nat, wl_X2_findPositions_7_1_5_64 (wb_X2_findPositions_7_1_5_100 k29 Q) Q n64 x3 x5 x6 x7 v4 v6 M2)))
set_option maxHeartbeats 4000000 in
set_option maxRecDepth 100000 in
theorem tb_X2_findPositions_7_1_5_29 {g : fx_Geo} {p : Program} {l : Launch} {e : Env} {s : State} {m : MethodId} {args : Array Value} {below : List Frame} {meth : Method} {c : Code} (C : fx_Cx g p s m args meth c RX2 cX2_findPositions 10 none) (k29 : Int32 → Int32 → Int32 → Int32 → fx_Mem → Prop) (Q : fx_Mem → Prop) (hk29 : ∀ (x3 : Int32) (x5 : Int32) (x6 : Int32) (x7 : Int32) (M : fx_Mem), k29 x3 x5 x6 x7 M → ∀ (H : Heap) (locs : List Loc) (ls : Array Slot), fx_H g s M H locs → lv_has ls 10 [(0, .ref (fx_a g 7)), (1, .ref (fx_a g 1)), (2, .ref (fx_a g 5)), (3, .int x3), (5, .int x5), (6, .int x6), (7, .int x7)] → W p l e rm_X2_findPositions_7_1_5 s m args below meth c H locs 0 0 (MQ below (va_Qv Q (fx_Pw g) (fx_A g)) args s 0 0 (fx_A g)) (F0 m 29 ls [])) (x3 : Int32) (x5 : Int32) (x6 : Int32) (x7 : Int32) (M : fx_Mem) (h : wb_X2_findPositions_7_1_5_29 k29 Q x3 x5 x6 x7 M) (H : Heap) (locs : List Loc) (ls : Array Slot) (hH : fx_H g s M H locs) (hl : lv_has ls 10 [(0, .ref (fx_a g 7)), (1, .ref (fx_a g 1)), (2, .ref (fx_a g 5)), (3, .int x3), (5, .int x5), (6, .int x6), (7, .int x7)]) : W p l e rm_X2_findPositions_7_1_5 s m args below meth c H locs 0 0 (MQ below (va_Qv Q (fx_Pw g) (fx_A g)) args s 0 0 (fx_A g)) (F0 m 29 ls []) := by
  obtain ⟨hx, hb, hr, hml, hown, hts, hlocks, hsz, hK, hG, hSt⟩ := id C
  unfold wb_X2_findPositions_7_1_5_29 at h
  refine lv_iload hx hb dX2_findPositions_29 (lv_at hl 6 rfl) ?_
  refine lv_aload_n hx hb dX2_findPositions_31 rfl (lv_at hl 2 rfl) ?_
  refine fx_get C hH (fx_w5 g M) rfl in_X0 2 (by decide) u_133 rfl rfl dX2_findPositions_32 ?_
  refine lv_icmp_ge (tgt := 123) hx hb dX2_findPositions_35 (by decide) (fun c1 => ?_) (fun c1 => ?_)
  · replace h := h.1 c1
    exact fx_vret C hH h dX2_findPositions_123
  · replace h := h.2 c1
    refine lv_iload hx hb dX2_findPositions_38 (lv_at hl 5 rfl) ?_
    refine lv_iload hx hb dX2_findPositions_40 (lv_at hl 4 rfl) ?_
    refine lv_iload_n hx hb dX2_findPositions_42 rfl (lv_at hl 3 rfl) ?_
    refine lv_iload hx hb dX2_findPositions_43 (lv_at hl 6 rfl) ?_
    refine lv_aload_n hx hb dX2_findPositions_45 rfl (lv_at hl 2 rfl) ?_
    refine fx_get C hH (fx_w5 g M) rfl in_X0 2 (by decide) u_133 rfl rfl dX2_findPositions_46 ?_
    refine fx_ci hH (fx_runSN (As := [.int x5, .int x3, .int x7, .int (M.1 322)]) (rest := [.int x6]) C hH (c_X6_offset l C.2.2.2.2.2.2.2.2.2.1 x5 x3 x7 (M.1 322) M _ h) (fx_cwSN 4 hts (hSt.2.2.1 (RX2, 96, yX6_offset, "FlexLayout") (by decide +kernel)) u_302 u_1 u_303 rfl rfl (by decide +kernel) ⟨(Nat.le_of_ble_eq_true rfl), (Nat.le_of_ble_eq_true rfl)⟩) rfl hl.1 rfl (Nat.le_of_ble_eq_true rfl) dX2_findPositions_49 ⟨(Nat.le_of_ble_eq_true rfl), (Nat.le_of_ble_eq_true rfl)⟩) (fun r3 M2 H locs h hH => ?_)
    refine lv_iadd hx hb dX2_findPositions_52 ?_
    refine lv_topi (fun v4 ev4 => ?_)
    replace h := h v4 ev4
    refine lv_istore (lv' := [(8, .int v4), (0, .ref (fx_a g 7)), (1, .ref (fx_a g 1)), (2, .ref (fx_a g 5)), (3, .int x3), (5, .int x5), (6, .int x6), (7, .int x7)]) hx hb dX2_findPositions_53 hl (by decide) rfl (fun ls hl => ?_)
    refine lv_aload_n hx hb dX2_findPositions_55 rfl (lv_at hl 3 rfl) ?_
    refine fx_get C hH (fx_w5 g M2) rfl in_X0 1 (by decide) u_129 rfl rfl dX2_findPositions_56 ?_
    refine lv_iload hx hb dX2_findPositions_59 (lv_at hl 7 rfl) ?_
    obtain ⟨hi5, h⟩ := h
    refine fx_iald (j := x7.toNatClampNeg) C hH 19 (fx_w19 g M2) rfl hi5 dX2_findPositions_61 ?_
    refine lv_topi (fun v6 ev6 => ?_)
    replace h := h v6 ev6
    refine lv_istore (lv' := [(9, .int v6), (8, .int v4), (0, .ref (fx_a g 7)), (1, .ref (fx_a g 1)), (2, .ref (fx_a g 5)), (3, .int x3), (5, .int x5), (6, .int x6), (7, .int x7)]) hx hb dX2_findPositions_62 hl (by decide) rfl (fun ls hl => ?_)
    obtain ⟨n64, h⟩ := h
    exact tl_X2_findPositions_7_1_5_64 C (wb_X2_findPositions_7_1_5_100 k29 Q) Q (tb_X2_findPositions_7_1_5_100 C k29 Q hk29) n64 x3 x5 x6 x7 v4 v6 M2 h  H locs ls hH (lv_sub hl [2, 3, 4, 5, 6, 7, 8, 1, 0] rfl)
def wl_X2_findPositions_7_1_5_29 (Q : fx_Mem → Prop) (n : Nat) (x3 : Int32) (x5 : Int32) (x6 : Int32) (x7 : Int32) (M : fx_Mem) : Prop :=
  fx_lp (α := Int32 × Int32 × Int32 × Int32 × fx_Mem) (fun k a => wb_X2_findPositions_7_1_5_29 (fun x3 x5 x6 x7 M => k (x3, x5, x6, x7, M)) Q a.1 a.2.1 a.2.2.1 a.2.2.2.1 a.2.2.2.2) n (x3, x5, x6, x7, M)
set_option maxHeartbeats 4000000 in
theorem tl_X2_findPositions_7_1_5_29 {g : fx_Geo} {p : Program} {l : Launch} {e : Env} {s : State} {m : MethodId} {args : Array Value} {below : List Frame} {meth : Method} {c : Code} (C : fx_Cx g p s m args meth c RX2 cX2_findPositions 10 none) (Q : fx_Mem → Prop) : ∀ (n : Nat) (x3 : Int32) (x5 : Int32) (x6 : Int32) (x7 : Int32) (M : fx_Mem), wl_X2_findPositions_7_1_5_29  Q n x3 x5 x6 x7 M → ∀ (H : Heap) (locs : List Loc) (ls : Array Slot), fx_H g s M H locs → lv_has ls 10 [(0, .ref (fx_a g 7)), (1, .ref (fx_a g 1)), (2, .ref (fx_a g 5)), (3, .int x3), (5, .int x5), (6, .int x6), (7, .int x7)] → W p l e rm_X2_findPositions_7_1_5 s m args below meth c H locs 0 0 (MQ below (va_Qv Q (fx_Pw g) (fx_A g)) args s 0 0 (fx_A g)) (F0 m 29 ls []) := by
  intro n
  induction n with
  | zero => intro x3 x5 x6 x7 M h; exact False.elim h
  | succ n ih => intro x3 x5 x6 x7 M h  H locs ls hH hl; exact tb_X2_findPositions_7_1_5_29 C (wl_X2_findPositions_7_1_5_29  Q n) Q ih x3 x5 x6 x7 M h  H locs ls hH hl
def wb_X2_findPositions_7_1_5_21 (Q : fx_Mem → Prop) (x3 : Int32) (s0 : Int32) (M : fx_Mem) : Prop :=
  ∃ n29 : Nat, wl_X2_findPositions_7_1_5_29 Q n29 x3 s0 0 0 M
set_option maxHeartbeats 4000000 in
set_option maxRecDepth 100000 in
theorem tb_X2_findPositions_7_1_5_21 {g : fx_Geo} {p : Program} {l : Launch} {e : Env} {s : State} {m : MethodId} {args : Array Value} {below : List Frame} {meth : Method} {c : Code} (C : fx_Cx g p s m args meth c RX2 cX2_findPositions 10 none) (Q : fx_Mem → Prop) (x3 : Int32) (s0 : Int32) (M : fx_Mem) (h : wb_X2_findPositions_7_1_5_21 Q x3 s0 M) (H : Heap) (locs : List Loc) (ls : Array Slot) (hH : fx_H g s M H locs) (hl : lv_has ls 10 [(0, .ref (fx_a g 7)), (1, .ref (fx_a g 1)), (2, .ref (fx_a g 5)), (3, .int x3)]) : W p l e rm_X2_findPositions_7_1_5 s m args below meth c H locs 0 0 (MQ below (va_Qv Q (fx_Pw g) (fx_A g)) args s 0 0 (fx_A g)) (F0 m 21 ls [.int s0]) := by
  obtain ⟨hx, hb, hr, hml, hown, hts, hlocks, hsz, hK, hG, hSt⟩ := id C
  unfold wb_X2_findPositions_7_1_5_21 at h
  refine lv_istore (lv' := [(5, .int s0), (0, .ref (fx_a g 7)), (1, .ref (fx_a g 1)), (2, .ref (fx_a g 5)), (3, .int x3)]) hx hb dX2_findPositions_21 hl (by decide) rfl (fun ls hl => ?_)
  refine lv_iconst (v := 0) hx hb dX2_findPositions_23 (by decide) ?_
  refine lv_istore (lv' := [(6, .int 0), (5, .int s0), (0, .ref (fx_a g 7)), (1, .ref (fx_a g 1)), (2, .ref (fx_a g 5)), (3, .int x3)]) hx hb dX2_findPositions_24 hl (by decide) rfl (fun ls hl => ?_)
  refine lv_iconst (v := 0) hx hb dX2_findPositions_26 (by decide) ?_
  refine lv_istore (lv' := [(7, .int 0), (6, .int 0), (5, .int s0), (0, .ref (fx_a g 7)), (1, .ref (fx_a g 1)), (2, .ref (fx_a g 5)), (3, .int x3)]) hx hb dX2_findPositions_27 hl (by decide) rfl (fun ls hl => ?_)
  obtain ⟨n29, h⟩ := h
  exact tl_X2_findPositions_7_1_5_29 C Q  n29 x3 s0 0 0 M h  H locs ls hH (lv_sub hl [3, 4, 5, 6, 2, 1, 0] rfl)
def wp_X2_findPositions_7_1_5 (a3 : Int32) (M : fx_Mem) (Q : fx_Mem → Prop) : Prop :=
  ∀ v1 : Int32, v1 = M.2.1 10 4 → ((v1 = 0 → wb_X2_findPositions_7_1_5_21 Q a3 0 M) ∧ (¬ v1 = 0 → wb_X2_findPositions_7_1_5_21 Q a3 (v1 - 1) M))
set_option maxHeartbeats 4000000 in
set_option maxRecDepth 100000 in
theorem c_X2_findPositions_7_1_5 (l : Launch) {g : fx_Geo} (hG : fx_Gd g) (a3 : Int32) (M : fx_Mem) (Q : fx_Mem → Prop) (h : wp_X2_findPositions_7_1_5 a3 M Q) : Met l yX2_findPositions (.code yX2_findPositions cX2_findPositions 10 none :: fx_U) rm_X2_findPositions_7_1_5 (va_Pc [.ref (fx_a g 7), .ref (fx_a g 1), .ref (fx_a g 5), .int a3] (fx_At g M)) (va_Qv Q (fx_Pw g) (fx_A g)) 0 0 (fx_A g) := by
  refine Met.ofW (cc := cX2_findPositions) (maxL := 10) (ret := none) (by decide +kernel) rfl ?_
  intro p e s m args below meth c s₁ B hml hv
  obtain ⟨rfl, hv⟩ := hv
  have hts := atoms_spec (ws := .code yX2_findPositions cX2_findPositions 10 none :: fx_U) B.pre
  obtain ⟨C, hH⟩ := fx_body (own := RX2) B hml rfl (fun w hw => hts w (List.mem_cons_of_mem _ hw)) hG hv
  replace hts := fun w hw => hts w (List.mem_cons_of_mem _ hw)
  obtain ⟨hx, hb, hr, -, hown, -, hlocks, hsz, hK, -, hSt⟩ := id C
  have hl := lv_entry ([.ref (fx_a g 7), .ref (fx_a g 1), .ref (fx_a g 5), .int a3]) (n := 10) (Nat.le_of_ble_eq_true rfl)
  rw [lg_entry_eq]
  generalize (lg_sl ([.ref (fx_a g 7), .ref (fx_a g 1), .ref (fx_a g 5), .int a3]) ++ List.replicate (10 - (lg_sl ([.ref (fx_a g 7), .ref (fx_a g 1), .ref (fx_a g 5), .int a3])).length) Slot.unset).toArray = ls at hl ⊢
  have hl : lv_has ls 10 [(0, .ref (fx_a g 7)), (1, .ref (fx_a g 1)), (2, .ref (fx_a g 5)), (3, .int a3)] := hl
  obtain ⟨H, eH⟩ : ∃ H : Heap, H = s.heap := ⟨_, rfl⟩
  obtain ⟨locs, elocs⟩ : ∃ q : List Loc, q = [] := ⟨_, rfl⟩
  rw [← eH, ← elocs] at hH
  show W p l e rm_X2_findPositions_7_1_5 s m _ below meth c s.heap [] 0 0 _ _
  rw [← eH, ← elocs]
  unfold wp_X2_findPositions_7_1_5 at h
  refine lv_aload_n hx hb dX2_findPositions_0 rfl (lv_at hl 1 rfl) ?_
  refine fx_get C hH (fx_w1 g M) rfl in_X1 4 (by decide) u_52 rfl rfl dX2_findPositions_1 ?_
  refine lv_iconst (v := 4) hx hb dX2_findPositions_4 (by decide) ?_
  refine fx_iald (j := 4) C hH 10 (fx_w10 g M) (by decide) (by unfold vp_in; decide) dX2_findPositions_5 ?_
  refine lv_topi (fun v1 ev1 => ?_)
  replace h := h v1 ev1
  refine lv_istore (lv' := [(4, .int v1), (0, .ref (fx_a g 7)), (1, .ref (fx_a g 1)), (2, .ref (fx_a g 5)), (3, .int a3)]) hx hb dX2_findPositions_6 hl (by decide) rfl (fun ls hl => ?_)
  refine lv_iload hx hb dX2_findPositions_8 (lv_at hl 0 rfl) ?_
  refine lv_if_ne (tgt := 17) hx hb dX2_findPositions_10 (by decide) (fun c2 => ?_) (fun c2 => ?_)
  · replace h := h.2 c2
    refine lv_iload hx hb dX2_findPositions_17 (lv_at hl 0 rfl) ?_
    refine lv_iconst (v := 1) hx hb dX2_findPositions_19 (by decide) ?_
    refine lv_isub hx hb dX2_findPositions_20 ?_
    exact tb_X2_findPositions_7_1_5_21 C Q  a3 (v1 - 1) M h  H locs ls hH (lv_sub hl [1, 2, 3, 4] rfl)
  · replace h := h.1 c2
    refine lv_iconst (v := 0) hx hb dX2_findPositions_13 (by decide) ?_
    refine lv_goto (tgt := 21) hx hb dX2_findPositions_14 (by decide) ?_
    exact tb_X2_findPositions_7_1_5_21 C Q  a3 0 M h  H locs ls hH (lv_sub hl [1, 2, 3, 4] rfl)
/-! FlexLayout$CrossAxis.layOut(LFlexLayout$Container;LFlexLayout$Arrangement;LFlexLayout$Division;)V (7, 1, 5, 4) -/
def rm_X2_layOut_7_1_5_4 : Room := { frames := 4, cells := 0, slots := 0, locals := 102 }
def wb_X2_layOut_7_1_5_4_3 (k3 : Int32 → fx_Mem → Prop) (k26 : fx_Mem → Prop) (Q : fx_Mem → Prop) (x4 : Int32) (M : fx_Mem) : Prop :=
  ((M.1 322 ≤ x4 → k26  M) ∧ (¬ M.1 322 ≤ x4 → wp_X2_measure_7_1_5 x4 M (fun M2 => ∀ v3 : Int32, v3 = x4 + 1 → k3 v3 M2)))
set_option maxHeartbeats 4000000 in
set_option maxRecDepth 100000 in
theorem tb_X2_layOut_7_1_5_4_3 {g : fx_Geo} {p : Program} {l : Launch} {e : Env} {s : State} {m : MethodId} {args : Array Value} {below : List Frame} {meth : Method} {c : Code} (C : fx_Cx g p s m args meth c RX2 cX2_layOut 6 none) (k3 : Int32 → fx_Mem → Prop) (k26 : fx_Mem → Prop) (Q : fx_Mem → Prop) (hk3 : ∀ (x4 : Int32) (M : fx_Mem), k3 x4 M → ∀ (H : Heap) (locs : List Loc) (ls : Array Slot), fx_H g s M H locs → lv_has ls 6 [(0, .ref (fx_a g 7)), (1, .ref (fx_a g 1)), (2, .ref (fx_a g 5)), (3, .ref (fx_a g 4)), (4, .int x4)] → W p l e rm_X2_layOut_7_1_5_4 s m args below meth c H locs 0 0 (MQ below (va_Qv Q (fx_Pw g) (fx_A g)) args s 0 0 (fx_A g)) (F0 m 3 ls [])) (hk26 : ∀ (M : fx_Mem), k26 M → ∀ (H : Heap) (locs : List Loc) (ls : Array Slot), fx_H g s M H locs → lv_has ls 6 [(0, .ref (fx_a g 7)), (1, .ref (fx_a g 1)), (2, .ref (fx_a g 5)), (3, .ref (fx_a g 4))] → W p l e rm_X2_layOut_7_1_5_4 s m args below meth c H locs 0 0 (MQ below (va_Qv Q (fx_Pw g) (fx_A g)) args s 0 0 (fx_A g)) (F0 m 26 ls [])) (x4 : Int32) (M : fx_Mem) (h : wb_X2_layOut_7_1_5_4_3 k3 k26 Q x4 M) (H : Heap) (locs : List Loc) (ls : Array Slot) (hH : fx_H g s M H locs) (hl : lv_has ls 6 [(0, .ref (fx_a g 7)), (1, .ref (fx_a g 1)), (2, .ref (fx_a g 5)), (3, .ref (fx_a g 4)), (4, .int x4)]) : W p l e rm_X2_layOut_7_1_5_4 s m args below meth c H locs 0 0 (MQ below (va_Qv Q (fx_Pw g) (fx_A g)) args s 0 0 (fx_A g)) (F0 m 3 ls []) := by
  obtain ⟨hx, hb, hr, hml, hown, hts, hlocks, hsz, hK, hG, hSt⟩ := id C
  unfold wb_X2_layOut_7_1_5_4_3 at h
  refine lv_iload hx hb dX2_layOut_3 (lv_at hl 4 rfl) ?_
  refine lv_aload_n hx hb dX2_layOut_5 rfl (lv_at hl 2 rfl) ?_
  refine fx_get C hH (fx_w5 g M) rfl in_X0 2 (by decide) u_133 rfl rfl dX2_layOut_6 ?_
  refine lv_icmp_ge (tgt := 26) hx hb dX2_layOut_9 (by decide) (fun c1 => ?_) (fun c1 => ?_)
  · replace h := h.1 c1
    exact hk26  M h  H locs ls hH (lv_sub hl [0, 1, 2, 3] rfl)
  · replace h := h.2 c1
    refine lv_aload_n hx hb dX2_layOut_12 rfl (lv_at hl 0 rfl) ?_
    refine lv_aload_n hx hb dX2_layOut_13 rfl (lv_at hl 1 rfl) ?_
    refine lv_aload_n hx hb dX2_layOut_14 rfl (lv_at hl 2 rfl) ?_
    refine lv_iload hx hb dX2_layOut_15 (lv_at hl 4 rfl) ?_
    refine fx_cv hH (fx_runV (As := [.ref (fx_a g 1), .ref (fx_a g 5), .int x4]) (rest := []) C hH (c_X2_measure_7_1_5 l C.2.2.2.2.2.2.2.2.2.1 x4 M _ h) (fx_cwV 3 hts u_264 u_266 us_0 u_7 u_267 rfl rfl (by decide +kernel) ⟨(Nat.le_of_ble_eq_true rfl), (Nat.le_of_ble_eq_true rfl)⟩) (fx_w7 g M) rfl rfl hl.1 rfl (Nat.le_of_ble_eq_true rfl) dX2_layOut_17 ⟨(Nat.le_of_ble_eq_true rfl), (Nat.le_of_ble_eq_true rfl)⟩) (fun M2 H locs h hH => ?_)
    obtain ⟨v3, ev3⟩ : ∃ z : Int32, z = x4 + 1 := ⟨_, rfl⟩
    refine lv_iinc (v := v3) (lv' := [(4, .int v3), (0, .ref (fx_a g 7)), (1, .ref (fx_a g 1)), (2, .ref (fx_a g 5)), (3, .ref (fx_a g 4))]) hx hb dX2_layOut_20 hl (k := 4) rfl (by rw [ev3]; rfl) (by decide) rfl (fun ls hl => ?_)
    replace h := h v3 ev3
    refine lv_goto (tgt := 3) hx hb dX2_layOut_23 (by decide) ?_
    exact hk3 v3 M2 h  H locs ls hH (lv_sub hl [1, 2, 3, 4, 0] rfl)
def wl_X2_layOut_7_1_5_4_3 (k26 : fx_Mem → Prop) (Q : fx_Mem → Prop) (n : Nat) (x4 : Int32) (M : fx_Mem) : Prop :=
  fx_lp (α := Int32 × fx_Mem) (fun k a => wb_X2_layOut_7_1_5_4_3 (fun x4 M => k (x4, M)) k26 Q a.1 a.2) n (x4, M)
set_option maxHeartbeats 4000000 in
theorem tl_X2_layOut_7_1_5_4_3 {g : fx_Geo} {p : Program} {l : Launch} {e : Env} {s : State} {m : MethodId} {args : Array Value} {below : List Frame} {meth : Method} {c : Code} (C : fx_Cx g p s m args meth c RX2 cX2_layOut 6 none) (k26 : fx_Mem → Prop) (Q : fx_Mem → Prop) (hk26 : ∀ (M : fx_Mem), k26  M → ∀ (H : Heap) (locs : List Loc) (ls : Array Slot), fx_H g s M H locs → lv_has ls 6 [(0, .ref (fx_a g 7)), (1, .ref (fx_a g 1)), (2, .ref (fx_a g 5)), (3, .ref (fx_a g 4))] → W p l e rm_X2_layOut_7_1_5_4 s m args below meth c H locs 0 0 (MQ below (va_Qv Q (fx_Pw g) (fx_A g)) args s 0 0 (fx_A g)) (F0 m 26 ls [])) : ∀ (n : Nat) (x4 : Int32) (M : fx_Mem), wl_X2_layOut_7_1_5_4_3 k26 Q n x4 M → ∀ (H : Heap) (locs : List Loc) (ls : Array Slot), fx_H g s M H locs → lv_has ls 6 [(0, .ref (fx_a g 7)), (1, .ref (fx_a g 1)), (2, .ref (fx_a g 5)), (3, .ref (fx_a g 4)), (4, .int x4)] → W p l e rm_X2_layOut_7_1_5_4 s m args below meth c H locs 0 0 (MQ below (va_Qv Q (fx_Pw g) (fx_A g)) args s 0 0 (fx_A g)) (F0 m 3 ls []) := by
  intro n
  induction n with
  | zero => intro x4 M h; exact False.elim h
  | succ n ih => intro x4 M h  H locs ls hH hl; exact tb_X2_layOut_7_1_5_4_3 C (wl_X2_layOut_7_1_5_4_3 k26 Q n) k26 Q ih hk26 x4 M h  H locs ls hH hl
def wb_X2_layOut_7_1_5_4_118 (Q : fx_Mem → Prop) (x5 : Int32) (s0 : Int32) (M : fx_Mem) : Prop :=
  ∀ M1 : fx_Mem, M1 = fx_si M 452 s0 → wp_X2_findPositions_7_1_5 ((M1.1 452) - x5) M1 (fun M2 => Q M2)
set_option maxHeartbeats 4000000 in
set_option maxRecDepth 100000 in
theorem tb_X2_layOut_7_1_5_4_118 {g : fx_Geo} {p : Program} {l : Launch} {e : Env} {s : State} {m : MethodId} {args : Array Value} {below : List Frame} {meth : Method} {c : Code} (C : fx_Cx g p s m args meth c RX2 cX2_layOut 6 none) (Q : fx_Mem → Prop) (x5 : Int32) (s0 : Int32) (M : fx_Mem) (h : wb_X2_layOut_7_1_5_4_118 Q x5 s0 M) (H : Heap) (locs : List Loc) (ls : Array Slot) (hH : fx_H g s M H locs) (hl : lv_has ls 6 [(0, .ref (fx_a g 7)), (1, .ref (fx_a g 1)), (2, .ref (fx_a g 5)), (5, .int x5)]) : W p l e rm_X2_layOut_7_1_5_4 s m args below meth c H locs 0 0 (MQ below (va_Qv Q (fx_Pw g) (fx_A g)) args s 0 0 (fx_A g)) (F0 m 118 ls [.int s0, .ref (fx_a g 7)]) := by
  obtain ⟨hx, hb, hr, hml, hown, hts, hlocks, hsz, hK, hG, hSt⟩ := id C
  unfold wb_X2_layOut_7_1_5_4_118 at h
  refine fx_put C hH (fx_w7 g M) rfl in_X2 tyX2 tyX2_ok nmX2 4 (by decide) u_186 rfl rfl (ty := .int) (by decide +kernel) rfl rfl (Nat.le_of_ble_eq_true rfl) (fx_p7_4 g M s0) dX2_layOut_118 (fun H locs hH => ?_)
  generalize eM1 : fx_si M 452 s0 = M1 at hH
  replace h := h M1 eM1.symm
  refine lv_aload_n hx hb dX2_layOut_121 rfl (lv_at hl 0 rfl) ?_
  refine lv_aload_n hx hb dX2_layOut_122 rfl (lv_at hl 1 rfl) ?_
  refine lv_aload_n hx hb dX2_layOut_123 rfl (lv_at hl 2 rfl) ?_
  refine lv_aload_n hx hb dX2_layOut_124 rfl (lv_at hl 0 rfl) ?_
  refine fx_get C hH (fx_w7 g M1) rfl in_X2 4 (by decide) u_186 rfl rfl dX2_layOut_125 ?_
  refine lv_iload hx hb dX2_layOut_128 (lv_at hl 3 rfl) ?_
  refine lv_isub hx hb dX2_layOut_130 ?_
  refine fx_cv hH (fx_runV (As := [.ref (fx_a g 1), .ref (fx_a g 5), .int ((M1.1 452) - x5)]) (rest := []) C hH (c_X2_findPositions_7_1_5 l C.2.2.2.2.2.2.2.2.2.1 ((M1.1 452) - x5) M1 _ h) (fx_cwV 3 hts u_297 u_299 us_4 u_7 u_300 rfl rfl (by decide +kernel) ⟨(Nat.le_of_ble_eq_true rfl), (Nat.le_of_ble_eq_true rfl)⟩) (fx_w7 g M1) rfl rfl hl.1 rfl (Nat.le_of_ble_eq_true rfl) dX2_layOut_131 ⟨(Nat.le_of_ble_eq_true rfl), (Nat.le_of_ble_eq_true rfl)⟩) (fun M2 H locs h hH => ?_)
  exact fx_vret C hH h dX2_layOut_134
def wb_X2_layOut_7_1_5_4_95 (Q : fx_Mem → Prop) (x4 : Int32) (M : fx_Mem) : Prop :=
  wp_X2_lengthOfLines_7_1_5  M (fun r2 M1 => ((x4 = 0 → wb_X2_layOut_7_1_5_4_118 Q r2 r2 M1) ∧ (¬ x4 = 0 → wb_X2_layOut_7_1_5_4_118 Q r2 (M1.1 65) M1)))
set_option maxHeartbeats 4000000 in
set_option maxRecDepth 100000 in
theorem tb_X2_layOut_7_1_5_4_95 {g : fx_Geo} {p : Program} {l : Launch} {e : Env} {s : State} {m : MethodId} {args : Array Value} {below : List Frame} {meth : Method} {c : Code} (C : fx_Cx g p s m args meth c RX2 cX2_layOut 6 none) (Q : fx_Mem → Prop) (x4 : Int32) (M : fx_Mem) (h : wb_X2_layOut_7_1_5_4_95 Q x4 M) (H : Heap) (locs : List Loc) (ls : Array Slot) (hH : fx_H g s M H locs) (hl : lv_has ls 6 [(0, .ref (fx_a g 7)), (1, .ref (fx_a g 1)), (2, .ref (fx_a g 5)), (4, .int x4)]) : W p l e rm_X2_layOut_7_1_5_4 s m args below meth c H locs 0 0 (MQ below (va_Qv Q (fx_Pw g) (fx_A g)) args s 0 0 (fx_A g)) (F0 m 95 ls []) := by
  obtain ⟨hx, hb, hr, hml, hown, hts, hlocks, hsz, hK, hG, hSt⟩ := id C
  unfold wb_X2_layOut_7_1_5_4_95 at h
  refine lv_aload_n hx hb dX2_layOut_95 rfl (lv_at hl 0 rfl) ?_
  refine lv_aload_n hx hb dX2_layOut_96 rfl (lv_at hl 1 rfl) ?_
  refine lv_aload_n hx hb dX2_layOut_97 rfl (lv_at hl 2 rfl) ?_
  refine fx_ci hH (fx_runV (As := [.ref (fx_a g 1), .ref (fx_a g 5)]) (rest := []) C hH (c_X2_lengthOfLines_7_1_5 l C.2.2.2.2.2.2.2.2.2.1  M _ h) (fx_cwV 2 hts u_280 u_282 us_2 u_7 u_283 rfl rfl (by decide +kernel) ⟨(Nat.le_of_ble_eq_true rfl), (Nat.le_of_ble_eq_true rfl)⟩) (fx_w7 g M) rfl rfl hl.1 rfl (Nat.le_of_ble_eq_true rfl) dX2_layOut_98 ⟨(Nat.le_of_ble_eq_true rfl), (Nat.le_of_ble_eq_true rfl)⟩) (fun r2 M1 H locs h hH => ?_)
  refine lv_istore (lv' := [(5, .int r2), (0, .ref (fx_a g 7)), (1, .ref (fx_a g 1)), (2, .ref (fx_a g 5)), (4, .int x4)]) hx hb dX2_layOut_101 hl (by decide) rfl (fun ls hl => ?_)
  refine lv_aload_n hx hb dX2_layOut_103 rfl (lv_at hl 1 rfl) ?_
  refine lv_iload hx hb dX2_layOut_104 (lv_at hl 4 rfl) ?_
  refine lv_if_eq (tgt := 116) hx hb dX2_layOut_106 (by decide) (fun c3 => ?_) (fun c3 => ?_)
  · replace h := h.1 c3
    refine lv_iload hx hb dX2_layOut_116 (lv_at hl 0 rfl) ?_
    exact tb_X2_layOut_7_1_5_4_118 C Q  r2 r2 M1 h  H locs ls hH (lv_sub hl [1, 2, 3, 0] rfl)
  · replace h := h.2 c3
    refine lv_aload_n hx hb dX2_layOut_109 rfl (lv_at hl 2 rfl) ?_
    refine fx_get C hH (fx_w1 g M1) rfl in_X1 1 (by decide) u_42 rfl rfl dX2_layOut_110 ?_
    refine lv_goto (tgt := 118) hx hb dX2_layOut_113 (by decide) ?_
    exact tb_X2_layOut_7_1_5_4_118 C Q  r2 (M1.1 65) M1 h  H locs ls hH (lv_sub hl [1, 2, 3, 0] rfl)
def wb_X2_layOut_7_1_5_4_74 (Q : fx_Mem → Prop) (x4 : Int32) (M : fx_Mem) : Prop :=
  ((x4 = 0 → wb_X2_layOut_7_1_5_4_95 Q x4 M) ∧ (¬ x4 = 0 → ((M.2.1 10 4 = 0 → wp_X2_stretch_7_1_5_4  M (fun M3 => wb_X2_layOut_7_1_5_4_95 Q x4 M3)) ∧ (¬ M.2.1 10 4 = 0 → wb_X2_layOut_7_1_5_4_95 Q x4 M))))
set_option maxHeartbeats 4000000 in
set_option maxRecDepth 100000 in
theorem tb_X2_layOut_7_1_5_4_74 {g : fx_Geo} {p : Program} {l : Launch} {e : Env} {s : State} {m : MethodId} {args : Array Value} {below : List Frame} {meth : Method} {c : Code} (C : fx_Cx g p s m args meth c RX2 cX2_layOut 6 none) (Q : fx_Mem → Prop) (x4 : Int32) (M : fx_Mem) (h : wb_X2_layOut_7_1_5_4_74 Q x4 M) (H : Heap) (locs : List Loc) (ls : Array Slot) (hH : fx_H g s M H locs) (hl : lv_has ls 6 [(0, .ref (fx_a g 7)), (1, .ref (fx_a g 1)), (2, .ref (fx_a g 5)), (3, .ref (fx_a g 4)), (4, .int x4)]) : W p l e rm_X2_layOut_7_1_5_4 s m args below meth c H locs 0 0 (MQ below (va_Qv Q (fx_Pw g) (fx_A g)) args s 0 0 (fx_A g)) (F0 m 74 ls []) := by
  obtain ⟨hx, hb, hr, hml, hown, hts, hlocks, hsz, hK, hG, hSt⟩ := id C
  unfold wb_X2_layOut_7_1_5_4_74 at h
  refine lv_iload hx hb dX2_layOut_74 (lv_at hl 4 rfl) ?_
  refine lv_if_eq (tgt := 95) hx hb dX2_layOut_76 (by decide) (fun c1 => ?_) (fun c1 => ?_)
  · replace h := h.1 c1
    exact tb_X2_layOut_7_1_5_4_95 C Q  x4 M h  H locs ls hH (lv_sub hl [0, 1, 2, 4] rfl)
  · replace h := h.2 c1
    refine lv_aload_n hx hb dX2_layOut_79 rfl (lv_at hl 1 rfl) ?_
    refine fx_get C hH (fx_w1 g M) rfl in_X1 4 (by decide) u_52 rfl rfl dX2_layOut_80 ?_
    refine lv_iconst (v := 4) hx hb dX2_layOut_83 (by decide) ?_
    refine fx_iald (j := 4) C hH 10 (fx_w10 g M) (by decide) (by unfold vp_in; decide) dX2_layOut_84 ?_
    refine lv_if_ne (tgt := 95) hx hb dX2_layOut_85 (by decide) (fun c2 => ?_) (fun c2 => ?_)
    · replace h := h.2 c2
      exact tb_X2_layOut_7_1_5_4_95 C Q  x4 M h  H locs ls hH (lv_sub hl [0, 1, 2, 4] rfl)
    · replace h := h.1 c2
      refine lv_aload_n hx hb dX2_layOut_88 rfl (lv_at hl 0 rfl) ?_
      refine lv_aload_n hx hb dX2_layOut_89 rfl (lv_at hl 1 rfl) ?_
      refine lv_aload_n hx hb dX2_layOut_90 rfl (lv_at hl 2 rfl) ?_
      refine lv_aload_n hx hb dX2_layOut_91 rfl (lv_at hl 3 rfl) ?_
      refine fx_cv hH (fx_runV (As := [.ref (fx_a g 1), .ref (fx_a g 5), .ref (fx_a g 4)]) (rest := []) C hH (c_X2_stretch_7_1_5_4 l C.2.2.2.2.2.2.2.2.2.1  M _ h) (fx_cwV 3 hts u_276 u_278 us_1 u_7 u_279 rfl rfl (by decide +kernel) ⟨(Nat.le_of_ble_eq_true rfl), (Nat.le_of_ble_eq_true rfl)⟩) (fx_w7 g M) rfl rfl hl.1 rfl (Nat.le_of_ble_eq_true rfl) dX2_layOut_92 ⟨(Nat.le_of_ble_eq_true rfl), (Nat.le_of_ble_eq_true rfl)⟩) (fun M3 H locs h hH => ?_)
      exact tb_X2_layOut_7_1_5_4_95 C Q  x4 M3 h  H locs ls hH (lv_sub hl [0, 1, 2, 4] rfl)
def wb_X2_layOut_7_1_5_4_39 (Q : fx_Mem → Prop) (s0 : Int32) (M : fx_Mem) : Prop :=
  ((s0 = 0 → wb_X2_layOut_7_1_5_4_74 Q s0 M) ∧ (¬ s0 = 0 → ((M.1 322 = 1 → wp_X1_wraps_1  M (fun r4 M3 => ((r4 = 0 → ∀ M6 : fx_Mem, M6 = fx_sa M3 26 0 (M3.1 65) → wb_X2_layOut_7_1_5_4_95 Q s0 M6) ∧ (¬ r4 = 0 → wb_X2_layOut_7_1_5_4_74 Q s0 M3)))) ∧ (¬ M.1 322 = 1 → wb_X2_layOut_7_1_5_4_74 Q s0 M))))
set_option maxHeartbeats 4000000 in
set_option maxRecDepth 100000 in
theorem tb_X2_layOut_7_1_5_4_39 {g : fx_Geo} {p : Program} {l : Launch} {e : Env} {s : State} {m : MethodId} {args : Array Value} {below : List Frame} {meth : Method} {c : Code} (C : fx_Cx g p s m args meth c RX2 cX2_layOut 6 none) (Q : fx_Mem → Prop) (s0 : Int32) (M : fx_Mem) (h : wb_X2_layOut_7_1_5_4_39 Q s0 M) (H : Heap) (locs : List Loc) (ls : Array Slot) (hH : fx_H g s M H locs) (hl : lv_has ls 6 [(0, .ref (fx_a g 7)), (1, .ref (fx_a g 1)), (2, .ref (fx_a g 5)), (3, .ref (fx_a g 4))]) : W p l e rm_X2_layOut_7_1_5_4 s m args below meth c H locs 0 0 (MQ below (va_Qv Q (fx_Pw g) (fx_A g)) args s 0 0 (fx_A g)) (F0 m 39 ls [.int s0]) := by
  obtain ⟨hx, hb, hr, hml, hown, hts, hlocks, hsz, hK, hG, hSt⟩ := id C
  unfold wb_X2_layOut_7_1_5_4_39 at h
  refine lv_istore (lv' := [(4, .int s0), (0, .ref (fx_a g 7)), (1, .ref (fx_a g 1)), (2, .ref (fx_a g 5)), (3, .ref (fx_a g 4))]) hx hb dX2_layOut_39 hl (by decide) rfl (fun ls hl => ?_)
  refine lv_iload hx hb dX2_layOut_41 (lv_at hl 0 rfl) ?_
  refine lv_if_eq (tgt := 74) hx hb dX2_layOut_43 (by decide) (fun c1 => ?_) (fun c1 => ?_)
  · replace h := h.1 c1
    exact tb_X2_layOut_7_1_5_4_74 C Q  s0 M h  H locs ls hH (lv_sub hl [1, 2, 3, 4, 0] rfl)
  · replace h := h.2 c1
    refine lv_aload_n hx hb dX2_layOut_46 rfl (lv_at hl 3 rfl) ?_
    refine fx_get C hH (fx_w5 g M) rfl in_X0 2 (by decide) u_133 rfl rfl dX2_layOut_47 ?_
    refine lv_iconst (v := 1) hx hb dX2_layOut_50 (by decide) ?_
    refine lv_icmp_ne (tgt := 74) hx hb dX2_layOut_51 (by decide) (fun c2 => ?_) (fun c2 => ?_)
    · replace h := h.2 c2
      exact tb_X2_layOut_7_1_5_4_74 C Q  s0 M h  H locs ls hH (lv_sub hl [1, 2, 3, 4, 0] rfl)
    · replace h := h.1 c2
      refine lv_aload_n hx hb dX2_layOut_54 rfl (lv_at hl 2 rfl) ?_
      refine fx_ci hH (fx_runV (As := []) (rest := []) C hH (c_X1_wraps_1 l C.2.2.2.2.2.2.2.2.2.1  M _ h) (fx_cwV 0 hts u_275 u_241 u_242 u_2 u_243 rfl rfl (by decide +kernel) ⟨(Nat.le_of_ble_eq_true rfl), (Nat.le_of_ble_eq_true rfl)⟩) (fx_w1 g M) rfl rfl hl.1 rfl (Nat.le_of_ble_eq_true rfl) dX2_layOut_55 ⟨(Nat.le_of_ble_eq_true rfl), (Nat.le_of_ble_eq_true rfl)⟩) (fun r4 M3 H locs h hH => ?_)
      refine lv_if_ne (tgt := 74) hx hb dX2_layOut_58 (by decide) (fun c5 => ?_) (fun c5 => ?_)
      · replace h := h.2 c5
        exact tb_X2_layOut_7_1_5_4_74 C Q  s0 M3 h  H locs ls hH (lv_sub hl [1, 2, 3, 4, 0] rfl)
      · replace h := h.1 c5
        refine lv_aload_n hx hb dX2_layOut_61 rfl (lv_at hl 1 rfl) ?_
        refine fx_get C hH (fx_w7 g M3) rfl in_X2 0 (by decide) u_178 rfl rfl dX2_layOut_62 ?_
        refine lv_iconst (v := 0) hx hb dX2_layOut_65 (by decide) ?_
        refine lv_aload_n hx hb dX2_layOut_66 rfl (lv_at hl 2 rfl) ?_
        refine fx_get C hH (fx_w1 g M3) rfl in_X1 1 (by decide) u_42 rfl rfl dX2_layOut_67 ?_
        refine fx_iast (j := 0) (M' := fx_sa M3 26 0 (M3.1 65)) C hH 26 (by decide) (fx_w26 g M3) (fx_p26 g M3 _) (by unfold vp_in; decide) dX2_layOut_70 (fun H locs hH => ?_)
        generalize eM6 : fx_sa M3 26 0 (M3.1 65) = M6 at hH
        replace h := h M6 eM6.symm
        refine lv_goto (tgt := 95) hx hb dX2_layOut_71 (by decide) ?_
        exact tb_X2_layOut_7_1_5_4_95 C Q  s0 M6 h  H locs ls hH (lv_sub hl [1, 2, 3, 0] rfl)
def wb_X2_layOut_7_1_5_4_26 (Q : fx_Mem → Prop) (M : fx_Mem) : Prop :=
  ((M.1 65 = (-1) → wb_X2_layOut_7_1_5_4_39 Q 0 M) ∧ (¬ M.1 65 = (-1) → wb_X2_layOut_7_1_5_4_39 Q 1 M))
set_option maxHeartbeats 4000000 in
set_option maxRecDepth 100000 in
theorem tb_X2_layOut_7_1_5_4_26 {g : fx_Geo} {p : Program} {l : Launch} {e : Env} {s : State} {m : MethodId} {args : Array Value} {below : List Frame} {meth : Method} {c : Code} (C : fx_Cx g p s m args meth c RX2 cX2_layOut 6 none) (Q : fx_Mem → Prop) (M : fx_Mem) (h : wb_X2_layOut_7_1_5_4_26 Q M) (H : Heap) (locs : List Loc) (ls : Array Slot) (hH : fx_H g s M H locs) (hl : lv_has ls 6 [(0, .ref (fx_a g 7)), (1, .ref (fx_a g 1)), (2, .ref (fx_a g 5)), (3, .ref (fx_a g 4))]) : W p l e rm_X2_layOut_7_1_5_4 s m args below meth c H locs 0 0 (MQ below (va_Qv Q (fx_Pw g) (fx_A g)) args s 0 0 (fx_A g)) (F0 m 26 ls []) := by
  obtain ⟨hx, hb, hr, hml, hown, hts, hlocks, hsz, hK, hG, hSt⟩ := id C
  unfold wb_X2_layOut_7_1_5_4_26 at h
  refine lv_aload_n hx hb dX2_layOut_26 rfl (lv_at hl 1 rfl) ?_
  refine fx_get C hH (fx_w1 g M) rfl in_X1 1 (by decide) u_42 rfl rfl dX2_layOut_27 ?_
  refine lv_iconst (v := -1) hx hb dX2_layOut_30 (by decide) ?_
  refine lv_icmp_eq (tgt := 38) hx hb dX2_layOut_31 (by decide) (fun c1 => ?_) (fun c1 => ?_)
  · replace h := h.1 c1
    refine lv_iconst (v := 0) hx hb dX2_layOut_38 (by decide) ?_
    exact tb_X2_layOut_7_1_5_4_39 C Q  0 M h  H locs ls hH (lv_sub hl [0, 1, 2, 3] rfl)
  · replace h := h.2 c1
    refine lv_iconst (v := 1) hx hb dX2_layOut_34 (by decide) ?_
    refine lv_goto (tgt := 39) hx hb dX2_layOut_35 (by decide) ?_
    exact tb_X2_layOut_7_1_5_4_39 C Q  1 M h  H locs ls hH (lv_sub hl [0, 1, 2, 3] rfl)
def wp_X2_layOut_7_1_5_4 (M : fx_Mem) (Q : fx_Mem → Prop) : Prop :=
  ∃ n3 : Nat, wl_X2_layOut_7_1_5_4_3 (wb_X2_layOut_7_1_5_4_26 Q) Q n3 0 M
set_option maxHeartbeats 4000000 in
set_option maxRecDepth 100000 in
theorem c_X2_layOut_7_1_5_4 (l : Launch) {g : fx_Geo} (hG : fx_Gd g) (M : fx_Mem) (Q : fx_Mem → Prop) (h : wp_X2_layOut_7_1_5_4 M Q) : Met l yX2_layOut (.code yX2_layOut cX2_layOut 6 none :: fx_U) rm_X2_layOut_7_1_5_4 (va_Pc [.ref (fx_a g 7), .ref (fx_a g 1), .ref (fx_a g 5), .ref (fx_a g 4)] (fx_At g M)) (va_Qv Q (fx_Pw g) (fx_A g)) 0 0 (fx_A g) := by
  refine Met.ofW (cc := cX2_layOut) (maxL := 6) (ret := none) (by decide +kernel) rfl ?_
  intro p e s m args below meth c s₁ B hml hv
  obtain ⟨rfl, hv⟩ := hv
  have hts := atoms_spec (ws := .code yX2_layOut cX2_layOut 6 none :: fx_U) B.pre
  obtain ⟨C, hH⟩ := fx_body (own := RX2) B hml rfl (fun w hw => hts w (List.mem_cons_of_mem _ hw)) hG hv
  replace hts := fun w hw => hts w (List.mem_cons_of_mem _ hw)
  obtain ⟨hx, hb, hr, -, hown, -, hlocks, hsz, hK, -, hSt⟩ := id C
  have hl := lv_entry ([.ref (fx_a g 7), .ref (fx_a g 1), .ref (fx_a g 5), .ref (fx_a g 4)]) (n := 6) (Nat.le_of_ble_eq_true rfl)
  rw [lg_entry_eq]
  generalize (lg_sl ([.ref (fx_a g 7), .ref (fx_a g 1), .ref (fx_a g 5), .ref (fx_a g 4)]) ++ List.replicate (6 - (lg_sl ([.ref (fx_a g 7), .ref (fx_a g 1), .ref (fx_a g 5), .ref (fx_a g 4)])).length) Slot.unset).toArray = ls at hl ⊢
  have hl : lv_has ls 6 [(0, .ref (fx_a g 7)), (1, .ref (fx_a g 1)), (2, .ref (fx_a g 5)), (3, .ref (fx_a g 4))] := hl
  obtain ⟨H, eH⟩ : ∃ H : Heap, H = s.heap := ⟨_, rfl⟩
  obtain ⟨locs, elocs⟩ : ∃ q : List Loc, q = [] := ⟨_, rfl⟩
  rw [← eH, ← elocs] at hH
  show W p l e rm_X2_layOut_7_1_5_4 s m _ below meth c s.heap [] 0 0 _ _
  rw [← eH, ← elocs]
  unfold wp_X2_layOut_7_1_5_4 at h
  refine lv_iconst (v := 0) hx hb dX2_layOut_0 (by decide) ?_
  refine lv_istore (lv' := [(4, .int 0), (0, .ref (fx_a g 7)), (1, .ref (fx_a g 1)), (2, .ref (fx_a g 5)), (3, .ref (fx_a g 4))]) hx hb dX2_layOut_1 hl (by decide) rfl (fun ls hl => ?_)
  obtain ⟨n3, h⟩ := h
  exact tl_X2_layOut_7_1_5_4_3 C (wb_X2_layOut_7_1_5_4_26 Q) Q (tb_X2_layOut_7_1_5_4_26 C Q ) n3 0 M h  H locs ls hH (lv_sub hl [1, 2, 3, 4, 0] rfl)
/-! FlexLayout.layOut()V (0,) -/
def rm_X6_layOut_0 : Room := { frames := 5, cells := 0, slots := 0, locals := 127 }
def wp_X6_layOut_0 (M : fx_Mem) (Q : fx_Mem → Prop) : Prop :=
  wp_X0_arrange_5_1  M (fun M1 => wp_X5_layOut_6_1_5_4  M1 (fun M2 => wp_X2_layOut_7_1_5_4  M2 (fun M3 => Q M3)))
set_option maxHeartbeats 4000000 in
set_option maxRecDepth 100000 in
theorem c_X6_layOut_0 (l : Launch) {g : fx_Geo} (hG : fx_Gd g) (M : fx_Mem) (Q : fx_Mem → Prop) (h : wp_X6_layOut_0 M Q) : Met l yX6_layOut (.code yX6_layOut cX6_layOut 1 none :: fx_U) rm_X6_layOut_0 (va_Pc [.ref (fx_a g 0)] (fx_At g M)) (va_Qv Q (fx_Pw g) (fx_A g)) 0 0 (fx_A g) := by
  refine Met.ofW (cc := cX6_layOut) (maxL := 1) (ret := none) (by decide +kernel) rfl ?_
  intro p e s m args below meth c s₁ B hml hv
  obtain ⟨rfl, hv⟩ := hv
  have hts := atoms_spec (ws := .code yX6_layOut cX6_layOut 1 none :: fx_U) B.pre
  obtain ⟨C, hH⟩ := fx_body (own := RX6) B hml rfl (fun w hw => hts w (List.mem_cons_of_mem _ hw)) hG hv
  replace hts := fun w hw => hts w (List.mem_cons_of_mem _ hw)
  obtain ⟨hx, hb, hr, -, hown, -, hlocks, hsz, hK, -, hSt⟩ := id C
  have hl := lv_entry ([.ref (fx_a g 0)]) (n := 1) (Nat.le_of_ble_eq_true rfl)
  rw [lg_entry_eq]
  generalize (lg_sl ([.ref (fx_a g 0)]) ++ List.replicate (1 - (lg_sl ([.ref (fx_a g 0)])).length) Slot.unset).toArray = ls at hl ⊢
  have hl : lv_has ls 1 [(0, .ref (fx_a g 0))] := hl
  obtain ⟨H, eH⟩ : ∃ H : Heap, H = s.heap := ⟨_, rfl⟩
  obtain ⟨locs, elocs⟩ : ∃ q : List Loc, q = [] := ⟨_, rfl⟩
  rw [← eH, ← elocs] at hH
  show W p l e rm_X6_layOut_0 s m _ below meth c s.heap [] 0 0 _ _
  rw [← eH, ← elocs]
  unfold wp_X6_layOut_0 at h
  refine lv_aload_n hx hb dX6_layOut_0 rfl (lv_at hl 0 rfl) ?_
  refine fx_get C hH (fx_w0 g M) rfl in_X6 5 (by decide) u_204 rfl rfl dX6_layOut_1 ?_
  refine lv_aload_n hx hb dX6_layOut_4 rfl (lv_at hl 0 rfl) ?_
  refine fx_get C hH (fx_w0 g M) rfl in_X6 0 (by decide) u_199 rfl rfl dX6_layOut_5 ?_
  refine fx_cv hH (fx_runV (As := [.ref (fx_a g 1)]) (rest := []) C hH (c_X0_arrange_5_1 l C.2.2.2.2.2.2.2.2.2.1  M _ h) (fx_cwV 1 hts u_232 u_233 u_234 u_5 u_235 rfl rfl (by decide +kernel) ⟨(Nat.le_of_ble_eq_true rfl), (Nat.le_of_ble_eq_true rfl)⟩) (fx_w5 g M) rfl rfl hl.1 rfl (Nat.le_of_ble_eq_true rfl) dX6_layOut_8 ⟨(Nat.le_of_ble_eq_true rfl), (Nat.le_of_ble_eq_true rfl)⟩) (fun M1 H locs h hH => ?_)
  refine lv_aload_n hx hb dX6_layOut_11 rfl (lv_at hl 0 rfl) ?_
  refine fx_get C hH (fx_w0 g M1) rfl in_X6 6 (by decide) u_205 rfl rfl dX6_layOut_12 ?_
  refine lv_aload_n hx hb dX6_layOut_15 rfl (lv_at hl 0 rfl) ?_
  refine fx_get C hH (fx_w0 g M1) rfl in_X6 0 (by decide) u_199 rfl rfl dX6_layOut_16 ?_
  refine lv_aload_n hx hb dX6_layOut_19 rfl (lv_at hl 0 rfl) ?_
  refine fx_get C hH (fx_w0 g M1) rfl in_X6 5 (by decide) u_204 rfl rfl dX6_layOut_20 ?_
  refine lv_aload_n hx hb dX6_layOut_23 rfl (lv_at hl 0 rfl) ?_
  refine fx_get C hH (fx_w0 g M1) rfl in_X6 4 (by decide) u_203 rfl rfl dX6_layOut_24 ?_
  refine fx_cv hH (fx_runV (As := [.ref (fx_a g 1), .ref (fx_a g 5), .ref (fx_a g 4)]) (rest := []) C hH (c_X5_layOut_6_1_5_4 l C.2.2.2.2.2.2.2.2.2.1  M1 _ h) (fx_cwV 3 hts u_324 u_325 u_326 u_6 u_327 rfl rfl (by decide +kernel) ⟨(Nat.le_of_ble_eq_true rfl), (Nat.le_of_ble_eq_true rfl)⟩) (fx_w6 g M1) rfl rfl hl.1 rfl (Nat.le_of_ble_eq_true rfl) dX6_layOut_27 ⟨(Nat.le_of_ble_eq_true rfl), (Nat.le_of_ble_eq_true rfl)⟩) (fun M2 H locs h hH => ?_)
  refine lv_aload_n hx hb dX6_layOut_30 rfl (lv_at hl 0 rfl) ?_
  refine fx_get C hH (fx_w0 g M2) rfl in_X6 7 (by decide) u_206 rfl rfl dX6_layOut_31 ?_
  refine lv_aload_n hx hb dX6_layOut_34 rfl (lv_at hl 0 rfl) ?_
  refine fx_get C hH (fx_w0 g M2) rfl in_X6 0 (by decide) u_199 rfl rfl dX6_layOut_35 ?_
  refine lv_aload_n hx hb dX6_layOut_38 rfl (lv_at hl 0 rfl) ?_
  refine fx_get C hH (fx_w0 g M2) rfl in_X6 5 (by decide) u_204 rfl rfl dX6_layOut_39 ?_
  refine lv_aload_n hx hb dX6_layOut_42 rfl (lv_at hl 0 rfl) ?_
  refine fx_get C hH (fx_w0 g M2) rfl in_X6 4 (by decide) u_203 rfl rfl dX6_layOut_43 ?_
  refine fx_cv hH (fx_runV (As := [.ref (fx_a g 1), .ref (fx_a g 5), .ref (fx_a g 4)]) (rest := []) C hH (c_X2_layOut_7_1_5_4 l C.2.2.2.2.2.2.2.2.2.1  M2 _ h) (fx_cwV 3 hts u_260 u_261 u_262 u_7 u_263 rfl rfl (by decide +kernel) ⟨(Nat.le_of_ble_eq_true rfl), (Nat.le_of_ble_eq_true rfl)⟩) (fx_w7 g M2) rfl rfl hl.1 rfl (Nat.le_of_ble_eq_true rfl) dX6_layOut_46 ⟨(Nat.le_of_ble_eq_true rfl), (Nat.le_of_ble_eq_true rfl)⟩) (fun M3 H locs h hH => ?_)
  exact fx_vret C hH h dX6_layOut_49
/-! FlexLayout.box(II)I (0,) -/
def rm_X6_box_0 : Room := { frames := 7, cells := 2, slots := 12, locals := 147 }
def wb_X6_box_0_59 (Q : Int32 → fx_Mem → Prop) (X : String → fx_Mem → Prop) (x1 : Int32) (x2 : Int32) (s0 : Int32) (M : fx_Mem) : Prop :=
  ((2 ≤ x2 → ((s0 = 0 → vp_in x1 20 ∧ Q (M.2.1 28 x1.toNatClampNeg) M) ∧ (¬ s0 = 0 → vp_in x1 20 ∧ Q (M.2.1 20 x1.toNatClampNeg) M))) ∧ (¬ 2 ≤ x2 → ((s0 = 0 → vp_in x1 20 ∧ Q (M.2.1 29 x1.toNatClampNeg) M) ∧ (¬ s0 = 0 → vp_in x1 20 ∧ Q (M.2.1 21 x1.toNatClampNeg) M))))
set_option maxHeartbeats 4000000 in
set_option maxRecDepth 100000 in
theorem tb_X6_box_0_59 {g : fx_Geo} {p : Program} {l : Launch} {e : Env} {s : State} {m : MethodId} {args : Array Value} {below : List Frame} {meth : Method} {c : Code} (C : fx_Cx g p s m args meth c RX6 cX6_box 5 (some .int)) (hfl : fx_fl l c) (Q : Int32 → fx_Mem → Prop) (X : String → fx_Mem → Prop) (x1 : Int32) (x2 : Int32) (s0 : Int32) (M : fx_Mem) (h : wb_X6_box_0_59 Q X x1 x2 s0 M) (H : Heap) (locs : List Loc) (ls : Array Slot) (hH : fx_H g s M H locs) (hl : lv_has ls 5 [(0, .ref (fx_a g 0)), (1, .int x1), (2, .int x2)]) : W p l e rm_X6_box_0 s m args below meth c H locs 1 6 (vx_MQ below (va_Qi Q (fx_Pw g) (fx_A g)) (fx_XC g X) args s 2 12 (fx_A g)) (F0 m 59 ls [.int s0]) := by
  obtain ⟨hx, hb, hr, hml, hown, hts, hlocks, hsz, hK, hG, hSt⟩ := id C
  unfold wb_X6_box_0_59 at h
  refine lv_istore (lv' := [(4, .int s0), (0, .ref (fx_a g 0)), (1, .int x1), (2, .int x2)]) hx hb dX6_box_59 hl (by decide) rfl (fun ls hl => ?_)
  refine lv_iload_n hx hb dX6_box_61 rfl (lv_at hl 3 rfl) ?_
  refine lv_iconst (v := 2) hx hb dX6_box_62 (by decide) ?_
  refine lv_icmp_ge (tgt := 93) hx hb dX6_box_63 (by decide) (fun c1 => ?_) (fun c1 => ?_)
  · replace h := h.1 c1
    refine lv_iload hx hb dX6_box_93 (lv_at hl 0 rfl) ?_
    refine lv_if_eq (tgt := 110) hx hb dX6_box_95 (by decide) (fun c2 => ?_) (fun c2 => ?_)
    · replace h := h.1 c2
      refine lv_aload_n hx hb dX6_box_110 rfl (lv_at hl 1 rfl) ?_
      refine fx_get C hH (fx_w0 g M) rfl in_X6 7 (by decide) u_206 rfl rfl dX6_box_111 ?_
      refine fx_get C hH (fx_w7 g M) rfl in_X2 2 (by decide) u_183 rfl rfl dX6_box_114 ?_
      refine lv_iload_n hx hb dX6_box_117 rfl (lv_at hl 2 rfl) ?_
      obtain ⟨hi3, h⟩ := h
      refine fx_iald (j := x1.toNatClampNeg) C hH 28 (fx_w28 g M) rfl hi3 dX6_box_118 ?_
      refine vx_ret (W.widen (k := 2) (n := 12) (Nat.le_of_ble_eq_true rfl) (Nat.le_of_ble_eq_true rfl) ?_)
      exact fx_iret C hH h dX6_box_119
    · replace h := h.2 c2
      refine lv_aload_n hx hb dX6_box_98 rfl (lv_at hl 1 rfl) ?_
      refine fx_get C hH (fx_w0 g M) rfl in_X6 6 (by decide) u_205 rfl rfl dX6_box_99 ?_
      refine fx_get C hH (fx_w6 g M) rfl in_X5 0 (by decide) u_149 rfl rfl dX6_box_102 ?_
      refine lv_iload_n hx hb dX6_box_105 rfl (lv_at hl 2 rfl) ?_
      obtain ⟨hi4, h⟩ := h
      refine fx_iald (j := x1.toNatClampNeg) C hH 20 (fx_w20 g M) rfl hi4 dX6_box_106 ?_
      refine lv_goto (tgt := 119) hx hb dX6_box_107 (by decide) ?_
      refine vx_ret (W.widen (k := 2) (n := 12) (Nat.le_of_ble_eq_true rfl) (Nat.le_of_ble_eq_true rfl) ?_)
      exact fx_iret C hH h dX6_box_119
  · replace h := h.2 c1
    refine lv_iload hx hb dX6_box_66 (lv_at hl 0 rfl) ?_
    refine lv_if_eq (tgt := 83) hx hb dX6_box_68 (by decide) (fun c5 => ?_) (fun c5 => ?_)
    · replace h := h.1 c5
      refine lv_aload_n hx hb dX6_box_83 rfl (lv_at hl 1 rfl) ?_
      refine fx_get C hH (fx_w0 g M) rfl in_X6 7 (by decide) u_206 rfl rfl dX6_box_84 ?_
      refine fx_get C hH (fx_w7 g M) rfl in_X2 3 (by decide) u_185 rfl rfl dX6_box_87 ?_
      refine lv_iload_n hx hb dX6_box_90 rfl (lv_at hl 2 rfl) ?_
      obtain ⟨hi6, h⟩ := h
      refine fx_iald (j := x1.toNatClampNeg) C hH 29 (fx_w29 g M) rfl hi6 dX6_box_91 ?_
      refine vx_ret (W.widen (k := 2) (n := 12) (Nat.le_of_ble_eq_true rfl) (Nat.le_of_ble_eq_true rfl) ?_)
      exact fx_iret C hH h dX6_box_92
    · replace h := h.2 c5
      refine lv_aload_n hx hb dX6_box_71 rfl (lv_at hl 1 rfl) ?_
      refine fx_get C hH (fx_w0 g M) rfl in_X6 6 (by decide) u_205 rfl rfl dX6_box_72 ?_
      refine fx_get C hH (fx_w6 g M) rfl in_X5 1 (by decide) u_151 rfl rfl dX6_box_75 ?_
      refine lv_iload_n hx hb dX6_box_78 rfl (lv_at hl 2 rfl) ?_
      obtain ⟨hi7, h⟩ := h
      refine fx_iald (j := x1.toNatClampNeg) C hH 21 (fx_w21 g M) rfl hi7 dX6_box_79 ?_
      refine lv_goto (tgt := 92) hx hb dX6_box_80 (by decide) ?_
      refine vx_ret (W.widen (k := 2) (n := 12) (Nat.le_of_ble_eq_true rfl) (Nat.le_of_ble_eq_true rfl) ?_)
      exact fx_iret C hH h dX6_box_92
def wb_X6_box_0_42 (Q : Int32 → fx_Mem → Prop) (X : String → fx_Mem → Prop) (x1 : Int32) (x2 : Int32) (s0 : Int32) (M : fx_Mem) : Prop :=
  wp_X1_hasHorizontalMainAxis_1  M (fun r2 M1 => ((s0 = r2 → wb_X6_box_0_59 Q X x1 x2 1 M1) ∧ (¬ s0 = r2 → wb_X6_box_0_59 Q X x1 x2 0 M1)))
set_option maxHeartbeats 4000000 in
set_option maxRecDepth 100000 in
theorem tb_X6_box_0_42 {g : fx_Geo} {p : Program} {l : Launch} {e : Env} {s : State} {m : MethodId} {args : Array Value} {below : List Frame} {meth : Method} {c : Code} (C : fx_Cx g p s m args meth c RX6 cX6_box 5 (some .int)) (hfl : fx_fl l c) (Q : Int32 → fx_Mem → Prop) (X : String → fx_Mem → Prop) (x1 : Int32) (x2 : Int32) (s0 : Int32) (M : fx_Mem) (h : wb_X6_box_0_42 Q X x1 x2 s0 M) (H : Heap) (locs : List Loc) (ls : Array Slot) (hH : fx_H g s M H locs) (hl : lv_has ls 5 [(0, .ref (fx_a g 0)), (1, .int x1), (2, .int x2)]) : W p l e rm_X6_box_0 s m args below meth c H locs 1 6 (vx_MQ below (va_Qi Q (fx_Pw g) (fx_A g)) (fx_XC g X) args s 2 12 (fx_A g)) (F0 m 42 ls [.int s0]) := by
  obtain ⟨hx, hb, hr, hml, hown, hts, hlocks, hsz, hK, hG, hSt⟩ := id C
  unfold wb_X6_box_0_42 at h
  refine lv_istore_n (lv' := [(3, .int s0), (0, .ref (fx_a g 0)), (1, .int x1), (2, .int x2)]) hx hb dX6_box_42 rfl hl (by decide) rfl (fun ls hl => ?_)
  refine lv_iload_n hx hb dX6_box_43 rfl (lv_at hl 0 rfl) ?_
  refine lv_aload_n hx hb dX6_box_44 rfl (lv_at hl 1 rfl) ?_
  refine fx_get C hH (fx_w0 g M) rfl in_X6 0 (by decide) u_199 rfl rfl dX6_box_45 ?_
  refine fx_ci hH (fx_runV (As := []) (rest := [.int s0]) C hH (c_X1_hasHorizontalMainAxis_1 l C.2.2.2.2.2.2.2.2.2.1  M _ h) (fx_cwV 0 hts u_696 u_697 u_698 u_2 u_699 rfl rfl (by decide +kernel) ⟨(Nat.le_of_ble_eq_true rfl), (Nat.le_of_ble_eq_true rfl)⟩) (fx_w1 g M) rfl rfl hl.1 rfl (Nat.le_of_ble_eq_true rfl) dX6_box_48 ⟨(Nat.le_of_ble_eq_true rfl), (Nat.le_of_ble_eq_true rfl)⟩) (fun r2 M1 H locs h hH => ?_)
  refine lv_icmp_ne (tgt := 58) hx hb dX6_box_51 (by decide) (fun c3 => ?_) (fun c3 => ?_)
  · replace h := h.2 c3
    refine lv_iconst (v := 0) hx hb dX6_box_58 (by decide) ?_
    exact tb_X6_box_0_59 C hfl Q X  x1 x2 0 M1 h  H locs ls hH (lv_sub hl [1, 2, 3] rfl)
  · replace h := h.1 c3
    refine lv_iconst (v := 1) hx hb dX6_box_54 (by decide) ?_
    refine lv_goto (tgt := 59) hx hb dX6_box_55 (by decide) ?_
    exact tb_X6_box_0_59 C hfl Q X  x1 x2 1 M1 h  H locs ls hH (lv_sub hl [1, 2, 3] rfl)
def wb_X6_box_0_37 (Q : Int32 → fx_Mem → Prop) (X : String → fx_Mem → Prop) (x1 : Int32) (x2 : Int32) (M : fx_Mem) : Prop :=
  wb_X6_box_0_42 Q X x1 x2 1 M
set_option maxHeartbeats 4000000 in
set_option maxRecDepth 100000 in
theorem tb_X6_box_0_37 {g : fx_Geo} {p : Program} {l : Launch} {e : Env} {s : State} {m : MethodId} {args : Array Value} {below : List Frame} {meth : Method} {c : Code} (C : fx_Cx g p s m args meth c RX6 cX6_box 5 (some .int)) (hfl : fx_fl l c) (Q : Int32 → fx_Mem → Prop) (X : String → fx_Mem → Prop) (x1 : Int32) (x2 : Int32) (M : fx_Mem) (h : wb_X6_box_0_37 Q X x1 x2 M) (H : Heap) (locs : List Loc) (ls : Array Slot) (hH : fx_H g s M H locs) (hl : lv_has ls 5 [(0, .ref (fx_a g 0)), (1, .int x1), (2, .int x2)]) : W p l e rm_X6_box_0 s m args below meth c H locs 1 6 (vx_MQ below (va_Qi Q (fx_Pw g) (fx_A g)) (fx_XC g X) args s 2 12 (fx_A g)) (F0 m 37 ls []) := by
  obtain ⟨hx, hb, hr, hml, hown, hts, hlocks, hsz, hK, hG, hSt⟩ := id C
  unfold wb_X6_box_0_37 at h
  refine lv_iconst (v := 1) hx hb dX6_box_37 (by decide) ?_
  refine lv_goto (tgt := 42) hx hb dX6_box_38 (by decide) ?_
  exact tb_X6_box_0_42 C hfl Q X  x1 x2 1 M h  H locs ls hH (lv_sub hl [0, 1, 2] rfl)
def wp_X6_box_0 (a1 : Int32) (a2 : Int32) (M : fx_Mem) (Q : Int32 → fx_Mem → Prop) (X : String → fx_Mem → Prop) : Prop :=
  wp_X6_requireItem_0 a1 M (fun M1 => wp_X6_isWithin a2 0 3 M1 (fun r3 M2 => ((r3 = 0 → X "java/lang/IndexOutOfBoundsException" M2) ∧ (¬ r3 = 0 → wp_X6_layOut_0  M2 (fun M5 => ((a2 = 0 → wb_X6_box_0_37 Q X a1 a2 M5) ∧ (¬ a2 = 0 → ((a2 = 2 → wb_X6_box_0_37 Q X a1 a2 M5) ∧ (¬ a2 = 2 → wb_X6_box_0_42 Q X a1 a2 0 M5))))))))) X
set_option maxHeartbeats 4000000 in
set_option maxRecDepth 100000 in
theorem c_X6_box_0 (l : Launch) {g : fx_Geo} (hG : fx_Gd g) (hfl0 : l.stackTraces = false) (a1 : Int32) (a2 : Int32) (M : fx_Mem) (Q : Int32 → fx_Mem → Prop) (X : String → fx_Mem → Prop) (h : wp_X6_box_0 a1 a2 M Q X) : vx_Met l yX6_box (.code yX6_box cX6_box 5 (some .int) :: fx_U) rm_X6_box_0 (va_Pc [.ref (fx_a g 0), .int a1, .int a2] (fx_At g M)) (va_Qi Q (fx_Pw g) (fx_A g)) (fx_XC g X) 2 12 (fx_A g) := by
  refine vx_ofW (cc := cX6_box) (maxL := 5) (ret := (some .int)) (by decide +kernel) rfl ?_
  intro p e s m args below meth c s₁ B hml hex hv
  have hfl : fx_fl l c := ⟨hfl0, hex⟩
  obtain ⟨rfl, hv⟩ := hv
  have hts := atoms_spec (ws := .code yX6_box cX6_box 5 (some .int) :: fx_U) B.pre
  obtain ⟨C, hH⟩ := fx_body (own := RX6) B hml rfl (fun w hw => hts w (List.mem_cons_of_mem _ hw)) hG hv
  replace hts := fun w hw => hts w (List.mem_cons_of_mem _ hw)
  obtain ⟨hx, hb, hr, -, hown, -, hlocks, hsz, hK, -, hSt⟩ := id C
  have hl := lv_entry ([.ref (fx_a g 0), .int a1, .int a2]) (n := 5) (Nat.le_of_ble_eq_true rfl)
  rw [lg_entry_eq]
  generalize (lg_sl ([.ref (fx_a g 0), .int a1, .int a2]) ++ List.replicate (5 - (lg_sl ([.ref (fx_a g 0), .int a1, .int a2])).length) Slot.unset).toArray = ls at hl ⊢
  have hl : lv_has ls 5 [(0, .ref (fx_a g 0)), (1, .int a1), (2, .int a2)] := hl
  obtain ⟨H, eH⟩ : ∃ H : Heap, H = s.heap := ⟨_, rfl⟩
  obtain ⟨locs, elocs⟩ : ∃ q : List Loc, q = [] := ⟨_, rfl⟩
  rw [← eH, ← elocs] at hH
  show W p l e rm_X6_box_0 s m _ below meth c s.heap [] 0 0 _ _
  rw [← eH, ← elocs]
  unfold wp_X6_box_0 at h
  refine lv_aload_n hx hb dX6_box_0 rfl (lv_at hl 0 rfl) ?_
  refine lv_iload_n hx hb dX6_box_1 rfl (lv_at hl 1 rfl) ?_
  refine fx_xcv (mc := 1) (ms := 6) C hfl hH (fx_xrunV (As := [.int a1]) (rest := []) C hH (c_X6_requireItem_0 l C.2.2.2.2.2.2.2.2.2.1 hfl.1 a1 M _ _ h) (fx_cwV 1 hts u_596 u_598 us_19 u_1 u_599 rfl rfl (by decide +kernel) ⟨(Nat.le_of_ble_eq_true rfl), (Nat.le_of_ble_eq_true rfl)⟩) (fx_w0 g M) rfl rfl hl.1 rfl (Nat.le_of_ble_eq_true rfl) dX6_box_2 ⟨(Nat.le_of_ble_eq_true rfl), (Nat.le_of_ble_eq_true rfl)⟩) (fun E M9 hx9 => hx9) (Nat.le_of_ble_eq_true rfl) (Nat.le_of_ble_eq_true rfl) (fun M1 H locs h hH => ?_)
  refine lv_iload_n hx hb dX6_box_5 rfl (lv_at hl 2 rfl) ?_
  refine lv_iconst (v := 0) hx hb dX6_box_6 (by decide) ?_
  refine lv_iconst (v := 3) hx hb dX6_box_7 (by decide) ?_
  refine fx_ci hH (fx_runS (As := [.int a2, .int 0, .int 3]) (rest := []) C hH (c_X6_isWithin l C.2.2.2.2.2.2.2.2.2.1 a2 0 3 M1 _ h) (fx_cwS 3 hts u_405 u_406 u_1 u_407 rfl rfl (by decide +kernel) ⟨(Nat.le_of_ble_eq_true rfl), (Nat.le_of_ble_eq_true rfl)⟩) rfl hl.1 rfl (Nat.le_of_ble_eq_true rfl) dX6_box_8 ⟨(Nat.le_of_ble_eq_true rfl), (Nat.le_of_ble_eq_true rfl)⟩) (fun r3 M2 H locs h hH => ?_)
  refine lv_if_ne (tgt := 24) hx hb dX6_box_11 (by decide) (fun c4 => ?_) (fun c4 => ?_)
  · replace h := h.2 c4
    refine lv_aload_n hx hb dX6_box_24 rfl (lv_at hl 0 rfl) ?_
    refine fx_cv hH (fx_runV (As := []) (rest := []) C hH (c_X6_layOut_0 l C.2.2.2.2.2.2.2.2.2.1  M2 _ h) (fx_cwV 0 hts u_320 u_322 us_7 u_1 u_323 rfl rfl (by decide +kernel) ⟨(Nat.le_of_ble_eq_true rfl), (Nat.le_of_ble_eq_true rfl)⟩) (fx_w0 g M2) rfl rfl hl.1 rfl (Nat.le_of_ble_eq_true rfl) dX6_box_25 ⟨(Nat.le_of_ble_eq_true rfl), (Nat.le_of_ble_eq_true rfl)⟩) (fun M5 H locs h hH => ?_)
    refine lv_iload_n hx hb dX6_box_28 rfl (lv_at hl 2 rfl) ?_
    refine lv_if_eq (tgt := 37) hx hb dX6_box_29 (by decide) (fun c6 => ?_) (fun c6 => ?_)
    · replace h := h.1 c6
      exact tb_X6_box_0_37 C hfl Q X  a1 a2 M5 h  H locs ls hH (lv_sub hl [0, 1, 2] rfl)
    · replace h := h.2 c6
      refine lv_iload_n hx hb dX6_box_32 rfl (lv_at hl 2 rfl) ?_
      refine lv_iconst (v := 2) hx hb dX6_box_33 (by decide) ?_
      refine lv_icmp_ne (tgt := 41) hx hb dX6_box_34 (by decide) (fun c7 => ?_) (fun c7 => ?_)
      · replace h := h.2 c7
        refine lv_iconst (v := 0) hx hb dX6_box_41 (by decide) ?_
        exact tb_X6_box_0_42 C hfl Q X  a1 a2 0 M5 h  H locs ls hH (lv_sub hl [0, 1, 2] rfl)
      · replace h := h.1 c7
        exact tb_X6_box_0_37 C hfl Q X  a1 a2 M5 h  H locs ls hH (lv_sub hl [0, 1, 2] rfl)
  · replace h := h.1 c4
    exact fx_throwS (text := "no such coordinate") C hfl hH u_526 u_13 12 rfl at_90 (by decide +kernel) (by decide +kernel) (by decide +kernel) dX6_box_14 dX6_box_17 dX6_box_18 dX6_box_20 dX6_box_23 (Nat.le_of_ble_eq_true rfl) (Nat.le_of_ble_eq_true rfl) (Nat.le_of_ble_eq_true rfl) (Nat.le_of_ble_eq_true rfl) hl.1 h (Nat.le_of_ble_eq_true rfl) (Nat.le_of_ble_eq_true rfl)
