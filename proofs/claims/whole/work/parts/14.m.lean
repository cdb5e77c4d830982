/-! FlexLayout$Division.weightSum(I)J (4,) -/
def rm_X3_weightSum_4 : Room := { frames := 0, cells := 0, slots := 0, locals := 0 }
def wb_X3_weightSum_4_5 (k5 : Int32 → Int64 → Int32 → fx_Mem → Prop) (k27 : Int64 → fx_Mem → Prop) (Q : Int64 → fx_Mem → Prop) (x1 : Int32) (y2 : Int64) (x4 : Int32) (M : fx_Mem) : Prop :=
  ((x1 ≤ x4 → k27 y2 M) ∧ (¬ x1 ≤ x4 → vp_in x4 20 ∧ ∀ w3 : Int64, w3 = y2 + (M.2.2 15 x4.toNatClampNeg) → ∀ v4 : Int32, v4 = x4 + 1 → k5 x1 w3 v4 M))
set_option maxHeartbeats 4000000 in
set_option maxRecDepth 100000 in
theorem tb_X3_weightSum_4_5 {g : fx_Geo} {p : Program} {l : Launch} {e : Env} {s : State} {m : MethodId} {args : Array Value} {below : List Frame} {meth : Method} {c : Code} (C : fx_Cx g p s m args meth c RX3 cX3_weightSum 5 (some .long)) (k5 : Int32 → Int64 → Int32 → fx_Mem → Prop) (k27 : Int64 → fx_Mem → Prop) (Q : Int64 → fx_Mem → Prop) (hk5 : ∀ (x1 : Int32) (y2 : Int64) (x4 : Int32) (M : fx_Mem), k5 x1 y2 x4 M → ∀ (H : Heap) (locs : List Loc) (ls : Array Slot), fx_H g s M H locs → lv_has ls 5 [(0, .ref (fx_a g 4)), (1, .int x1), (2, .long y2), (4, .int x4)] → W p l e rm_X3_weightSum_4 s m args below meth c H locs 0 0 (MQ below (va_Ql Q (fx_Pw g) (fx_A g)) args s 0 0 (fx_A g)) (F0 m 5 ls [])) (hk27 : ∀ (y2 : Int64) (M : fx_Mem), k27 y2 M → ∀ (H : Heap) (locs : List Loc) (ls : Array Slot), fx_H g s M H locs → lv_has ls 5 [(2, .long y2)] → W p l e rm_X3_weightSum_4 s m args below meth c H locs 0 0 (MQ below (va_Ql Q (fx_Pw g) (fx_A g)) args s 0 0 (fx_A g)) (F0 m 27 ls [])) (x1 : Int32) (y2 : Int64) (x4 : Int32) (M : fx_Mem) (h : wb_X3_weightSum_4_5 k5 k27 Q x1 y2 x4 M) (H : Heap) (locs : List Loc) (ls : Array Slot) (hH : fx_H g s M H locs) (hl : lv_has ls 5 [(0, .ref (fx_a g 4)), (1, .int x1), (2, .long y2), (4, .int x4)]) : W p l e rm_X3_weightSum_4 s m args below meth c H locs 0 0 (MQ below (va_Ql Q (fx_Pw g) (fx_A g)) args s 0 0 (fx_A g)) (F0 m 5 ls []) := by
  obtain ⟨hx, hb, hr, hml, hown, hts, hlocks, hsz, hK, hG, hSt⟩ := id C
  unfold wb_X3_weightSum_4_5 at h
  refine lv_iload hx hb dX3_weightSum_5 (lv_at hl 3 rfl) ?_
  refine lv_iload_n hx hb dX3_weightSum_7 rfl (lv_at hl 1 rfl) ?_
  refine lv_icmp_ge (tgt := 27) hx hb dX3_weightSum_8 (by decide) (fun c1 => ?_) (fun c1 => ?_)
  · replace h := h.1 c1
    exact hk27 y2 M h  H locs ls hH (lv_sub hl [2] rfl)
  · replace h := h.2 c1
    refine lv_lload_n hx hb dX3_weightSum_11 rfl (lv_at hl 2 rfl) ?_
    refine lv_aload_n hx hb dX3_weightSum_12 rfl (lv_at hl 0 rfl) ?_
    refine fx_get C hH (fx_w4 g M) rfl in_X3 0 (by decide) u_101 rfl rfl dX3_weightSum_13 ?_
    refine lv_iload hx hb dX3_weightSum_16 (lv_at hl 3 rfl) ?_
    obtain ⟨hi2, h⟩ := h
    refine fx_lald (j := x4.toNatClampNeg) C hH 15 (fx_w15 g M) rfl hi2 dX3_weightSum_18 ?_
    refine lv_ladd hx hb dX3_weightSum_19 ?_
    refine lv_topl (fun w3 ew3 => ?_)
    replace h := h w3 ew3
    refine lv_lstore_n (lv' := [(2, .long w3), (0, .ref (fx_a g 4)), (1, .int x1), (4, .int x4)]) hx hb dX3_weightSum_20 rfl hl (by decide) rfl (fun ls hl => ?_)
    obtain ⟨v4, ev4⟩ : ∃ z : Int32, z = x4 + 1 := ⟨_, rfl⟩
    refine lv_iinc (v := v4) (lv' := [(4, .int v4), (2, .long w3), (0, .ref (fx_a g 4)), (1, .int x1)]) hx hb dX3_weightSum_21 hl (k := 3) rfl (by rw [ev4]; rfl) (by decide) rfl (fun ls hl => ?_)
    replace h := h v4 ev4
    refine lv_goto (tgt := 5) hx hb dX3_weightSum_24 (by decide) ?_
    exact hk5 x1 w3 v4 M h  H locs ls hH (lv_sub hl [2, 3, 1, 0] rfl)
def wl_X3_weightSum_4_5 (k27 : Int64 → fx_Mem → Prop) (Q : Int64 → fx_Mem → Prop) (n : Nat) (x1 : Int32) (y2 : Int64) (x4 : Int32) (M : fx_Mem) : Prop :=
  fx_lp (α := Int32 × Int64 × Int32 × fx_Mem) (fun k a => wb_X3_weightSum_4_5 (fun x1 y2 x4 M => k (x1, y2, x4, M)) k27 Q a.1 a.2.1 a.2.2.1 a.2.2.2) n (x1, y2, x4, M)
set_option maxHeartbeats 4000000 in
theorem tl_X3_weightSum_4_5 {g : fx_Geo} {p : Program} {l : Launch} {e : Env} {s : State} {m : MethodId} {args : Array Value} {below : List Frame} {meth : Method} {c : Code} (C : fx_Cx g p s m args meth c RX3 cX3_weightSum 5 (some .long)) (k27 : Int64 → fx_Mem → Prop) (Q : Int64 → fx_Mem → Prop) (hk27 : ∀ (y2 : Int64) (M : fx_Mem), k27 y2 M → ∀ (H : Heap) (locs : List Loc) (ls : Array Slot), fx_H g s M H locs → lv_has ls 5 [(2, .long y2)] → W p l e rm_X3_weightSum_4 s m args below meth c H locs 0 0 (MQ below (va_Ql Q (fx_Pw g) (fx_A g)) args s 0 0 (fx_A g)) (F0 m 27 ls [])) : ∀ (n : Nat) (x1 : Int32) (y2 : Int64) (x4 : Int32) (M : fx_Mem), wl_X3_weightSum_4_5 k27 Q n x1 y2 x4 M → ∀ (H : Heap) (locs : List Loc) (ls : Array Slot), fx_H g s M H locs → lv_has ls 5 [(0, .ref (fx_a g 4)), (1, .int x1), (2, .long y2), (4, .int x4)] → W p l e rm_X3_weightSum_4 s m args below meth c H locs 0 0 (MQ below (va_Ql Q (fx_Pw g) (fx_A g)) args s 0 0 (fx_A g)) (F0 m 5 ls []) := by
  intro n
  induction n with
  | zero => intro x1 y2 x4 M h; exact False.elim h
  | succ n ih => intro x1 y2 x4 M h  H locs ls hH hl; exact tb_X3_weightSum_4_5 C (wl_X3_weightSum_4_5 k27 Q n) k27 Q ih hk27 x1 y2 x4 M h  H locs ls hH hl
def wb_X3_weightSum_4_27 (Q : Int64 → fx_Mem → Prop) (y2 : Int64) (M : fx_Mem) : Prop :=
  Q y2 M
set_option maxHeartbeats 4000000 in
set_option maxRecDepth 100000 in
theorem tb_X3_weightSum_4_27 {g : fx_Geo} {p : Program} {l : Launch} {e : Env} {s : State} {m : MethodId} {args : Array Value} {below : List Frame} {meth : Method} {c : Code} (C : fx_Cx g p s m args meth c RX3 cX3_weightSum 5 (some .long)) (Q : Int64 → fx_Mem → Prop) (y2 : Int64) (M : fx_Mem) (h : wb_X3_weightSum_4_27 Q y2 M) (H : Heap) (locs : List Loc) (ls : Array Slot) (hH : fx_H g s M H locs) (hl : lv_has ls 5 [(2, .long y2)]) : W p l e rm_X3_weightSum_4 s m args below meth c H locs 0 0 (MQ below (va_Ql Q (fx_Pw g) (fx_A g)) args s 0 0 (fx_A g)) (F0 m 27 ls []) := by
  obtain ⟨hx, hb, hr, hml, hown, hts, hlocks, hsz, hK, hG, hSt⟩ := id C
  unfold wb_X3_weightSum_4_27 at h
  refine lv_lload_n hx hb dX3_weightSum_27 rfl (lv_at hl 0 rfl) ?_
  exact fx_lret C hH h dX3_weightSum_28
def wp_X3_weightSum_4 (a1 : Int32) (M : fx_Mem) (Q : Int64 → fx_Mem → Prop) : Prop :=
  ∃ n5 : Nat, wl_X3_weightSum_4_5 (wb_X3_weightSum_4_27 Q) Q n5 a1 0 0 M
set_option maxHeartbeats 4000000 in
set_option maxRecDepth 100000 in
theorem c_X3_weightSum_4 (l : Launch) {g : fx_Geo} (hG : fx_Gd g) (a1 : Int32) (M : fx_Mem) (Q : Int64 → fx_Mem → Prop) (h : wp_X3_weightSum_4 a1 M Q) : Met l yX3_weightSum (.code yX3_weightSum cX3_weightSum 5 (some .long) :: fx_U) rm_X3_weightSum_4 (va_Pc [.ref (fx_a g 4), .int a1] (fx_At g M)) (va_Ql Q (fx_Pw g) (fx_A g)) 0 0 (fx_A g) := by
  refine Met.ofW (cc := cX3_weightSum) (maxL := 5) (ret := (some .long)) (by decide +kernel) rfl ?_
  intro p e s m args below meth c s₁ B hml hv
  obtain ⟨rfl, hv⟩ := hv
  have hts := atoms_spec (ws := .code yX3_weightSum cX3_weightSum 5 (some .long) :: fx_U) B.pre
  obtain ⟨C, hH⟩ := fx_body (own := RX3) B hml rfl (fun w hw => hts w (List.mem_cons_of_mem _ hw)) hG hv
  replace hts := fun w hw => hts w (List.mem_cons_of_mem _ hw)
  obtain ⟨hx, hb, hr, -, hown, -, hlocks, hsz, hK, -, hSt⟩ := id C
  have hl := lv_entry ([.ref (fx_a g 4), .int a1]) (n := 5) (Nat.le_of_ble_eq_true rfl)
  rw [lg_entry_eq]
  generalize (lg_sl ([.ref (fx_a g 4), .int a1]) ++ List.replicate (5 - (lg_sl ([.ref (fx_a g 4), .int a1])).length) Slot.unset).toArray = ls at hl ⊢
  have hl : lv_has ls 5 [(0, .ref (fx_a g 4)), (1, .int a1)] := hl
  obtain ⟨H, eH⟩ : ∃ H : Heap, H = s.heap := ⟨_, rfl⟩
  obtain ⟨locs, elocs⟩ : ∃ q : List Loc, q = [] := ⟨_, rfl⟩
  rw [← eH, ← elocs] at hH
  show W p l e rm_X3_weightSum_4 s m _ below meth c s.heap [] 0 0 _ _
  rw [← eH, ← elocs]
  unfold wp_X3_weightSum_4 at h
  refine lv_lconst (v := 0) hx hb dX3_weightSum_0 (by decide) ?_
  refine lv_lstore_n (lv' := [(2, .long 0), (0, .ref (fx_a g 4)), (1, .int a1)]) hx hb dX3_weightSum_1 rfl hl (by decide) rfl (fun ls hl => ?_)
  refine lv_iconst (v := 0) hx hb dX3_weightSum_2 (by decide) ?_
  refine lv_istore (lv' := [(4, .int 0), (2, .long 0), (0, .ref (fx_a g 4)), (1, .int a1)]) hx hb dX3_weightSum_3 hl (by decide) rfl (fun ls hl => ?_)
  obtain ⟨n5, h⟩ := h
  exact tl_X3_weightSum_4_5 C (wb_X3_weightSum_4_27 Q) Q (tb_X3_weightSum_4_27 C Q ) n5 a1 0 0 M h  H locs ls hH (lv_sub hl [2, 3, 1, 0] rfl)
/-! FlexLayout$Division.divide(II)V (4,) -/
def rm_X3_divide_4 : Room := { frames := 1, cells := 0, slots := 0, locals := 25 }
def wb_X3_divide_4_82 (k22 : Int32 → Int32 → Int64 → Int32 → Int32 → fx_Mem → Prop) (k101 : Int32 → Int32 → fx_Mem → Prop) (Q : fx_Mem → Prop) (x1 : Int32) (x2 : Int32) (y3 : Int64) (x5 : Int32) (x6 : Int32) (s0 : Int64) (s1 : Int32) (M : fx_Mem) : Prop :=
  vp_in s1 20 ∧ ∀ M2 : fx_Mem, M2 = fx_sl M 17 s1.toNatClampNeg s0 → vp_in x6 20 ∧ ∀ v4 : Int32, v4 = x5 - (M2.2.1 16 x6.toNatClampNeg) → ∀ v5 : Int32, v5 = x6 + 1 → k22 x1 x2 y3 v4 v5 M2
set_option maxHeartbeats 4000000 in
set_option maxRecDepth 100000 in
theorem tb_X3_divide_4_82 {g : fx_Geo} {p : Program} {l : Launch} {e : Env} {s : State} {m : MethodId} {args : Array Value} {below : List Frame} {meth : Method} {c : Code} (C : fx_Cx g p s m args meth c RX3 cX3_divide 9 none) (k22 : Int32 → Int32 → Int64 → Int32 → Int32 → fx_Mem → Prop) (k101 : Int32 → Int32 → fx_Mem → Prop) (Q : fx_Mem → Prop) (hk22 : ∀ (x1 : Int32) (x2 : Int32) (y3 : Int64) (x5 : Int32) (x6 : Int32) (M : fx_Mem), k22 x1 x2 y3 x5 x6 M → ∀ (H : Heap) (locs : List Loc) (ls : Array Slot), fx_H g s M H locs → lv_has ls 9 [(0, .ref (fx_a g 4)), (1, .int x1), (2, .int x2), (3, .long y3), (5, .int x5), (6, .int x6)] → W p l e rm_X3_divide_4 s m args below meth c H locs 0 0 (MQ below (va_Qv Q (fx_Pw g) (fx_A g)) args s 0 0 (fx_A g)) (F0 m 22 ls [])) (hk101 : ∀ (x2 : Int32) (x5 : Int32) (M : fx_Mem), k101 x2 x5 M → ∀ (H : Heap) (locs : List Loc) (ls : Array Slot), fx_H g s M H locs → lv_has ls 9 [(0, .ref (fx_a g 4)), (2, .int x2), (5, .int x5)] → W p l e rm_X3_divide_4 s m args below meth c H locs 0 0 (MQ below (va_Qv Q (fx_Pw g) (fx_A g)) args s 0 0 (fx_A g)) (F0 m 101 ls [])) (x1 : Int32) (x2 : Int32) (y3 : Int64) (x5 : Int32) (x6 : Int32) (s0 : Int64) (s1 : Int32) (M : fx_Mem) (h : wb_X3_divide_4_82 k22 k101 Q x1 x2 y3 x5 x6 s0 s1 M) (H : Heap) (locs : List Loc) (ls : Array Slot) (hH : fx_H g s M H locs) (hl : lv_has ls 9 [(0, .ref (fx_a g 4)), (1, .int x1), (2, .int x2), (3, .long y3), (5, .int x5), (6, .int x6)]) : W p l e rm_X3_divide_4 s m args below meth c H locs 0 0 (MQ below (va_Qv Q (fx_Pw g) (fx_A g)) args s 0 0 (fx_A g)) (F0 m 82 ls [.long s0, .int s1, .ref (fx_a g 17)]) := by
  obtain ⟨hx, hb, hr, hml, hown, hts, hlocks, hsz, hK, hG, hSt⟩ := id C
  unfold wb_X3_divide_4_82 at h
  obtain ⟨hi1, h⟩ := h
  refine fx_last (j := s1.toNatClampNeg) (M' := fx_sl M 17 s1.toNatClampNeg s0) C hH 17 rfl (fx_w17 g M) (fx_p17 g M _ _) hi1 dX3_divide_82 (fun H locs hH => ?_)
  generalize eM2 : fx_sl M 17 s1.toNatClampNeg s0 = M2 at hH
  replace h := h M2 eM2.symm
  refine lv_iload hx hb dX3_divide_83 (lv_at hl 4 rfl) ?_
  refine lv_aload_n hx hb dX3_divide_85 rfl (lv_at hl 0 rfl) ?_
  refine fx_get C hH (fx_w4 g M2) rfl in_X3 1 (by decide) u_105 rfl rfl dX3_divide_86 ?_
  refine lv_iload hx hb dX3_divide_89 (lv_at hl 5 rfl) ?_
  obtain ⟨hi3, h⟩ := h
  refine fx_iald (j := x6.toNatClampNeg) C hH 16 (fx_w16 g M2) rfl hi3 dX3_divide_91 ?_
  refine lv_isub hx hb dX3_divide_92 ?_
  refine lv_topi (fun v4 ev4 => ?_)
  replace h := h v4 ev4
  refine lv_istore (lv' := [(5, .int v4), (0, .ref (fx_a g 4)), (1, .int x1), (2, .int x2), (3, .long y3), (6, .int x6)]) hx hb dX3_divide_93 hl (by decide) rfl (fun ls hl => ?_)
  obtain ⟨v5, ev5⟩ : ∃ z : Int32, z = x6 + 1 := ⟨_, rfl⟩
  refine lv_iinc (v := v5) (lv' := [(6, .int v5), (5, .int v4), (0, .ref (fx_a g 4)), (1, .int x1), (2, .int x2), (3, .long y3)]) hx hb dX3_divide_95 hl (k := 5) rfl (by rw [ev5]; rfl) (by decide) rfl (fun ls hl => ?_)
  replace h := h v5 ev5
  refine lv_goto (tgt := 22) hx hb dX3_divide_98 (by decide) ?_
  exact hk22 x1 x2 y3 v4 v5 M2 h  H locs ls hH (lv_sub hl [2, 3, 4, 5, 1, 0] rfl)
def wb_X3_divide_4_61 (k22 : Int32 → Int32 → Int64 → Int32 → Int32 → fx_Mem → Prop) (k101 : Int32 → Int32 → fx_Mem → Prop) (Q : fx_Mem → Prop) (x1 : Int32) (x2 : Int32) (y3 : Int64) (x5 : Int32) (x6 : Int32) (y7 : Int64) (s0 : Int32) (s1 : Int32) (M : fx_Mem) : Prop :=
  vp_in s1 20 ∧ ∀ M2 : fx_Mem, M2 = fx_sa M 16 s1.toNatClampNeg s0 → ((lg_cmp y3 0 ≤ 0 → wb_X3_divide_4_82 k22 k101 Q x1 x2 y3 x5 x6 0 x6 M2) ∧ (¬ lg_cmp y3 0 ≤ 0 → (¬ y3 = 0) ∧ wb_X3_divide_4_82 k22 k101 Q x1 x2 y3 x5 x6 (y7 - y7 / y3 * y3) x6 M2))
set_option maxHeartbeats 4000000 in
set_option maxRecDepth 100000 in
theorem tb_X3_divide_4_61 {g : fx_Geo} {p : Program} {l : Launch} {e : Env} {s : State} {m : MethodId} {args : Array Value} {below : List Frame} {meth : Method} {c : Code} (C : fx_Cx g p s m args meth c RX3 cX3_divide 9 none) (k22 : Int32 → Int32 → Int64 → Int32 → Int32 → fx_Mem → Prop) (k101 : Int32 → Int32 → fx_Mem → Prop) (Q : fx_Mem → Prop) (hk22 : ∀ (x1 : Int32) (x2 : Int32) (y3 : Int64) (x5 : Int32) (x6 : Int32) (M : fx_Mem), k22 x1 x2 y3 x5 x6 M → ∀ (H : Heap) (locs : List Loc) (ls : Array Slot), fx_H g s M H locs → lv_has ls 9 [(0, .ref (fx_a g 4)), (1, .int x1), (2, .int x2), (3, .long y3), (5, .int x5), (6, .int x6)] → W p l e rm_X3_divide_4 s m args below meth c H locs 0 0 (MQ below (va_Qv Q (fx_Pw g) (fx_A g)) args s 0 0 (fx_A g)) (F0 m 22 ls [])) (hk101 : ∀ (x2 : Int32) (x5 : Int32) (M : fx_Mem), k101 x2 x5 M → ∀ (H : Heap) (locs : List Loc) (ls : Array Slot), fx_H g s M H locs → lv_has ls 9 [(0, .ref (fx_a g 4)), (2, .int x2), (5, .int x5)] → W p l e rm_X3_divide_4 s m args below meth c H locs 0 0 (MQ below (va_Qv Q (fx_Pw g) (fx_A g)) args s 0 0 (fx_A g)) (F0 m 101 ls [])) (x1 : Int32) (x2 : Int32) (y3 : Int64) (x5 : Int32) (x6 : Int32) (y7 : Int64) (s0 : Int32) (s1 : Int32) (M : fx_Mem) (h : wb_X3_divide_4_61 k22 k101 Q x1 x2 y3 x5 x6 y7 s0 s1 M) (H : Heap) (locs : List Loc) (ls : Array Slot) (hH : fx_H g s M H locs) (hl : lv_has ls 9 [(0, .ref (fx_a g 4)), (1, .int x1), (2, .int x2), (3, .long y3), (5, .int x5), (6, .int x6), (7, .long y7)]) : W p l e rm_X3_divide_4 s m args below meth c H locs 0 0 (MQ below (va_Qv Q (fx_Pw g) (fx_A g)) args s 0 0 (fx_A g)) (F0 m 61 ls [.int s0, .int s1, .ref (fx_a g 16)]) := by
  obtain ⟨hx, hb, hr, hml, hown, hts, hlocks, hsz, hK, hG, hSt⟩ := id C
  unfold wb_X3_divide_4_61 at h
  obtain ⟨hi1, h⟩ := h
  refine fx_iast (j := s1.toNatClampNeg) (M' := fx_sa M 16 s1.toNatClampNeg s0) C hH 16 rfl (fx_w16 g M) (fx_p16 g M _) hi1 dX3_divide_61 (fun H locs hH => ?_)
  generalize eM2 : fx_sa M 16 s1.toNatClampNeg s0 = M2 at hH
  replace h := h M2 eM2.symm
  refine lv_aload_n hx hb dX3_divide_62 rfl (lv_at hl 0 rfl) ?_
  refine fx_get C hH (fx_w4 g M2) rfl in_X3 2 (by decide) u_109 rfl rfl dX3_divide_63 ?_
  refine lv_iload hx hb dX3_divide_66 (lv_at hl 5 rfl) ?_
  refine lv_lload_n hx hb dX3_divide_68 rfl (lv_at hl 3 rfl) ?_
  refine lv_lconst (v := 0) hx hb dX3_divide_69 (by decide) ?_
  refine W.lcmp hx hb dX3_divide_70 ?_
  refine lv_if_le (tgt := 81) hx hb dX3_divide_71 (by decide) (fun c3 => ?_) (fun c3 => ?_)
  · replace h := h.1 c3
    refine lv_lconst (v := 0) hx hb dX3_divide_81 (by decide) ?_
    exact tb_X3_divide_4_82 C k22 k101 Q hk22 hk101 x1 x2 y3 x5 x6 0 x6 M2 h  H locs ls hH (lv_sub hl [0, 1, 2, 3, 4, 5] rfl)
  · replace h := h.2 c3
    refine lv_lload hx hb dX3_divide_74 (lv_at hl 6 rfl) ?_
    refine lv_lload_n hx hb dX3_divide_76 rfl (lv_at hl 3 rfl) ?_
    obtain ⟨hz4, h⟩ := h
    refine lv_lrem hx hb dX3_divide_77 hz4 ?_
    refine lv_goto (tgt := 82) hx hb dX3_divide_78 (by decide) ?_
    exact tb_X3_divide_4_82 C k22 k101 Q hk22 hk101 x1 x2 y3 x5 x6 (y7 - y7 / y3 * y3) x6 M2 h  H locs ls hH (lv_sub hl [0, 1, 2, 3, 4, 5] rfl)
def wb_X3_divide_4_22 (k22 : Int32 → Int32 → Int64 → Int32 → Int32 → fx_Mem → Prop) (k101 : Int32 → Int32 → fx_Mem → Prop) (Q : fx_Mem → Prop) (x1 : Int32) (x2 : Int32) (y3 : Int64) (x5 : Int32) (x6 : Int32) (M : fx_Mem) : Prop :=
  ((x2 ≤ x6 → k101 x2 x5 M) ∧ (¬ x2 ≤ x6 → vp_in x6 20 ∧ ∀ w3 : Int64, w3 = x1.toInt64 * (M.2.2 15 x6.toNatClampNeg) → ((lg_cmp y3 0 ≤ 0 → wb_X3_divide_4_61 k22 k101 Q x1 x2 y3 x5 x6 w3 0 x6 M) ∧ (¬ lg_cmp y3 0 ≤ 0 → (¬ y3 = 0) ∧ wb_X3_divide_4_61 k22 k101 Q x1 x2 y3 x5 x6 w3 ((w3 / y3).toInt32) x6 M))))
set_option maxHeartbeats 4000000 in
set_option maxRecDepth 100000 in
theorem tb_X3_divide_4_22 {g : fx_Geo} {p : Program} {l : Launch} {e : Env} {s : State} {m : MethodId} {args : Array Value} {below : List Frame} {meth : Method} {c : Code} (C : fx_Cx g p s m args meth c RX3 cX3_divide 9 none) (k22 : Int32 → Int32 → Int64 → Int32 → Int32 → fx_Mem → Prop) (k101 : Int32 → Int32 → fx_Mem → Prop) (Q : fx_Mem → Prop) (hk22 : ∀ (x1 : Int32) (x2 : Int32) (y3 : Int64) (x5 : Int32) (x6 : Int32) (M : fx_Mem), k22 x1 x2 y3 x5 x6 M → ∀ (H : Heap) (locs : List Loc) (ls : Array Slot), fx_H g s M H locs → lv_has ls 9 [(0, .ref (fx_a g 4)), (1, .int x1), (2, .int x2), (3, .long y3), (5, .int x5), (6, .int x6)] → W p l e rm_X3_divide_4 s m args below meth c H locs 0 0 (MQ below (va_Qv Q (fx_Pw g) (fx_A g)) args s 0 0 (fx_A g)) (F0 m 22 ls [])) (hk101 : ∀ (x2 : Int32) (x5 : Int32) (M : fx_Mem), k101 x2 x5 M → ∀ (H : Heap) (locs : List Loc) (ls : Array Slot), fx_H g s M H locs → lv_has ls 9 [(0, .ref (fx_a g 4)), (2, .int x2), (5, .int x5)] → W p l e rm_X3_divide_4 s m args below meth c H locs 0 0 (MQ below (va_Qv Q (fx_Pw g) (fx_A g)) args s 0 0 (fx_A g)) (F0 m 101 ls [])) (x1 : Int32) (x2 : Int32) (y3 : Int64) (x5 : Int32) (x6 : Int32) (M : fx_Mem) (h : wb_X3_divide_4_22 k22 k101 Q x1 x2 y3 x5 x6 M) (H : Heap) (locs : List Loc) (ls : Array Slot) (hH : fx_H g s M H locs) (hl : lv_has ls 9 [(0, .ref (fx_a g 4)), (1, .int x1), (2, .int x2), (3, .long y3), (5, .int x5), (6, .int x6)]) : W p l e rm_X3_divide_4 s m args below meth c H locs 0 0 (MQ below (va_Qv Q (fx_Pw g) (fx_A g)) args s 0 0 (fx_A g)) (F0 m 22 ls []) := by
  obtain ⟨hx, hb, hr, hml, hown, hts, hlocks, hsz, hK, hG, hSt⟩ := id C
  unfold wb_X3_divide_4_22 at h
  refine lv_iload hx hb dX3_divide_22 (lv_at hl 5 rfl) ?_
  refine lv_iload_n hx hb dX3_divide_24 rfl (lv_at hl 2 rfl) ?_
  refine lv_icmp_ge (tgt := 101) hx hb dX3_divide_25 (by decide) (fun c1 => ?_) (fun c1 => ?_)
  · replace h := h.1 c1
    exact hk101 x2 x5 M h  H locs ls hH (lv_sub hl [0, 2, 4] rfl)
  · replace h := h.2 c1
    refine lv_iload_n hx hb dX3_divide_28 rfl (lv_at hl 1 rfl) ?_
    refine lv_i2l hx hb dX3_divide_29 rfl ?_
    refine lv_aload_n hx hb dX3_divide_30 rfl (lv_at hl 0 rfl) ?_
    refine fx_get C hH (fx_w4 g M) rfl in_X3 0 (by decide) u_101 rfl rfl dX3_divide_31 ?_
    refine lv_iload hx hb dX3_divide_34 (lv_at hl 5 rfl) ?_
    obtain ⟨hi2, h⟩ := h
    refine fx_lald (j := x6.toNatClampNeg) C hH 15 (fx_w15 g M) rfl hi2 dX3_divide_36 ?_
    refine lv_lmul hx hb dX3_divide_37 ?_
    refine lv_topl (fun w3 ew3 => ?_)
    replace h := h w3 ew3
    refine lv_lstore (lv' := [(7, .long w3), (0, .ref (fx_a g 4)), (1, .int x1), (2, .int x2), (3, .long y3), (5, .int x5), (6, .int x6)]) hx hb dX3_divide_38 hl (by decide) rfl (fun ls hl => ?_)
    refine lv_aload_n hx hb dX3_divide_40 rfl (lv_at hl 1 rfl) ?_
    refine fx_get C hH (fx_w4 g M) rfl in_X3 1 (by decide) u_105 rfl rfl dX3_divide_41 ?_
    refine lv_iload hx hb dX3_divide_44 (lv_at hl 6 rfl) ?_
    refine lv_lload_n hx hb dX3_divide_46 rfl (lv_at hl 4 rfl) ?_
    refine lv_lconst (v := 0) hx hb dX3_divide_47 (by decide) ?_
    refine W.lcmp hx hb dX3_divide_48 ?_
    refine lv_if_le (tgt := 60) hx hb dX3_divide_49 (by decide) (fun c4 => ?_) (fun c4 => ?_)
    · replace h := h.1 c4
      refine lv_iconst (v := 0) hx hb dX3_divide_60 (by decide) ?_
      exact tb_X3_divide_4_61 C k22 k101 Q hk22 hk101 x1 x2 y3 x5 x6 w3 0 x6 M h  H locs ls hH (lv_sub hl [1, 2, 3, 4, 5, 6, 0] rfl)
    · replace h := h.2 c4
      refine lv_lload hx hb dX3_divide_52 (lv_at hl 0 rfl) ?_
      refine lv_lload_n hx hb dX3_divide_54 rfl (lv_at hl 4 rfl) ?_
      obtain ⟨hz5, h⟩ := h
      refine lv_ldiv hx hb dX3_divide_55 hz5 ?_
      refine lv_l2i hx hb dX3_divide_56 rfl ?_
      refine lv_goto (tgt := 61) hx hb dX3_divide_57 (by decide) ?_
      exact tb_X3_divide_4_61 C k22 k101 Q hk22 hk101 x1 x2 y3 x5 x6 w3 ((w3 / y3).toInt32) x6 M h  H locs ls hH (lv_sub hl [1, 2, 3, 4, 5, 6, 0] rfl)
def wl_X3_divide_4_22 (k101 : Int32 → Int32 → fx_Mem → Prop) (Q : fx_Mem → Prop) (n : Nat) (x1 : Int32) (x2 : Int32) (y3 : Int64) (x5 : Int32) (x6 : Int32) (M : fx_Mem) : Prop :=
  fx_lp (α := Int32 × Int32 × Int64 × Int32 × Int32 × fx_Mem) (fun k a => wb_X3_divide_4_22 (fun x1 x2 y3 x5 x6 M => k (x1, x2, y3, x5, x6, M)) k101 Q a.1 a.2.1 a.2.2.1 a.2.2.2.1 a.2.2.2.2.1 a.2.2.2.2.2) n (x1, x2, y3, x5, x6, M)
set_option maxHeartbeats 4000000 in
theorem tl_X3_divide_4_22 {g : fx_Geo} {p : Program} {l : Launch} {e : Env} {s : State} {m : MethodId} {args : Array Value} {below : List Frame} {meth : Method} {c : Code} (C : fx_Cx g p s m args meth c RX3 cX3_divide 9 none) (k101 : Int32 → Int32 → fx_Mem → Prop) (Q : fx_Mem → Prop) (hk101 : ∀ (x2 : Int32) (x5 : Int32) (M : fx_Mem), k101 x2 x5 M → ∀ (H : Heap) (locs : List Loc) (ls : Array Slot), fx_H g s M H locs → lv_has ls 9 [(0, .ref (fx_a g 4)), (2, .int x2), (5, .int x5)] → W p l e rm_X3_divide_4 s m args below meth c H locs 0 0 (MQ below (va_Qv Q (fx_Pw g) (fx_A g)) args s 0 0 (fx_A g)) (F0 m 101 ls [])) : ∀ (n : Nat) (x1 : Int32) (x2 : Int32) (y3 : Int64) (x5 : Int32) (x6 : Int32) (M : fx_Mem), wl_X3_divide_4_22 k101 Q n x1 x2 y3 x5 x6 M → ∀ (H : Heap) (locs : List Loc) (ls : Array Slot), fx_H g s M H locs → lv_has ls 9 [(0, .ref (fx_a g 4)), (1, .int x1), (2, .int x2), (3, .long y3), (5, .int x5), (6, .int x6)] → W p l e rm_X3_divide_4 s m args below meth c H locs 0 0 (MQ below (va_Qv Q (fx_Pw g) (fx_A g)) args s 0 0 (fx_A g)) (F0 m 22 ls []) := by
  intro n
  induction n with
  | zero => intro x1 x2 y3 x5 x6 M h; exact False.elim h
  | succ n ih => intro x1 x2 y3 x5 x6 M h  H locs ls hH hl; exact tb_X3_divide_4_22 C (wl_X3_divide_4_22 k101 Q n) k101 Q ih hk101 x1 x2 y3 x5 x6 M h  H locs ls hH hl
def wb_X3_divide_4_101 (Q : fx_Mem → Prop) (x2 : Int32) (x5 : Int32) (M : fx_Mem) : Prop :=
  wp_X3_giveOut_4 x5 x2 M (fun M1 => Q M1)
set_option maxHeartbeats 4000000 in
set_option maxRecDepth 100000 in
theorem tb_X3_divide_4_101 {g : fx_Geo} {p : Program} {l : Launch} {e : Env} {s : State} {m : MethodId} {args : Array Value} {below : List Frame} {meth : Method} {c : Code} (C : fx_Cx g p s m args meth c RX3 cX3_divide 9 none) (Q : fx_Mem → Prop) (x2 : Int32) (x5 : Int32) (M : fx_Mem) (h : wb_X3_divide_4_101 Q x2 x5 M) (H : Heap) (locs : List Loc) (ls : Array Slot) (hH : fx_H g s M H locs) (hl : lv_has ls 9 [(0, .ref (fx_a g 4)), (2, .int x2), (5, .int x5)]) : W p l e rm_X3_divide_4 s m args below meth c H locs 0 0 (MQ below (va_Qv Q (fx_Pw g) (fx_A g)) args s 0 0 (fx_A g)) (F0 m 101 ls []) := by
  obtain ⟨hx, hb, hr, hml, hown, hts, hlocks, hsz, hK, hG, hSt⟩ := id C
  unfold wb_X3_divide_4_101 at h
  refine lv_aload_n hx hb dX3_divide_101 rfl (lv_at hl 0 rfl) ?_
  refine lv_iload hx hb dX3_divide_102 (lv_at hl 2 rfl) ?_
  refine lv_iload_n hx hb dX3_divide_104 rfl (lv_at hl 1 rfl) ?_
  refine fx_cv hH (fx_runV (As := [.int x5, .int x2]) (rest := []) C hH (c_X3_giveOut_4 l C.2.2.2.2.2.2.2.2.2.1 x5 x2 M _ h) (fx_cwV 2 hts u_292 u_294 us_3 u_4 u_295 rfl rfl (by decide +kernel) ⟨(Nat.le_of_ble_eq_true rfl), (Nat.le_of_ble_eq_true rfl)⟩) (fx_w4 g M) rfl rfl hl.1 rfl (Nat.le_of_ble_eq_true rfl) dX3_divide_105 ⟨(Nat.le_of_ble_eq_true rfl), (Nat.le_of_ble_eq_true rfl)⟩) (fun M1 H locs h hH => ?_)
  exact fx_vret C hH h dX3_divide_108
def wb_X3_divide_4_17 (Q : fx_Mem → Prop) (x1 : Int32) (x2 : Int32) (y3 : Int64) (s0 : Int32) (M : fx_Mem) : Prop :=
  ∃ n22 : Nat, wl_X3_divide_4_22 (wb_X3_divide_4_101 Q) Q n22 x1 x2 y3 s0 0 M
set_option maxHeartbeats 4000000 in
set_option maxRecDepth 100000 in
theorem tb_X3_divide_4_17 {g : fx_Geo} {p : Program} {l : Launch} {e : Env} {s : State} {m : MethodId} {args : Array Value} {below : List Frame} {meth : Method} {c : Code} (C : fx_Cx g p s m args meth c RX3 cX3_divide 9 none) (Q : fx_Mem → Prop) (x1 : Int32) (x2 : Int32) (y3 : Int64) (s0 : Int32) (M : fx_Mem) (h : wb_X3_divide_4_17 Q x1 x2 y3 s0 M) (H : Heap) (locs : List Loc) (ls : Array Slot) (hH : fx_H g s M H locs) (hl : lv_has ls 9 [(0, .ref (fx_a g 4)), (1, .int x1), (2, .int x2), (3, .long y3)]) : W p l e rm_X3_divide_4 s m args below meth c H locs 0 0 (MQ below (va_Qv Q (fx_Pw g) (fx_A g)) args s 0 0 (fx_A g)) (F0 m 17 ls [.int s0]) := by
  obtain ⟨hx, hb, hr, hml, hown, hts, hlocks, hsz, hK, hG, hSt⟩ := id C
  unfold wb_X3_divide_4_17 at h
  refine lv_istore (lv' := [(5, .int s0), (0, .ref (fx_a g 4)), (1, .int x1), (2, .int x2), (3, .long y3)]) hx hb dX3_divide_17 hl (by decide) rfl (fun ls hl => ?_)
  refine lv_iconst (v := 0) hx hb dX3_divide_19 (by decide) ?_
  refine lv_istore (lv' := [(6, .int 0), (5, .int s0), (0, .ref (fx_a g 4)), (1, .int x1), (2, .int x2), (3, .long y3)]) hx hb dX3_divide_20 hl (by decide) rfl (fun ls hl => ?_)
  obtain ⟨n22, h⟩ := h
  exact tl_X3_divide_4_22 C (wb_X3_divide_4_101 Q) Q (tb_X3_divide_4_101 C Q ) n22 x1 x2 y3 s0 0 M h  H locs ls hH (lv_sub hl [2, 3, 4, 5, 1, 0] rfl)
def wp_X3_divide_4 (a1 : Int32) (a2 : Int32) (M : fx_Mem) (Q : fx_Mem → Prop) : Prop :=
  wp_X3_weightSum_4 a2 M (fun r2 M1 => ((lg_cmp r2 0 ≤ 0 → wb_X3_divide_4_17 Q a1 a2 r2 0 M1) ∧ (¬ lg_cmp r2 0 ≤ 0 → wb_X3_divide_4_17 Q a1 a2 r2 a1 M1)))
set_option maxHeartbeats 4000000 in
set_option maxRecDepth 100000 in
theorem c_X3_divide_4 (l : Launch) {g : fx_Geo} (hG : fx_Gd g) (a1 : Int32) (a2 : Int32) (M : fx_Mem) (Q : fx_Mem → Prop) (h : wp_X3_divide_4 a1 a2 M Q) : Met l yX3_divide (.code yX3_divide cX3_divide 9 none :: fx_U) rm_X3_divide_4 (va_Pc [.ref (fx_a g 4), .int a1, .int a2] (fx_At g M)) (va_Qv Q (fx_Pw g) (fx_A g)) 0 0 (fx_A g) := by
  refine Met.ofW (cc := cX3_divide) (maxL := 9) (ret := none) (by decide +kernel) rfl ?_
  intro p e s m args below meth c s₁ B hml hv
  obtain ⟨rfl, hv⟩ := hv
  have hts := atoms_spec (ws := .code yX3_divide cX3_divide 9 none :: fx_U) B.pre
  obtain ⟨C, hH⟩ := fx_body (own := RX3) B hml rfl (fun w hw => hts w (List.mem_cons_of_mem _ hw)) hG hv
  replace hts := fun w hw => hts w (List.mem_cons_of_mem _ hw)
  obtain ⟨hx, hb, hr, -, hown, -, hlocks, hsz, hK, -, hSt⟩ := id C
  have hl := lv_entry ([.ref (fx_a g 4), .int a1, .int a2]) (n := 9) (Nat.le_of_ble_eq_true rfl)
  rw [lg_entry_eq]
  generalize (lg_sl ([.ref (fx_a g 4), .int a1, .int a2]) ++ List.replicate (9 - (lg_sl ([.ref (fx_a g 4), .int a1, .int a2])).length) Slot.unset).toArray = ls at hl ⊢
  have hl : lv_has ls 9 [(0, .ref (fx_a g 4)), (1, .int a1), (2, .int a2)] := hl
  obtain ⟨H, eH⟩ : ∃ H : Heap, H = s.heap := ⟨_, rfl⟩
  obtain ⟨locs, elocs⟩ : ∃ q : List Loc, q = [] := ⟨_, rfl⟩
  rw [← eH, ← elocs] at hH
  show W p l e rm_X3_divide_4 s m _ below meth c s.heap [] 0 0 _ _
  rw [← eH, ← elocs]
  unfold wp_X3_divide_4 at h
  refine lv_aload_n hx hb dX3_divide_0 rfl (lv_at hl 0 rfl) ?_
  refine lv_iload_n hx hb dX3_divide_1 rfl (lv_at hl 2 rfl) ?_
  refine fx_cl hH (fx_runV (As := [.int a2]) (rest := []) C hH (c_X3_weightSum_4 l C.2.2.2.2.2.2.2.2.2.1 a2 M _ h) (fx_cwV 1 hts u_288 u_289 u_290 u_4 u_291 rfl rfl (by decide +kernel) ⟨(Nat.le_of_ble_eq_true rfl), (Nat.le_of_ble_eq_true rfl)⟩) (fx_w4 g M) rfl rfl hl.1 rfl (Nat.le_of_ble_eq_true rfl) dX3_divide_2 ⟨(Nat.le_of_ble_eq_true rfl), (Nat.le_of_ble_eq_true rfl)⟩) (fun r2 M1 H locs h hH => ?_)
  refine lv_lstore_n (lv' := [(3, .long r2), (0, .ref (fx_a g 4)), (1, .int a1), (2, .int a2)]) hx hb dX3_divide_5 rfl hl (by decide) rfl (fun ls hl => ?_)
  refine lv_lload_n hx hb dX3_divide_6 rfl (lv_at hl 0 rfl) ?_
  refine lv_lconst (v := 0) hx hb dX3_divide_7 (by decide) ?_
  refine W.lcmp hx hb dX3_divide_8 ?_
  refine lv_if_le (tgt := 16) hx hb dX3_divide_9 (by decide) (fun c3 => ?_) (fun c3 => ?_)
  · replace h := h.1 c3
    refine lv_iconst (v := 0) hx hb dX3_divide_16 (by decide) ?_
    exact tb_X3_divide_4_17 C Q  a1 a2 r2 0 M1 h  H locs ls hH (lv_sub hl [1, 2, 3, 0] rfl)
  · replace h := h.2 c3
    refine lv_iload_n hx hb dX3_divide_12 rfl (lv_at hl 2 rfl) ?_
    refine lv_goto (tgt := 17) hx hb dX3_divide_13 (by decide) ?_
    exact tb_X3_divide_4_17 C Q  a1 a2 r2 a1 M1 h  H locs ls hH (lv_sub hl [1, 2, 3, 0] rfl)
/-! FlexLayout$MainAxis.resize(LFlexLayout$Container;LFlexLayout$Arrangement;LFlexLayout$Division;IZ)I (6, 1, 5, 4) -/
def rm_X5_resize_6_1_5_4 : Room := { frames := 1, cells := 0, slots := 0, locals := 25 }
def wb_X5_resize_6_1_5_4_130 (k16 : Int32 → Int32 → Int32 → Int32 → Int32 → fx_Mem → Prop) (Q : Int32 → fx_Mem → Prop) (x4 : Int32) (x5 : Int32) (x6 : Int32) (x7 : Int32) (x8 : Int32) (M : fx_Mem) : Prop :=
  ∀ v1 : Int32, v1 = x8 + 1 → k16 x4 x5 x6 x7 v1 M
set_option maxHeartbeats 4000000 in
set_option maxRecDepth 100000 in
theorem tb_X5_resize_6_1_5_4_130 {g : fx_Geo} {p : Program} {l : Launch} {e : Env} {s : State} {m : MethodId} {args : Array Value} {below : List Frame} {meth : Method} {c : Code} (C : fx_Cx g p s m args meth c RX5 cX5_resize 12 (some .int)) (k16 : Int32 → Int32 → Int32 → Int32 → Int32 → fx_Mem → Prop) (Q : Int32 → fx_Mem → Prop) (hk16 : ∀ (x4 : Int32) (x5 : Int32) (x6 : Int32) (x7 : Int32) (x8 : Int32) (M : fx_Mem), k16 x4 x5 x6 x7 x8 M → ∀ (H : Heap) (locs : List Loc) (ls : Array Slot), fx_H g s M H locs → lv_has ls 12 [(0, .ref (fx_a g 6)), (1, .ref (fx_a g 1)), (2, .ref (fx_a g 5)), (3, .ref (fx_a g 4)), (4, .int x4), (5, .int x5), (6, .int x6), (7, .int x7), (8, .int x8)] → W p l e rm_X5_resize_6_1_5_4 s m args below meth c H locs 0 0 (MQ below (va_Qi Q (fx_Pw g) (fx_A g)) args s 0 0 (fx_A g)) (F0 m 16 ls [])) (x4 : Int32) (x5 : Int32) (x6 : Int32) (x7 : Int32) (x8 : Int32) (M : fx_Mem) (h : wb_X5_resize_6_1_5_4_130 k16 Q x4 x5 x6 x7 x8 M) (H : Heap) (locs : List Loc) (ls : Array Slot) (hH : fx_H g s M H locs) (hl : lv_has ls 12 [(0, .ref (fx_a g 6)), (1, .ref (fx_a g 1)), (2, .ref (fx_a g 5)), (3, .ref (fx_a g 4)), (4, .int x4), (5, .int x5), (6, .int x6), (7, .int x7), (8, .int x8)]) : W p l e rm_X5_resize_6_1_5_4 s m args below meth c H locs 0 0 (MQ below (va_Qi Q (fx_Pw g) (fx_A g)) args s 0 0 (fx_A g)) (F0 m 130 ls []) := by
  obtain ⟨hx, hb, hr, hml, hown, hts, hlocks, hsz, hK, hG, hSt⟩ := id C
  unfold wb_X5_resize_6_1_5_4_130 at h
  obtain ⟨v1, ev1⟩ : ∃ z : Int32, z = x8 + 1 := ⟨_, rfl⟩
  refine lv_iinc (v := v1) (lv' := [(8, .int v1), (0, .ref (fx_a g 6)), (1, .ref (fx_a g 1)), (2, .ref (fx_a g 5)), (3, .ref (fx_a g 4)), (4, .int x4), (5, .int x5), (6, .int x6), (7, .int x7)]) hx hb dX5_resize_130 hl (k := 8) rfl (by rw [ev1]; rfl) (by decide) rfl (fun ls hl => ?_)
  replace h := h v1 ev1
  refine lv_goto (tgt := 16) hx hb dX5_resize_133 (by decide) ?_
  exact hk16 x4 x5 x6 x7 v1 M h  H locs ls hH (lv_sub hl [1, 2, 3, 4, 5, 6, 7, 8, 0] rfl)
def wb_X5_resize_6_1_5_4_83 (k16 : Int32 → Int32 → Int32 → Int32 → Int32 → fx_Mem → Prop) (Q : Int32 → fx_Mem → Prop) (x4 : Int32) (x5 : Int32) (x6 : Int32) (x7 : Int32) (x8 : Int32) (x9 : Int32) (s0 : Int32) (s1 : Int32) (M : fx_Mem) : Prop :=
  ∀ v1 : Int32, v1 = s1 + s0 → wp_X1_clamp_1 x9 v1 M (fun r3 M2 => vp_in x9 20 ∧ ∀ M5 : fx_Mem, M5 = fx_sa M2 20 x9.toNatClampNeg r3 → vp_in x9 20 ∧ vp_in x9 20 ∧ ∀ M8 : fx_Mem, M8 = fx_sa M5 24 x9.toNatClampNeg ((M5.2.1 20 x9.toNatClampNeg) - v1) → vp_in x9 20 ∧ ∀ v10 : Int32, v10 = x7 + (M8.2.1 24 x9.toNatClampNeg) → wb_X5_resize_6_1_5_4_130 k16 Q x4 x5 x6 v10 x8 M8)
set_option maxHeartbeats 4000000 in
set_option maxRecDepth 100000 in
theorem tb_X5_resize_6_1_5_4_83 {g : fx_Geo} {p : Program} {l : Launch} {e : Env} {s : State} {m : MethodId} {args : Array Value} {below : List Frame} {meth : Method} {c : Code} (C : fx_Cx g p s m args meth c RX5 cX5_resize 12 (some .int)) (k16 : Int32 → Int32 → Int32 → Int32 → Int32 → fx_Mem → Prop) (Q : Int32 → fx_Mem → Prop) (hk16 : ∀ (x4 : Int32) (x5 : Int32) (x6 : Int32) (x7 : Int32) (x8 : Int32) (M : fx_Mem), k16 x4 x5 x6 x7 x8 M → ∀ (H : Heap) (locs : List Loc) (ls : Array Slot), fx_H g s M H locs → lv_has ls 12 [(0, .ref (fx_a g 6)), (1, .ref (fx_a g 1)), (2, .ref (fx_a g 5)), (3, .ref (fx_a g 4)), (4, .int x4), (5, .int x5), (6, .int x6), (7, .int x7), (8, .int x8)] → W p l e rm_X5_resize_6_1_5_4 s m args below meth c H locs 0 0 (MQ below (va_Qi Q (fx_Pw g) (fx_A g)) args s 0 0 (fx_A g)) (F0 m 16 ls [])) (x4 : Int32) (x5 : Int32) (x6 : Int32) (x7 : Int32) (x8 : Int32) (x9 : Int32) (s0 : Int32) (s1 : Int32) (M : fx_Mem) (h : wb_X5_resize_6_1_5_4_83 k16 Q x4 x5 x6 x7 x8 x9 s0 s1 M) (H : Heap) (locs : List Loc) (ls : Array Slot) (hH : fx_H g s M H locs) (hl : lv_has ls 12 [(0, .ref (fx_a g 6)), (1, .ref (fx_a g 1)), (2, .ref (fx_a g 5)), (3, .ref (fx_a g 4)), (4, .int x4), (5, .int x5), (6, .int x6), (7, .int x7), (8, .int x8), (9, .int x9)]) : W p l e rm_X5_resize_6_1_5_4 s m args below meth c H locs 0 0 (MQ below (va_Qi Q (fx_Pw g) (fx_A g)) args s 0 0 (fx_A g)) (F0 m 83 ls [.int s0, .int s1]) := by
  obtain ⟨hx, hb, hr, hml, hown, hts, hlocks, hsz, hK, hG, hSt⟩ := id C
  unfold wb_X5_resize_6_1_5_4_83 at h
  refine lv_iadd hx hb dX5_resize_83 ?_
  refine lv_topi (fun v1 ev1 => ?_)
  replace h := h v1 ev1
  refine lv_istore (lv' := [(11, .int v1), (0, .ref (fx_a g 6)), (1, .ref (fx_a g 1)), (2, .ref (fx_a g 5)), (3, .ref (fx_a g 4)), (4, .int x4), (5, .int x5), (6, .int x6), (7, .int x7), (8, .int x8), (9, .int x9)]) hx hb dX5_resize_84 hl (by decide) rfl (fun ls hl => ?_)
  refine lv_aload_n hx hb dX5_resize_86 rfl (lv_at hl 1 rfl) ?_
  refine fx_get C hH (fx_w6 g M) rfl in_X5 0 (by decide) u_148 rfl rfl dX5_resize_87 ?_
  refine lv_iload hx hb dX5_resize_90 (lv_at hl 10 rfl) ?_
  refine lv_aload_n hx hb dX5_resize_92 rfl (lv_at hl 2 rfl) ?_
  refine lv_iload hx hb dX5_resize_93 (lv_at hl 10 rfl) ?_
  refine lv_iload hx hb dX5_resize_95 (lv_at hl 0 rfl) ?_
  refine fx_ci hH (fx_runV (As := [.int x9, .int v1]) (rest := [.int x9, .ref (fx_a g 20)]) C hH (c_X1_clamp_1 l C.2.2.2.2.2.2.2.2.2.1 x9 v1 M _ h) (fx_cwV 2 hts u_361 u_253 u_254 u_2 u_255 rfl rfl (by decide +kernel) ⟨(Nat.le_of_ble_eq_true rfl), (Nat.le_of_ble_eq_true rfl)⟩) (fx_w1 g M) rfl rfl hl.1 rfl (Nat.le_of_ble_eq_true rfl) dX5_resize_97 ⟨(Nat.le_of_ble_eq_true rfl), (Nat.le_of_ble_eq_true rfl)⟩) (fun r3 M2 H locs h hH => ?_)
  obtain ⟨hi4, h⟩ := h
  refine fx_iast (j := x9.toNatClampNeg) (M' := fx_sa M2 20 x9.toNatClampNeg r3) C hH 20 rfl (fx_w20 g M2) (fx_p20 g M2 _) hi4 dX5_resize_100 (fun H locs hH => ?_)
  generalize eM5 : fx_sa M2 20 x9.toNatClampNeg r3 = M5 at hH
  replace h := h M5 eM5.symm
  refine lv_aload_n hx hb dX5_resize_101 rfl (lv_at hl 1 rfl) ?_
  refine fx_get C hH (fx_w6 g M5) rfl in_X5 4 (by decide) u_156 rfl rfl dX5_resize_102 ?_
  refine lv_iload hx hb dX5_resize_105 (lv_at hl 10 rfl) ?_
  refine lv_aload_n hx hb dX5_resize_107 rfl (lv_at hl 1 rfl) ?_
  refine fx_get C hH (fx_w6 g M5) rfl in_X5 0 (by decide) u_148 rfl rfl dX5_resize_108 ?_
  refine lv_iload hx hb dX5_resize_111 (lv_at hl 10 rfl) ?_
  obtain ⟨hi6, h⟩ := h
  refine fx_iald (j := x9.toNatClampNeg) C hH 20 (fx_w20 g M5) rfl hi6 dX5_resize_113 ?_
  refine lv_iload hx hb dX5_resize_114 (lv_at hl 0 rfl) ?_
  refine lv_isub hx hb dX5_resize_116 ?_
  obtain ⟨hi7, h⟩ := h
  refine fx_iast (j := x9.toNatClampNeg) (M' := fx_sa M5 24 x9.toNatClampNeg ((M5.2.1 20 x9.toNatClampNeg) - v1)) C hH 24 rfl (fx_w24 g M5) (fx_p24 g M5 _) hi7 dX5_resize_117 (fun H locs hH => ?_)
  generalize eM8 : fx_sa M5 24 x9.toNatClampNeg ((M5.2.1 20 x9.toNatClampNeg) - v1) = M8 at hH
  replace h := h M8 eM8.symm
  refine lv_iload hx hb dX5_resize_118 (lv_at hl 8 rfl) ?_
  refine lv_aload_n hx hb dX5_resize_120 rfl (lv_at hl 1 rfl) ?_
  refine fx_get C hH (fx_w6 g M8) rfl in_X5 4 (by decide) u_156 rfl rfl dX5_resize_121 ?_
  refine lv_iload hx hb dX5_resize_124 (lv_at hl 10 rfl) ?_
  obtain ⟨hi9, h⟩ := h
  refine fx_iald (j := x9.toNatClampNeg) C hH 24 (fx_w24 g M8) rfl hi9 dX5_resize_126 ?_
  refine lv_iadd hx hb dX5_resize_127 ?_
  refine lv_topi (fun v10 ev10 => ?_)
  replace h := h v10 ev10
  refine lv_istore (lv' := [(7, .int v10), (11, .int v1), (0, .ref (fx_a g 6)), (1, .ref (fx_a g 1)), (2, .ref (fx_a g 5)), (3, .ref (fx_a g 4)), (4, .int x4), (5, .int x5), (6, .int x6), (8, .int x8), (9, .int x9)]) hx hb dX5_resize_128 hl (by decide) rfl (fun ls hl => ?_)
  exact tb_X5_resize_6_1_5_4_130 C k16 Q hk16 x4 x5 x6 v10 x8 M8 h  H locs ls hH (lv_sub hl [2, 3, 4, 5, 6, 7, 8, 0, 9] rfl)
def wb_X5_resize_6_1_5_4_16 (k16 : Int32 → Int32 → Int32 → Int32 → Int32 → fx_Mem → Prop) (Q : Int32 → fx_Mem → Prop) (x4 : Int32) (x5 : Int32) (x6 : Int32) (x7 : Int32) (x8 : Int32) (M : fx_Mem) : Prop :=
  vp_in (x4 + 1) 21 ∧ ((M.2.1 19 ((x4 + 1).toNatClampNeg) ≤ x8 → Q x7 M) ∧ (¬ M.2.1 19 ((x4 + 1).toNatClampNeg) ≤ x8 → vp_in x8 20 ∧ ∀ v4 : Int32, v4 = M.2.1 18 x8.toNatClampNeg → vp_in v4 20 ∧ ((M.2.1 25 v4.toNatClampNeg = 0 → vp_in (x8 - x6) 20 ∧ ∀ v8 : Int32, v8 = M.2.1 16 ((x8 - x6).toNatClampNeg) → vp_in v4 20 ∧ ((x5 = 0 → wb_X5_resize_6_1_5_4_83 k16 Q x4 x5 x6 x7 x8 v4 (-v8) (M.2.1 (57 + v4.toNatClampNeg) 0) M) ∧ (¬ x5 = 0 → wb_X5_resize_6_1_5_4_83 k16 Q x4 x5 x6 x7 x8 v4 v8 (M.2.1 (57 + v4.toNatClampNeg) 0) M))) ∧ (¬ M.2.1 25 v4.toNatClampNeg = 0 → wb_X5_resize_6_1_5_4_130 k16 Q x4 x5 x6 x7 x8 M))))
set_option maxHeartbeats 4000000 in
set_option maxRecDepth 100000 in
theorem tb_X5_resize_6_1_5_4_16 {g : fx_Geo} {p : Program} {l : Launch} {e : Env} {s : State} {m : MethodId} {args : Array Value} {below : List Frame} {meth : Method} {c : Code} (C : fx_Cx g p s m args meth c RX5 cX5_resize 12 (some .int)) (k16 : Int32 → Int32 → Int32 → Int32 → Int32 → fx_Mem → Prop) (Q : Int32 → fx_Mem → Prop) (hk16 : ∀ (x4 : Int32) (x5 : Int32) (x6 : Int32) (x7 : Int32) (x8 : Int32) (M : fx_Mem), k16 x4 x5 x6 x7 x8 M → ∀ (H : Heap) (locs : List Loc) (ls : Array Slot), fx_H g s M H locs → lv_has ls 12 [(0, .ref (fx_a g 6)), (1, .ref (fx_a g 1)), (2, .ref (fx_a g 5)), (3, .ref (fx_a g 4)), (4, .int x4), (5, .int x5), (6, .int x6), (7, .int x7), (8, .int x8)] → W p l e rm_X5_resize_6_1_5_4 s m args below meth c H locs 0 0 (MQ below (va_Qi Q (fx_Pw g) (fx_A g)) args s 0 0 (fx_A g)) (F0 m 16 ls [])) (x4 : Int32) (x5 : Int32) (x6 : Int32) (x7 : Int32) (x8 : Int32) (M : fx_Mem) (h : wb_X5_resize_6_1_5_4_16 k16 Q x4 x5 x6 x7 x8 M) (H : Heap) (locs : List Loc) (ls : Array Slot) (hH : fx_H g s M H locs) (hl : lv_has ls 12 [(0, .ref (fx_a g 6)), (1, .ref (fx_a g 1)), (2, .ref (fx_a g 5)), (3, .ref (fx_a g 4)), (4, .int x4), (5, .int x5), (6, .int x6), (7, .int x7), (8, .int x8)]) : W p l e rm_X5_resize_6_1_5_4 s m args below meth c H locs 0 0 (MQ below (va_Qi Q (fx_Pw g) (fx_A g)) args s 0 0 (fx_A g)) (F0 m 16 ls []) := by
  obtain ⟨hx, hb, hr, hml, hown, hts, hlocks, hsz, hK, hG, hSt⟩ := id C
  unfold wb_X5_resize_6_1_5_4_16 at h
  refine lv_iload hx hb dX5_resize_16 (lv_at hl 8 rfl) ?_
  refine lv_aload_n hx hb dX5_resize_18 rfl (lv_at hl 2 rfl) ?_
  refine fx_get C hH (fx_w5 g M) rfl in_X0 1 (by decide) u_130 rfl rfl dX5_resize_19 ?_
  refine lv_iload hx hb dX5_resize_22 (lv_at hl 4 rfl) ?_
  refine lv_iconst (v := 1) hx hb dX5_resize_24 (by decide) ?_
  refine lv_iadd hx hb dX5_resize_25 ?_
  obtain ⟨hi1, h⟩ := h
  refine fx_iald (j := (x4 + 1).toNatClampNeg) C hH 19 (fx_w19 g M) rfl hi1 dX5_resize_26 ?_
  refine lv_icmp_ge (tgt := 136) hx hb dX5_resize_27 (by decide) (fun c2 => ?_) (fun c2 => ?_)
  · replace h := h.1 c2
    refine lv_iload hx hb dX5_resize_136 (lv_at hl 7 rfl) ?_
    exact fx_iret C hH h dX5_resize_138
  · replace h := h.2 c2
    refine lv_aload_n hx hb dX5_resize_30 rfl (lv_at hl 2 rfl) ?_
    refine fx_get C hH (fx_w5 g M) rfl in_X0 0 (by decide) u_126 rfl rfl dX5_resize_31 ?_
    refine lv_iload hx hb dX5_resize_34 (lv_at hl 8 rfl) ?_
    obtain ⟨hi3, h⟩ := h
    refine fx_iald (j := x8.toNatClampNeg) C hH 18 (fx_w18 g M) rfl hi3 dX5_resize_36 ?_
    refine lv_topi (fun v4 ev4 => ?_)
    replace h := h v4 ev4
    refine lv_istore (lv' := [(9, .int v4), (0, .ref (fx_a g 6)), (1, .ref (fx_a g 1)), (2, .ref (fx_a g 5)), (3, .ref (fx_a g 4)), (4, .int x4), (5, .int x5), (6, .int x6), (7, .int x7), (8, .int x8)]) hx hb dX5_resize_37 hl (by decide) rfl (fun ls hl => ?_)
    refine lv_aload_n hx hb dX5_resize_39 rfl (lv_at hl 1 rfl) ?_
    refine fx_get C hH (fx_w6 g M) rfl in_X5 5 (by decide) u_157 rfl rfl dX5_resize_40 ?_
    refine lv_iload hx hb dX5_resize_43 (lv_at hl 0 rfl) ?_
    obtain ⟨hi5, h⟩ := h
    refine fx_zald (j := v4.toNatClampNeg) C hH 25 (fx_w25 g M) rfl hi5 dX5_resize_45 ?_
    refine lv_if_ne (tgt := 130) hx hb dX5_resize_46 (by decide) (fun c6 => ?_) (fun c6 => ?_)
    · replace h := h.2 c6
      exact tb_X5_resize_6_1_5_4_130 C k16 Q hk16 x4 x5 x6 x7 x8 M h  H locs ls hH (lv_sub hl [1, 2, 3, 4, 5, 6, 7, 8, 9] rfl)
    · replace h := h.1 c6
      refine lv_aload_n hx hb dX5_resize_49 rfl (lv_at hl 4 rfl) ?_
      refine fx_get C hH (fx_w4 g M) rfl in_X3 1 (by decide) u_107 rfl rfl dX5_resize_50 ?_
      refine lv_iload hx hb dX5_resize_53 (lv_at hl 9 rfl) ?_
      refine lv_iload hx hb dX5_resize_55 (lv_at hl 7 rfl) ?_
      refine lv_isub hx hb dX5_resize_57 ?_
      obtain ⟨hi7, h⟩ := h
      refine fx_iald (j := (x8 - x6).toNatClampNeg) C hH 16 (fx_w16 g M) rfl hi7 dX5_resize_58 ?_
      refine lv_topi (fun v8 ev8 => ?_)
      replace h := h v8 ev8
      refine lv_istore (lv' := [(10, .int v8), (9, .int v4), (0, .ref (fx_a g 6)), (1, .ref (fx_a g 1)), (2, .ref (fx_a g 5)), (3, .ref (fx_a g 4)), (4, .int x4), (5, .int x5), (6, .int x6), (7, .int x7), (8, .int x8)]) hx hb dX5_resize_59 hl (by decide) rfl (fun ls hl => ?_)
      refine lv_aload_n hx hb dX5_resize_61 rfl (lv_at hl 3 rfl) ?_
      refine fx_get C hH (fx_w1 g M) rfl in_X1 5 (by decide) u_58 rfl rfl dX5_resize_62 ?_
      refine lv_iload hx hb dX5_resize_65 (lv_at hl 1 rfl) ?_
      obtain ⟨hi9, h⟩ := h
      have hj10 : v4.toNatClampNeg < 20 := Nat.not_le.mp fun q => hi9 (Or.inr q)
      refine fx_aald C hH 11 (fx_w11 g M) hi9 dX5_resize_67 ?_
      refine lv_iconst (v := 0) hx hb dX5_resize_68 (by decide) ?_
      refine fx_iald (j := 0) C hH (57 + v4.toNatClampNeg) (fx_r1 g M v4.toNatClampNeg hj10) (by decide) (by unfold vp_in; decide) dX5_resize_69 ?_
      refine lv_iload hx hb dX5_resize_70 (lv_at hl 7 rfl) ?_
      refine lv_if_eq (tgt := 80) hx hb dX5_resize_72 (by decide) (fun c11 => ?_) (fun c11 => ?_)
      · replace h := h.1 c11
        refine lv_iload hx hb dX5_resize_80 (lv_at hl 0 rfl) ?_
        refine lv_ineg hx hb dX5_resize_82 ?_
        exact tb_X5_resize_6_1_5_4_83 C k16 Q hk16 x4 x5 x6 x7 x8 v4 (-v8) (M.2.1 (57 + v4.toNatClampNeg) 0) M h  H locs ls hH (lv_sub hl [2, 3, 4, 5, 6, 7, 8, 9, 10, 1] rfl)
      · replace h := h.2 c11
        refine lv_iload hx hb dX5_resize_75 (lv_at hl 0 rfl) ?_
        refine lv_goto (tgt := 83) hx hb dX5_resize_77 (by decide) ?_
        exact tb_X5_resize_6_1_5_4_83 C k16 Q hk16 x4 x5 x6 x7 x8 v4 v8 (M.2.1 (57 + v4.toNatClampNeg) 0) M h  H locs ls hH (lv_sub hl [2, 3, 4, 5, 6, 7, 8, 9, 10, 1] rfl)
def wl_X5_resize_6_1_5_4_16 (Q : Int32 → fx_Mem → Prop) (n : Nat) (x4 : Int32) (x5 : Int32) (x6 : Int32) (x7 : Int32) (x8 : Int32) (M : fx_Mem) : Prop :=
  fx_lp (α := Int32 × Int32 × Int32 × Int32 × Int32 × fx_Mem) (fun k a => wb_X5_resize_6_1_5_4_16 (fun x4 x5 x6 x7 x8 M => k (x4, x5, x6, x7, x8, M)) Q a.1 a.2.1 a.2.2.1 a.2.2.2.1 a.2.2.2.2.1 a.2.2.2.2.2) n (x4, x5, x6, x7, x8, M)
set_option maxHeartbeats 4000000 in
theorem tl_X5_resize_6_1_5_4_16 {g : fx_Geo} {p : Program} {l : Launch} {e : Env} {s : State} {m : MethodId} {args : Array Value} {below : List Frame} {meth : Method} {c : Code} (C : fx_Cx g p s m args meth c RX5 cX5_resize 12 (some .int)) (Q : Int32 → fx_Mem → Prop) : ∀ (n : Nat) (x4 : Int32) (x5 : Int32) (x6 : Int32) (x7 : Int32) (x8 : Int32) (M : fx_Mem), wl_X5_resize_6_1_5_4_16  Q n x4 x5 x6 x7 x8 M → ∀ (H : Heap) (locs : List Loc) (ls : Array Slot), fx_H g s M H locs → lv_has ls 12 [(0, .ref (fx_a g 6)), (1, .ref (fx_a g 1)), (2, .ref (fx_a g 5)), (3, .ref (fx_a g 4)), (4, .int x4), (5, .int x5), (6, .int x6), (7, .int x7), (8, .int x8)] → W p l e rm_X5_resize_6_1_5_4 s m args below meth c H locs 0 0 (MQ below (va_Qi Q (fx_Pw g) (fx_A g)) args s 0 0 (fx_A g)) (F0 m 16 ls []) := by
  intro n
  induction n with
  | zero => intro x4 x5 x6 x7 x8 M h; exact False.elim h
  | succ n ih => intro x4 x5 x6 x7 x8 M h  H locs ls hH hl; exact tb_X5_resize_6_1_5_4_16 C (wl_X5_resize_6_1_5_4_16  Q n) Q ih x4 x5 x6 x7 x8 M h  H locs ls hH hl
def wp_X5_resize_6_1_5_4 (a4 : Int32) (a5 : Int32) (M : fx_Mem) (Q : Int32 → fx_Mem → Prop) : Prop :=
  vp_in a4 21 ∧ ∀ v2 : Int32, v2 = M.2.1 19 a4.toNatClampNeg → ∃ n16 : Nat, wl_X5_resize_6_1_5_4_16 Q n16 a4 a5 v2 0 v2 M
set_option maxHeartbeats 4000000 in
set_option maxRecDepth 100000 in
theorem c_X5_resize_6_1_5_4 (l : Launch) {g : fx_Geo} (hG : fx_Gd g) (a4 : Int32) (a5 : Int32) (M : fx_Mem) (Q : Int32 → fx_Mem → Prop) (h : wp_X5_resize_6_1_5_4 a4 a5 M Q) : Met l yX5_resize (.code yX5_resize cX5_resize 12 (some .int) :: fx_U) rm_X5_resize_6_1_5_4 (va_Pc [.ref (fx_a g 6), .ref (fx_a g 1), .ref (fx_a g 5), .ref (fx_a g 4), .int a4, .int a5] (fx_At g M)) (va_Qi Q (fx_Pw g) (fx_A g)) 0 0 (fx_A g) := by
  refine Met.ofW (cc := cX5_resize) (maxL := 12) (ret := (some .int)) (by decide +kernel) rfl ?_
  intro p e s m args below meth c s₁ B hml hv
  obtain ⟨rfl, hv⟩ := hv
  have hts := atoms_spec (ws := .code yX5_resize cX5_resize 12 (some .int) :: fx_U) B.pre
  obtain ⟨C, hH⟩ := fx_body (own := RX5) B hml rfl (fun w hw => hts w (List.mem_cons_of_mem _ hw)) hG hv
  replace hts := fun w hw => hts w (List.mem_cons_of_mem _ hw)
  obtain ⟨hx, hb, hr, -, hown, -, hlocks, hsz, hK, -, hSt⟩ := id C
  have hl := lv_entry ([.ref (fx_a g 6), .ref (fx_a g 1), .ref (fx_a g 5), .ref (fx_a g 4), .int a4, .int a5]) (n := 12) (Nat.le_of_ble_eq_true rfl)
  rw [lg_entry_eq]
  generalize (lg_sl ([.ref (fx_a g 6), .ref (fx_a g 1), .ref (fx_a g 5), .ref (fx_a g 4), .int a4, .int a5]) ++ List.replicate (12 - (lg_sl ([.ref (fx_a g 6), .ref (fx_a g 1), .ref (fx_a g 5), .ref (fx_a g 4), .int a4, .int a5])).length) Slot.unset).toArray = ls at hl ⊢
  have hl : lv_has ls 12 [(0, .ref (fx_a g 6)), (1, .ref (fx_a g 1)), (2, .ref (fx_a g 5)), (3, .ref (fx_a g 4)), (4, .int a4), (5, .int a5)] := hl
  obtain ⟨H, eH⟩ : ∃ H : Heap, H = s.heap := ⟨_, rfl⟩
  obtain ⟨locs, elocs⟩ : ∃ q : List Loc, q = [] := ⟨_, rfl⟩
  rw [← eH, ← elocs] at hH
  show W p l e rm_X5_resize_6_1_5_4 s m _ below meth c s.heap [] 0 0 _ _
  rw [← eH, ← elocs]
  unfold wp_X5_resize_6_1_5_4 at h
  refine lv_aload_n hx hb dX5_resize_0 rfl (lv_at hl 2 rfl) ?_
  refine fx_get C hH (fx_w5 g M) rfl in_X0 1 (by decide) u_130 rfl rfl dX5_resize_1 ?_
  refine lv_iload hx hb dX5_resize_4 (lv_at hl 4 rfl) ?_
  obtain ⟨hi1, h⟩ := h
  refine fx_iald (j := a4.toNatClampNeg) C hH 19 (fx_w19 g M) rfl hi1 dX5_resize_6 ?_
  refine lv_topi (fun v2 ev2 => ?_)
  replace h := h v2 ev2
  refine lv_istore (lv' := [(6, .int v2), (0, .ref (fx_a g 6)), (1, .ref (fx_a g 1)), (2, .ref (fx_a g 5)), (3, .ref (fx_a g 4)), (4, .int a4), (5, .int a5)]) hx hb dX5_resize_7 hl (by decide) rfl (fun ls hl => ?_)
  refine lv_iconst (v := 0) hx hb dX5_resize_9 (by decide) ?_
  refine lv_istore (lv' := [(7, .int 0), (6, .int v2), (0, .ref (fx_a g 6)), (1, .ref (fx_a g 1)), (2, .ref (fx_a g 5)), (3, .ref (fx_a g 4)), (4, .int a4), (5, .int a5)]) hx hb dX5_resize_10 hl (by decide) rfl (fun ls hl => ?_)
  refine lv_iload hx hb dX5_resize_12 (lv_at hl 1 rfl) ?_
  refine lv_istore (lv' := [(8, .int v2), (7, .int 0), (6, .int v2), (0, .ref (fx_a g 6)), (1, .ref (fx_a g 1)), (2, .ref (fx_a g 5)), (3, .ref (fx_a g 4)), (4, .int a4), (5, .int a5)]) hx hb dX5_resize_14 hl (by decide) rfl (fun ls hl => ?_)
  obtain ⟨n16, h⟩ := h
  exact tl_X5_resize_6_1_5_4_16 C Q  n16 a4 a5 v2 0 v2 M h  H locs ls hH (lv_sub hl [3, 4, 5, 6, 7, 8, 2, 1, 0] rfl)
/-! FlexLayout$MainAxis.freeze(LFlexLayout$Arrangement;II)V (6, 5) -/
def rm_X5_freeze_6_5 : Room := { frames := 0, cells := 0, slots := 0, locals := 0 }
def wb_X5_freeze_6_5_99 (k8 : Int32 → Int32 → Int32 → fx_Mem → Prop) (Q : fx_Mem → Prop) (x2 : Int32) (x3 : Int32) (x4 : Int32) (s0 : Int32) (s1 : Int32) (M : fx_Mem) : Prop :=
  vp_in s1 20 ∧ ∀ M2 : fx_Mem, M2 = fx_sa M 25 s1.toNatClampNeg (vp_nar .boolean s0) → ∀ v3 : Int32, v3 = x4 + 1 → k8 x2 x3 v3 M2
set_option maxHeartbeats 4000000 in
set_option maxRecDepth 100000 in
theorem tb_X5_freeze_6_5_99 {g : fx_Geo} {p : Program} {l : Launch} {e : Env} {s : State} {m : MethodId} {args : Array Value} {below : List Frame} {meth : Method} {c : Code} (C : fx_Cx g p s m args meth c RX5 cX5_freeze 7 none) (k8 : Int32 → Int32 → Int32 → fx_Mem → Prop) (Q : fx_Mem → Prop) (hk8 : ∀ (x2 : Int32) (x3 : Int32) (x4 : Int32) (M : fx_Mem), k8 x2 x3 x4 M → ∀ (H : Heap) (locs : List Loc) (ls : Array Slot), fx_H g s M H locs → lv_has ls 7 [(0, .ref (fx_a g 6)), (1, .ref (fx_a g 5)), (2, .int x2), (3, .int x3), (4, .int x4)] → W p l e rm_X5_freeze_6_5 s m args below meth c H locs 0 0 (MQ below (va_Qv Q (fx_Pw g) (fx_A g)) args s 0 0 (fx_A g)) (F0 m 8 ls [])) (x2 : Int32) (x3 : Int32) (x4 : Int32) (s0 : Int32) (s1 : Int32) (M : fx_Mem) (h : wb_X5_freeze_6_5_99 k8 Q x2 x3 x4 s0 s1 M) (H : Heap) (locs : List Loc) (ls : Array Slot) (hH : fx_H g s M H locs) (hl : lv_has ls 7 [(0, .ref (fx_a g 6)), (1, .ref (fx_a g 5)), (2, .int x2), (3, .int x3), (4, .int x4)]) : W p l e rm_X5_freeze_6_5 s m args below meth c H locs 0 0 (MQ below (va_Qv Q (fx_Pw g) (fx_A g)) args s 0 0 (fx_A g)) (F0 m 99 ls [.int s0, .int s1, .ref (fx_a g 25)]) := by
  obtain ⟨hx, hb, hr, hml, hown, hts, hlocks, hsz, hK, hG, hSt⟩ := id C
  unfold wb_X5_freeze_6_5_99 at h
  obtain ⟨hi1, h⟩ := h
  refine fx_zast (j := s1.toNatClampNeg) (M' := fx_sa M 25 s1.toNatClampNeg (vp_nar .boolean s0)) C hH 25 rfl (fx_w25 g M) (fx_p25 g M _) hi1 dX5_freeze_99 (fun H locs hH => ?_)
  generalize eM2 : fx_sa M 25 s1.toNatClampNeg (vp_nar .boolean s0) = M2 at hH
  replace h := h M2 eM2.symm
  obtain ⟨v3, ev3⟩ : ∃ z : Int32, z = x4 + 1 := ⟨_, rfl⟩
  refine lv_iinc (v := v3) (lv' := [(4, .int v3), (0, .ref (fx_a g 6)), (1, .ref (fx_a g 5)), (2, .int x2), (3, .int x3)]) hx hb dX5_freeze_100 hl (k := 4) rfl (by rw [ev3]; rfl) (by decide) rfl (fun ls hl => ?_)
  replace h := h v3 ev3
  refine lv_goto (tgt := 8) hx hb dX5_freeze_103 (by decide) ?_
  exact hk8 x2 x3 v3 M2 h  H locs ls hH (lv_sub hl [1, 2, 3, 4, 0] rfl)
def wb_X5_freeze_6_5_94 (k8 : Int32 → Int32 → Int32 → fx_Mem → Prop) (Q : fx_Mem → Prop) (x2 : Int32) (x3 : Int32) (x4 : Int32) (s0 : Int32) (M : fx_Mem) : Prop :=
  wb_X5_freeze_6_5_99 k8 Q x2 x3 x4 1 s0 M
set_option maxHeartbeats 4000000 in
set_option maxRecDepth 100000 in
theorem tb_X5_freeze_6_5_94 {g : fx_Geo} {p : Program} {l : Launch} {e : Env} {s : State} {m : MethodId} {args : Array Value} {below : List Frame} {meth : Method} {c : Code} (C : fx_Cx g p s m args meth c RX5 cX5_freeze 7 none) (k8 : Int32 → Int32 → Int32 → fx_Mem → Prop) (Q : fx_Mem → Prop) (hk8 : ∀ (x2 : Int32) (x3 : Int32) (x4 : Int32) (M : fx_Mem), k8 x2 x3 x4 M → ∀ (H : Heap) (locs : List Loc) (ls : Array Slot), fx_H g s M H locs → lv_has ls 7 [(0, .ref (fx_a g 6)), (1, .ref (fx_a g 5)), (2, .int x2), (3, .int x3), (4, .int x4)] → W p l e rm_X5_freeze_6_5 s m args below meth c H locs 0 0 (MQ below (va_Qv Q (fx_Pw g) (fx_A g)) args s 0 0 (fx_A g)) (F0 m 8 ls [])) (x2 : Int32) (x3 : Int32) (x4 : Int32) (s0 : Int32) (M : fx_Mem) (h : wb_X5_freeze_6_5_94 k8 Q x2 x3 x4 s0 M) (H : Heap) (locs : List Loc) (ls : Array Slot) (hH : fx_H g s M H locs) (hl : lv_has ls 7 [(0, .ref (fx_a g 6)), (1, .ref (fx_a g 5)), (2, .int x2), (3, .int x3), (4, .int x4)]) : W p l e rm_X5_freeze_6_5 s m args below meth c H locs 0 0 (MQ below (va_Qv Q (fx_Pw g) (fx_A g)) args s 0 0 (fx_A g)) (F0 m 94 ls [.int s0, .ref (fx_a g 25)]) := by
  obtain ⟨hx, hb, hr, hml, hown, hts, hlocks, hsz, hK, hG, hSt⟩ := id C
  unfold wb_X5_freeze_6_5_94 at h
  refine lv_iconst (v := 1) hx hb dX5_freeze_94 (by decide) ?_
  refine lv_goto (tgt := 99) hx hb dX5_freeze_95 (by decide) ?_
  exact tb_X5_freeze_6_5_99 C k8 Q hk8 x2 x3 x4 1 s0 M h  H locs ls hH (lv_sub hl [0, 1, 2, 3, 4] rfl)
def wb_X5_freeze_6_5_67 (k8 : Int32 → Int32 → Int32 → fx_Mem → Prop) (Q : fx_Mem → Prop) (x2 : Int32) (x3 : Int32) (x4 : Int32) (x5 : Int32) (s0 : Int32) (M : fx_Mem) : Prop :=
  vp_in x5 20 ∧ ((M.2.1 25 x5.toNatClampNeg = 0 → ((x3 = 0 → wb_X5_freeze_6_5_94 k8 Q x2 x3 x4 x5 M) ∧ (¬ x3 = 0 → ((s0 = 0 → wb_X5_freeze_6_5_99 k8 Q x2 x3 x4 0 x5 M) ∧ (¬ s0 = 0 → wb_X5_freeze_6_5_94 k8 Q x2 x3 x4 x5 M))))) ∧ (¬ M.2.1 25 x5.toNatClampNeg = 0 → wb_X5_freeze_6_5_94 k8 Q x2 x3 x4 x5 M))
set_option maxHeartbeats 4000000 in
set_option maxRecDepth 100000 in
theorem tb_X5_freeze_6_5_67 {g : fx_Geo} {p : Program} {l : Launch} {e : Env} {s : State} {m : MethodId} {args : Array Value} {below : List Frame} {meth : Method} {c : Code} (C : fx_Cx g p s m args meth c RX5 cX5_freeze 7 none) (k8 : Int32 → Int32 → Int32 → fx_Mem → Prop) (Q : fx_Mem → Prop) (hk8 : ∀ (x2 : Int32) (x3 : Int32) (x4 : Int32) (M : fx_Mem), k8 x2 x3 x4 M → ∀ (H : Heap) (locs : List Loc) (ls : Array Slot), fx_H g s M H locs → lv_has ls 7 [(0, .ref (fx_a g 6)), (1, .ref (fx_a g 5)), (2, .int x2), (3, .int x3), (4, .int x4)] → W p l e rm_X5_freeze_6_5 s m args below meth c H locs 0 0 (MQ below (va_Qv Q (fx_Pw g) (fx_A g)) args s 0 0 (fx_A g)) (F0 m 8 ls [])) (x2 : Int32) (x3 : Int32) (x4 : Int32) (x5 : Int32) (s0 : Int32) (M : fx_Mem) (h : wb_X5_freeze_6_5_67 k8 Q x2 x3 x4 x5 s0 M) (H : Heap) (locs : List Loc) (ls : Array Slot) (hH : fx_H g s M H locs) (hl : lv_has ls 7 [(0, .ref (fx_a g 6)), (1, .ref (fx_a g 5)), (2, .int x2), (3, .int x3), (4, .int x4), (5, .int x5)]) : W p l e rm_X5_freeze_6_5 s m args below meth c H locs 0 0 (MQ below (va_Qv Q (fx_Pw g) (fx_A g)) args s 0 0 (fx_A g)) (F0 m 67 ls [.int s0]) := by
  obtain ⟨hx, hb, hr, hml, hown, hts, hlocks, hsz, hK, hG, hSt⟩ := id C
  unfold wb_X5_freeze_6_5_67 at h
  refine lv_istore (lv' := [(6, .int s0), (0, .ref (fx_a g 6)), (1, .ref (fx_a g 5)), (2, .int x2), (3, .int x3), (4, .int x4), (5, .int x5)]) hx hb dX5_freeze_67 hl (by decide) rfl (fun ls hl => ?_)
  refine lv_aload_n hx hb dX5_freeze_69 rfl (lv_at hl 1 rfl) ?_
  refine fx_get C hH (fx_w6 g M) rfl in_X5 5 (by decide) u_157 rfl rfl dX5_freeze_70 ?_
  refine lv_iload hx hb dX5_freeze_73 (lv_at hl 6 rfl) ?_
  refine lv_aload_n hx hb dX5_freeze_75 rfl (lv_at hl 1 rfl) ?_
  refine fx_get C hH (fx_w6 g M) rfl in_X5 5 (by decide) u_157 rfl rfl dX5_freeze_76 ?_
  refine lv_iload hx hb dX5_freeze_79 (lv_at hl 6 rfl) ?_
  obtain ⟨hi1, h⟩ := h
  refine fx_zald (j := x5.toNatClampNeg) C hH 25 (fx_w25 g M) rfl hi1 dX5_freeze_81 ?_
  refine lv_if_ne (tgt := 94) hx hb dX5_freeze_82 (by decide) (fun c2 => ?_) (fun c2 => ?_)
  · replace h := h.2 c2
    exact tb_X5_freeze_6_5_94 C k8 Q hk8 x2 x3 x4 x5 M h  H locs ls hH (lv_sub hl [1, 2, 3, 4, 5] rfl)
  · replace h := h.1 c2
    refine lv_iload_n hx hb dX5_freeze_85 rfl (lv_at hl 4 rfl) ?_
    refine lv_if_eq (tgt := 94) hx hb dX5_freeze_86 (by decide) (fun c3 => ?_) (fun c3 => ?_)
    · replace h := h.1 c3
      exact tb_X5_freeze_6_5_94 C k8 Q hk8 x2 x3 x4 x5 M h  H locs ls hH (lv_sub hl [1, 2, 3, 4, 5] rfl)
    · replace h := h.2 c3
      refine lv_iload hx hb dX5_freeze_89 (lv_at hl 0 rfl) ?_
      refine lv_if_eq (tgt := 98) hx hb dX5_freeze_91 (by decide) (fun c4 => ?_) (fun c4 => ?_)
      · replace h := h.1 c4
        refine lv_iconst (v := 0) hx hb dX5_freeze_98 (by decide) ?_
        exact tb_X5_freeze_6_5_99 C k8 Q hk8 x2 x3 x4 0 x5 M h  H locs ls hH (lv_sub hl [1, 2, 3, 4, 5] rfl)
      · replace h := h.2 c4
        exact tb_X5_freeze_6_5_94 C k8 Q hk8 x2 x3 x4 x5 M h  H locs ls hH (lv_sub hl [1, 2, 3, 4, 5] rfl)
def wb_X5_freeze_6_5_8 (k8 : Int32 → Int32 → Int32 → fx_Mem → Prop) (Q : fx_Mem → Prop) (x2 : Int32) (x3 : Int32) (x4 : Int32) (M : fx_Mem) : Prop :=
  vp_in (x2 + 1) 21 ∧ ((M.2.1 19 ((x2 + 1).toNatClampNeg) ≤ x4 → Q M) ∧ (¬ M.2.1 19 ((x2 + 1).toNatClampNeg) ≤ x4 → vp_in x4 20 ∧ ∀ v4 : Int32, v4 = M.2.1 18 x4.toNatClampNeg → ((x3 ≤ 0 → vp_in v4 20 ∧ ((0 ≤ M.2.1 24 v4.toNatClampNeg → wb_X5_freeze_6_5_67 k8 Q x2 x3 x4 v4 0 M) ∧ (¬ 0 ≤ M.2.1 24 v4.toNatClampNeg → wb_X5_freeze_6_5_67 k8 Q x2 x3 x4 v4 1 M))) ∧ (¬ x3 ≤ 0 → vp_in v4 20 ∧ ((M.2.1 24 v4.toNatClampNeg ≤ 0 → wb_X5_freeze_6_5_67 k8 Q x2 x3 x4 v4 0 M) ∧ (¬ M.2.1 24 v4.toNatClampNeg ≤ 0 → wb_X5_freeze_6_5_67 k8 Q x2 x3 x4 v4 1 M))))))
set_option maxHeartbeats 4000000 in
set_option maxRecDepth 100000 in
theorem tb_X5_freeze_6_5_8 {g : fx_Geo} {p : Program} {l : Launch} {e : Env} {s : State} {m : MethodId} {args : Array Value} {below : List Frame} {meth : Method} {c : Code} (C : fx_Cx g p s m args meth c RX5 cX5_freeze 7 none) (k8 : Int32 → Int32 → Int32 → fx_Mem → Prop) (Q : fx_Mem → Prop) (hk8 : ∀ (x2 : Int32) (x3 : Int32) (x4 : Int32) (M : fx_Mem), k8 x2 x3 x4 M → ∀ (H : Heap) (locs : List Loc) (ls : Array Slot), fx_H g s M H locs → lv_has ls 7 [(0, .ref (fx_a g 6)), (1, .ref (fx_a g 5)), (2, .int x2), (3, .int x3), (4, .int x4)] → W p l e rm_X5_freeze_6_5 s m args below meth c H locs 0 0 (MQ below (va_Qv Q (fx_Pw g) (fx_A g)) args s 0 0 (fx_A g)) (F0 m 8 ls [])) (x2 : Int32) (x3 : Int32) (x4 : Int32) (M : fx_Mem) (h : wb_X5_freeze_6_5_8 k8 Q x2 x3 x4 M) (H : Heap) (locs : List Loc) (ls : Array Slot) (hH : fx_H g s M H locs) (hl : lv_has ls 7 [(0, .ref (fx_a g 6)), (1, .ref (fx_a g 5)), (2, .int x2), (3, .int x3), (4, .int x4)]) : W p l e rm_X5_freeze_6_5 s m args below meth c H locs 0 0 (MQ below (va_Qv Q (fx_Pw g) (fx_A g)) args s 0 0 (fx_A g)) (F0 m 8 ls []) := by
  obtain ⟨hx, hb, hr, hml, hown, hts, hlocks, hsz, hK, hG, hSt⟩ := id C
  unfold wb_X5_freeze_6_5_8 at h
  refine lv_iload hx hb dX5_freeze_8 (lv_at hl 4 rfl) ?_
  refine lv_aload_n hx hb dX5_freeze_10 rfl (lv_at hl 1 rfl) ?_
  refine fx_get C hH (fx_w5 g M) rfl in_X0 1 (by decide) u_130 rfl rfl dX5_freeze_11 ?_
  refine lv_iload_n hx hb dX5_freeze_14 rfl (lv_at hl 2 rfl) ?_
  refine lv_iconst (v := 1) hx hb dX5_freeze_15 (by decide) ?_
  refine lv_iadd hx hb dX5_freeze_16 ?_
  obtain ⟨hi1, h⟩ := h
  refine fx_iald (j := (x2 + 1).toNatClampNeg) C hH 19 (fx_w19 g M) rfl hi1 dX5_freeze_17 ?_
  refine lv_icmp_ge (tgt := 106) hx hb dX5_freeze_18 (by decide) (fun c2 => ?_) (fun c2 => ?_)
  · replace h := h.1 c2
    exact fx_vret C hH h dX5_freeze_106
  · replace h := h.2 c2
    refine lv_aload_n hx hb dX5_freeze_21 rfl (lv_at hl 1 rfl) ?_
    refine fx_get C hH (fx_w5 g M) rfl in_X0 0 (by decide) u_126 rfl rfl dX5_freeze_22 ?_
    refine lv_iload hx hb dX5_freeze_25 (lv_at hl 4 rfl) ?_
    obtain ⟨hi3, h⟩ := h
    refine fx_iald (j := x4.toNatClampNeg) C hH 18 (fx_w18 g M) rfl hi3 dX5_freeze_27 ?_
    refine lv_topi (fun v4 ev4 => ?_)
    replace h := h v4 ev4
    refine lv_istore (lv' := [(5, .int v4), (0, .ref (fx_a g 6)), (1, .ref (fx_a g 5)), (2, .int x2), (3, .int x3), (4, .int x4)]) hx hb dX5_freeze_28 hl (by decide) rfl (fun ls hl => ?_)
    refine lv_iload_n hx hb dX5_freeze_30 rfl (lv_at hl 4 rfl) ?_
    refine lv_if_le (tgt := 52) hx hb dX5_freeze_31 (by decide) (fun c5 => ?_) (fun c5 => ?_)
    · replace h := h.1 c5
      refine lv_aload_n hx hb dX5_freeze_52 rfl (lv_at hl 1 rfl) ?_
      refine fx_get C hH (fx_w6 g M) rfl in_X5 4 (by decide) u_156 rfl rfl dX5_freeze_53 ?_
      refine lv_iload hx hb dX5_freeze_56 (lv_at hl 0 rfl) ?_
      obtain ⟨hi6, h⟩ := h
      refine fx_iald (j := v4.toNatClampNeg) C hH 24 (fx_w24 g M) rfl hi6 dX5_freeze_58 ?_
      refine lv_if_ge (tgt := 66) hx hb dX5_freeze_59 (by decide) (fun c7 => ?_) (fun c7 => ?_)
      · replace h := h.1 c7
        refine lv_iconst (v := 0) hx hb dX5_freeze_66 (by decide) ?_
        exact tb_X5_freeze_6_5_67 C k8 Q hk8 x2 x3 x4 v4 0 M h  H locs ls hH (lv_sub hl [1, 2, 3, 4, 5, 0] rfl)
      · replace h := h.2 c7
        refine lv_iconst (v := 1) hx hb dX5_freeze_62 (by decide) ?_
        refine lv_goto (tgt := 67) hx hb dX5_freeze_63 (by decide) ?_
        exact tb_X5_freeze_6_5_67 C k8 Q hk8 x2 x3 x4 v4 1 M h  H locs ls hH (lv_sub hl [1, 2, 3, 4, 5, 0] rfl)
    · replace h := h.2 c5
      refine lv_aload_n hx hb dX5_freeze_34 rfl (lv_at hl 1 rfl) ?_
      refine fx_get C hH (fx_w6 g M) rfl in_X5 4 (by decide) u_156 rfl rfl dX5_freeze_35 ?_
      refine lv_iload hx hb dX5_freeze_38 (lv_at hl 0 rfl) ?_
      obtain ⟨hi8, h⟩ := h
      refine fx_iald (j := v4.toNatClampNeg) C hH 24 (fx_w24 g M) rfl hi8 dX5_freeze_40 ?_
      refine lv_if_le (tgt := 48) hx hb dX5_freeze_41 (by decide) (fun c9 => ?_) (fun c9 => ?_)
      · replace h := h.1 c9
        refine lv_iconst (v := 0) hx hb dX5_freeze_48 (by decide) ?_
        refine lv_goto (tgt := 67) hx hb dX5_freeze_49 (by decide) ?_
        exact tb_X5_freeze_6_5_67 C k8 Q hk8 x2 x3 x4 v4 0 M h  H locs ls hH (lv_sub hl [1, 2, 3, 4, 5, 0] rfl)
      · replace h := h.2 c9
        refine lv_iconst (v := 1) hx hb dX5_freeze_44 (by decide) ?_
        refine lv_goto (tgt := 67) hx hb dX5_freeze_45 (by decide) ?_
        exact tb_X5_freeze_6_5_67 C k8 Q hk8 x2 x3 x4 v4 1 M h  H locs ls hH (lv_sub hl [1, 2, 3, 4, 5, 0] rfl)
def wl_X5_freeze_6_5_8 (Q : fx_Mem → Prop) (n : Nat) (x2 : Int32) (x3 : Int32) (x4 : Int32) (M : fx_Mem) : Prop :=
  fx_lp (α := Int32 × Int32 × Int32 × fx_Mem) (fun k a => wb_X5_freeze_6_5_8 (fun x2 x3 x4 M => k (x2, x3, x4, M)) Q a.1 a.2.1 a.2.2.1 a.2.2.2) n (x2, x3, x4, M)
set_option maxHeartbeats 4000000 in
theorem tl_X5_freeze_6_5_8 {g : fx_Geo} {p : Program} {l : Launch} {e : Env} {s : State} {m : MethodId} {args : Array Value} {below : List Frame} {meth : Method} {c : Code} (C : fx_Cx g p s m args meth c RX5 cX5_freeze 7 none) (Q : fx_Mem → Prop) : ∀ (n : Nat) (x2 : Int32) (x3 : Int32) (x4 : Int32) (M : fx_Mem), wl_X5_freeze_6_5_8  Q n x2 x3 x4 M → ∀ (H : Heap) (locs : List Loc) (ls : Array Slot), fx_H g s M H locs → lv_has ls 7 [(0, .ref (fx_a g 6)), (1, .ref (fx_a g 5)), (2, .int x2), (3, .int x3), (4, .int x4)] → W p l e rm_X5_freeze_6_5 s m args below meth c H locs 0 0 (MQ below (va_Qv Q (fx_Pw g) (fx_A g)) args s 0 0 (fx_A g)) (F0 m 8 ls []) := by
  intro n
  induction n with
  | zero => intro x2 x3 x4 M h; exact False.elim h
  | succ n ih => intro x2 x3 x4 M h  H locs ls hH hl; exact tb_X5_freeze_6_5_8 C (wl_X5_freeze_6_5_8  Q n) Q ih x2 x3 x4 M h  H locs ls hH hl
def wp_X5_freeze_6_5 (a2 : Int32) (a3 : Int32) (M : fx_Mem) (Q : fx_Mem → Prop) : Prop :=
  vp_in a2 21 ∧ ∀ v2 : Int32, v2 = M.2.1 19 a2.toNatClampNeg → ∃ n8 : Nat, wl_X5_freeze_6_5_8 Q n8 a2 a3 v2 M
set_option maxHeartbeats 4000000 in
set_option maxRecDepth 100000 in
theorem c_X5_freeze_6_5 (l : Launch) {g : fx_Geo} (hG : fx_Gd g) (a2 : Int32) (a3 : Int32) (M : fx_Mem) (Q : fx_Mem → Prop) (h : wp_X5_freeze_6_5 a2 a3 M Q) : Met l yX5_freeze (.code yX5_freeze cX5_freeze 7 none :: fx_U) rm_X5_freeze_6_5 (va_Pc [.ref (fx_a g 6), .ref (fx_a g 5), .int a2, .int a3] (fx_At g M)) (va_Qv Q (fx_Pw g) (fx_A g)) 0 0 (fx_A g) := by
  refine Met.ofW (cc := cX5_freeze) (maxL := 7) (ret := none) (by decide +kernel) rfl ?_
  intro p e s m args below meth c s₁ B hml hv
  obtain ⟨rfl, hv⟩ := hv
  have hts := atoms_spec (ws := .code yX5_freeze cX5_freeze 7 none :: fx_U) B.pre
  obtain ⟨C, hH⟩ := fx_body (own := RX5) B hml rfl (fun w hw => hts w (List.mem_cons_of_mem _ hw)) hG hv
  replace hts := fun w hw => hts w (List.mem_cons_of_mem _ hw)
  obtain ⟨hx, hb, hr, -, hown, -, hlocks, hsz, hK, -, hSt⟩ := id C
  have hl := lv_entry ([.ref (fx_a g 6), .ref (fx_a g 5), .int a2, .int a3]) (n := 7) (Nat.le_of_ble_eq_true rfl)
  rw [lg_entry_eq]
  generalize (lg_sl ([.ref (fx_a g 6), .ref (fx_a g 5), .int a2, .int a3]) ++ List.replicate (7 - (lg_sl ([.ref (fx_a g 6), .ref (fx_a g 5), .int a2, .int a3])).length) Slot.unset).toArray = ls at hl ⊢
  have hl : lv_has ls 7 [(0, .ref (fx_a g 6)), (1, .ref (fx_a g 5)), (2, .int a2), (3, .int a3)] := hl
  obtain ⟨H, eH⟩ : ∃ H : Heap, H = s.heap := ⟨_, rfl⟩
  obtain ⟨locs, elocs⟩ : ∃ q : List Loc, q = [] := ⟨_, rfl⟩
  rw [← eH, ← elocs] at hH
  show W p l e rm_X5_freeze_6_5 s m _ below meth c s.heap [] 0 0 _ _
  rw [← eH, ← elocs]
  unfold wp_X5_freeze_6_5 at h
  refine lv_aload_n hx hb dX5_freeze_0 rfl (lv_at hl 1 rfl) ?_
  refine fx_get C hH (fx_w5 g M) rfl in_X0 1 (by decide) u_130 rfl rfl dX5_freeze_1 ?_
  refine lv_iload_n hx hb dX5_freeze_4 rfl (lv_at hl 2 rfl) ?_
  obtain ⟨hi1, h⟩ := h
  refine fx_iald (j := a2.toNatClampNeg) C hH 19 (fx_w19 g M) rfl hi1 dX5_freeze_5 ?_
  refine lv_topi (fun v2 ev2 => ?_)
  replace h := h v2 ev2
  refine lv_istore (lv' := [(4, .int v2), (0, .ref (fx_a g 6)), (1, .ref (fx_a g 5)), (2, .int a2), (3, .int a3)]) hx hb dX5_freeze_6 hl (by decide) rfl (fun ls hl => ?_)
  obtain ⟨n8, h⟩ := h
  exact tl_X5_freeze_6_5_8 C Q  n8 a2 a3 v2 M h  H locs ls hH (lv_sub hl [1, 2, 3, 4, 0] rfl)
/-! FlexLayout$MainAxis.freezeAtOnce(LFlexLayout$Container;LFlexLayout$Arrangement;I)Z (6, 1, 5) -/
def rm_X5_freezeAtOnce_6_1_5 : Room := { frames := 2, cells := 0, slots := 0, locals := 46 }
def wb_X5_freezeAtOnce_6_1_5_25 (k25 : Int32 → Int32 → Int32 → Int32 → Int32 → fx_Mem → Prop) (k54 : Int32 → Int32 → Int32 → Int32 → fx_Mem → Prop) (Q : Int32 → fx_Mem → Prop) (x3 : Int32) (x4 : Int32) (x5 : Int32) (x6 : Int32) (x7 : Int32) (M : fx_Mem) : Prop :=
  ((x5 ≤ x7 → k54 x3 x4 x5 x6 M) ∧ (¬ x5 ≤ x7 → vp_in x7 20 ∧ wp_X1_hypothetical_1 (M.2.1 18 x7.toNatClampNeg) M (fun r4 M3 => ∀ v5 : Int32, v5 = x6 + r4 → ∀ v6 : Int32, v6 = x7 + 1 → k25 x3 x4 x5 v5 v6 M3)))
set_option maxHeartbeats 4000000 in
set_option maxRecDepth 100000 in
theorem tb_X5_freezeAtOnce_6_1_5_25 {g : fx_Geo} {p : Program} {l : Launch} {e : Env} {s : State} {m : MethodId} {args : Array Value} {below : List Frame} {meth : Method} {c : Code} (C : fx_Cx g p s m args meth c RX5 cX5_freezeAtOnce 11 (some .boolean)) (k25 : Int32 → Int32 → Int32 → Int32 → Int32 → fx_Mem → Prop) (k54 : Int32 → Int32 → Int32 → Int32 → fx_Mem → Prop) (Q : Int32 → fx_Mem → Prop) (hk25 : ∀ (x3 : Int32) (x4 : Int32) (x5 : Int32) (x6 : Int32) (x7 : Int32) (M : fx_Mem), k25 x3 x4 x5 x6 x7 M → ∀ (H : Heap) (locs : List Loc) (ls : Array Slot), fx_H g s M H locs → lv_has ls 11 [(0, .ref (fx_a g 6)), (1, .ref (fx_a g 1)), (2, .ref (fx_a g 5)), (3, .int x3), (4, .int x4), (5, .int x5), (6, .int x6), (7, .int x7)] → W p l e rm_X5_freezeAtOnce_6_1_5 s m args below meth c H locs 0 0 (MQ below (va_Qi Q (fx_Pw g) (fx_A g)) args s 0 0 (fx_A g)) (F0 m 25 ls [])) (hk54 : ∀ (x3 : Int32) (x4 : Int32) (x5 : Int32) (x6 : Int32) (M : fx_Mem), k54 x3 x4 x5 x6 M → ∀ (H : Heap) (locs : List Loc) (ls : Array Slot), fx_H g s M H locs → lv_has ls 11 [(0, .ref (fx_a g 6)), (1, .ref (fx_a g 1)), (2, .ref (fx_a g 5)), (3, .int x3), (4, .int x4), (5, .int x5), (6, .int x6)] → W p l e rm_X5_freezeAtOnce_6_1_5 s m args below meth c H locs 0 0 (MQ below (va_Qi Q (fx_Pw g) (fx_A g)) args s 0 0 (fx_A g)) (F0 m 54 ls [])) (x3 : Int32) (x4 : Int32) (x5 : Int32) (x6 : Int32) (x7 : Int32) (M : fx_Mem) (h : wb_X5_freezeAtOnce_6_1_5_25 k25 k54 Q x3 x4 x5 x6 x7 M) (H : Heap) (locs : List Loc) (ls : Array Slot) (hH : fx_H g s M H locs) (hl : lv_has ls 11 [(0, .ref (fx_a g 6)), (1, .ref (fx_a g 1)), (2, .ref (fx_a g 5)), (3, .int x3), (4, .int x4), (5, .int x5), (6, .int x6), (7, .int x7)]) : W p l e rm_X5_freezeAtOnce_6_1_5 s m args below meth c H locs 0 0 (MQ below (va_Qi Q (fx_Pw g) (fx_A g)) args s 0 0 (fx_A g)) (F0 m 25 ls []) := by
  obtain ⟨hx, hb, hr, hml, hown, hts, hlocks, hsz, hK, hG, hSt⟩ := id C
  unfold wb_X5_freezeAtOnce_6_1_5_25 at h
  refine lv_iload hx hb dX5_freezeAtOnce_25 (lv_at hl 7 rfl) ?_
  refine lv_iload hx hb dX5_freezeAtOnce_27 (lv_at hl 5 rfl) ?_
  refine lv_icmp_ge (tgt := 54) hx hb dX5_freezeAtOnce_29 (by decide) (fun c1 => ?_) (fun c1 => ?_)
  · replace h := h.1 c1
    exact hk54 x3 x4 x5 x6 M h  H locs ls hH (lv_sub hl [0, 1, 2, 3, 4, 5, 6] rfl)
  · replace h := h.2 c1
    refine lv_iload hx hb dX5_freezeAtOnce_32 (lv_at hl 6 rfl) ?_
    refine lv_aload_n hx hb dX5_freezeAtOnce_34 rfl (lv_at hl 1 rfl) ?_
    refine lv_aload_n hx hb dX5_freezeAtOnce_35 rfl (lv_at hl 2 rfl) ?_
    refine fx_get C hH (fx_w5 g M) rfl in_X0 0 (by decide) u_126 rfl rfl dX5_freezeAtOnce_36 ?_
    refine lv_iload hx hb dX5_freezeAtOnce_39 (lv_at hl 7 rfl) ?_
    obtain ⟨hi2, h⟩ := h
    refine fx_iald (j := x7.toNatClampNeg) C hH 18 (fx_w18 g M) rfl hi2 dX5_freezeAtOnce_41 ?_
    refine fx_ci hH (fx_runV (As := [.int (M.2.1 18 x7.toNatClampNeg)]) (rest := [.int x6]) C hH (c_X1_hypothetical_1 l C.2.2.2.2.2.2.2.2.2.1 (M.2.1 18 x7.toNatClampNeg) M _ h) (fx_cwV 1 hts u_336 u_249 u_250 u_2 u_251 rfl rfl (by decide +kernel) ⟨(Nat.le_of_ble_eq_true rfl), (Nat.le_of_ble_eq_true rfl)⟩) (fx_w1 g M) rfl rfl hl.1 rfl (Nat.le_of_ble_eq_true rfl) dX5_freezeAtOnce_42 ⟨(Nat.le_of_ble_eq_true rfl), (Nat.le_of_ble_eq_true rfl)⟩) (fun r4 M3 H locs h hH => ?_)
    refine lv_iadd hx hb dX5_freezeAtOnce_45 ?_
    refine lv_topi (fun v5 ev5 => ?_)
    replace h := h v5 ev5
    refine lv_istore (lv' := [(6, .int v5), (0, .ref (fx_a g 6)), (1, .ref (fx_a g 1)), (2, .ref (fx_a g 5)), (3, .int x3), (4, .int x4), (5, .int x5), (7, .int x7)]) hx hb dX5_freezeAtOnce_46 hl (by decide) rfl (fun ls hl => ?_)
    obtain ⟨v6, ev6⟩ : ∃ z : Int32, z = x7 + 1 := ⟨_, rfl⟩
    refine lv_iinc (v := v6) (lv' := [(7, .int v6), (6, .int v5), (0, .ref (fx_a g 6)), (1, .ref (fx_a g 1)), (2, .ref (fx_a g 5)), (3, .int x3), (4, .int x4), (5, .int x5)]) hx hb dX5_freezeAtOnce_48 hl (k := 7) rfl (by rw [ev6]; rfl) (by decide) rfl (fun ls hl => ?_)
    replace h := h v6 ev6
    refine lv_goto (tgt := 25) hx hb dX5_freezeAtOnce_51 (by decide) ?_
    exact hk25 x3 x4 x5 v5 v6 M3 h  H locs ls hH (lv_sub hl [2, 3, 4, 5, 6, 7, 1, 0] rfl)
def wl_X5_freezeAtOnce_6_1_5_25 (k54 : Int32 → Int32 → Int32 → Int32 → fx_Mem → Prop) (Q : Int32 → fx_Mem → Prop) (n : Nat) (x3 : Int32) (x4 : Int32) (x5 : Int32) (x6 : Int32) (x7 : Int32) (M : fx_Mem) : Prop :=
  fx_lp (α := Int32 × Int32 × Int32 × Int32 × Int32 × fx_Mem) (fun k a => wb_X5_freezeAtOnce_6_1_5_25 (fun x3 x4 x5 x6 x7 M => k (x3, x4, x5, x6, x7, M)) k54 Q a.1 a.2.1 a.2.2.1 a.2.2.2.1 a.2.2.2.2.1 a.2.2.2.2.2) n (x3, x4, x5, x6, x7, M)
set_option maxHeartbeats 4000000 in
theorem tl_X5_freezeAtOnce_6_1_5_25 {g : fx_Geo} {p : Program} {l : Launch} {e : Env} {s : State} {m : MethodId} {args : Array Value} {below : List Frame} {meth : Method} {c : Code} (C : fx_Cx g p s m args meth c RX5 cX5_freezeAtOnce 11 (some .boolean)) (k54 : Int32 → Int32 → Int32 → Int32 → fx_Mem → Prop) (Q : Int32 → fx_Mem → Prop) (hk54 : ∀ (x3 : Int32) (x4 : Int32) (x5 : Int32) (x6 : Int32) (M : fx_Mem), k54 x3 x4 x5 x6 M → ∀ (H : Heap) (locs : List Loc) (ls : Array Slot), fx_H g s M H locs → lv_has ls 11 [(0, .ref (fx_a g 6)), (1, .ref (fx_a g 1)), (2, .ref (fx_a g 5)), (3, .int x3), (4, .int x4), (5, .int x5), (6, .int x6)] → W p l e rm_X5_freezeAtOnce_6_1_5 s m args below meth c H locs 0 0 (MQ below (va_Qi Q (fx_Pw g) (fx_A g)) args s 0 0 (fx_A g)) (F0 m 54 ls [])) : ∀ (n : Nat) (x3 : Int32) (x4 : Int32) (x5 : Int32) (x6 : Int32) (x7 : Int32) (M : fx_Mem), wl_X5_freezeAtOnce_6_1_5_25 k54 Q n x3 x4 x5 x6 x7 M → ∀ (H : Heap) (locs : List Loc) (ls : Array Slot), fx_H g s M H locs → lv_has ls 11 [(0, .ref (fx_a g 6)), (1, .ref (fx_a g 1)), (2, .ref (fx_a g 5)), (3, .int x3), (4, .int x4), (5, .int x5), (6, .int x6), (7, .int x7)] → W p l e rm_X5_freezeAtOnce_6_1_5 s m args below meth c H locs 0 0 (MQ below (va_Qi Q (fx_Pw g) (fx_A g)) args s 0 0 (fx_A g)) (F0 m 25 ls []) := by
  intro n
  induction n with
  | zero => intro x3 x4 x5 x6 x7 M h; exact False.elim h
  | succ n ih => intro x3 x4 x5 x6 x7 M h  H locs ls hH hl; exact tb_X5_freezeAtOnce_6_1_5_25 C (wl_X5_freezeAtOnce_6_1_5_25 k54 Q n) k54 Q ih hk54 x3 x4 x5 x6 x7 M h  H locs ls hH hl
def wb_X5_freezeAtOnce_6_1_5_180 (k76 : Int32 → Int32 → Int32 → fx_Mem → Prop) (Q : Int32 → fx_Mem → Prop) (x5 : Int32) (x7 : Int32) (x8 : Int32) (s0 : Int32) (s1 : Int32) (M : fx_Mem) : Prop :=
  vp_in s1 20 ∧ ∀ M2 : fx_Mem, M2 = fx_sa M 25 s1.toNatClampNeg (vp_nar .boolean s0) → ∀ v3 : Int32, v3 = x8 + 1 → k76 x5 x7 v3 M2
set_option maxHeartbeats 4000000 in
set_option maxRecDepth 100000 in
theorem tb_X5_freezeAtOnce_6_1_5_180 {g : fx_Geo} {p : Program} {l : Launch} {e : Env} {s : State} {m : MethodId} {args : Array Value} {below : List Frame} {meth : Method} {c : Code} (C : fx_Cx g p s m args meth c RX5 cX5_freezeAtOnce 11 (some .boolean)) (k76 : Int32 → Int32 → Int32 → fx_Mem → Prop) (Q : Int32 → fx_Mem → Prop) (hk76 : ∀ (x5 : Int32) (x7 : Int32) (x8 : Int32) (M : fx_Mem), k76 x5 x7 x8 M → ∀ (H : Heap) (locs : List Loc) (ls : Array Slot), fx_H g s M H locs → lv_has ls 11 [(0, .ref (fx_a g 6)), (1, .ref (fx_a g 1)), (2, .ref (fx_a g 5)), (5, .int x5), (7, .int x7), (8, .int x8)] → W p l e rm_X5_freezeAtOnce_6_1_5 s m args below meth c H locs 0 0 (MQ below (va_Qi Q (fx_Pw g) (fx_A g)) args s 0 0 (fx_A g)) (F0 m 76 ls [])) (x5 : Int32) (x7 : Int32) (x8 : Int32) (s0 : Int32) (s1 : Int32) (M : fx_Mem) (h : wb_X5_freezeAtOnce_6_1_5_180 k76 Q x5 x7 x8 s0 s1 M) (H : Heap) (locs : List Loc) (ls : Array Slot) (hH : fx_H g s M H locs) (hl : lv_has ls 11 [(0, .ref (fx_a g 6)), (1, .ref (fx_a g 1)), (2, .ref (fx_a g 5)), (5, .int x5), (7, .int x7), (8, .int x8)]) : W p l e rm_X5_freezeAtOnce_6_1_5 s m args below meth c H locs 0 0 (MQ below (va_Qi Q (fx_Pw g) (fx_A g)) args s 0 0 (fx_A g)) (F0 m 180 ls [.int s0, .int s1, .ref (fx_a g 25)]) := by
  obtain ⟨hx, hb, hr, hml, hown, hts, hlocks, hsz, hK, hG, hSt⟩ := id C
  unfold wb_X5_freezeAtOnce_6_1_5_180 at h
  obtain ⟨hi1, h⟩ := h
  refine fx_zast (j := s1.toNatClampNeg) (M' := fx_sa M 25 s1.toNatClampNeg (vp_nar .boolean s0)) C hH 25 rfl (fx_w25 g M) (fx_p25 g M _) hi1 dX5_freezeAtOnce_180 (fun H locs hH => ?_)
  generalize eM2 : fx_sa M 25 s1.toNatClampNeg (vp_nar .boolean s0) = M2 at hH
  replace h := h M2 eM2.symm
  obtain ⟨v3, ev3⟩ : ∃ z : Int32, z = x8 + 1 := ⟨_, rfl⟩
  refine lv_iinc (v := v3) (lv' := [(8, .int v3), (0, .ref (fx_a g 6)), (1, .ref (fx_a g 1)), (2, .ref (fx_a g 5)), (5, .int x5), (7, .int x7)]) hx hb dX5_freezeAtOnce_181 hl (k := 5) rfl (by rw [ev3]; rfl) (by decide) rfl (fun ls hl => ?_)
  replace h := h v3 ev3
  refine lv_goto (tgt := 76) hx hb dX5_freezeAtOnce_184 (by decide) ?_
  exact hk76 x5 x7 v3 M2 h  H locs ls hH (lv_sub hl [1, 2, 3, 4, 5, 0] rfl)
def wb_X5_freezeAtOnce_6_1_5_146 (k76 : Int32 → Int32 → Int32 → fx_Mem → Prop) (Q : Int32 → fx_Mem → Prop) (x5 : Int32) (x7 : Int32) (x8 : Int32) (s0 : Int32) (M : fx_Mem) : Prop :=
  wb_X5_freezeAtOnce_6_1_5_180 k76 Q x5 x7 x8 1 s0 M
set_option maxHeartbeats 4000000 in
set_option maxRecDepth 100000 in
theorem tb_X5_freezeAtOnce_6_1_5_146 {g : fx_Geo} {p : Program} {l : Launch} {e : Env} {s : State} {m : MethodId} {args : Array Value} {below : List Frame} {meth : Method} {c : Code} (C : fx_Cx g p s m args meth c RX5 cX5_freezeAtOnce 11 (some .boolean)) (k76 : Int32 → Int32 → Int32 → fx_Mem → Prop) (Q : Int32 → fx_Mem → Prop) (hk76 : ∀ (x5 : Int32) (x7 : Int32) (x8 : Int32) (M : fx_Mem), k76 x5 x7 x8 M → ∀ (H : Heap) (locs : List Loc) (ls : Array Slot), fx_H g s M H locs → lv_has ls 11 [(0, .ref (fx_a g 6)), (1, .ref (fx_a g 1)), (2, .ref (fx_a g 5)), (5, .int x5), (7, .int x7), (8, .int x8)] → W p l e rm_X5_freezeAtOnce_6_1_5 s m args below meth c H locs 0 0 (MQ below (va_Qi Q (fx_Pw g) (fx_A g)) args s 0 0 (fx_A g)) (F0 m 76 ls [])) (x5 : Int32) (x7 : Int32) (x8 : Int32) (s0 : Int32) (M : fx_Mem) (h : wb_X5_freezeAtOnce_6_1_5_146 k76 Q x5 x7 x8 s0 M) (H : Heap) (locs : List Loc) (ls : Array Slot) (hH : fx_H g s M H locs) (hl : lv_has ls 11 [(0, .ref (fx_a g 6)), (1, .ref (fx_a g 1)), (2, .ref (fx_a g 5)), (5, .int x5), (7, .int x7), (8, .int x8)]) : W p l e rm_X5_freezeAtOnce_6_1_5 s m args below meth c H locs 0 0 (MQ below (va_Qi Q (fx_Pw g) (fx_A g)) args s 0 0 (fx_A g)) (F0 m 146 ls [.int s0, .ref (fx_a g 25)]) := by
  obtain ⟨hx, hb, hr, hml, hown, hts, hlocks, hsz, hK, hG, hSt⟩ := id C
  unfold wb_X5_freezeAtOnce_6_1_5_146 at h
  refine lv_iconst (v := 1) hx hb dX5_freezeAtOnce_146 (by decide) ?_
  refine lv_goto (tgt := 180) hx hb dX5_freezeAtOnce_147 (by decide) ?_
  exact tb_X5_freezeAtOnce_6_1_5_180 C k76 Q hk76 x5 x7 x8 1 s0 M h  H locs ls hH (lv_sub hl [0, 1, 2, 3, 4, 5] rfl)
def wb_X5_freezeAtOnce_6_1_5_175 (k76 : Int32 → Int32 → Int32 → fx_Mem → Prop) (Q : Int32 → fx_Mem → Prop) (x5 : Int32) (x7 : Int32) (x8 : Int32) (s0 : Int32) (M : fx_Mem) : Prop :=
  wb_X5_freezeAtOnce_6_1_5_180 k76 Q x5 x7 x8 1 s0 M
set_option maxHeartbeats 4000000 in
set_option maxRecDepth 100000 in
theorem tb_X5_freezeAtOnce_6_1_5_175 {g : fx_Geo} {p : Program} {l : Launch} {e : Env} {s : State} {m : MethodId} {args : Array Value} {below : List Frame} {meth : Method} {c : Code} (C : fx_Cx g p s m args meth c RX5 cX5_freezeAtOnce 11 (some .boolean)) (k76 : Int32 → Int32 → Int32 → fx_Mem → Prop) (Q : Int32 → fx_Mem → Prop) (hk76 : ∀ (x5 : Int32) (x7 : Int32) (x8 : Int32) (M : fx_Mem), k76 x5 x7 x8 M → ∀ (H : Heap) (locs : List Loc) (ls : Array Slot), fx_H g s M H locs → lv_has ls 11 [(0, .ref (fx_a g 6)), (1, .ref (fx_a g 1)), (2, .ref (fx_a g 5)), (5, .int x5), (7, .int x7), (8, .int x8)] → W p l e rm_X5_freezeAtOnce_6_1_5 s m args below meth c H locs 0 0 (MQ below (va_Qi Q (fx_Pw g) (fx_A g)) args s 0 0 (fx_A g)) (F0 m 76 ls [])) (x5 : Int32) (x7 : Int32) (x8 : Int32) (s0 : Int32) (M : fx_Mem) (h : wb_X5_freezeAtOnce_6_1_5_175 k76 Q x5 x7 x8 s0 M) (H : Heap) (locs : List Loc) (ls : Array Slot) (hH : fx_H g s M H locs) (hl : lv_has ls 11 [(0, .ref (fx_a g 6)), (1, .ref (fx_a g 1)), (2, .ref (fx_a g 5)), (5, .int x5), (7, .int x7), (8, .int x8)]) : W p l e rm_X5_freezeAtOnce_6_1_5 s m args below meth c H locs 0 0 (MQ below (va_Qi Q (fx_Pw g) (fx_A g)) args s 0 0 (fx_A g)) (F0 m 175 ls [.int s0, .ref (fx_a g 25)]) := by
  obtain ⟨hx, hb, hr, hml, hown, hts, hlocks, hsz, hK, hG, hSt⟩ := id C
  unfold wb_X5_freezeAtOnce_6_1_5_175 at h
  refine lv_iconst (v := 1) hx hb dX5_freezeAtOnce_175 (by decide) ?_
  refine lv_goto (tgt := 180) hx hb dX5_freezeAtOnce_176 (by decide) ?_
  exact tb_X5_freezeAtOnce_6_1_5_180 C k76 Q hk76 x5 x7 x8 1 s0 M h  H locs ls hH (lv_sub hl [0, 1, 2, 3, 4, 5] rfl)
def wb_X5_freezeAtOnce_6_1_5_76 (k76 : Int32 → Int32 → Int32 → fx_Mem → Prop) (Q : Int32 → fx_Mem → Prop) (x5 : Int32) (x7 : Int32) (x8 : Int32) (M : fx_Mem) : Prop :=
  ((x5 ≤ x8 → (x7 = 0 ∨ x7 = 1) ∧ Q x7 M) ∧ (¬ x5 ≤ x8 → vp_in x8 20 ∧ ∀ v3 : Int32, v3 = M.2.1 18 x8.toNatClampNeg → vp_in v3 20 ∧ wp_X1_hypothetical_1 v3 M (fun r7 M6 => vp_in v3 20 ∧ ∀ M9 : fx_Mem, M9 = fx_sa M6 20 v3.toNatClampNeg r7 → ((x7 = 0 → ((M9.2.1 (57 + v3.toNatClampNeg) 2 = 0 → wb_X5_freezeAtOnce_6_1_5_175 k76 Q x5 x7 x8 v3 M9) ∧ (¬ M9.2.1 (57 + v3.toNatClampNeg) 2 = 0 → vp_in v3 20 ∧ ((M9.2.1 20 v3.toNatClampNeg ≤ M9.2.1 (57 + v3.toNatClampNeg) 0 → wb_X5_freezeAtOnce_6_1_5_180 k76 Q x5 x7 x8 0 v3 M9) ∧ (¬ M9.2.1 20 v3.toNatClampNeg ≤ M9.2.1 (57 + v3.toNatClampNeg) 0 → wb_X5_freezeAtOnce_6_1_5_175 k76 Q x5 x7 x8 v3 M9))))) ∧ (¬ x7 = 0 → ((M9.2.1 (57 + v3.toNatClampNeg) 1 = 0 → wb_X5_freezeAtOnce_6_1_5_146 k76 Q x5 x7 x8 v3 M9) ∧ (¬ M9.2.1 (57 + v3.toNatClampNeg) 1 = 0 → vp_in v3 20 ∧ ((M9.2.1 (57 + v3.toNatClampNeg) 0 ≤ M9.2.1 20 v3.toNatClampNeg → wb_X5_freezeAtOnce_6_1_5_180 k76 Q x5 x7 x8 0 v3 M9) ∧ (¬ M9.2.1 (57 + v3.toNatClampNeg) 0 ≤ M9.2.1 20 v3.toNatClampNeg → wb_X5_freezeAtOnce_6_1_5_146 k76 Q x5 x7 x8 v3 M9)))))))))
set_option maxHeartbeats 4000000 in
set_option maxRecDepth 100000 in
theorem tb_X5_freezeAtOnce_6_1_5_76 {g : fx_Geo} {p : Program} {l : Launch} {e : Env} {s : State} {m : MethodId} {args : Array Value} {below : List Frame} {meth : Method} {c : Code} (C : fx_Cx g p s m args meth c RX5 cX5_freezeAtOnce 11 (some .boolean)) (k76 : Int32 → Int32 → Int32 → fx_Mem → Prop) (Q : Int32 → fx_Mem → Prop) (hk76 : ∀ (x5 : Int32) (x7 : Int32) (x8 : Int32) (M : fx_Mem), k76 x5 x7 x8 M → ∀ (H : Heap) (locs : List Loc) (ls : Array Slot), fx_H g s M H locs → lv_has ls 11 [(0, .ref (fx_a g 6)), (1, .ref (fx_a g 1)), (2, .ref (fx_a g 5)), (5, .int x5), (7, .int x7), (8, .int x8)] → W p l e rm_X5_freezeAtOnce_6_1_5 s m args below meth c H locs 0 0 (MQ below (va_Qi Q (fx_Pw g) (fx_A g)) args s 0 0 (fx_A g)) (F0 m 76 ls [])) (x5 : Int32) (x7 : Int32) (x8 : Int32) (M : fx_Mem) (h : wb_X5_freezeAtOnce_6_1_5_76 k76 Q x5 x7 x8 M) (H : Heap) (locs : List Loc) (ls : Array Slot) (hH : fx_H g s M H locs) (hl : lv_has ls 11 [(0, .ref (fx_a g 6)), (1, .ref (fx_a g 1)), (2, .ref (fx_a g 5)), (5, .int x5), (7, .int x7), (8, .int x8)]) : W p l e rm_X5_freezeAtOnce_6_1_5 s m args below meth c H locs 0 0 (MQ below (va_Qi Q (fx_Pw g) (fx_A g)) args s 0 0 (fx_A g)) (F0 m 76 ls []) := by
  obtain ⟨hx, hb, hr, hml, hown, hts, hlocks, hsz, hK, hG, hSt⟩ := id C
  unfold wb_X5_freezeAtOnce_6_1_5_76 at h
  refine lv_iload hx hb dX5_freezeAtOnce_76 (lv_at hl 5 rfl) ?_
  refine lv_iload hx hb dX5_freezeAtOnce_78 (lv_at hl 3 rfl) ?_
  refine lv_icmp_ge (tgt := 187) hx hb dX5_freezeAtOnce_80 (by decide) (fun c1 => ?_) (fun c1 => ?_)
  · replace h := h.1 c1
    refine lv_iload hx hb dX5_freezeAtOnce_187 (lv_at hl 4 rfl) ?_
    exact fx_zret C hH h.1 h.2 dX5_freezeAtOnce_189
  · replace h := h.2 c1
    refine lv_aload_n hx hb dX5_freezeAtOnce_83 rfl (lv_at hl 2 rfl) ?_
    refine fx_get C hH (fx_w5 g M) rfl in_X0 0 (by decide) u_126 rfl rfl dX5_freezeAtOnce_84 ?_
    refine lv_iload hx hb dX5_freezeAtOnce_87 (lv_at hl 5 rfl) ?_
    obtain ⟨hi2, h⟩ := h
    refine fx_iald (j := x8.toNatClampNeg) C hH 18 (fx_w18 g M) rfl hi2 dX5_freezeAtOnce_89 ?_
    refine lv_topi (fun v3 ev3 => ?_)
    replace h := h v3 ev3
    refine lv_istore (lv' := [(9, .int v3), (0, .ref (fx_a g 6)), (1, .ref (fx_a g 1)), (2, .ref (fx_a g 5)), (5, .int x5), (7, .int x7), (8, .int x8)]) hx hb dX5_freezeAtOnce_90 hl (by decide) rfl (fun ls hl => ?_)
    refine lv_aload_n hx hb dX5_freezeAtOnce_92 rfl (lv_at hl 2 rfl) ?_
    refine fx_get C hH (fx_w1 g M) rfl in_X1 5 (by decide) u_58 rfl rfl dX5_freezeAtOnce_93 ?_
    refine lv_iload hx hb dX5_freezeAtOnce_96 (lv_at hl 0 rfl) ?_
    obtain ⟨hi4, h⟩ := h
    have hj5 : v3.toNatClampNeg < 20 := Nat.not_le.mp fun q => hi4 (Or.inr q)
    refine fx_aald C hH 11 (fx_w11 g M) hi4 dX5_freezeAtOnce_98 ?_
    refine lv_astore (lv' := [(10, .ref (fx_a g (57 + v3.toNatClampNeg))), (9, .int v3), (0, .ref (fx_a g 6)), (1, .ref (fx_a g 1)), (2, .ref (fx_a g 5)), (5, .int x5), (7, .int x7), (8, .int x8)]) hx hb dX5_freezeAtOnce_99 hl (by decide) rfl (fun ls hl => ?_)
    refine lv_aload_n hx hb dX5_freezeAtOnce_101 rfl (lv_at hl 2 rfl) ?_
    refine fx_get C hH (fx_w6 g M) rfl in_X5 0 (by decide) u_148 rfl rfl dX5_freezeAtOnce_102 ?_
    refine lv_iload hx hb dX5_freezeAtOnce_105 (lv_at hl 1 rfl) ?_
    refine lv_aload_n hx hb dX5_freezeAtOnce_107 rfl (lv_at hl 3 rfl) ?_
    refine lv_iload hx hb dX5_freezeAtOnce_108 (lv_at hl 1 rfl) ?_
    refine fx_ci hH (fx_runV (As := [.int v3]) (rest := [.int v3, .ref (fx_a g 20)]) C hH (c_X1_hypothetical_1 l C.2.2.2.2.2.2.2.2.2.1 v3 M _ h) (fx_cwV 1 hts u_336 u_249 u_250 u_2 u_251 rfl rfl (by decide +kernel) ⟨(Nat.le_of_ble_eq_true rfl), (Nat.le_of_ble_eq_true rfl)⟩) (fx_w1 g M) rfl rfl hl.1 rfl (Nat.le_of_ble_eq_true rfl) dX5_freezeAtOnce_110 ⟨(Nat.le_of_ble_eq_true rfl), (Nat.le_of_ble_eq_true rfl)⟩) (fun r7 M6 H locs h hH => ?_)
    obtain ⟨hi8, h⟩ := h
    refine fx_iast (j := v3.toNatClampNeg) (M' := fx_sa M6 20 v3.toNatClampNeg r7) C hH 20 rfl (fx_w20 g M6) (fx_p20 g M6 _) hi8 dX5_freezeAtOnce_113 (fun H locs hH => ?_)
    generalize eM9 : fx_sa M6 20 v3.toNatClampNeg r7 = M9 at hH
    replace h := h M9 eM9.symm
    refine lv_aload_n hx hb dX5_freezeAtOnce_114 rfl (lv_at hl 2 rfl) ?_
    refine fx_get C hH (fx_w6 g M9) rfl in_X5 5 (by decide) u_157 rfl rfl dX5_freezeAtOnce_115 ?_
    refine lv_iload hx hb dX5_freezeAtOnce_118 (lv_at hl 1 rfl) ?_
    refine lv_iload hx hb dX5_freezeAtOnce_120 (lv_at hl 6 rfl) ?_
    refine lv_if_eq (tgt := 154) hx hb dX5_freezeAtOnce_122 (by decide) (fun c10 => ?_) (fun c10 => ?_)
    · replace h := h.1 c10
      refine lv_aload hx hb dX5_freezeAtOnce_154 (lv_at hl 0 rfl) ?_
      refine lv_iconst (v := 2) hx hb dX5_freezeAtOnce_156 (by decide) ?_
      refine fx_iald (j := 2) C hH (57 + v3.toNatClampNeg) (fx_r1 g M9 v3.toNatClampNeg hj5) (by decide) (by unfold vp_in; decide) dX5_freezeAtOnce_157 ?_
      refine lv_if_eq (tgt := 175) hx hb dX5_freezeAtOnce_158 (by decide) (fun c11 => ?_) (fun c11 => ?_)
      · replace h := h.1 c11
        exact tb_X5_freezeAtOnce_6_1_5_175 C k76 Q hk76 x5 x7 x8 v3 M9 h  H locs ls hH (lv_sub hl [2, 3, 4, 5, 6, 7] rfl)
      · replace h := h.2 c11
        refine lv_aload hx hb dX5_freezeAtOnce_161 (lv_at hl 0 rfl) ?_
        refine lv_iconst (v := 0) hx hb dX5_freezeAtOnce_163 (by decide) ?_
        refine fx_iald (j := 0) C hH (57 + v3.toNatClampNeg) (fx_r1 g M9 v3.toNatClampNeg hj5) (by decide) (by unfold vp_in; decide) dX5_freezeAtOnce_164 ?_
        refine lv_aload_n hx hb dX5_freezeAtOnce_165 rfl (lv_at hl 2 rfl) ?_
        refine fx_get C hH (fx_w6 g M9) rfl in_X5 0 (by decide) u_148 rfl rfl dX5_freezeAtOnce_166 ?_
        refine lv_iload hx hb dX5_freezeAtOnce_169 (lv_at hl 1 rfl) ?_
        obtain ⟨hi12, h⟩ := h
        refine fx_iald (j := v3.toNatClampNeg) C hH 20 (fx_w20 g M9) rfl hi12 dX5_freezeAtOnce_171 ?_
        refine lv_icmp_ge (tgt := 179) hx hb dX5_freezeAtOnce_172 (by decide) (fun c13 => ?_) (fun c13 => ?_)
        · replace h := h.1 c13
          refine lv_iconst (v := 0) hx hb dX5_freezeAtOnce_179 (by decide) ?_
          exact tb_X5_freezeAtOnce_6_1_5_180 C k76 Q hk76 x5 x7 x8 0 v3 M9 h  H locs ls hH (lv_sub hl [2, 3, 4, 5, 6, 7] rfl)
        · replace h := h.2 c13
          exact tb_X5_freezeAtOnce_6_1_5_175 C k76 Q hk76 x5 x7 x8 v3 M9 h  H locs ls hH (lv_sub hl [2, 3, 4, 5, 6, 7] rfl)
    · replace h := h.2 c10
      refine lv_aload hx hb dX5_freezeAtOnce_125 (lv_at hl 0 rfl) ?_
      refine lv_iconst (v := 1) hx hb dX5_freezeAtOnce_127 (by decide) ?_
      refine fx_iald (j := 1) C hH (57 + v3.toNatClampNeg) (fx_r1 g M9 v3.toNatClampNeg hj5) (by decide) (by unfold vp_in; decide) dX5_freezeAtOnce_128 ?_
      refine lv_if_eq (tgt := 146) hx hb dX5_freezeAtOnce_129 (by decide) (fun c14 => ?_) (fun c14 => ?_)
      · replace h := h.1 c14
        exact tb_X5_freezeAtOnce_6_1_5_146 C k76 Q hk76 x5 x7 x8 v3 M9 h  H locs ls hH (lv_sub hl [2, 3, 4, 5, 6, 7] rfl)
      · replace h := h.2 c14
        refine lv_aload hx hb dX5_freezeAtOnce_132 (lv_at hl 0 rfl) ?_
        refine lv_iconst (v := 0) hx hb dX5_freezeAtOnce_134 (by decide) ?_
        refine fx_iald (j := 0) C hH (57 + v3.toNatClampNeg) (fx_r1 g M9 v3.toNatClampNeg hj5) (by decide) (by unfold vp_in; decide) dX5_freezeAtOnce_135 ?_
        refine lv_aload_n hx hb dX5_freezeAtOnce_136 rfl (lv_at hl 2 rfl) ?_
        refine fx_get C hH (fx_w6 g M9) rfl in_X5 0 (by decide) u_148 rfl rfl dX5_freezeAtOnce_137 ?_
        refine lv_iload hx hb dX5_freezeAtOnce_140 (lv_at hl 1 rfl) ?_
        obtain ⟨hi15, h⟩ := h
        refine fx_iald (j := v3.toNatClampNeg) C hH 20 (fx_w20 g M9) rfl hi15 dX5_freezeAtOnce_142 ?_
        refine lv_icmp_le (tgt := 150) hx hb dX5_freezeAtOnce_143 (by decide) (fun c16 => ?_) (fun c16 => ?_)
        · replace h := h.1 c16
          refine lv_iconst (v := 0) hx hb dX5_freezeAtOnce_150 (by decide) ?_
          refine lv_goto (tgt := 180) hx hb dX5_freezeAtOnce_151 (by decide) ?_
          exact tb_X5_freezeAtOnce_6_1_5_180 C k76 Q hk76 x5 x7 x8 0 v3 M9 h  H locs ls hH (lv_sub hl [2, 3, 4, 5, 6, 7] rfl)
        · replace h := h.2 c16
          exact tb_X5_freezeAtOnce_6_1_5_146 C k76 Q hk76 x5 x7 x8 v3 M9 h  H locs ls hH (lv_sub hl [2, 3, 4, 5, 6, 7] rfl)
def wl_X5_freezeAtOnce_6_1_5_76 (Q : Int32 → fx_Mem → Prop) (n : Nat) (x5 : Int32) (x7 : Int32) (x8 : Int32) (M : fx_Mem) : Prop :=
  fx_lp (α := Int32 × Int32 × Int32 × fx_Mem) (fun k a => wb_X5_freezeAtOnce_6_1_5_76 (fun x5 x7 x8 M => k (x5, x7, x8, M)) Q a.1 a.2.1 a.2.2.1 a.2.2.2) n (x5, x7, x8, M)
set_option maxHeartbeats 4000000 in
theorem tl_X5_freezeAtOnce_6_1_5_76 {g : fx_Geo} {p : Program} {l : Launch} {e : Env} {s : State} {m : MethodId} {args : Array Value} {below : List Frame} {meth : Method} {c : Code} (C : fx_Cx g p s m args meth c RX5 cX5_freezeAtOnce 11 (some .boolean)) (Q : Int32 → fx_Mem → Prop) : ∀ (n : Nat) (x5 : Int32) (x7 : Int32) (x8 : Int32) (M : fx_Mem), wl_X5_freezeAtOnce_6_1_5_76  Q n x5 x7 x8 M → ∀ (H : Heap) (locs : List Loc) (ls : Array Slot), fx_H g s M H locs → lv_has ls 11 [(0, .ref (fx_a g 6)), (1, .ref (fx_a g 1)), (2, .ref (fx_a g 5)), (5, .int x5), (7, .int x7), (8, .int x8)] → W p l e rm_X5_freezeAtOnce_6_1_5 s m args below meth c H locs 0 0 (MQ below (va_Qi Q (fx_Pw g) (fx_A g)) args s 0 0 (fx_A g)) (F0 m 76 ls []) := by
  intro n
  induction n with
  | zero => intro x5 x7 x8 M h; exact False.elim h
  | succ n ih => intro x5 x7 x8 M h  H locs ls hH hl; exact tb_X5_freezeAtOnce_6_1_5_76 C (wl_X5_freezeAtOnce_6_1_5_76  Q n) Q ih x5 x7 x8 M h  H locs ls hH hl
def wb_X5_freezeAtOnce_6_1_5_70 (Q : Int32 → fx_Mem → Prop) (x4 : Int32) (x5 : Int32) (s0 : Int32) (M : fx_Mem) : Prop :=
  ∃ n76 : Nat, wl_X5_freezeAtOnce_6_1_5_76 Q n76 x5 s0 x4 M
set_option maxHeartbeats 4000000 in
set_option maxRecDepth 100000 in
theorem tb_X5_freezeAtOnce_6_1_5_70 {g : fx_Geo} {p : Program} {l : Launch} {e : Env} {s : State} {m : MethodId} {args : Array Value} {below : List Frame} {meth : Method} {c : Code} (C : fx_Cx g p s m args meth c RX5 cX5_freezeAtOnce 11 (some .boolean)) (Q : Int32 → fx_Mem → Prop) (x4 : Int32) (x5 : Int32) (s0 : Int32) (M : fx_Mem) (h : wb_X5_freezeAtOnce_6_1_5_70 Q x4 x5 s0 M) (H : Heap) (locs : List Loc) (ls : Array Slot) (hH : fx_H g s M H locs) (hl : lv_has ls 11 [(0, .ref (fx_a g 6)), (1, .ref (fx_a g 1)), (2, .ref (fx_a g 5)), (4, .int x4), (5, .int x5)]) : W p l e rm_X5_freezeAtOnce_6_1_5 s m args below meth c H locs 0 0 (MQ below (va_Qi Q (fx_Pw g) (fx_A g)) args s 0 0 (fx_A g)) (F0 m 70 ls [.int s0]) := by
  obtain ⟨hx, hb, hr, hml, hown, hts, hlocks, hsz, hK, hG, hSt⟩ := id C
  unfold wb_X5_freezeAtOnce_6_1_5_70 at h
  refine lv_istore (lv' := [(7, .int s0), (0, .ref (fx_a g 6)), (1, .ref (fx_a g 1)), (2, .ref (fx_a g 5)), (4, .int x4), (5, .int x5)]) hx hb dX5_freezeAtOnce_70 hl (by decide) rfl (fun ls hl => ?_)
  refine lv_iload hx hb dX5_freezeAtOnce_72 (lv_at hl 4 rfl) ?_
  refine lv_istore (lv' := [(8, .int x4), (7, .int s0), (0, .ref (fx_a g 6)), (1, .ref (fx_a g 1)), (2, .ref (fx_a g 5)), (4, .int x4), (5, .int x5)]) hx hb dX5_freezeAtOnce_74 hl (by decide) rfl (fun ls hl => ?_)
  obtain ⟨n76, h⟩ := h
  exact tl_X5_freezeAtOnce_6_1_5_76 C Q  n76 x5 s0 x4 M h  H locs ls hH (lv_sub hl [2, 3, 4, 6, 1, 0] rfl)
def wb_X5_freezeAtOnce_6_1_5_54 (Q : Int32 → fx_Mem → Prop) (x3 : Int32) (x4 : Int32) (x5 : Int32) (x6 : Int32) (M : fx_Mem) : Prop :=
  wp_X0_available_5_1 x3 M (fun r2 M1 => ((r2 ≤ x6 → wb_X5_freezeAtOnce_6_1_5_70 Q x4 x5 0 M1) ∧ (¬ r2 ≤ x6 → wb_X5_freezeAtOnce_6_1_5_70 Q x4 x5 1 M1)))
set_option maxHeartbeats 4000000 in
set_option maxRecDepth 100000 in
theorem tb_X5_freezeAtOnce_6_1_5_54 {g : fx_Geo} {p : Program} {l : Launch} {e : Env} {s : State} {m : MethodId} {args : Array Value} {below : List Frame} {meth : Method} {c : Code} (C : fx_Cx g p s m args meth c RX5 cX5_freezeAtOnce 11 (some .boolean)) (Q : Int32 → fx_Mem → Prop) (x3 : Int32) (x4 : Int32) (x5 : Int32) (x6 : Int32) (M : fx_Mem) (h : wb_X5_freezeAtOnce_6_1_5_54 Q x3 x4 x5 x6 M) (H : Heap) (locs : List Loc) (ls : Array Slot) (hH : fx_H g s M H locs) (hl : lv_has ls 11 [(0, .ref (fx_a g 6)), (1, .ref (fx_a g 1)), (2, .ref (fx_a g 5)), (3, .int x3), (4, .int x4), (5, .int x5), (6, .int x6)]) : W p l e rm_X5_freezeAtOnce_6_1_5 s m args below meth c H locs 0 0 (MQ below (va_Qi Q (fx_Pw g) (fx_A g)) args s 0 0 (fx_A g)) (F0 m 54 ls []) := by
  obtain ⟨hx, hb, hr, hml, hown, hts, hlocks, hsz, hK, hG, hSt⟩ := id C
  unfold wb_X5_freezeAtOnce_6_1_5_54 at h
  refine lv_iload hx hb dX5_freezeAtOnce_54 (lv_at hl 6 rfl) ?_
  refine lv_aload_n hx hb dX5_freezeAtOnce_56 rfl (lv_at hl 2 rfl) ?_
  refine lv_aload_n hx hb dX5_freezeAtOnce_57 rfl (lv_at hl 1 rfl) ?_
  refine lv_iload_n hx hb dX5_freezeAtOnce_58 rfl (lv_at hl 3 rfl) ?_
  refine fx_ci hH (fx_runV (As := [.ref (fx_a g 1), .int x3]) (rest := [.int x6]) C hH (c_X0_available_5_1 l C.2.2.2.2.2.2.2.2.2.1 x3 M _ h) (fx_cwV 2 hts u_337 u_338 u_339 u_5 u_340 rfl rfl (by decide +kernel) ⟨(Nat.le_of_ble_eq_true rfl), (Nat.le_of_ble_eq_true rfl)⟩) (fx_w5 g M) rfl rfl hl.1 rfl (Nat.le_of_ble_eq_true rfl) dX5_freezeAtOnce_59 ⟨(Nat.le_of_ble_eq_true rfl), (Nat.le_of_ble_eq_true rfl)⟩) (fun r2 M1 H locs h hH => ?_)
  refine lv_icmp_ge (tgt := 69) hx hb dX5_freezeAtOnce_62 (by decide) (fun c3 => ?_) (fun c3 => ?_)
  · replace h := h.1 c3
    refine lv_iconst (v := 0) hx hb dX5_freezeAtOnce_69 (by decide) ?_
    exact tb_X5_freezeAtOnce_6_1_5_70 C Q  x4 x5 0 M1 h  H locs ls hH (lv_sub hl [0, 1, 2, 4, 5] rfl)
  · replace h := h.2 c3
    refine lv_iconst (v := 1) hx hb dX5_freezeAtOnce_65 (by decide) ?_
    refine lv_goto (tgt := 70) hx hb dX5_freezeAtOnce_66 (by decide) ?_
    exact tb_X5_freezeAtOnce_6_1_5_70 C Q  x4 x5 1 M1 h  H locs ls hH (lv_sub hl [0, 1, 2, 4, 5] rfl)
def wp_X5_freezeAtOnce_6_1_5 (a3 : Int32) (M : fx_Mem) (Q : Int32 → fx_Mem → Prop) : Prop :=
  vp_in a3 21 ∧ ∀ v2 : Int32, v2 = M.2.1 19 a3.toNatClampNeg → vp_in (a3 + 1) 21 ∧ ∀ v4 : Int32, v4 = M.2.1 19 ((a3 + 1).toNatClampNeg) → ∃ n25 : Nat, wl_X5_freezeAtOnce_6_1_5_25 (wb_X5_freezeAtOnce_6_1_5_54 Q) Q n25 a3 v2 v4 0 v2 M
set_option maxHeartbeats 4000000 in
set_option maxRecDepth 100000 in
theorem c_X5_freezeAtOnce_6_1_5 (l : Launch) {g : fx_Geo} (hG : fx_Gd g) (a3 : Int32) (M : fx_Mem) (Q : Int32 → fx_Mem → Prop) (h : wp_X5_freezeAtOnce_6_1_5 a3 M Q) : Met l yX5_freezeAtOnce (.code yX5_freezeAtOnce cX5_freezeAtOnce 11 (some .boolean) :: fx_U) rm_X5_freezeAtOnce_6_1_5 (va_Pc [.ref (fx_a g 6), .ref (fx_a g 1), .ref (fx_a g 5), .int a3] (fx_At g M)) (va_Qi Q (fx_Pw g) (fx_A g)) 0 0 (fx_A g) := by
  refine Met.ofW (cc := cX5_freezeAtOnce) (maxL := 11) (ret := (some .boolean)) (by decide +kernel) rfl ?_
  intro p e s m args below meth c s₁ B hml hv
  obtain ⟨rfl, hv⟩ := hv
  have hts := atoms_spec (ws := .code yX5_freezeAtOnce cX5_freezeAtOnce 11 (some .boolean) :: fx_U) B.pre
  obtain ⟨C, hH⟩ := fx_body (own := RX5) B hml rfl (fun w hw => hts w (List.mem_cons_of_mem _ hw)) hG hv
  replace hts := fun w hw => hts w (List.mem_cons_of_mem _ hw)
  obtain ⟨hx, hb, hr, -, hown, -, hlocks, hsz, hK, -, hSt⟩ := id C
  have hl := lv_entry ([.ref (fx_a g 6), .ref (fx_a g 1), .ref (fx_a g 5), .int a3]) (n := 11) (Nat.le_of_ble_eq_true rfl)
  rw [lg_entry_eq]
  generalize (lg_sl ([.ref (fx_a g 6), .ref (fx_a g 1), .ref (fx_a g 5), .int a3]) ++ List.replicate (11 - (lg_sl ([.ref (fx_a g 6), .ref (fx_a g 1), .ref (fx_a g 5), .int a3])).length) Slot.unset).toArray = ls at hl ⊢
  have hl : lv_has ls 11 [(0, .ref (fx_a g 6)), (1, .ref (fx_a g 1)), (2, .ref (fx_a g 5)), (3, .int a3)] := hl
  obtain ⟨H, eH⟩ : ∃ H : Heap, H = s.heap := ⟨_, rfl⟩
  obtain ⟨locs, elocs⟩ : ∃ q : List Loc, q = [] := ⟨_, rfl⟩
  rw [← eH, ← elocs] at hH
  show W p l e rm_X5_freezeAtOnce_6_1_5 s m _ below meth c s.heap [] 0 0 _ _
  rw [← eH, ← elocs]
  unfold wp_X5_freezeAtOnce_6_1_5 at h
  refine lv_aload_n hx hb dX5_freezeAtOnce_0 rfl (lv_at hl 2 rfl) ?_
  refine fx_get C hH (fx_w5 g M) rfl in_X0 1 (by decide) u_130 rfl rfl dX5_freezeAtOnce_1 ?_
  refine lv_iload_n hx hb dX5_freezeAtOnce_4 rfl (lv_at hl 3 rfl) ?_
  obtain ⟨hi1, h⟩ := h
  refine fx_iald (j := a3.toNatClampNeg) C hH 19 (fx_w19 g M) rfl hi1 dX5_freezeAtOnce_5 ?_
  refine lv_topi (fun v2 ev2 => ?_)
  replace h := h v2 ev2
  refine lv_istore (lv' := [(4, .int v2), (0, .ref (fx_a g 6)), (1, .ref (fx_a g 1)), (2, .ref (fx_a g 5)), (3, .int a3)]) hx hb dX5_freezeAtOnce_6 hl (by decide) rfl (fun ls hl => ?_)
  refine lv_aload_n hx hb dX5_freezeAtOnce_8 rfl (lv_at hl 3 rfl) ?_
  refine fx_get C hH (fx_w5 g M) rfl in_X0 1 (by decide) u_130 rfl rfl dX5_freezeAtOnce_9 ?_
  refine lv_iload_n hx hb dX5_freezeAtOnce_12 rfl (lv_at hl 4 rfl) ?_
  refine lv_iconst (v := 1) hx hb dX5_freezeAtOnce_13 (by decide) ?_
  refine lv_iadd hx hb dX5_freezeAtOnce_14 ?_
  obtain ⟨hi3, h⟩ := h
  refine fx_iald (j := (a3 + 1).toNatClampNeg) C hH 19 (fx_w19 g M) rfl hi3 dX5_freezeAtOnce_15 ?_
  refine lv_topi (fun v4 ev4 => ?_)
  replace h := h v4 ev4
  refine lv_istore (lv' := [(5, .int v4), (4, .int v2), (0, .ref (fx_a g 6)), (1, .ref (fx_a g 1)), (2, .ref (fx_a g 5)), (3, .int a3)]) hx hb dX5_freezeAtOnce_16 hl (by decide) rfl (fun ls hl => ?_)
  refine lv_iconst (v := 0) hx hb dX5_freezeAtOnce_18 (by decide) ?_
  refine lv_istore (lv' := [(6, .int 0), (5, .int v4), (4, .int v2), (0, .ref (fx_a g 6)), (1, .ref (fx_a g 1)), (2, .ref (fx_a g 5)), (3, .int a3)]) hx hb dX5_freezeAtOnce_19 hl (by decide) rfl (fun ls hl => ?_)
  refine lv_iload hx hb dX5_freezeAtOnce_21 (lv_at hl 2 rfl) ?_
  refine lv_istore (lv' := [(7, .int v2), (6, .int 0), (5, .int v4), (4, .int v2), (0, .ref (fx_a g 6)), (1, .ref (fx_a g 1)), (2, .ref (fx_a g 5)), (3, .int a3)]) hx hb dX5_freezeAtOnce_23 hl (by decide) rfl (fun ls hl => ?_)
  obtain ⟨n25, h⟩ := h
  exact tl_X5_freezeAtOnce_6_1_5_25 C (wb_X5_freezeAtOnce_6_1_5_54 Q) Q (tb_X5_freezeAtOnce_6_1_5_54 C Q ) n25 a3 v2 v4 0 v2 M h  H locs ls hH (lv_sub hl [4, 5, 6, 7, 3, 2, 1, 0] rfl)
