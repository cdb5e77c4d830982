/-! the law's loop, a block a case -/
def fx_scr (g : fx_Geo) (s : State) (b L : Nat) (xs : Nat → Int32) : Prop := va_X b L xs s s.heap ∧ b < s.heap.size ∧ ¬ fx_A g b ∧ g.2.2.2 = s.heap.size

def wb_law_1622 (L : Nat) (xs : Nat → Int32) (k23 : Int32 → fx_Mem → Prop) (x4 : Int32) (M : fx_Mem) : Prop :=
  ∀ v1 : Int32, v1 = x4 + 4 → k23 v1 M
set_option maxHeartbeats 8000000 in
set_option maxRecDepth 100000 in
theorem tb_law_1622 {g : fx_Geo} {p : Program} {l : Launch} {e : Env} {s : State} {m : MethodId} {b : Nat} {below : List Frame} {meth : Method} {c : Code} {L : Nat} {xs : Nat → Int32} {cells slots : Nat} (C : fx_Cx g p s m #[Value.ref b] meth c RL cL_law 7 ret) (hfl : l.stackTraces = false) (Y : fx_scr g s b L xs) (hcb : cells + 3 ≤ 603072) (hsb : slots + 18 ≤ 7198826) (k23 : Int32 → fx_Mem → Prop) (hk23 : ∀ (x4 : Int32) (M : fx_Mem), k23 x4 M → ∀ (H : Heap) (locs : List Loc) (ls : Array Slot), fx_H g s M H locs → lv_has ls 7 [(0, .ref b), (1, .ref (fx_a g 0)), (2, .ref (fx_a g 8)), (3, .ref (fx_a g 9)), (4, .int x4)] → W p l e room_1 s m #[Value.ref b] below meth c H locs (cells + 3) (slots + 18) (lw_Z below #[Value.ref b] s) (F0 m 23 ls [])) (x4 : Int32) (M : fx_Mem) (h : wb_law_1622 L xs k23 x4 M) (H : Heap) (locs : List Loc) (ls : Array Slot) (hH : fx_H g s M H locs) (hl : lv_has ls 7 [(0, .ref b), (1, .ref (fx_a g 0)), (2, .ref (fx_a g 8)), (3, .ref (fx_a g 9)), (4, .int x4)]) : W p l e room_1 s m #[Value.ref b] below meth c H locs (cells + 3) (slots + 18) (lw_Z below #[Value.ref b] s) (F0 m 1622 ls []) := by
  obtain ⟨hx, hb, hr, hml, hown, hts, hlocks, hsz, hK, hG, hSt⟩ := id C
  obtain ⟨hX, hbl, hbA, hbas⟩ := id Y
  unfold wb_law_1622 at h
  obtain ⟨v1, ev1⟩ : ∃ z : Int32, z = x4 + 4 := ⟨_, rfl⟩
  refine lv_iinc (v := v1) (lv' := [(4, .int v1), (0, .ref b), (1, .ref (fx_a g 0)), (2, .ref (fx_a g 8)), (3, .ref (fx_a g 9))]) hx hb dL_law_1622 hl (k := 4) rfl (by rw [ev1]; rfl) (by decide) rfl (fun ls hl => ?_)
  replace h := h v1 ev1
  refine lv_goto (tgt := 23) hx hb dL_law_1625 (by decide) ?_
  exact hk23 v1 M h H locs ls hH (lv_sub hl [1, 2, 3, 4, 0] rfl)
def wb_law_1339 (L : Nat) (xs : Nat → Int32) (k23 : Int32 → fx_Mem → Prop) (x4 : Int32) (x5 : Int32) (x6 : Int32) (s0 : Int64) (s1 : Int64) (M : fx_Mem) : Prop :=
  ((lg_cmp s1 s0 = 0 → wb_law_1622 L xs k23 x4 M) ∧ (¬ lg_cmp s1 s0 = 0 → False))
set_option maxHeartbeats 8000000 in
set_option maxRecDepth 100000 in
theorem tb_law_1339 {g : fx_Geo} {p : Program} {l : Launch} {e : Env} {s : State} {m : MethodId} {b : Nat} {below : List Frame} {meth : Method} {c : Code} {L : Nat} {xs : Nat → Int32} {cells slots : Nat} (C : fx_Cx g p s m #[Value.ref b] meth c RL cL_law 7 ret) (hfl : l.stackTraces = false) (Y : fx_scr g s b L xs) (hcb : cells + 3 ≤ 603072) (hsb : slots + 18 ≤ 7198826) (k23 : Int32 → fx_Mem → Prop) (hk23 : ∀ (x4 : Int32) (M : fx_Mem), k23 x4 M → ∀ (H : Heap) (locs : List Loc) (ls : Array Slot), fx_H g s M H locs → lv_has ls 7 [(0, .ref b), (1, .ref (fx_a g 0)), (2, .ref (fx_a g 8)), (3, .ref (fx_a g 9)), (4, .int x4)] → W p l e room_1 s m #[Value.ref b] below meth c H locs (cells + 3) (slots + 18) (lw_Z below #[Value.ref b] s) (F0 m 23 ls [])) (x4 : Int32) (x5 : Int32) (x6 : Int32) (s0 : Int64) (s1 : Int64) (M : fx_Mem) (h : wb_law_1339 L xs k23 x4 x5 x6 s0 s1 M) (H : Heap) (locs : List Loc) (ls : Array Slot) (hH : fx_H g s M H locs) (hl : lv_has ls 7 [(0, .ref b), (1, .ref (fx_a g 0)), (2, .ref (fx_a g 8)), (3, .ref (fx_a g 9)), (4, .int x4), (5, .int x5), (6, .int x6)]) : W p l e room_1 s m #[Value.ref b] below meth c H locs (cells + 3) (slots + 18) (lw_Z below #[Value.ref b] s) (F0 m 1339 ls [.long s0, .long s1]) := by
  obtain ⟨hx, hb, hr, hml, hown, hts, hlocks, hsz, hK, hG, hSt⟩ := id C
  obtain ⟨hX, hbl, hbA, hbas⟩ := id Y
  unfold wb_law_1339 at h
  refine W.lcmp hx hb dL_law_1339 ?_
  refine lv_if_eq (tgt := 1345) hx hb dL_law_1340 (by decide) (fun c1 => ?_) (fun c1 => ?_)
  · replace h := h.1 c1
    refine lv_goto (tgt := 1622) hx hb dL_law_1345 (by decide) ?_
    exact tb_law_1622 C hfl Y hcb hsb k23 hk23 x4 M h H locs ls hH (lv_sub hl [0, 1, 2, 3, 4] rfl)
  · replace h := h.2 c1
    exact False.elim h
def wb_law_164 (L : Nat) (xs : Nat → Int32) (k23 : Int32 → fx_Mem → Prop) (x4 : Int32) (M : fx_Mem) : Prop :=
  vp_in (x4 + 1) L ∧ wp_L_setMainSize_0_9 (xs (x4 + 1).toNatClampNeg) M (fun r3 M2 => vp_in (x4 + 1) L ∧ wp_X7_setMainSize_8 (xs (x4 + 1).toNatClampNeg) M2 (fun r6 M5 => wp_X7_thrown_8  M5 (fun r8 M7 => ((r8 = r3 → ((r3 = 0 → ((lg_cmp (M7.2.2 9 0) r6.toInt64 = 0 → wb_law_1622 L xs k23 x4 M7) ∧ (¬ lg_cmp (M7.2.2 9 0) r6.toInt64 = 0 → False))) ∧ (¬ r3 = 0 → wb_law_1622 L xs k23 x4 M7))) ∧ (¬ r8 = r3 → False)))))
set_option maxHeartbeats 8000000 in
set_option maxRecDepth 100000 in
theorem tb_law_164 {g : fx_Geo} {p : Program} {l : Launch} {e : Env} {s : State} {m : MethodId} {b : Nat} {below : List Frame} {meth : Method} {c : Code} {L : Nat} {xs : Nat → Int32} {cells slots : Nat} (C : fx_Cx g p s m #[Value.ref b] meth c RL cL_law 7 ret) (hfl : l.stackTraces = false) (Y : fx_scr g s b L xs) (hcb : cells + 3 ≤ 603072) (hsb : slots + 18 ≤ 7198826) (k23 : Int32 → fx_Mem → Prop) (hk23 : ∀ (x4 : Int32) (M : fx_Mem), k23 x4 M → ∀ (H : Heap) (locs : List Loc) (ls : Array Slot), fx_H g s M H locs → lv_has ls 7 [(0, .ref b), (1, .ref (fx_a g 0)), (2, .ref (fx_a g 8)), (3, .ref (fx_a g 9)), (4, .int x4)] → W p l e room_1 s m #[Value.ref b] below meth c H locs (cells + 3) (slots + 18) (lw_Z below #[Value.ref b] s) (F0 m 23 ls [])) (x4 : Int32) (M : fx_Mem) (h : wb_law_164 L xs k23 x4 M) (H : Heap) (locs : List Loc) (ls : Array Slot) (hH : fx_H g s M H locs) (hl : lv_has ls 7 [(0, .ref b), (1, .ref (fx_a g 0)), (2, .ref (fx_a g 8)), (3, .ref (fx_a g 9)), (4, .int x4)]) : W p l e room_1 s m #[Value.ref b] below meth c H locs cells slots (lw_Z below #[Value.ref b] s) (F0 m 164 ls []) := by
  obtain ⟨hx, hb, hr, hml, hown, hts, hlocks, hsz, hK, hG, hSt⟩ := id C
  obtain ⟨hX, hbl, hbA, hbas⟩ := id Y
  unfold wb_law_164 at h
  refine lv_aload_n hx hb dL_law_164 rfl (lv_at hl 1 rfl) ?_
  refine lv_aload_n hx hb dL_law_165 rfl (lv_at hl 0 rfl) ?_
  refine lv_iload hx hb dL_law_166 (lv_at hl 4 rfl) ?_
  refine lv_iconst (v := 1) hx hb dL_law_168 (by decide) ?_
  refine lv_iadd hx hb dL_law_169 ?_
  obtain ⟨hi1, h⟩ := h
  refine va_sld hx hb hX hbl hbA hH.2 hi1 dL_law_170 ?_
  refine lv_aload_n hx hb dL_law_171 rfl (lv_at hl 3 rfl) ?_
  refine fx_ciC hH (fx_runSW (As := [.ref (fx_a g 0), .int (xs (x4 + 1).toNatClampNeg), .ref (fx_a g 9)]) (rest := []) C hH (c_L_setMainSize_0_9 l hG hfl (xs (x4 + 1).toNatClampNeg) M _ h) (fx_cwSW 3 hts u_397 u_398 u_0 u_399 rfl rfl (by decide +kernel) ⟨(Nat.le_of_ble_eq_true rfl), (Nat.le_of_ble_eq_true rfl)⟩) rfl hl.1 rfl (Nat.le_of_ble_eq_true rfl) dL_law_172 ⟨by show cells + 1 ≤ 603072; omega, by show slots + 6 ≤ 7198826; omega⟩) (fun r3 M2 H locs h hH => ?_)
  refine lv_istore (lv' := [(5, .int r3), (0, .ref b), (1, .ref (fx_a g 0)), (2, .ref (fx_a g 8)), (3, .ref (fx_a g 9)), (4, .int x4)]) hx hb dL_law_175 hl (by decide) rfl (fun ls hl => ?_)
  refine lv_aload_n hx hb dL_law_177 rfl (lv_at hl 3 rfl) ?_
  refine lv_aload_n hx hb dL_law_178 rfl (lv_at hl 1 rfl) ?_
  refine lv_iload hx hb dL_law_179 (lv_at hl 5 rfl) ?_
  refine lv_iconst (v := 1) hx hb dL_law_181 (by decide) ?_
  refine lv_iadd hx hb dL_law_182 ?_
  obtain ⟨hi4, h⟩ := h
  refine va_sld hx hb hX hbl hbA hH.2 hi4 dL_law_183 ?_
  refine fx_ci hH (fx_runV (As := [.int (xs (x4 + 1).toNatClampNeg)]) (rest := []) C hH (c_X7_setMainSize_8 l hG (xs (x4 + 1).toNatClampNeg) M2 _ h) (fx_cwV 1 hts u_933 u_934 u_935 u_8 u_936 rfl rfl (by decide +kernel) ⟨(Nat.le_of_ble_eq_true rfl), (Nat.le_of_ble_eq_true rfl)⟩) (fx_w8 g M2) rfl rfl hl.1 rfl (Nat.le_of_ble_eq_true rfl) dL_law_184 ⟨by show (cells + 1) + 0 ≤ 603072; omega, by show (slots + 6) + 0 ≤ 7198826; omega⟩) (fun r6 M5 H locs h hH => ?_)
  refine lv_istore (lv' := [(6, .int r6), (5, .int r3), (0, .ref b), (1, .ref (fx_a g 0)), (2, .ref (fx_a g 8)), (3, .ref (fx_a g 9)), (4, .int x4)]) hx hb dL_law_187 hl (by decide) rfl (fun ls hl => ?_)
  refine lv_aload_n hx hb dL_law_189 rfl (lv_at hl 4 rfl) ?_
  refine fx_ci hH (fx_runV (As := []) (rest := []) C hH (c_X7_thrown_8 l hG  M5 _ h) (fx_cwV 0 hts u_929 u_930 u_931 u_8 u_932 rfl rfl (by decide +kernel) ⟨(Nat.le_of_ble_eq_true rfl), (Nat.le_of_ble_eq_true rfl)⟩) (fx_w8 g M5) rfl rfl hl.1 rfl (Nat.le_of_ble_eq_true rfl) dL_law_190 ⟨by show (cells + 1) + 0 ≤ 603072; omega, by show (slots + 6) + 0 ≤ 7198826; omega⟩) (fun r8 M7 H locs h hH => ?_)
  refine lv_iload hx hb dL_law_193 (lv_at hl 1 rfl) ?_
  refine lv_icmp_eq (tgt := 200) hx hb dL_law_195 (by decide) (fun c9 => ?_) (fun c9 => ?_)
  · replace h := h.1 c9
    refine lv_iload hx hb dL_law_200 (lv_at hl 1 rfl) ?_
    refine lv_if_ne (tgt := 217) hx hb dL_law_202 (by decide) (fun c10 => ?_) (fun c10 => ?_)
    · replace h := h.2 c10
      refine lv_goto (tgt := 1622) hx hb dL_law_217 (by decide) ?_
      refine W.widen (k := (cells + 3)) (n := (slots + 18)) (by omega) (by omega) ?_
      exact tb_law_1622 C hfl Y hcb hsb k23 hk23 x4 M7 h H locs ls hH (lv_sub hl [2, 3, 4, 5, 6] rfl)
    · replace h := h.1 c10
      refine lv_aload_n hx hb dL_law_205 rfl (lv_at hl 5 rfl) ?_
      refine lv_iconst (v := 0) hx hb dL_law_206 (by decide) ?_
      refine fx_lald (j := 0) C hH 9 (fx_w9 g M7) (by decide) (by unfold vp_in; decide) dL_law_207 ?_
      refine lv_iload hx hb dL_law_208 (lv_at hl 0 rfl) ?_
      refine lv_i2l hx hb dL_law_210 rfl ?_
      refine W.lcmp hx hb dL_law_211 ?_
      refine lv_if_eq (tgt := 217) hx hb dL_law_212 (by decide) (fun c11 => ?_) (fun c11 => ?_)
      · replace h := h.1 c11
        refine lv_goto (tgt := 1622) hx hb dL_law_217 (by decide) ?_
        refine W.widen (k := (cells + 3)) (n := (slots + 18)) (by omega) (by omega) ?_
        exact tb_law_1622 C hfl Y hcb hsb k23 hk23 x4 M7 h H locs ls hH (lv_sub hl [2, 3, 4, 5, 6] rfl)
      · replace h := h.2 c11
        exact False.elim h
  · replace h := h.2 c9
    exact False.elim h
def wb_law_220 (L : Nat) (xs : Nat → Int32) (k23 : Int32 → fx_Mem → Prop) (x4 : Int32) (M : fx_Mem) : Prop :=
  vp_in (x4 + 1) L ∧ wp_L_setCrossSize_0_9 (xs (x4 + 1).toNatClampNeg) M (fun r3 M2 => vp_in (x4 + 1) L ∧ wp_X7_setCrossSize_8 (xs (x4 + 1).toNatClampNeg) M2 (fun r6 M5 => wp_X7_thrown_8  M5 (fun r8 M7 => ((r8 = r3 → ((r3 = 0 → ((lg_cmp (M7.2.2 9 0) r6.toInt64 = 0 → wb_law_1622 L xs k23 x4 M7) ∧ (¬ lg_cmp (M7.2.2 9 0) r6.toInt64 = 0 → False))) ∧ (¬ r3 = 0 → wb_law_1622 L xs k23 x4 M7))) ∧ (¬ r8 = r3 → False)))))
set_option maxHeartbeats 8000000 in
set_option maxRecDepth 100000 in
theorem tb_law_220 {g : fx_Geo} {p : Program} {l : Launch} {e : Env} {s : State} {m : MethodId} {b : Nat} {below : List Frame} {meth : Method} {c : Code} {L : Nat} {xs : Nat → Int32} {cells slots : Nat} (C : fx_Cx g p s m #[Value.ref b] meth c RL cL_law 7 ret) (hfl : l.stackTraces = false) (Y : fx_scr g s b L xs) (hcb : cells + 3 ≤ 603072) (hsb : slots + 18 ≤ 7198826) (k23 : Int32 → fx_Mem → Prop) (hk23 : ∀ (x4 : Int32) (M : fx_Mem), k23 x4 M → ∀ (H : Heap) (locs : List Loc) (ls : Array Slot), fx_H g s M H locs → lv_has ls 7 [(0, .ref b), (1, .ref (fx_a g 0)), (2, .ref (fx_a g 8)), (3, .ref (fx_a g 9)), (4, .int x4)] → W p l e room_1 s m #[Value.ref b] below meth c H locs (cells + 3) (slots + 18) (lw_Z below #[Value.ref b] s) (F0 m 23 ls [])) (x4 : Int32) (M : fx_Mem) (h : wb_law_220 L xs k23 x4 M) (H : Heap) (locs : List Loc) (ls : Array Slot) (hH : fx_H g s M H locs) (hl : lv_has ls 7 [(0, .ref b), (1, .ref (fx_a g 0)), (2, .ref (fx_a g 8)), (3, .ref (fx_a g 9)), (4, .int x4)]) : W p l e room_1 s m #[Value.ref b] below meth c H locs cells slots (lw_Z below #[Value.ref b] s) (F0 m 220 ls []) := by
  obtain ⟨hx, hb, hr, hml, hown, hts, hlocks, hsz, hK, hG, hSt⟩ := id C
  obtain ⟨hX, hbl, hbA, hbas⟩ := id Y
  unfold wb_law_220 at h
  refine lv_aload_n hx hb dL_law_220 rfl (lv_at hl 1 rfl) ?_
  refine lv_aload_n hx hb dL_law_221 rfl (lv_at hl 0 rfl) ?_
  refine lv_iload hx hb dL_law_222 (lv_at hl 4 rfl) ?_
  refine lv_iconst (v := 1) hx hb dL_law_224 (by decide) ?_
  refine lv_iadd hx hb dL_law_225 ?_
  obtain ⟨hi1, h⟩ := h
  refine va_sld hx hb hX hbl hbA hH.2 hi1 dL_law_226 ?_
  refine lv_aload_n hx hb dL_law_227 rfl (lv_at hl 3 rfl) ?_
  refine fx_ciC hH (fx_runSW (As := [.ref (fx_a g 0), .int (xs (x4 + 1).toNatClampNeg), .ref (fx_a g 9)]) (rest := []) C hH (c_L_setCrossSize_0_9 l hG hfl (xs (x4 + 1).toNatClampNeg) M _ h) (fx_cwSW 3 hts u_479 u_480 u_0 u_481 rfl rfl (by decide +kernel) ⟨(Nat.le_of_ble_eq_true rfl), (Nat.le_of_ble_eq_true rfl)⟩) rfl hl.1 rfl (Nat.le_of_ble_eq_true rfl) dL_law_228 ⟨by show cells + 1 ≤ 603072; omega, by show slots + 6 ≤ 7198826; omega⟩) (fun r3 M2 H locs h hH => ?_)
  refine lv_istore (lv' := [(5, .int r3), (0, .ref b), (1, .ref (fx_a g 0)), (2, .ref (fx_a g 8)), (3, .ref (fx_a g 9)), (4, .int x4)]) hx hb dL_law_231 hl (by decide) rfl (fun ls hl => ?_)
  refine lv_aload_n hx hb dL_law_233 rfl (lv_at hl 3 rfl) ?_
  refine lv_aload_n hx hb dL_law_234 rfl (lv_at hl 1 rfl) ?_
  refine lv_iload hx hb dL_law_235 (lv_at hl 5 rfl) ?_
  refine lv_iconst (v := 1) hx hb dL_law_237 (by decide) ?_
  refine lv_iadd hx hb dL_law_238 ?_
  obtain ⟨hi4, h⟩ := h
  refine va_sld hx hb hX hbl hbA hH.2 hi4 dL_law_239 ?_
  refine fx_ci hH (fx_runV (As := [.int (xs (x4 + 1).toNatClampNeg)]) (rest := []) C hH (c_X7_setCrossSize_8 l hG (xs (x4 + 1).toNatClampNeg) M2 _ h) (fx_cwV 1 hts u_949 u_950 u_951 u_8 u_952 rfl rfl (by decide +kernel) ⟨(Nat.le_of_ble_eq_true rfl), (Nat.le_of_ble_eq_true rfl)⟩) (fx_w8 g M2) rfl rfl hl.1 rfl (Nat.le_of_ble_eq_true rfl) dL_law_240 ⟨by show (cells + 1) + 0 ≤ 603072; omega, by show (slots + 6) + 0 ≤ 7198826; omega⟩) (fun r6 M5 H locs h hH => ?_)
  refine lv_istore (lv' := [(6, .int r6), (5, .int r3), (0, .ref b), (1, .ref (fx_a g 0)), (2, .ref (fx_a g 8)), (3, .ref (fx_a g 9)), (4, .int x4)]) hx hb dL_law_243 hl (by decide) rfl (fun ls hl => ?_)
  refine lv_aload_n hx hb dL_law_245 rfl (lv_at hl 4 rfl) ?_
  refine fx_ci hH (fx_runV (As := []) (rest := []) C hH (c_X7_thrown_8 l hG  M5 _ h) (fx_cwV 0 hts u_929 u_930 u_931 u_8 u_932 rfl rfl (by decide +kernel) ⟨(Nat.le_of_ble_eq_true rfl), (Nat.le_of_ble_eq_true rfl)⟩) (fx_w8 g M5) rfl rfl hl.1 rfl (Nat.le_of_ble_eq_true rfl) dL_law_246 ⟨by show (cells + 1) + 0 ≤ 603072; omega, by show (slots + 6) + 0 ≤ 7198826; omega⟩) (fun r8 M7 H locs h hH => ?_)
  refine lv_iload hx hb dL_law_249 (lv_at hl 1 rfl) ?_
  refine lv_icmp_eq (tgt := 256) hx hb dL_law_251 (by decide) (fun c9 => ?_) (fun c9 => ?_)
  · replace h := h.1 c9
    refine lv_iload hx hb dL_law_256 (lv_at hl 1 rfl) ?_
    refine lv_if_ne (tgt := 273) hx hb dL_law_258 (by decide) (fun c10 => ?_) (fun c10 => ?_)
    · replace h := h.2 c10
      refine lv_goto (tgt := 1622) hx hb dL_law_273 (by decide) ?_
      refine W.widen (k := (cells + 3)) (n := (slots + 18)) (by omega) (by omega) ?_
      exact tb_law_1622 C hfl Y hcb hsb k23 hk23 x4 M7 h H locs ls hH (lv_sub hl [2, 3, 4, 5, 6] rfl)
    · replace h := h.1 c10
      refine lv_aload_n hx hb dL_law_261 rfl (lv_at hl 5 rfl) ?_
      refine lv_iconst (v := 0) hx hb dL_law_262 (by decide) ?_
      refine fx_lald (j := 0) C hH 9 (fx_w9 g M7) (by decide) (by unfold vp_in; decide) dL_law_263 ?_
      refine lv_iload hx hb dL_law_264 (lv_at hl 0 rfl) ?_
      refine lv_i2l hx hb dL_law_266 rfl ?_
      refine W.lcmp hx hb dL_law_267 ?_
      refine lv_if_eq (tgt := 273) hx hb dL_law_268 (by decide) (fun c11 => ?_) (fun c11 => ?_)
      · replace h := h.1 c11
        refine lv_goto (tgt := 1622) hx hb dL_law_273 (by decide) ?_
        refine W.widen (k := (cells + 3)) (n := (slots + 18)) (by omega) (by omega) ?_
        exact tb_law_1622 C hfl Y hcb hsb k23 hk23 x4 M7 h H locs ls hH (lv_sub hl [2, 3, 4, 5, 6] rfl)
      · replace h := h.2 c11
        exact False.elim h
  · replace h := h.2 c9
    exact False.elim h
def wb_law_276 (L : Nat) (xs : Nat → Int32) (k23 : Int32 → fx_Mem → Prop) (x4 : Int32) (M : fx_Mem) : Prop :=
  vp_in (x4 + 1) L ∧ vp_in (x4 + 2) L ∧ wp_L_setGaps_0_9 (xs (x4 + 1).toNatClampNeg) (xs (x4 + 2).toNatClampNeg) M (fun r4 M3 => vp_in (x4 + 1) L ∧ vp_in (x4 + 2) L ∧ wp_X7_setGaps_8 (xs (x4 + 1).toNatClampNeg) (xs (x4 + 2).toNatClampNeg) M3 (fun r8 M7 => wp_X7_thrown_8  M7 (fun r10 M9 => ((r10 = r4 → ((r4 = 0 → ((lg_cmp (M9.2.2 9 0) r8.toInt64 = 0 → wb_law_1622 L xs k23 x4 M9) ∧ (¬ lg_cmp (M9.2.2 9 0) r8.toInt64 = 0 → False))) ∧ (¬ r4 = 0 → wb_law_1622 L xs k23 x4 M9))) ∧ (¬ r10 = r4 → False)))))
set_option maxHeartbeats 8000000 in
set_option maxRecDepth 100000 in
theorem tb_law_276 {g : fx_Geo} {p : Program} {l : Launch} {e : Env} {s : State} {m : MethodId} {b : Nat} {below : List Frame} {meth : Method} {c : Code} {L : Nat} {xs : Nat → Int32} {cells slots : Nat} (C : fx_Cx g p s m #[Value.ref b] meth c RL cL_law 7 ret) (hfl : l.stackTraces = false) (Y : fx_scr g s b L xs) (hcb : cells + 3 ≤ 603072) (hsb : slots + 18 ≤ 7198826) (k23 : Int32 → fx_Mem → Prop) (hk23 : ∀ (x4 : Int32) (M : fx_Mem), k23 x4 M → ∀ (H : Heap) (locs : List Loc) (ls : Array Slot), fx_H g s M H locs → lv_has ls 7 [(0, .ref b), (1, .ref (fx_a g 0)), (2, .ref (fx_a g 8)), (3, .ref (fx_a g 9)), (4, .int x4)] → W p l e room_1 s m #[Value.ref b] below meth c H locs (cells + 3) (slots + 18) (lw_Z below #[Value.ref b] s) (F0 m 23 ls [])) (x4 : Int32) (M : fx_Mem) (h : wb_law_276 L xs k23 x4 M) (H : Heap) (locs : List Loc) (ls : Array Slot) (hH : fx_H g s M H locs) (hl : lv_has ls 7 [(0, .ref b), (1, .ref (fx_a g 0)), (2, .ref (fx_a g 8)), (3, .ref (fx_a g 9)), (4, .int x4)]) : W p l e room_1 s m #[Value.ref b] below meth c H locs cells slots (lw_Z below #[Value.ref b] s) (F0 m 276 ls []) := by
  obtain ⟨hx, hb, hr, hml, hown, hts, hlocks, hsz, hK, hG, hSt⟩ := id C
  obtain ⟨hX, hbl, hbA, hbas⟩ := id Y
  unfold wb_law_276 at h
  refine lv_aload_n hx hb dL_law_276 rfl (lv_at hl 1 rfl) ?_
  refine lv_aload_n hx hb dL_law_277 rfl (lv_at hl 0 rfl) ?_
  refine lv_iload hx hb dL_law_278 (lv_at hl 4 rfl) ?_
  refine lv_iconst (v := 1) hx hb dL_law_280 (by decide) ?_
  refine lv_iadd hx hb dL_law_281 ?_
  obtain ⟨hi1, h⟩ := h
  refine va_sld hx hb hX hbl hbA hH.2 hi1 dL_law_282 ?_
  refine lv_aload_n hx hb dL_law_283 rfl (lv_at hl 0 rfl) ?_
  refine lv_iload hx hb dL_law_284 (lv_at hl 4 rfl) ?_
  refine lv_iconst (v := 2) hx hb dL_law_286 (by decide) ?_
  refine lv_iadd hx hb dL_law_287 ?_
  obtain ⟨hi2, h⟩ := h
  refine va_sld hx hb hX hbl hbA hH.2 hi2 dL_law_288 ?_
  refine lv_aload_n hx hb dL_law_289 rfl (lv_at hl 3 rfl) ?_
  refine fx_ciC hH (fx_runSW (As := [.ref (fx_a g 0), .int (xs (x4 + 1).toNatClampNeg), .int (xs (x4 + 2).toNatClampNeg), .ref (fx_a g 9)]) (rest := []) C hH (c_L_setGaps_0_9 l hG hfl (xs (x4 + 1).toNatClampNeg) (xs (x4 + 2).toNatClampNeg) M _ h) (fx_cwSW 4 hts u_487 u_488 u_0 u_489 rfl rfl (by decide +kernel) ⟨(Nat.le_of_ble_eq_true rfl), (Nat.le_of_ble_eq_true rfl)⟩) rfl hl.1 rfl (Nat.le_of_ble_eq_true rfl) dL_law_290 ⟨by show cells + 1 ≤ 603072; omega, by show slots + 6 ≤ 7198826; omega⟩) (fun r4 M3 H locs h hH => ?_)
  refine lv_istore (lv' := [(5, .int r4), (0, .ref b), (1, .ref (fx_a g 0)), (2, .ref (fx_a g 8)), (3, .ref (fx_a g 9)), (4, .int x4)]) hx hb dL_law_293 hl (by decide) rfl (fun ls hl => ?_)
  refine lv_aload_n hx hb dL_law_295 rfl (lv_at hl 3 rfl) ?_
  refine lv_aload_n hx hb dL_law_296 rfl (lv_at hl 1 rfl) ?_
  refine lv_iload hx hb dL_law_297 (lv_at hl 5 rfl) ?_
  refine lv_iconst (v := 1) hx hb dL_law_299 (by decide) ?_
  refine lv_iadd hx hb dL_law_300 ?_
  obtain ⟨hi5, h⟩ := h
  refine va_sld hx hb hX hbl hbA hH.2 hi5 dL_law_301 ?_
  refine lv_aload_n hx hb dL_law_302 rfl (lv_at hl 1 rfl) ?_
  refine lv_iload hx hb dL_law_303 (lv_at hl 5 rfl) ?_
  refine lv_iconst (v := 2) hx hb dL_law_305 (by decide) ?_
  refine lv_iadd hx hb dL_law_306 ?_
  obtain ⟨hi6, h⟩ := h
  refine va_sld hx hb hX hbl hbA hH.2 hi6 dL_law_307 ?_
  refine fx_ci hH (fx_runV (As := [.int (xs (x4 + 1).toNatClampNeg), .int (xs (x4 + 2).toNatClampNeg)]) (rest := []) C hH (c_X7_setGaps_8 l hG (xs (x4 + 1).toNatClampNeg) (xs (x4 + 2).toNatClampNeg) M3 _ h) (fx_cwV 2 hts u_954 u_955 u_956 u_8 u_957 rfl rfl (by decide +kernel) ⟨(Nat.le_of_ble_eq_true rfl), (Nat.le_of_ble_eq_true rfl)⟩) (fx_w8 g M3) rfl rfl hl.1 rfl (Nat.le_of_ble_eq_true rfl) dL_law_308 ⟨by show (cells + 1) + 0 ≤ 603072; omega, by show (slots + 6) + 0 ≤ 7198826; omega⟩) (fun r8 M7 H locs h hH => ?_)
  refine lv_istore (lv' := [(6, .int r8), (5, .int r4), (0, .ref b), (1, .ref (fx_a g 0)), (2, .ref (fx_a g 8)), (3, .ref (fx_a g 9)), (4, .int x4)]) hx hb dL_law_311 hl (by decide) rfl (fun ls hl => ?_)
  refine lv_aload_n hx hb dL_law_313 rfl (lv_at hl 4 rfl) ?_
  refine fx_ci hH (fx_runV (As := []) (rest := []) C hH (c_X7_thrown_8 l hG  M7 _ h) (fx_cwV 0 hts u_929 u_930 u_931 u_8 u_932 rfl rfl (by decide +kernel) ⟨(Nat.le_of_ble_eq_true rfl), (Nat.le_of_ble_eq_true rfl)⟩) (fx_w8 g M7) rfl rfl hl.1 rfl (Nat.le_of_ble_eq_true rfl) dL_law_314 ⟨by show (cells + 1) + 0 ≤ 603072; omega, by show (slots + 6) + 0 ≤ 7198826; omega⟩) (fun r10 M9 H locs h hH => ?_)
  refine lv_iload hx hb dL_law_317 (lv_at hl 1 rfl) ?_
  refine lv_icmp_eq (tgt := 324) hx hb dL_law_319 (by decide) (fun c11 => ?_) (fun c11 => ?_)
  · replace h := h.1 c11
    refine lv_iload hx hb dL_law_324 (lv_at hl 1 rfl) ?_
    refine lv_if_ne (tgt := 341) hx hb dL_law_326 (by decide) (fun c12 => ?_) (fun c12 => ?_)
    · replace h := h.2 c12
      refine lv_goto (tgt := 1622) hx hb dL_law_341 (by decide) ?_
      refine W.widen (k := (cells + 3)) (n := (slots + 18)) (by omega) (by omega) ?_
      exact tb_law_1622 C hfl Y hcb hsb k23 hk23 x4 M9 h H locs ls hH (lv_sub hl [2, 3, 4, 5, 6] rfl)
    · replace h := h.1 c12
      refine lv_aload_n hx hb dL_law_329 rfl (lv_at hl 5 rfl) ?_
      refine lv_iconst (v := 0) hx hb dL_law_330 (by decide) ?_
      refine fx_lald (j := 0) C hH 9 (fx_w9 g M9) (by decide) (by unfold vp_in; decide) dL_law_331 ?_
      refine lv_iload hx hb dL_law_332 (lv_at hl 0 rfl) ?_
      refine lv_i2l hx hb dL_law_334 rfl ?_
      refine W.lcmp hx hb dL_law_335 ?_
      refine lv_if_eq (tgt := 341) hx hb dL_law_336 (by decide) (fun c13 => ?_) (fun c13 => ?_)
      · replace h := h.1 c13
        refine lv_goto (tgt := 1622) hx hb dL_law_341 (by decide) ?_
        refine W.widen (k := (cells + 3)) (n := (slots + 18)) (by omega) (by omega) ?_
        exact tb_law_1622 C hfl Y hcb hsb k23 hk23 x4 M9 h H locs ls hH (lv_sub hl [2, 3, 4, 5, 6] rfl)
      · replace h := h.2 c13
        exact False.elim h
  · replace h := h.2 c11
    exact False.elim h
def wb_law_344 (L : Nat) (xs : Nat → Int32) (k23 : Int32 → fx_Mem → Prop) (x4 : Int32) (M : fx_Mem) : Prop :=
  vp_in (x4 + 1) L ∧ vp_in (x4 + 2) L ∧ wp_L_setSetting_0_9 (xs (x4 + 1).toNatClampNeg) (xs (x4 + 2).toNatClampNeg) M (fun r4 M3 => vp_in (x4 + 1) L ∧ vp_in (x4 + 2) L ∧ wp_X7_setSetting_8 (xs (x4 + 1).toNatClampNeg) (xs (x4 + 2).toNatClampNeg) M3 (fun r8 M7 => wp_X7_thrown_8  M7 (fun r10 M9 => ((r10 = r4 → ((r4 = 0 → ((lg_cmp (M9.2.2 9 0) r8.toInt64 = 0 → wb_law_1622 L xs k23 x4 M9) ∧ (¬ lg_cmp (M9.2.2 9 0) r8.toInt64 = 0 → False))) ∧ (¬ r4 = 0 → wb_law_1622 L xs k23 x4 M9))) ∧ (¬ r10 = r4 → False)))))
set_option maxHeartbeats 8000000 in
set_option maxRecDepth 100000 in
theorem tb_law_344 {g : fx_Geo} {p : Program} {l : Launch} {e : Env} {s : State} {m : MethodId} {b : Nat} {below : List Frame} {meth : Method} {c : Code} {L : Nat} {xs : Nat → Int32} {cells slots : Nat} (C : fx_Cx g p s m #[Value.ref b] meth c RL cL_law 7 ret) (hfl : l.stackTraces = false) (Y : fx_scr g s b L xs) (hcb : cells + 3 ≤ 603072) (hsb : slots + 18 ≤ 7198826) (k23 : Int32 → fx_Mem → Prop) (hk23 : ∀ (x4 : Int32) (M : fx_Mem), k23 x4 M → ∀ (H : Heap) (locs : List Loc) (ls : Array Slot), fx_H g s M H locs → lv_has ls 7 [(0, .ref b), (1, .ref (fx_a g 0)), (2, .ref (fx_a g 8)), (3, .ref (fx_a g 9)), (4, .int x4)] → W p l e room_1 s m #[Value.ref b] below meth c H locs (cells + 3) (slots + 18) (lw_Z below #[Value.ref b] s) (F0 m 23 ls [])) (x4 : Int32) (M : fx_Mem) (h : wb_law_344 L xs k23 x4 M) (H : Heap) (locs : List Loc) (ls : Array Slot) (hH : fx_H g s M H locs) (hl : lv_has ls 7 [(0, .ref b), (1, .ref (fx_a g 0)), (2, .ref (fx_a g 8)), (3, .ref (fx_a g 9)), (4, .int x4)]) : W p l e room_1 s m #[Value.ref b] below meth c H locs cells slots (lw_Z below #[Value.ref b] s) (F0 m 344 ls []) := by
  obtain ⟨hx, hb, hr, hml, hown, hts, hlocks, hsz, hK, hG, hSt⟩ := id C
  obtain ⟨hX, hbl, hbA, hbas⟩ := id Y
  unfold wb_law_344 at h
  refine lv_aload_n hx hb dL_law_344 rfl (lv_at hl 1 rfl) ?_
  refine lv_aload_n hx hb dL_law_345 rfl (lv_at hl 0 rfl) ?_
  refine lv_iload hx hb dL_law_346 (lv_at hl 4 rfl) ?_
  refine lv_iconst (v := 1) hx hb dL_law_348 (by decide) ?_
  refine lv_iadd hx hb dL_law_349 ?_
  obtain ⟨hi1, h⟩ := h
  refine va_sld hx hb hX hbl hbA hH.2 hi1 dL_law_350 ?_
  refine lv_aload_n hx hb dL_law_351 rfl (lv_at hl 0 rfl) ?_
  refine lv_iload hx hb dL_law_352 (lv_at hl 4 rfl) ?_
  refine lv_iconst (v := 2) hx hb dL_law_354 (by decide) ?_
  refine lv_iadd hx hb dL_law_355 ?_
  obtain ⟨hi2, h⟩ := h
  refine va_sld hx hb hX hbl hbA hH.2 hi2 dL_law_356 ?_
  refine lv_aload_n hx hb dL_law_357 rfl (lv_at hl 3 rfl) ?_
  refine fx_ciC hH (fx_runSW (As := [.ref (fx_a g 0), .int (xs (x4 + 1).toNatClampNeg), .int (xs (x4 + 2).toNatClampNeg), .ref (fx_a g 9)]) (rest := []) C hH (c_L_setSetting_0_9 l hG hfl (xs (x4 + 1).toNatClampNeg) (xs (x4 + 2).toNatClampNeg) M _ h) (fx_cwSW 4 hts u_495 u_496 u_0 u_497 rfl rfl (by decide +kernel) ⟨(Nat.le_of_ble_eq_true rfl), (Nat.le_of_ble_eq_true rfl)⟩) rfl hl.1 rfl (Nat.le_of_ble_eq_true rfl) dL_law_358 ⟨by show cells + 1 ≤ 603072; omega, by show slots + 6 ≤ 7198826; omega⟩) (fun r4 M3 H locs h hH => ?_)
  refine lv_istore (lv' := [(5, .int r4), (0, .ref b), (1, .ref (fx_a g 0)), (2, .ref (fx_a g 8)), (3, .ref (fx_a g 9)), (4, .int x4)]) hx hb dL_law_361 hl (by decide) rfl (fun ls hl => ?_)
  refine lv_aload_n hx hb dL_law_363 rfl (lv_at hl 3 rfl) ?_
  refine lv_aload_n hx hb dL_law_364 rfl (lv_at hl 1 rfl) ?_
  refine lv_iload hx hb dL_law_365 (lv_at hl 5 rfl) ?_
  refine lv_iconst (v := 1) hx hb dL_law_367 (by decide) ?_
  refine lv_iadd hx hb dL_law_368 ?_
  obtain ⟨hi5, h⟩ := h
  refine va_sld hx hb hX hbl hbA hH.2 hi5 dL_law_369 ?_
  refine lv_aload_n hx hb dL_law_370 rfl (lv_at hl 1 rfl) ?_
  refine lv_iload hx hb dL_law_371 (lv_at hl 5 rfl) ?_
  refine lv_iconst (v := 2) hx hb dL_law_373 (by decide) ?_
  refine lv_iadd hx hb dL_law_374 ?_
  obtain ⟨hi6, h⟩ := h
  refine va_sld hx hb hX hbl hbA hH.2 hi6 dL_law_375 ?_
  refine fx_ci hH (fx_runV (As := [.int (xs (x4 + 1).toNatClampNeg), .int (xs (x4 + 2).toNatClampNeg)]) (rest := []) C hH (c_X7_setSetting_8 l hG (xs (x4 + 1).toNatClampNeg) (xs (x4 + 2).toNatClampNeg) M3 _ h) (fx_cwV 2 hts u_959 u_960 u_961 u_8 u_962 rfl rfl (by decide +kernel) ⟨(Nat.le_of_ble_eq_true rfl), (Nat.le_of_ble_eq_true rfl)⟩) (fx_w8 g M3) rfl rfl hl.1 rfl (Nat.le_of_ble_eq_true rfl) dL_law_376 ⟨by show (cells + 1) + 0 ≤ 603072; omega, by show (slots + 6) + 0 ≤ 7198826; omega⟩) (fun r8 M7 H locs h hH => ?_)
  refine lv_istore (lv' := [(6, .int r8), (5, .int r4), (0, .ref b), (1, .ref (fx_a g 0)), (2, .ref (fx_a g 8)), (3, .ref (fx_a g 9)), (4, .int x4)]) hx hb dL_law_379 hl (by decide) rfl (fun ls hl => ?_)
  refine lv_aload_n hx hb dL_law_381 rfl (lv_at hl 4 rfl) ?_
  refine fx_ci hH (fx_runV (As := []) (rest := []) C hH (c_X7_thrown_8 l hG  M7 _ h) (fx_cwV 0 hts u_929 u_930 u_931 u_8 u_932 rfl rfl (by decide +kernel) ⟨(Nat.le_of_ble_eq_true rfl), (Nat.le_of_ble_eq_true rfl)⟩) (fx_w8 g M7) rfl rfl hl.1 rfl (Nat.le_of_ble_eq_true rfl) dL_law_382 ⟨by show (cells + 1) + 0 ≤ 603072; omega, by show (slots + 6) + 0 ≤ 7198826; omega⟩) (fun r10 M9 H locs h hH => ?_)
  refine lv_iload hx hb dL_law_385 (lv_at hl 1 rfl) ?_
  refine lv_icmp_eq (tgt := 392) hx hb dL_law_387 (by decide) (fun c11 => ?_) (fun c11 => ?_)
  · replace h := h.1 c11
    refine lv_iload hx hb dL_law_392 (lv_at hl 1 rfl) ?_
    refine lv_if_ne (tgt := 409) hx hb dL_law_394 (by decide) (fun c12 => ?_) (fun c12 => ?_)
    · replace h := h.2 c12
      refine lv_goto (tgt := 1622) hx hb dL_law_409 (by decide) ?_
      refine W.widen (k := (cells + 3)) (n := (slots + 18)) (by omega) (by omega) ?_
      exact tb_law_1622 C hfl Y hcb hsb k23 hk23 x4 M9 h H locs ls hH (lv_sub hl [2, 3, 4, 5, 6] rfl)
    · replace h := h.1 c12
      refine lv_aload_n hx hb dL_law_397 rfl (lv_at hl 5 rfl) ?_
      refine lv_iconst (v := 0) hx hb dL_law_398 (by decide) ?_
      refine fx_lald (j := 0) C hH 9 (fx_w9 g M9) (by decide) (by unfold vp_in; decide) dL_law_399 ?_
      refine lv_iload hx hb dL_law_400 (lv_at hl 0 rfl) ?_
      refine lv_i2l hx hb dL_law_402 rfl ?_
      refine W.lcmp hx hb dL_law_403 ?_
      refine lv_if_eq (tgt := 409) hx hb dL_law_404 (by decide) (fun c13 => ?_) (fun c13 => ?_)
      · replace h := h.1 c13
        refine lv_goto (tgt := 1622) hx hb dL_law_409 (by decide) ?_
        refine W.widen (k := (cells + 3)) (n := (slots + 18)) (by omega) (by omega) ?_
        exact tb_law_1622 C hfl Y hcb hsb k23 hk23 x4 M9 h H locs ls hH (lv_sub hl [2, 3, 4, 5, 6] rfl)
      · replace h := h.2 c13
        exact False.elim h
  · replace h := h.2 c11
    exact False.elim h
def wb_law_412 (L : Nat) (xs : Nat → Int32) (k23 : Int32 → fx_Mem → Prop) (x4 : Int32) (M : fx_Mem) : Prop :=
  vp_in (x4 + 1) L ∧ vp_in (x4 + 2) L ∧ wp_L_addItem_0_9 (xs (x4 + 1).toNatClampNeg) (xs (x4 + 2).toNatClampNeg) M (fun r4 M3 => vp_in (x4 + 1) L ∧ vp_in (x4 + 2) L ∧ wp_X7_addItem_8 (xs (x4 + 1).toNatClampNeg) (xs (x4 + 2).toNatClampNeg) M3 (fun r8 M7 => wp_X7_thrown_8  M7 (fun r10 M9 => ((r10 = r4 → ((r4 = 0 → ((lg_cmp (M9.2.2 9 0) r8.toInt64 = 0 → wb_law_1622 L xs k23 x4 M9) ∧ (¬ lg_cmp (M9.2.2 9 0) r8.toInt64 = 0 → False))) ∧ (¬ r4 = 0 → wb_law_1622 L xs k23 x4 M9))) ∧ (¬ r10 = r4 → False)))))
set_option maxHeartbeats 8000000 in
set_option maxRecDepth 100000 in
theorem tb_law_412 {g : fx_Geo} {p : Program} {l : Launch} {e : Env} {s : State} {m : MethodId} {b : Nat} {below : List Frame} {meth : Method} {c : Code} {L : Nat} {xs : Nat → Int32} {cells slots : Nat} (C : fx_Cx g p s m #[Value.ref b] meth c RL cL_law 7 ret) (hfl : l.stackTraces = false) (Y : fx_scr g s b L xs) (hcb : cells + 3 ≤ 603072) (hsb : slots + 18 ≤ 7198826) (k23 : Int32 → fx_Mem → Prop) (hk23 : ∀ (x4 : Int32) (M : fx_Mem), k23 x4 M → ∀ (H : Heap) (locs : List Loc) (ls : Array Slot), fx_H g s M H locs → lv_has ls 7 [(0, .ref b), (1, .ref (fx_a g 0)), (2, .ref (fx_a g 8)), (3, .ref (fx_a g 9)), (4, .int x4)] → W p l e room_1 s m #[Value.ref b] below meth c H locs (cells + 3) (slots + 18) (lw_Z below #[Value.ref b] s) (F0 m 23 ls [])) (x4 : Int32) (M : fx_Mem) (h : wb_law_412 L xs k23 x4 M) (H : Heap) (locs : List Loc) (ls : Array Slot) (hH : fx_H g s M H locs) (hl : lv_has ls 7 [(0, .ref b), (1, .ref (fx_a g 0)), (2, .ref (fx_a g 8)), (3, .ref (fx_a g 9)), (4, .int x4)]) : W p l e room_1 s m #[Value.ref b] below meth c H locs cells slots (lw_Z below #[Value.ref b] s) (F0 m 412 ls []) := by
  obtain ⟨hx, hb, hr, hml, hown, hts, hlocks, hsz, hK, hG, hSt⟩ := id C
  obtain ⟨hX, hbl, hbA, hbas⟩ := id Y
  unfold wb_law_412 at h
  refine lv_aload_n hx hb dL_law_412 rfl (lv_at hl 1 rfl) ?_
  refine lv_aload_n hx hb dL_law_413 rfl (lv_at hl 0 rfl) ?_
  refine lv_iload hx hb dL_law_414 (lv_at hl 4 rfl) ?_
  refine lv_iconst (v := 1) hx hb dL_law_416 (by decide) ?_
  refine lv_iadd hx hb dL_law_417 ?_
  obtain ⟨hi1, h⟩ := h
  refine va_sld hx hb hX hbl hbA hH.2 hi1 dL_law_418 ?_
  refine lv_aload_n hx hb dL_law_419 rfl (lv_at hl 0 rfl) ?_
  refine lv_iload hx hb dL_law_420 (lv_at hl 4 rfl) ?_
  refine lv_iconst (v := 2) hx hb dL_law_422 (by decide) ?_
  refine lv_iadd hx hb dL_law_423 ?_
  obtain ⟨hi2, h⟩ := h
  refine va_sld hx hb hX hbl hbA hH.2 hi2 dL_law_424 ?_
  refine lv_aload_n hx hb dL_law_425 rfl (lv_at hl 3 rfl) ?_
  refine fx_ciC hH (fx_runSW (As := [.ref (fx_a g 0), .int (xs (x4 + 1).toNatClampNeg), .int (xs (x4 + 2).toNatClampNeg), .ref (fx_a g 9)]) (rest := []) C hH (c_L_addItem_0_9 l hG hfl (xs (x4 + 1).toNatClampNeg) (xs (x4 + 2).toNatClampNeg) M _ h) (fx_cwSW 4 hts u_542 u_543 u_0 u_544 rfl rfl (by decide +kernel) ⟨(Nat.le_of_ble_eq_true rfl), (Nat.le_of_ble_eq_true rfl)⟩) rfl hl.1 rfl (Nat.le_of_ble_eq_true rfl) dL_law_426 ⟨by show cells + 1 ≤ 603072; omega, by show slots + 6 ≤ 7198826; omega⟩) (fun r4 M3 H locs h hH => ?_)
  refine lv_istore (lv' := [(5, .int r4), (0, .ref b), (1, .ref (fx_a g 0)), (2, .ref (fx_a g 8)), (3, .ref (fx_a g 9)), (4, .int x4)]) hx hb dL_law_429 hl (by decide) rfl (fun ls hl => ?_)
  refine lv_aload_n hx hb dL_law_431 rfl (lv_at hl 3 rfl) ?_
  refine lv_aload_n hx hb dL_law_432 rfl (lv_at hl 1 rfl) ?_
  refine lv_iload hx hb dL_law_433 (lv_at hl 5 rfl) ?_
  refine lv_iconst (v := 1) hx hb dL_law_435 (by decide) ?_
  refine lv_iadd hx hb dL_law_436 ?_
  obtain ⟨hi5, h⟩ := h
  refine va_sld hx hb hX hbl hbA hH.2 hi5 dL_law_437 ?_
  refine lv_aload_n hx hb dL_law_438 rfl (lv_at hl 1 rfl) ?_
  refine lv_iload hx hb dL_law_439 (lv_at hl 5 rfl) ?_
  refine lv_iconst (v := 2) hx hb dL_law_441 (by decide) ?_
  refine lv_iadd hx hb dL_law_442 ?_
  obtain ⟨hi6, h⟩ := h
  refine va_sld hx hb hX hbl hbA hH.2 hi6 dL_law_443 ?_
  refine fx_ci hH (fx_runV (As := [.int (xs (x4 + 1).toNatClampNeg), .int (xs (x4 + 2).toNatClampNeg)]) (rest := []) C hH (c_X7_addItem_8 l hG (xs (x4 + 1).toNatClampNeg) (xs (x4 + 2).toNatClampNeg) M3 _ h) (fx_cwV 2 hts u_966 u_967 u_968 u_8 u_969 rfl rfl (by decide +kernel) ⟨(Nat.le_of_ble_eq_true rfl), (Nat.le_of_ble_eq_true rfl)⟩) (fx_w8 g M3) rfl rfl hl.1 rfl (Nat.le_of_ble_eq_true rfl) dL_law_444 ⟨by show (cells + 1) + 0 ≤ 603072; omega, by show (slots + 6) + 0 ≤ 7198826; omega⟩) (fun r8 M7 H locs h hH => ?_)
  refine lv_istore (lv' := [(6, .int r8), (5, .int r4), (0, .ref b), (1, .ref (fx_a g 0)), (2, .ref (fx_a g 8)), (3, .ref (fx_a g 9)), (4, .int x4)]) hx hb dL_law_447 hl (by decide) rfl (fun ls hl => ?_)
  refine lv_aload_n hx hb dL_law_449 rfl (lv_at hl 4 rfl) ?_
  refine fx_ci hH (fx_runV (As := []) (rest := []) C hH (c_X7_thrown_8 l hG  M7 _ h) (fx_cwV 0 hts u_929 u_930 u_931 u_8 u_932 rfl rfl (by decide +kernel) ⟨(Nat.le_of_ble_eq_true rfl), (Nat.le_of_ble_eq_true rfl)⟩) (fx_w8 g M7) rfl rfl hl.1 rfl (Nat.le_of_ble_eq_true rfl) dL_law_450 ⟨by show (cells + 1) + 0 ≤ 603072; omega, by show (slots + 6) + 0 ≤ 7198826; omega⟩) (fun r10 M9 H locs h hH => ?_)
  refine lv_iload hx hb dL_law_453 (lv_at hl 1 rfl) ?_
  refine lv_icmp_eq (tgt := 460) hx hb dL_law_455 (by decide) (fun c11 => ?_) (fun c11 => ?_)
  · replace h := h.1 c11
    refine lv_iload hx hb dL_law_460 (lv_at hl 1 rfl) ?_
    refine lv_if_ne (tgt := 477) hx hb dL_law_462 (by decide) (fun c12 => ?_) (fun c12 => ?_)
    · replace h := h.2 c12
      refine lv_goto (tgt := 1622) hx hb dL_law_477 (by decide) ?_
      refine W.widen (k := (cells + 3)) (n := (slots + 18)) (by omega) (by omega) ?_
      exact tb_law_1622 C hfl Y hcb hsb k23 hk23 x4 M9 h H locs ls hH (lv_sub hl [2, 3, 4, 5, 6] rfl)
    · replace h := h.1 c12
      refine lv_aload_n hx hb dL_law_465 rfl (lv_at hl 5 rfl) ?_
      refine lv_iconst (v := 0) hx hb dL_law_466 (by decide) ?_
      refine fx_lald (j := 0) C hH 9 (fx_w9 g M9) (by decide) (by unfold vp_in; decide) dL_law_467 ?_
      refine lv_iload hx hb dL_law_468 (lv_at hl 0 rfl) ?_
      refine lv_i2l hx hb dL_law_470 rfl ?_
      refine W.lcmp hx hb dL_law_471 ?_
      refine lv_if_eq (tgt := 477) hx hb dL_law_472 (by decide) (fun c13 => ?_) (fun c13 => ?_)
      · replace h := h.1 c13
        refine lv_goto (tgt := 1622) hx hb dL_law_477 (by decide) ?_
        refine W.widen (k := (cells + 3)) (n := (slots + 18)) (by omega) (by omega) ?_
        exact tb_law_1622 C hfl Y hcb hsb k23 hk23 x4 M9 h H locs ls hH (lv_sub hl [2, 3, 4, 5, 6] rfl)
      · replace h := h.2 c13
        exact False.elim h
  · replace h := h.2 c11
    exact False.elim h
def wb_law_480 (L : Nat) (xs : Nat → Int32) (k23 : Int32 → fx_Mem → Prop) (x4 : Int32) (M : fx_Mem) : Prop :=
  vp_in (x4 + 1) L ∧ wp_L_removeItem_0_9 (xs (x4 + 1).toNatClampNeg) M (fun r3 M2 => vp_in (x4 + 1) L ∧ wp_X7_removeItem_8 (xs (x4 + 1).toNatClampNeg) M2 (fun r6 M5 => wp_X7_thrown_8  M5 (fun r8 M7 => ((r8 = r3 → ((r3 = 0 → ((lg_cmp (M7.2.2 9 0) r6.toInt64 = 0 → wb_law_1622 L xs k23 x4 M7) ∧ (¬ lg_cmp (M7.2.2 9 0) r6.toInt64 = 0 → False))) ∧ (¬ r3 = 0 → wb_law_1622 L xs k23 x4 M7))) ∧ (¬ r8 = r3 → False)))))
set_option maxHeartbeats 8000000 in
set_option maxRecDepth 100000 in
theorem tb_law_480 {g : fx_Geo} {p : Program} {l : Launch} {e : Env} {s : State} {m : MethodId} {b : Nat} {below : List Frame} {meth : Method} {c : Code} {L : Nat} {xs : Nat → Int32} {cells slots : Nat} (C : fx_Cx g p s m #[Value.ref b] meth c RL cL_law 7 ret) (hfl : l.stackTraces = false) (Y : fx_scr g s b L xs) (hcb : cells + 3 ≤ 603072) (hsb : slots + 18 ≤ 7198826) (k23 : Int32 → fx_Mem → Prop) (hk23 : ∀ (x4 : Int32) (M : fx_Mem), k23 x4 M → ∀ (H : Heap) (locs : List Loc) (ls : Array Slot), fx_H g s M H locs → lv_has ls 7 [(0, .ref b), (1, .ref (fx_a g 0)), (2, .ref (fx_a g 8)), (3, .ref (fx_a g 9)), (4, .int x4)] → W p l e room_1 s m #[Value.ref b] below meth c H locs (cells + 3) (slots + 18) (lw_Z below #[Value.ref b] s) (F0 m 23 ls [])) (x4 : Int32) (M : fx_Mem) (h : wb_law_480 L xs k23 x4 M) (H : Heap) (locs : List Loc) (ls : Array Slot) (hH : fx_H g s M H locs) (hl : lv_has ls 7 [(0, .ref b), (1, .ref (fx_a g 0)), (2, .ref (fx_a g 8)), (3, .ref (fx_a g 9)), (4, .int x4)]) : W p l e room_1 s m #[Value.ref b] below meth c H locs cells slots (lw_Z below #[Value.ref b] s) (F0 m 480 ls []) := by
  obtain ⟨hx, hb, hr, hml, hown, hts, hlocks, hsz, hK, hG, hSt⟩ := id C
  obtain ⟨hX, hbl, hbA, hbas⟩ := id Y
  unfold wb_law_480 at h
  refine lv_aload_n hx hb dL_law_480 rfl (lv_at hl 1 rfl) ?_
  refine lv_aload_n hx hb dL_law_481 rfl (lv_at hl 0 rfl) ?_
  refine lv_iload hx hb dL_law_482 (lv_at hl 4 rfl) ?_
  refine lv_iconst (v := 1) hx hb dL_law_484 (by decide) ?_
  refine lv_iadd hx hb dL_law_485 ?_
  obtain ⟨hi1, h⟩ := h
  refine va_sld hx hb hX hbl hbA hH.2 hi1 dL_law_486 ?_
  refine lv_aload_n hx hb dL_law_487 rfl (lv_at hl 3 rfl) ?_
  refine fx_ciC hH (fx_runSW (As := [.ref (fx_a g 0), .int (xs (x4 + 1).toNatClampNeg), .ref (fx_a g 9)]) (rest := []) C hH (c_L_removeItem_0_9 l hG hfl (xs (x4 + 1).toNatClampNeg) M _ h) (fx_cwSW 3 hts u_589 u_590 u_0 u_591 rfl rfl (by decide +kernel) ⟨(Nat.le_of_ble_eq_true rfl), (Nat.le_of_ble_eq_true rfl)⟩) rfl hl.1 rfl (Nat.le_of_ble_eq_true rfl) dL_law_488 ⟨by show cells + 1 ≤ 603072; omega, by show slots + 6 ≤ 7198826; omega⟩) (fun r3 M2 H locs h hH => ?_)
  refine lv_istore (lv' := [(5, .int r3), (0, .ref b), (1, .ref (fx_a g 0)), (2, .ref (fx_a g 8)), (3, .ref (fx_a g 9)), (4, .int x4)]) hx hb dL_law_491 hl (by decide) rfl (fun ls hl => ?_)
  refine lv_aload_n hx hb dL_law_493 rfl (lv_at hl 3 rfl) ?_
  refine lv_aload_n hx hb dL_law_494 rfl (lv_at hl 1 rfl) ?_
  refine lv_iload hx hb dL_law_495 (lv_at hl 5 rfl) ?_
  refine lv_iconst (v := 1) hx hb dL_law_497 (by decide) ?_
  refine lv_iadd hx hb dL_law_498 ?_
  obtain ⟨hi4, h⟩ := h
  refine va_sld hx hb hX hbl hbA hH.2 hi4 dL_law_499 ?_
  refine fx_ci hH (fx_runV (As := [.int (xs (x4 + 1).toNatClampNeg)]) (rest := []) C hH (c_X7_removeItem_8 l hG (xs (x4 + 1).toNatClampNeg) M2 _ h) (fx_cwV 1 hts u_976 u_977 u_978 u_8 u_979 rfl rfl (by decide +kernel) ⟨(Nat.le_of_ble_eq_true rfl), (Nat.le_of_ble_eq_true rfl)⟩) (fx_w8 g M2) rfl rfl hl.1 rfl (Nat.le_of_ble_eq_true rfl) dL_law_500 ⟨by show (cells + 1) + 0 ≤ 603072; omega, by show (slots + 6) + 0 ≤ 7198826; omega⟩) (fun r6 M5 H locs h hH => ?_)
  refine lv_istore (lv' := [(6, .int r6), (5, .int r3), (0, .ref b), (1, .ref (fx_a g 0)), (2, .ref (fx_a g 8)), (3, .ref (fx_a g 9)), (4, .int x4)]) hx hb dL_law_503 hl (by decide) rfl (fun ls hl => ?_)
  refine lv_aload_n hx hb dL_law_505 rfl (lv_at hl 4 rfl) ?_
  refine fx_ci hH (fx_runV (As := []) (rest := []) C hH (c_X7_thrown_8 l hG  M5 _ h) (fx_cwV 0 hts u_929 u_930 u_931 u_8 u_932 rfl rfl (by decide +kernel) ⟨(Nat.le_of_ble_eq_true rfl), (Nat.le_of_ble_eq_true rfl)⟩) (fx_w8 g M5) rfl rfl hl.1 rfl (Nat.le_of_ble_eq_true rfl) dL_law_506 ⟨by show (cells + 1) + 0 ≤ 603072; omega, by show (slots + 6) + 0 ≤ 7198826; omega⟩) (fun r8 M7 H locs h hH => ?_)
  refine lv_iload hx hb dL_law_509 (lv_at hl 1 rfl) ?_
  refine lv_icmp_eq (tgt := 516) hx hb dL_law_511 (by decide) (fun c9 => ?_) (fun c9 => ?_)
  · replace h := h.1 c9
    refine lv_iload hx hb dL_law_516 (lv_at hl 1 rfl) ?_
    refine lv_if_ne (tgt := 533) hx hb dL_law_518 (by decide) (fun c10 => ?_) (fun c10 => ?_)
    · replace h := h.2 c10
      refine lv_goto (tgt := 1622) hx hb dL_law_533 (by decide) ?_
      refine W.widen (k := (cells + 3)) (n := (slots + 18)) (by omega) (by omega) ?_
      exact tb_law_1622 C hfl Y hcb hsb k23 hk23 x4 M7 h H locs ls hH (lv_sub hl [2, 3, 4, 5, 6] rfl)
    · replace h := h.1 c10
      refine lv_aload_n hx hb dL_law_521 rfl (lv_at hl 5 rfl) ?_
      refine lv_iconst (v := 0) hx hb dL_law_522 (by decide) ?_
      refine fx_lald (j := 0) C hH 9 (fx_w9 g M7) (by decide) (by unfold vp_in; decide) dL_law_523 ?_
      refine lv_iload hx hb dL_law_524 (lv_at hl 0 rfl) ?_
      refine lv_i2l hx hb dL_law_526 rfl ?_
      refine W.lcmp hx hb dL_law_527 ?_
      refine lv_if_eq (tgt := 533) hx hb dL_law_528 (by decide) (fun c11 => ?_) (fun c11 => ?_)
      · replace h := h.1 c11
        refine lv_goto (tgt := 1622) hx hb dL_law_533 (by decide) ?_
        refine W.widen (k := (cells + 3)) (n := (slots + 18)) (by omega) (by omega) ?_
        exact tb_law_1622 C hfl Y hcb hsb k23 hk23 x4 M7 h H locs ls hH (lv_sub hl [2, 3, 4, 5, 6] rfl)
      · replace h := h.2 c11
        exact False.elim h
  · replace h := h.2 c9
    exact False.elim h
def wb_law_536 (L : Nat) (xs : Nat → Int32) (k23 : Int32 → fx_Mem → Prop) (x4 : Int32) (M : fx_Mem) : Prop :=
  wp_X6_items_0  M (fun r2 M1 => wp_X7_items_8  M1 (fun r4 M3 => ((r2 = r4 → wb_law_1622 L xs k23 x4 M3) ∧ (¬ r2 = r4 → False))))
set_option maxHeartbeats 8000000 in
set_option maxRecDepth 100000 in
theorem tb_law_536 {g : fx_Geo} {p : Program} {l : Launch} {e : Env} {s : State} {m : MethodId} {b : Nat} {below : List Frame} {meth : Method} {c : Code} {L : Nat} {xs : Nat → Int32} {cells slots : Nat} (C : fx_Cx g p s m #[Value.ref b] meth c RL cL_law 7 ret) (hfl : l.stackTraces = false) (Y : fx_scr g s b L xs) (hcb : cells + 3 ≤ 603072) (hsb : slots + 18 ≤ 7198826) (k23 : Int32 → fx_Mem → Prop) (hk23 : ∀ (x4 : Int32) (M : fx_Mem), k23 x4 M → ∀ (H : Heap) (locs : List Loc) (ls : Array Slot), fx_H g s M H locs → lv_has ls 7 [(0, .ref b), (1, .ref (fx_a g 0)), (2, .ref (fx_a g 8)), (3, .ref (fx_a g 9)), (4, .int x4)] → W p l e room_1 s m #[Value.ref b] below meth c H locs (cells + 3) (slots + 18) (lw_Z below #[Value.ref b] s) (F0 m 23 ls [])) (x4 : Int32) (M : fx_Mem) (h : wb_law_536 L xs k23 x4 M) (H : Heap) (locs : List Loc) (ls : Array Slot) (hH : fx_H g s M H locs) (hl : lv_has ls 7 [(0, .ref b), (1, .ref (fx_a g 0)), (2, .ref (fx_a g 8)), (3, .ref (fx_a g 9)), (4, .int x4)]) : W p l e room_1 s m #[Value.ref b] below meth c H locs cells slots (lw_Z below #[Value.ref b] s) (F0 m 536 ls []) := by
  obtain ⟨hx, hb, hr, hml, hown, hts, hlocks, hsz, hK, hG, hSt⟩ := id C
  obtain ⟨hX, hbl, hbA, hbas⟩ := id Y
  unfold wb_law_536 at h
  refine lv_aload_n hx hb dL_law_536 rfl (lv_at hl 1 rfl) ?_
  refine fx_ci hH (fx_runV (As := []) (rest := []) C hH (c_X6_items_0 l hG  M _ h) (fx_cwV 0 hts u_224 u_225 u_226 u_1 u_227 rfl rfl (by decide +kernel) ⟨(Nat.le_of_ble_eq_true rfl), (Nat.le_of_ble_eq_true rfl)⟩) (fx_w0 g M) rfl rfl hl.1 rfl (Nat.le_of_ble_eq_true rfl) dL_law_537 ⟨by show cells + 0 ≤ 603072; omega, by show slots + 0 ≤ 7198826; omega⟩) (fun r2 M1 H locs h hH => ?_)
  refine lv_aload_n hx hb dL_law_540 rfl (lv_at hl 2 rfl) ?_
  refine fx_ci hH (fx_runV (As := []) (rest := [.int r2]) C hH (c_X7_items_8 l hG  M1 _ h) (fx_cwV 0 hts u_984 u_985 u_986 u_8 u_987 rfl rfl (by decide +kernel) ⟨(Nat.le_of_ble_eq_true rfl), (Nat.le_of_ble_eq_true rfl)⟩) (fx_w8 g M1) rfl rfl hl.1 rfl (Nat.le_of_ble_eq_true rfl) dL_law_541 ⟨by show cells + 0 ≤ 603072; omega, by show slots + 0 ≤ 7198826; omega⟩) (fun r4 M3 H locs h hH => ?_)
  refine lv_icmp_eq (tgt := 1622) hx hb dL_law_544 (by decide) (fun c5 => ?_) (fun c5 => ?_)
  · replace h := h.1 c5
    refine W.widen (k := (cells + 3)) (n := (slots + 18)) (by omega) (by omega) ?_
    exact tb_law_1622 C hfl Y hcb hsb k23 hk23 x4 M3 h H locs ls hH (lv_sub hl [0, 1, 2, 3, 4] rfl)
  · replace h := h.2 c5
    exact False.elim h
def wb_law_549 (L : Nat) (xs : Nat → Int32) (k23 : Int32 → fx_Mem → Prop) (x4 : Int32) (M : fx_Mem) : Prop :=
  vp_in (x4 + 1) L ∧ vp_in (x4 + 2) L ∧ vp_in (x4 + 3) L ∧ wp_L_setProperty_0_9 (xs (x4 + 1).toNatClampNeg) (xs (x4 + 2).toNatClampNeg) (xs (x4 + 3).toNatClampNeg) M (fun r5 M4 => vp_in (x4 + 1) L ∧ vp_in (x4 + 2) L ∧ vp_in (x4 + 3) L ∧ wp_X7_setProperty_8 (xs (x4 + 1).toNatClampNeg) (xs (x4 + 2).toNatClampNeg) (xs (x4 + 3).toNatClampNeg) M4 (fun r10 M9 => wp_X7_thrown_8  M9 (fun r12 M11 => ((r12 = r5 → ((r5 = 0 → ((lg_cmp (M11.2.2 9 0) r10.toInt64 = 0 → wb_law_1622 L xs k23 x4 M11) ∧ (¬ lg_cmp (M11.2.2 9 0) r10.toInt64 = 0 → False))) ∧ (¬ r5 = 0 → wb_law_1622 L xs k23 x4 M11))) ∧ (¬ r12 = r5 → False)))))
set_option maxHeartbeats 8000000 in
set_option maxRecDepth 100000 in
theorem tb_law_549 {g : fx_Geo} {p : Program} {l : Launch} {e : Env} {s : State} {m : MethodId} {b : Nat} {below : List Frame} {meth : Method} {c : Code} {L : Nat} {xs : Nat → Int32} {cells slots : Nat} (C : fx_Cx g p s m #[Value.ref b] meth c RL cL_law 7 ret) (hfl : l.stackTraces = false) (Y : fx_scr g s b L xs) (hcb : cells + 3 ≤ 603072) (hsb : slots + 18 ≤ 7198826) (k23 : Int32 → fx_Mem → Prop) (hk23 : ∀ (x4 : Int32) (M : fx_Mem), k23 x4 M → ∀ (H : Heap) (locs : List Loc) (ls : Array Slot), fx_H g s M H locs → lv_has ls 7 [(0, .ref b), (1, .ref (fx_a g 0)), (2, .ref (fx_a g 8)), (3, .ref (fx_a g 9)), (4, .int x4)] → W p l e room_1 s m #[Value.ref b] below meth c H locs (cells + 3) (slots + 18) (lw_Z below #[Value.ref b] s) (F0 m 23 ls [])) (x4 : Int32) (M : fx_Mem) (h : wb_law_549 L xs k23 x4 M) (H : Heap) (locs : List Loc) (ls : Array Slot) (hH : fx_H g s M H locs) (hl : lv_has ls 7 [(0, .ref b), (1, .ref (fx_a g 0)), (2, .ref (fx_a g 8)), (3, .ref (fx_a g 9)), (4, .int x4)]) : W p l e room_1 s m #[Value.ref b] below meth c H locs cells slots (lw_Z below #[Value.ref b] s) (F0 m 549 ls []) := by
  obtain ⟨hx, hb, hr, hml, hown, hts, hlocks, hsz, hK, hG, hSt⟩ := id C
  obtain ⟨hX, hbl, hbA, hbas⟩ := id Y
  unfold wb_law_549 at h
  refine lv_aload_n hx hb dL_law_549 rfl (lv_at hl 1 rfl) ?_
  refine lv_aload_n hx hb dL_law_550 rfl (lv_at hl 0 rfl) ?_
  refine lv_iload hx hb dL_law_551 (lv_at hl 4 rfl) ?_
  refine lv_iconst (v := 1) hx hb dL_law_553 (by decide) ?_
  refine lv_iadd hx hb dL_law_554 ?_
  obtain ⟨hi1, h⟩ := h
  refine va_sld hx hb hX hbl hbA hH.2 hi1 dL_law_555 ?_
  refine lv_aload_n hx hb dL_law_556 rfl (lv_at hl 0 rfl) ?_
  refine lv_iload hx hb dL_law_557 (lv_at hl 4 rfl) ?_
  refine lv_iconst (v := 2) hx hb dL_law_559 (by decide) ?_
  refine lv_iadd hx hb dL_law_560 ?_
  obtain ⟨hi2, h⟩ := h
  refine va_sld hx hb hX hbl hbA hH.2 hi2 dL_law_561 ?_
  refine lv_aload_n hx hb dL_law_562 rfl (lv_at hl 0 rfl) ?_
  refine lv_iload hx hb dL_law_563 (lv_at hl 4 rfl) ?_
  refine lv_iconst (v := 3) hx hb dL_law_565 (by decide) ?_
  refine lv_iadd hx hb dL_law_566 ?_
  obtain ⟨hi3, h⟩ := h
  refine va_sld hx hb hX hbl hbA hH.2 hi3 dL_law_567 ?_
  refine lv_aload_n hx hb dL_law_568 rfl (lv_at hl 3 rfl) ?_
  refine fx_ciC hH (fx_runSW (As := [.ref (fx_a g 0), .int (xs (x4 + 1).toNatClampNeg), .int (xs (x4 + 2).toNatClampNeg), .int (xs (x4 + 3).toNatClampNeg), .ref (fx_a g 9)]) (rest := []) C hH (c_L_setProperty_0_9 l hG hfl (xs (x4 + 1).toNatClampNeg) (xs (x4 + 2).toNatClampNeg) (xs (x4 + 3).toNatClampNeg) M _ h) (fx_cwSW 5 hts u_605 u_606 u_0 u_607 rfl rfl (by decide +kernel) ⟨(Nat.le_of_ble_eq_true rfl), (Nat.le_of_ble_eq_true rfl)⟩) rfl hl.1 rfl (Nat.le_of_ble_eq_true rfl) dL_law_569 ⟨by show cells + 3 ≤ 603072; omega, by show slots + 18 ≤ 7198826; omega⟩) (fun r5 M4 H locs h hH => ?_)
  refine lv_istore (lv' := [(5, .int r5), (0, .ref b), (1, .ref (fx_a g 0)), (2, .ref (fx_a g 8)), (3, .ref (fx_a g 9)), (4, .int x4)]) hx hb dL_law_572 hl (by decide) rfl (fun ls hl => ?_)
  refine lv_aload_n hx hb dL_law_574 rfl (lv_at hl 3 rfl) ?_
  refine lv_aload_n hx hb dL_law_575 rfl (lv_at hl 1 rfl) ?_
  refine lv_iload hx hb dL_law_576 (lv_at hl 5 rfl) ?_
  refine lv_iconst (v := 1) hx hb dL_law_578 (by decide) ?_
  refine lv_iadd hx hb dL_law_579 ?_
  obtain ⟨hi6, h⟩ := h
  refine va_sld hx hb hX hbl hbA hH.2 hi6 dL_law_580 ?_
  refine lv_aload_n hx hb dL_law_581 rfl (lv_at hl 1 rfl) ?_
  refine lv_iload hx hb dL_law_582 (lv_at hl 5 rfl) ?_
  refine lv_iconst (v := 2) hx hb dL_law_584 (by decide) ?_
  refine lv_iadd hx hb dL_law_585 ?_
  obtain ⟨hi7, h⟩ := h
  refine va_sld hx hb hX hbl hbA hH.2 hi7 dL_law_586 ?_
  refine lv_aload_n hx hb dL_law_587 rfl (lv_at hl 1 rfl) ?_
  refine lv_iload hx hb dL_law_588 (lv_at hl 5 rfl) ?_
  refine lv_iconst (v := 3) hx hb dL_law_590 (by decide) ?_
  refine lv_iadd hx hb dL_law_591 ?_
  obtain ⟨hi8, h⟩ := h
  refine va_sld hx hb hX hbl hbA hH.2 hi8 dL_law_592 ?_
  refine fx_ci hH (fx_runV (As := [.int (xs (x4 + 1).toNatClampNeg), .int (xs (x4 + 2).toNatClampNeg), .int (xs (x4 + 3).toNatClampNeg)]) (rest := []) C hH (c_X7_setProperty_8 l hG (xs (x4 + 1).toNatClampNeg) (xs (x4 + 2).toNatClampNeg) (xs (x4 + 3).toNatClampNeg) M4 _ h) (fx_cwV 3 hts u_988 u_989 u_990 u_8 u_991 rfl rfl (by decide +kernel) ⟨(Nat.le_of_ble_eq_true rfl), (Nat.le_of_ble_eq_true rfl)⟩) (fx_w8 g M4) rfl rfl hl.1 rfl (Nat.le_of_ble_eq_true rfl) dL_law_593 ⟨by show (cells + 3) + 0 ≤ 603072; omega, by show (slots + 18) + 0 ≤ 7198826; omega⟩) (fun r10 M9 H locs h hH => ?_)
  refine lv_istore (lv' := [(6, .int r10), (5, .int r5), (0, .ref b), (1, .ref (fx_a g 0)), (2, .ref (fx_a g 8)), (3, .ref (fx_a g 9)), (4, .int x4)]) hx hb dL_law_596 hl (by decide) rfl (fun ls hl => ?_)
  refine lv_aload_n hx hb dL_law_598 rfl (lv_at hl 4 rfl) ?_
  refine fx_ci hH (fx_runV (As := []) (rest := []) C hH (c_X7_thrown_8 l hG  M9 _ h) (fx_cwV 0 hts u_929 u_930 u_931 u_8 u_932 rfl rfl (by decide +kernel) ⟨(Nat.le_of_ble_eq_true rfl), (Nat.le_of_ble_eq_true rfl)⟩) (fx_w8 g M9) rfl rfl hl.1 rfl (Nat.le_of_ble_eq_true rfl) dL_law_599 ⟨by show (cells + 3) + 0 ≤ 603072; omega, by show (slots + 18) + 0 ≤ 7198826; omega⟩) (fun r12 M11 H locs h hH => ?_)
  refine lv_iload hx hb dL_law_602 (lv_at hl 1 rfl) ?_
  refine lv_icmp_eq (tgt := 609) hx hb dL_law_604 (by decide) (fun c13 => ?_) (fun c13 => ?_)
  · replace h := h.1 c13
    refine lv_iload hx hb dL_law_609 (lv_at hl 1 rfl) ?_
    refine lv_if_ne (tgt := 626) hx hb dL_law_611 (by decide) (fun c14 => ?_) (fun c14 => ?_)
    · replace h := h.2 c14
      refine lv_goto (tgt := 1622) hx hb dL_law_626 (by decide) ?_
      exact tb_law_1622 C hfl Y hcb hsb k23 hk23 x4 M11 h H locs ls hH (lv_sub hl [2, 3, 4, 5, 6] rfl)
    · replace h := h.1 c14
      refine lv_aload_n hx hb dL_law_614 rfl (lv_at hl 5 rfl) ?_
      refine lv_iconst (v := 0) hx hb dL_law_615 (by decide) ?_
      refine fx_lald (j := 0) C hH 9 (fx_w9 g M11) (by decide) (by unfold vp_in; decide) dL_law_616 ?_
      refine lv_iload hx hb dL_law_617 (lv_at hl 0 rfl) ?_
      refine lv_i2l hx hb dL_law_619 rfl ?_
      refine W.lcmp hx hb dL_law_620 ?_
      refine lv_if_eq (tgt := 626) hx hb dL_law_621 (by decide) (fun c15 => ?_) (fun c15 => ?_)
      · replace h := h.1 c15
        refine lv_goto (tgt := 1622) hx hb dL_law_626 (by decide) ?_
        exact tb_law_1622 C hfl Y hcb hsb k23 hk23 x4 M11 h H locs ls hH (lv_sub hl [2, 3, 4, 5, 6] rfl)
      · replace h := h.2 c15
        exact False.elim h
  · replace h := h.2 c13
    exact False.elim h
def wb_law_629 (L : Nat) (xs : Nat → Int32) (k23 : Int32 → fx_Mem → Prop) (x4 : Int32) (M : fx_Mem) : Prop :=
  vp_in (x4 + 1) L ∧ vp_in (x4 + 2) L ∧ wp_L_property_0_9 (xs (x4 + 1).toNatClampNeg) (xs (x4 + 2).toNatClampNeg) M (fun r4 M3 => vp_in (x4 + 1) L ∧ vp_in (x4 + 2) L ∧ wp_X7_property_8 (xs (x4 + 1).toNatClampNeg) (xs (x4 + 2).toNatClampNeg) M3 (fun r8 M7 => wp_X7_thrown_8  M7 (fun r10 M9 => ((r10 = r4 → ((r4 = 0 → ((lg_cmp (M9.2.2 9 0) r8.toInt64 = 0 → wb_law_1622 L xs k23 x4 M9) ∧ (¬ lg_cmp (M9.2.2 9 0) r8.toInt64 = 0 → False))) ∧ (¬ r4 = 0 → wb_law_1622 L xs k23 x4 M9))) ∧ (¬ r10 = r4 → False)))))
set_option maxHeartbeats 8000000 in
set_option maxRecDepth 100000 in
theorem tb_law_629 {g : fx_Geo} {p : Program} {l : Launch} {e : Env} {s : State} {m : MethodId} {b : Nat} {below : List Frame} {meth : Method} {c : Code} {L : Nat} {xs : Nat → Int32} {cells slots : Nat} (C : fx_Cx g p s m #[Value.ref b] meth c RL cL_law 7 ret) (hfl : l.stackTraces = false) (Y : fx_scr g s b L xs) (hcb : cells + 3 ≤ 603072) (hsb : slots + 18 ≤ 7198826) (k23 : Int32 → fx_Mem → Prop) (hk23 : ∀ (x4 : Int32) (M : fx_Mem), k23 x4 M → ∀ (H : Heap) (locs : List Loc) (ls : Array Slot), fx_H g s M H locs → lv_has ls 7 [(0, .ref b), (1, .ref (fx_a g 0)), (2, .ref (fx_a g 8)), (3, .ref (fx_a g 9)), (4, .int x4)] → W p l e room_1 s m #[Value.ref b] below meth c H locs (cells + 3) (slots + 18) (lw_Z below #[Value.ref b] s) (F0 m 23 ls [])) (x4 : Int32) (M : fx_Mem) (h : wb_law_629 L xs k23 x4 M) (H : Heap) (locs : List Loc) (ls : Array Slot) (hH : fx_H g s M H locs) (hl : lv_has ls 7 [(0, .ref b), (1, .ref (fx_a g 0)), (2, .ref (fx_a g 8)), (3, .ref (fx_a g 9)), (4, .int x4)]) : W p l e room_1 s m #[Value.ref b] below meth c H locs cells slots (lw_Z below #[Value.ref b] s) (F0 m 629 ls []) := by
  obtain ⟨hx, hb, hr, hml, hown, hts, hlocks, hsz, hK, hG, hSt⟩ := id C
  obtain ⟨hX, hbl, hbA, hbas⟩ := id Y
  unfold wb_law_629 at h
  refine lv_aload_n hx hb dL_law_629 rfl (lv_at hl 1 rfl) ?_
  refine lv_aload_n hx hb dL_law_630 rfl (lv_at hl 0 rfl) ?_
  refine lv_iload hx hb dL_law_631 (lv_at hl 4 rfl) ?_
  refine lv_iconst (v := 1) hx hb dL_law_633 (by decide) ?_
  refine lv_iadd hx hb dL_law_634 ?_
  obtain ⟨hi1, h⟩ := h
  refine va_sld hx hb hX hbl hbA hH.2 hi1 dL_law_635 ?_
  refine lv_aload_n hx hb dL_law_636 rfl (lv_at hl 0 rfl) ?_
  refine lv_iload hx hb dL_law_637 (lv_at hl 4 rfl) ?_
  refine lv_iconst (v := 2) hx hb dL_law_639 (by decide) ?_
  refine lv_iadd hx hb dL_law_640 ?_
  obtain ⟨hi2, h⟩ := h
  refine va_sld hx hb hX hbl hbA hH.2 hi2 dL_law_641 ?_
  refine lv_aload_n hx hb dL_law_642 rfl (lv_at hl 3 rfl) ?_
  refine fx_ciC hH (fx_runSW (As := [.ref (fx_a g 0), .int (xs (x4 + 1).toNatClampNeg), .int (xs (x4 + 2).toNatClampNeg), .ref (fx_a g 9)]) (rest := []) C hH (c_L_property_0_9 l hG hfl (xs (x4 + 1).toNatClampNeg) (xs (x4 + 2).toNatClampNeg) M _ h) (fx_cwSW 4 hts u_617 u_618 u_0 u_619 rfl rfl (by decide +kernel) ⟨(Nat.le_of_ble_eq_true rfl), (Nat.le_of_ble_eq_true rfl)⟩) rfl hl.1 rfl (Nat.le_of_ble_eq_true rfl) dL_law_643 ⟨by show cells + 2 ≤ 603072; omega, by show slots + 12 ≤ 7198826; omega⟩) (fun r4 M3 H locs h hH => ?_)
  refine lv_istore (lv' := [(5, .int r4), (0, .ref b), (1, .ref (fx_a g 0)), (2, .ref (fx_a g 8)), (3, .ref (fx_a g 9)), (4, .int x4)]) hx hb dL_law_646 hl (by decide) rfl (fun ls hl => ?_)
  refine lv_aload_n hx hb dL_law_648 rfl (lv_at hl 3 rfl) ?_
  refine lv_aload_n hx hb dL_law_649 rfl (lv_at hl 1 rfl) ?_
  refine lv_iload hx hb dL_law_650 (lv_at hl 5 rfl) ?_
  refine lv_iconst (v := 1) hx hb dL_law_652 (by decide) ?_
  refine lv_iadd hx hb dL_law_653 ?_
  obtain ⟨hi5, h⟩ := h
  refine va_sld hx hb hX hbl hbA hH.2 hi5 dL_law_654 ?_
  refine lv_aload_n hx hb dL_law_655 rfl (lv_at hl 1 rfl) ?_
  refine lv_iload hx hb dL_law_656 (lv_at hl 5 rfl) ?_
  refine lv_iconst (v := 2) hx hb dL_law_658 (by decide) ?_
  refine lv_iadd hx hb dL_law_659 ?_
  obtain ⟨hi6, h⟩ := h
  refine va_sld hx hb hX hbl hbA hH.2 hi6 dL_law_660 ?_
  refine fx_ci hH (fx_runV (As := [.int (xs (x4 + 1).toNatClampNeg), .int (xs (x4 + 2).toNatClampNeg)]) (rest := []) C hH (c_X7_property_8 l hG (xs (x4 + 1).toNatClampNeg) (xs (x4 + 2).toNatClampNeg) M3 _ h) (fx_cwV 2 hts u_1001 u_1002 u_1003 u_8 u_1004 rfl rfl (by decide +kernel) ⟨(Nat.le_of_ble_eq_true rfl), (Nat.le_of_ble_eq_true rfl)⟩) (fx_w8 g M3) rfl rfl hl.1 rfl (Nat.le_of_ble_eq_true rfl) dL_law_661 ⟨by show (cells + 2) + 0 ≤ 603072; omega, by show (slots + 12) + 0 ≤ 7198826; omega⟩) (fun r8 M7 H locs h hH => ?_)
  refine lv_istore (lv' := [(6, .int r8), (5, .int r4), (0, .ref b), (1, .ref (fx_a g 0)), (2, .ref (fx_a g 8)), (3, .ref (fx_a g 9)), (4, .int x4)]) hx hb dL_law_664 hl (by decide) rfl (fun ls hl => ?_)
  refine lv_aload_n hx hb dL_law_666 rfl (lv_at hl 4 rfl) ?_
  refine fx_ci hH (fx_runV (As := []) (rest := []) C hH (c_X7_thrown_8 l hG  M7 _ h) (fx_cwV 0 hts u_929 u_930 u_931 u_8 u_932 rfl rfl (by decide +kernel) ⟨(Nat.le_of_ble_eq_true rfl), (Nat.le_of_ble_eq_true rfl)⟩) (fx_w8 g M7) rfl rfl hl.1 rfl (Nat.le_of_ble_eq_true rfl) dL_law_667 ⟨by show (cells + 2) + 0 ≤ 603072; omega, by show (slots + 12) + 0 ≤ 7198826; omega⟩) (fun r10 M9 H locs h hH => ?_)
  refine lv_iload hx hb dL_law_670 (lv_at hl 1 rfl) ?_
  refine lv_icmp_eq (tgt := 677) hx hb dL_law_672 (by decide) (fun c11 => ?_) (fun c11 => ?_)
  · replace h := h.1 c11
    refine lv_iload hx hb dL_law_677 (lv_at hl 1 rfl) ?_
    refine lv_if_ne (tgt := 694) hx hb dL_law_679 (by decide) (fun c12 => ?_) (fun c12 => ?_)
    · replace h := h.2 c12
      refine lv_goto (tgt := 1622) hx hb dL_law_694 (by decide) ?_
      refine W.widen (k := (cells + 3)) (n := (slots + 18)) (by omega) (by omega) ?_
      exact tb_law_1622 C hfl Y hcb hsb k23 hk23 x4 M9 h H locs ls hH (lv_sub hl [2, 3, 4, 5, 6] rfl)
    · replace h := h.1 c12
      refine lv_aload_n hx hb dL_law_682 rfl (lv_at hl 5 rfl) ?_
      refine lv_iconst (v := 0) hx hb dL_law_683 (by decide) ?_
      refine fx_lald (j := 0) C hH 9 (fx_w9 g M9) (by decide) (by unfold vp_in; decide) dL_law_684 ?_
      refine lv_iload hx hb dL_law_685 (lv_at hl 0 rfl) ?_
      refine lv_i2l hx hb dL_law_687 rfl ?_
      refine W.lcmp hx hb dL_law_688 ?_
      refine lv_if_eq (tgt := 694) hx hb dL_law_689 (by decide) (fun c13 => ?_) (fun c13 => ?_)
      · replace h := h.1 c13
        refine lv_goto (tgt := 1622) hx hb dL_law_694 (by decide) ?_
        refine W.widen (k := (cells + 3)) (n := (slots + 18)) (by omega) (by omega) ?_
        exact tb_law_1622 C hfl Y hcb hsb k23 hk23 x4 M9 h H locs ls hH (lv_sub hl [2, 3, 4, 5, 6] rfl)
      · replace h := h.2 c13
        exact False.elim h
  · replace h := h.2 c11
    exact False.elim h
def wb_law_697 (L : Nat) (xs : Nat → Int32) (k23 : Int32 → fx_Mem → Prop) (x4 : Int32) (M : fx_Mem) : Prop :=
  vp_in (x4 + 1) L ∧ wp_L_feed_0_9 (((xs (x4 + 1).toNatClampNeg).toUInt32 % 65536).toInt32) M (fun r3 M2 => vp_in (x4 + 1) L ∧ wp_X7_feed_8 (((xs (x4 + 1).toNatClampNeg).toUInt32 % 65536).toInt32) M2 (fun r6 M5 => wp_X7_thrown_8  M5 (fun r8 M7 => ((r8 = r3 → ((r3 = 0 → ((lg_cmp (M7.2.2 9 0) r6.toInt64 = 0 → wb_law_1622 L xs k23 x4 M7) ∧ (¬ lg_cmp (M7.2.2 9 0) r6.toInt64 = 0 → False))) ∧ (¬ r3 = 0 → wb_law_1622 L xs k23 x4 M7))) ∧ (¬ r8 = r3 → False)))))
set_option maxHeartbeats 8000000 in
set_option maxRecDepth 100000 in
theorem tb_law_697 {g : fx_Geo} {p : Program} {l : Launch} {e : Env} {s : State} {m : MethodId} {b : Nat} {below : List Frame} {meth : Method} {c : Code} {L : Nat} {xs : Nat → Int32} {cells slots : Nat} (C : fx_Cx g p s m #[Value.ref b] meth c RL cL_law 7 ret) (hfl : l.stackTraces = false) (Y : fx_scr g s b L xs) (hcb : cells + 3 ≤ 603072) (hsb : slots + 18 ≤ 7198826) (k23 : Int32 → fx_Mem → Prop) (hk23 : ∀ (x4 : Int32) (M : fx_Mem), k23 x4 M → ∀ (H : Heap) (locs : List Loc) (ls : Array Slot), fx_H g s M H locs → lv_has ls 7 [(0, .ref b), (1, .ref (fx_a g 0)), (2, .ref (fx_a g 8)), (3, .ref (fx_a g 9)), (4, .int x4)] → W p l e room_1 s m #[Value.ref b] below meth c H locs (cells + 3) (slots + 18) (lw_Z below #[Value.ref b] s) (F0 m 23 ls [])) (x4 : Int32) (M : fx_Mem) (h : wb_law_697 L xs k23 x4 M) (H : Heap) (locs : List Loc) (ls : Array Slot) (hH : fx_H g s M H locs) (hl : lv_has ls 7 [(0, .ref b), (1, .ref (fx_a g 0)), (2, .ref (fx_a g 8)), (3, .ref (fx_a g 9)), (4, .int x4)]) : W p l e room_1 s m #[Value.ref b] below meth c H locs cells slots (lw_Z below #[Value.ref b] s) (F0 m 697 ls []) := by
  obtain ⟨hx, hb, hr, hml, hown, hts, hlocks, hsz, hK, hG, hSt⟩ := id C
  obtain ⟨hX, hbl, hbA, hbas⟩ := id Y
  unfold wb_law_697 at h
  refine lv_aload_n hx hb dL_law_697 rfl (lv_at hl 1 rfl) ?_
  refine lv_aload_n hx hb dL_law_698 rfl (lv_at hl 0 rfl) ?_
  refine lv_iload hx hb dL_law_699 (lv_at hl 4 rfl) ?_
  refine lv_iconst (v := 1) hx hb dL_law_701 (by decide) ?_
  refine lv_iadd hx hb dL_law_702 ?_
  obtain ⟨hi1, h⟩ := h
  refine va_sld hx hb hX hbl hbA hH.2 hi1 dL_law_703 ?_
  refine lv_i2c hx hb dL_law_704 rfl ?_
  refine lv_aload_n hx hb dL_law_705 rfl (lv_at hl 3 rfl) ?_
  refine fx_ciC hH (fx_runSW (As := [.ref (fx_a g 0), .int (((xs (x4 + 1).toNatClampNeg).toUInt32 % 65536).toInt32), .ref (fx_a g 9)]) (rest := []) C hH (c_L_feed_0_9 l hG hfl (((xs (x4 + 1).toNatClampNeg).toUInt32 % 65536).toInt32) M _ h) (fx_cwSW 3 hts u_624 u_625 u_0 u_626 rfl rfl (by decide +kernel) ⟨(Nat.le_of_ble_eq_true rfl), (Nat.le_of_ble_eq_true rfl)⟩) rfl hl.1 rfl (Nat.le_of_ble_eq_true rfl) dL_law_706 ⟨by show cells + 1 ≤ 603072; omega, by show slots + 6 ≤ 7198826; omega⟩) (fun r3 M2 H locs h hH => ?_)
  refine lv_istore (lv' := [(5, .int r3), (0, .ref b), (1, .ref (fx_a g 0)), (2, .ref (fx_a g 8)), (3, .ref (fx_a g 9)), (4, .int x4)]) hx hb dL_law_709 hl (by decide) rfl (fun ls hl => ?_)
  refine lv_aload_n hx hb dL_law_711 rfl (lv_at hl 3 rfl) ?_
  refine lv_aload_n hx hb dL_law_712 rfl (lv_at hl 1 rfl) ?_
  refine lv_iload hx hb dL_law_713 (lv_at hl 5 rfl) ?_
  refine lv_iconst (v := 1) hx hb dL_law_715 (by decide) ?_
  refine lv_iadd hx hb dL_law_716 ?_
  obtain ⟨hi4, h⟩ := h
  refine va_sld hx hb hX hbl hbA hH.2 hi4 dL_law_717 ?_
  refine lv_i2c hx hb dL_law_718 rfl ?_
  refine fx_ci hH (fx_runV (As := [.int (((xs (x4 + 1).toNatClampNeg).toUInt32 % 65536).toInt32)]) (rest := []) C hH (c_X7_feed_8 l hG (((xs (x4 + 1).toNatClampNeg).toUInt32 % 65536).toInt32) M2 _ h) (fx_cwV 1 hts u_1005 u_1006 u_1007 u_8 u_1008 rfl rfl (by decide +kernel) ⟨(Nat.le_of_ble_eq_true rfl), (Nat.le_of_ble_eq_true rfl)⟩) (fx_w8 g M2) rfl rfl hl.1 rfl (Nat.le_of_ble_eq_true rfl) dL_law_719 ⟨by show (cells + 1) + 0 ≤ 603072; omega, by show (slots + 6) + 0 ≤ 7198826; omega⟩) (fun r6 M5 H locs h hH => ?_)
  refine lv_istore (lv' := [(6, .int r6), (5, .int r3), (0, .ref b), (1, .ref (fx_a g 0)), (2, .ref (fx_a g 8)), (3, .ref (fx_a g 9)), (4, .int x4)]) hx hb dL_law_722 hl (by decide) rfl (fun ls hl => ?_)
  refine lv_aload_n hx hb dL_law_724 rfl (lv_at hl 4 rfl) ?_
  refine fx_ci hH (fx_runV (As := []) (rest := []) C hH (c_X7_thrown_8 l hG  M5 _ h) (fx_cwV 0 hts u_929 u_930 u_931 u_8 u_932 rfl rfl (by decide +kernel) ⟨(Nat.le_of_ble_eq_true rfl), (Nat.le_of_ble_eq_true rfl)⟩) (fx_w8 g M5) rfl rfl hl.1 rfl (Nat.le_of_ble_eq_true rfl) dL_law_725 ⟨by show (cells + 1) + 0 ≤ 603072; omega, by show (slots + 6) + 0 ≤ 7198826; omega⟩) (fun r8 M7 H locs h hH => ?_)
  refine lv_iload hx hb dL_law_728 (lv_at hl 1 rfl) ?_
  refine lv_icmp_eq (tgt := 735) hx hb dL_law_730 (by decide) (fun c9 => ?_) (fun c9 => ?_)
  · replace h := h.1 c9
    refine lv_iload hx hb dL_law_735 (lv_at hl 1 rfl) ?_
    refine lv_if_ne (tgt := 752) hx hb dL_law_737 (by decide) (fun c10 => ?_) (fun c10 => ?_)
    · replace h := h.2 c10
      refine lv_goto (tgt := 1622) hx hb dL_law_752 (by decide) ?_
      refine W.widen (k := (cells + 3)) (n := (slots + 18)) (by omega) (by omega) ?_
      exact tb_law_1622 C hfl Y hcb hsb k23 hk23 x4 M7 h H locs ls hH (lv_sub hl [2, 3, 4, 5, 6] rfl)
    · replace h := h.1 c10
      refine lv_aload_n hx hb dL_law_740 rfl (lv_at hl 5 rfl) ?_
      refine lv_iconst (v := 0) hx hb dL_law_741 (by decide) ?_
      refine fx_lald (j := 0) C hH 9 (fx_w9 g M7) (by decide) (by unfold vp_in; decide) dL_law_742 ?_
      refine lv_iload hx hb dL_law_743 (lv_at hl 0 rfl) ?_
      refine lv_i2l hx hb dL_law_745 rfl ?_
      refine W.lcmp hx hb dL_law_746 ?_
      refine lv_if_eq (tgt := 752) hx hb dL_law_747 (by decide) (fun c11 => ?_) (fun c11 => ?_)
      · replace h := h.1 c11
        refine lv_goto (tgt := 1622) hx hb dL_law_752 (by decide) ?_
        refine W.widen (k := (cells + 3)) (n := (slots + 18)) (by omega) (by omega) ?_
        exact tb_law_1622 C hfl Y hcb hsb k23 hk23 x4 M7 h H locs ls hH (lv_sub hl [2, 3, 4, 5, 6] rfl)
      · replace h := h.2 c11
        exact False.elim h
  · replace h := h.2 c9
    exact False.elim h
def wb_law_755 (L : Nat) (xs : Nat → Int32) (k23 : Int32 → fx_Mem → Prop) (x4 : Int32) (M : fx_Mem) : Prop :=
  wp_L_readItem_0_9  M (fun r2 M1 => wp_X7_readItem_8  M1 (fun r4 M3 => wp_X7_thrown_8  M3 (fun r6 M5 => ((r6 = r2 → ((r2 = 0 → ((lg_cmp (M5.2.2 9 0) r4.toInt64 = 0 → wb_law_1622 L xs k23 x4 M5) ∧ (¬ lg_cmp (M5.2.2 9 0) r4.toInt64 = 0 → False))) ∧ (¬ r2 = 0 → wb_law_1622 L xs k23 x4 M5))) ∧ (¬ r6 = r2 → False)))))
set_option maxHeartbeats 8000000 in
set_option maxRecDepth 100000 in
theorem tb_law_755 {g : fx_Geo} {p : Program} {l : Launch} {e : Env} {s : State} {m : MethodId} {b : Nat} {below : List Frame} {meth : Method} {c : Code} {L : Nat} {xs : Nat → Int32} {cells slots : Nat} (C : fx_Cx g p s m #[Value.ref b] meth c RL cL_law 7 ret) (hfl : l.stackTraces = false) (Y : fx_scr g s b L xs) (hcb : cells + 3 ≤ 603072) (hsb : slots + 18 ≤ 7198826) (k23 : Int32 → fx_Mem → Prop) (hk23 : ∀ (x4 : Int32) (M : fx_Mem), k23 x4 M → ∀ (H : Heap) (locs : List Loc) (ls : Array Slot), fx_H g s M H locs → lv_has ls 7 [(0, .ref b), (1, .ref (fx_a g 0)), (2, .ref (fx_a g 8)), (3, .ref (fx_a g 9)), (4, .int x4)] → W p l e room_1 s m #[Value.ref b] below meth c H locs (cells + 3) (slots + 18) (lw_Z below #[Value.ref b] s) (F0 m 23 ls [])) (x4 : Int32) (M : fx_Mem) (h : wb_law_755 L xs k23 x4 M) (H : Heap) (locs : List Loc) (ls : Array Slot) (hH : fx_H g s M H locs) (hl : lv_has ls 7 [(0, .ref b), (1, .ref (fx_a g 0)), (2, .ref (fx_a g 8)), (3, .ref (fx_a g 9)), (4, .int x4)]) : W p l e room_1 s m #[Value.ref b] below meth c H locs cells slots (lw_Z below #[Value.ref b] s) (F0 m 755 ls []) := by
  obtain ⟨hx, hb, hr, hml, hown, hts, hlocks, hsz, hK, hG, hSt⟩ := id C
  obtain ⟨hX, hbl, hbA, hbas⟩ := id Y
  unfold wb_law_755 at h
  refine lv_aload_n hx hb dL_law_755 rfl (lv_at hl 1 rfl) ?_
  refine lv_aload_n hx hb dL_law_756 rfl (lv_at hl 3 rfl) ?_
  refine fx_ciC hH (fx_runSW (As := [.ref (fx_a g 0), .ref (fx_a g 9)]) (rest := []) C hH (c_L_readItem_0_9 l hG hfl  M _ h) (fx_cwSW 2 hts u_632 u_633 u_0 u_634 rfl rfl (by decide +kernel) ⟨(Nat.le_of_ble_eq_true rfl), (Nat.le_of_ble_eq_true rfl)⟩) rfl hl.1 rfl (Nat.le_of_ble_eq_true rfl) dL_law_757 ⟨by show cells + 1 ≤ 603072; omega, by show slots + 6 ≤ 7198826; omega⟩) (fun r2 M1 H locs h hH => ?_)
  refine lv_istore (lv' := [(5, .int r2), (0, .ref b), (1, .ref (fx_a g 0)), (2, .ref (fx_a g 8)), (3, .ref (fx_a g 9)), (4, .int x4)]) hx hb dL_law_760 hl (by decide) rfl (fun ls hl => ?_)
  refine lv_aload_n hx hb dL_law_762 rfl (lv_at hl 3 rfl) ?_
  refine fx_ci hH (fx_runV (As := []) (rest := []) C hH (c_X7_readItem_8 l hG  M1 _ h) (fx_cwV 0 hts u_1009 u_1010 u_1011 u_8 u_1012 rfl rfl (by decide +kernel) ⟨(Nat.le_of_ble_eq_true rfl), (Nat.le_of_ble_eq_true rfl)⟩) (fx_w8 g M1) rfl rfl hl.1 rfl (Nat.le_of_ble_eq_true rfl) dL_law_763 ⟨by show (cells + 1) + 0 ≤ 603072; omega, by show (slots + 6) + 0 ≤ 7198826; omega⟩) (fun r4 M3 H locs h hH => ?_)
  refine lv_istore (lv' := [(6, .int r4), (5, .int r2), (0, .ref b), (1, .ref (fx_a g 0)), (2, .ref (fx_a g 8)), (3, .ref (fx_a g 9)), (4, .int x4)]) hx hb dL_law_766 hl (by decide) rfl (fun ls hl => ?_)
  refine lv_aload_n hx hb dL_law_768 rfl (lv_at hl 4 rfl) ?_
  refine fx_ci hH (fx_runV (As := []) (rest := []) C hH (c_X7_thrown_8 l hG  M3 _ h) (fx_cwV 0 hts u_929 u_930 u_931 u_8 u_932 rfl rfl (by decide +kernel) ⟨(Nat.le_of_ble_eq_true rfl), (Nat.le_of_ble_eq_true rfl)⟩) (fx_w8 g M3) rfl rfl hl.1 rfl (Nat.le_of_ble_eq_true rfl) dL_law_769 ⟨by show (cells + 1) + 0 ≤ 603072; omega, by show (slots + 6) + 0 ≤ 7198826; omega⟩) (fun r6 M5 H locs h hH => ?_)
  refine lv_iload hx hb dL_law_772 (lv_at hl 1 rfl) ?_
  refine lv_icmp_eq (tgt := 779) hx hb dL_law_774 (by decide) (fun c7 => ?_) (fun c7 => ?_)
  · replace h := h.1 c7
    refine lv_iload hx hb dL_law_779 (lv_at hl 1 rfl) ?_
    refine lv_if_ne (tgt := 796) hx hb dL_law_781 (by decide) (fun c8 => ?_) (fun c8 => ?_)
    · replace h := h.2 c8
      refine lv_goto (tgt := 1622) hx hb dL_law_796 (by decide) ?_
      refine W.widen (k := (cells + 3)) (n := (slots + 18)) (by omega) (by omega) ?_
      exact tb_law_1622 C hfl Y hcb hsb k23 hk23 x4 M5 h H locs ls hH (lv_sub hl [2, 3, 4, 5, 6] rfl)
    · replace h := h.1 c8
      refine lv_aload_n hx hb dL_law_784 rfl (lv_at hl 5 rfl) ?_
      refine lv_iconst (v := 0) hx hb dL_law_785 (by decide) ?_
      refine fx_lald (j := 0) C hH 9 (fx_w9 g M5) (by decide) (by unfold vp_in; decide) dL_law_786 ?_
      refine lv_iload hx hb dL_law_787 (lv_at hl 0 rfl) ?_
      refine lv_i2l hx hb dL_law_789 rfl ?_
      refine W.lcmp hx hb dL_law_790 ?_
      refine lv_if_eq (tgt := 796) hx hb dL_law_791 (by decide) (fun c9 => ?_) (fun c9 => ?_)
      · replace h := h.1 c9
        refine lv_goto (tgt := 1622) hx hb dL_law_796 (by decide) ?_
        refine W.widen (k := (cells + 3)) (n := (slots + 18)) (by omega) (by omega) ?_
        exact tb_law_1622 C hfl Y hcb hsb k23 hk23 x4 M5 h H locs ls hH (lv_sub hl [2, 3, 4, 5, 6] rfl)
      · replace h := h.2 c9
        exact False.elim h
  · replace h := h.2 c7
    exact False.elim h
def wb_law_799 (L : Nat) (xs : Nat → Int32) (k23 : Int32 → fx_Mem → Prop) (x4 : Int32) (M : fx_Mem) : Prop :=
  wp_X6_lines_0  M (fun r2 M1 => wp_X7_lines_8  M1 (fun r4 M3 => ((r2 = r4 → wb_law_1622 L xs k23 x4 M3) ∧ (¬ r2 = r4 → False))))
set_option maxHeartbeats 8000000 in
set_option maxRecDepth 100000 in
theorem tb_law_799 {g : fx_Geo} {p : Program} {l : Launch} {e : Env} {s : State} {m : MethodId} {b : Nat} {below : List Frame} {meth : Method} {c : Code} {L : Nat} {xs : Nat → Int32} {cells slots : Nat} (C : fx_Cx g p s m #[Value.ref b] meth c RL cL_law 7 ret) (hfl : l.stackTraces = false) (Y : fx_scr g s b L xs) (hcb : cells + 3 ≤ 603072) (hsb : slots + 18 ≤ 7198826) (k23 : Int32 → fx_Mem → Prop) (hk23 : ∀ (x4 : Int32) (M : fx_Mem), k23 x4 M → ∀ (H : Heap) (locs : List Loc) (ls : Array Slot), fx_H g s M H locs → lv_has ls 7 [(0, .ref b), (1, .ref (fx_a g 0)), (2, .ref (fx_a g 8)), (3, .ref (fx_a g 9)), (4, .int x4)] → W p l e room_1 s m #[Value.ref b] below meth c H locs (cells + 3) (slots + 18) (lw_Z below #[Value.ref b] s) (F0 m 23 ls [])) (x4 : Int32) (M : fx_Mem) (h : wb_law_799 L xs k23 x4 M) (H : Heap) (locs : List Loc) (ls : Array Slot) (hH : fx_H g s M H locs) (hl : lv_has ls 7 [(0, .ref b), (1, .ref (fx_a g 0)), (2, .ref (fx_a g 8)), (3, .ref (fx_a g 9)), (4, .int x4)]) : W p l e room_1 s m #[Value.ref b] below meth c H locs cells slots (lw_Z below #[Value.ref b] s) (F0 m 799 ls []) := by
  obtain ⟨hx, hb, hr, hml, hown, hts, hlocks, hsz, hK, hG, hSt⟩ := id C
  obtain ⟨hX, hbl, hbA, hbas⟩ := id Y
  unfold wb_law_799 at h
  refine lv_aload_n hx hb dL_law_799 rfl (lv_at hl 1 rfl) ?_
  refine fx_ci hH (fx_runV (As := []) (rest := []) C hH (c_X6_lines_0 l hG  M _ h) (fx_cwV 0 hts u_228 u_229 u_230 u_1 u_231 rfl rfl (by decide +kernel) ⟨(Nat.le_of_ble_eq_true rfl), (Nat.le_of_ble_eq_true rfl)⟩) (fx_w0 g M) rfl rfl hl.1 rfl (Nat.le_of_ble_eq_true rfl) dL_law_800 ⟨by show cells + 0 ≤ 603072; omega, by show slots + 0 ≤ 7198826; omega⟩) (fun r2 M1 H locs h hH => ?_)
  refine lv_aload_n hx hb dL_law_803 rfl (lv_at hl 2 rfl) ?_
  refine fx_ci hH (fx_runV (As := []) (rest := [.int r2]) C hH (c_X7_lines_8 l hG  M1 _ h) (fx_cwV 0 hts u_1030 u_1031 u_1032 u_8 u_1033 rfl rfl (by decide +kernel) ⟨(Nat.le_of_ble_eq_true rfl), (Nat.le_of_ble_eq_true rfl)⟩) (fx_w8 g M1) rfl rfl hl.1 rfl (Nat.le_of_ble_eq_true rfl) dL_law_804 ⟨by show cells + 0 ≤ 603072; omega, by show slots + 0 ≤ 7198826; omega⟩) (fun r4 M3 H locs h hH => ?_)
  refine lv_icmp_eq (tgt := 1622) hx hb dL_law_807 (by decide) (fun c5 => ?_) (fun c5 => ?_)
  · replace h := h.1 c5
    refine W.widen (k := (cells + 3)) (n := (slots + 18)) (by omega) (by omega) ?_
    exact tb_law_1622 C hfl Y hcb hsb k23 hk23 x4 M3 h H locs ls hH (lv_sub hl [0, 1, 2, 3, 4] rfl)
  · replace h := h.2 c5
    exact False.elim h
def wb_law_812 (L : Nat) (xs : Nat → Int32) (k23 : Int32 → fx_Mem → Prop) (x4 : Int32) (M : fx_Mem) : Prop :=
  vp_in (x4 + 1) L ∧ wp_L_lineOf_0_9 (xs (x4 + 1).toNatClampNeg) M (fun r3 M2 => vp_in (x4 + 1) L ∧ wp_X7_lineOf_8 (xs (x4 + 1).toNatClampNeg) M2 (fun r6 M5 => wp_X7_thrown_8  M5 (fun r8 M7 => ((r8 = r3 → ((r3 = 0 → ((lg_cmp (M7.2.2 9 0) r6.toInt64 = 0 → wb_law_1622 L xs k23 x4 M7) ∧ (¬ lg_cmp (M7.2.2 9 0) r6.toInt64 = 0 → False))) ∧ (¬ r3 = 0 → wb_law_1622 L xs k23 x4 M7))) ∧ (¬ r8 = r3 → False)))))
set_option maxHeartbeats 8000000 in
set_option maxRecDepth 100000 in
theorem tb_law_812 {g : fx_Geo} {p : Program} {l : Launch} {e : Env} {s : State} {m : MethodId} {b : Nat} {below : List Frame} {meth : Method} {c : Code} {L : Nat} {xs : Nat → Int32} {cells slots : Nat} (C : fx_Cx g p s m #[Value.ref b] meth c RL cL_law 7 ret) (hfl : l.stackTraces = false) (Y : fx_scr g s b L xs) (hcb : cells + 3 ≤ 603072) (hsb : slots + 18 ≤ 7198826) (k23 : Int32 → fx_Mem → Prop) (hk23 : ∀ (x4 : Int32) (M : fx_Mem), k23 x4 M → ∀ (H : Heap) (locs : List Loc) (ls : Array Slot), fx_H g s M H locs → lv_has ls 7 [(0, .ref b), (1, .ref (fx_a g 0)), (2, .ref (fx_a g 8)), (3, .ref (fx_a g 9)), (4, .int x4)] → W p l e room_1 s m #[Value.ref b] below meth c H locs (cells + 3) (slots + 18) (lw_Z below #[Value.ref b] s) (F0 m 23 ls [])) (x4 : Int32) (M : fx_Mem) (h : wb_law_812 L xs k23 x4 M) (H : Heap) (locs : List Loc) (ls : Array Slot) (hH : fx_H g s M H locs) (hl : lv_has ls 7 [(0, .ref b), (1, .ref (fx_a g 0)), (2, .ref (fx_a g 8)), (3, .ref (fx_a g 9)), (4, .int x4)]) : W p l e room_1 s m #[Value.ref b] below meth c H locs cells slots (lw_Z below #[Value.ref b] s) (F0 m 812 ls []) := by
  obtain ⟨hx, hb, hr, hml, hown, hts, hlocks, hsz, hK, hG, hSt⟩ := id C
  obtain ⟨hX, hbl, hbA, hbas⟩ := id Y
  unfold wb_law_812 at h
  refine lv_aload_n hx hb dL_law_812 rfl (lv_at hl 1 rfl) ?_
  refine lv_aload_n hx hb dL_law_813 rfl (lv_at hl 0 rfl) ?_
  refine lv_iload hx hb dL_law_814 (lv_at hl 4 rfl) ?_
  refine lv_iconst (v := 1) hx hb dL_law_816 (by decide) ?_
  refine lv_iadd hx hb dL_law_817 ?_
  obtain ⟨hi1, h⟩ := h
  refine va_sld hx hb hX hbl hbA hH.2 hi1 dL_law_818 ?_
  refine lv_aload_n hx hb dL_law_819 rfl (lv_at hl 3 rfl) ?_
  refine fx_ciC hH (fx_runSW (As := [.ref (fx_a g 0), .int (xs (x4 + 1).toNatClampNeg), .ref (fx_a g 9)]) (rest := []) C hH (c_L_lineOf_0_9 l hG hfl (xs (x4 + 1).toNatClampNeg) M _ h) (fx_cwSW 3 hts u_660 u_661 u_0 u_662 rfl rfl (by decide +kernel) ⟨(Nat.le_of_ble_eq_true rfl), (Nat.le_of_ble_eq_true rfl)⟩) rfl hl.1 rfl (Nat.le_of_ble_eq_true rfl) dL_law_820 ⟨by show cells + 1 ≤ 603072; omega, by show slots + 6 ≤ 7198826; omega⟩) (fun r3 M2 H locs h hH => ?_)
  refine lv_istore (lv' := [(5, .int r3), (0, .ref b), (1, .ref (fx_a g 0)), (2, .ref (fx_a g 8)), (3, .ref (fx_a g 9)), (4, .int x4)]) hx hb dL_law_823 hl (by decide) rfl (fun ls hl => ?_)
  refine lv_aload_n hx hb dL_law_825 rfl (lv_at hl 3 rfl) ?_
  refine lv_aload_n hx hb dL_law_826 rfl (lv_at hl 1 rfl) ?_
  refine lv_iload hx hb dL_law_827 (lv_at hl 5 rfl) ?_
  refine lv_iconst (v := 1) hx hb dL_law_829 (by decide) ?_
  refine lv_iadd hx hb dL_law_830 ?_
  obtain ⟨hi4, h⟩ := h
  refine va_sld hx hb hX hbl hbA hH.2 hi4 dL_law_831 ?_
  refine fx_ci hH (fx_runV (As := [.int (xs (x4 + 1).toNatClampNeg)]) (rest := []) C hH (c_X7_lineOf_8 l hG (xs (x4 + 1).toNatClampNeg) M2 _ h) (fx_cwV 1 hts u_1108 u_1109 u_1110 u_8 u_1111 rfl rfl (by decide +kernel) ⟨(Nat.le_of_ble_eq_true rfl), (Nat.le_of_ble_eq_true rfl)⟩) (fx_w8 g M2) rfl rfl hl.1 rfl (Nat.le_of_ble_eq_true rfl) dL_law_832 ⟨by show (cells + 1) + 0 ≤ 603072; omega, by show (slots + 6) + 0 ≤ 7198826; omega⟩) (fun r6 M5 H locs h hH => ?_)
  refine lv_istore (lv' := [(6, .int r6), (5, .int r3), (0, .ref b), (1, .ref (fx_a g 0)), (2, .ref (fx_a g 8)), (3, .ref (fx_a g 9)), (4, .int x4)]) hx hb dL_law_835 hl (by decide) rfl (fun ls hl => ?_)
  refine lv_aload_n hx hb dL_law_837 rfl (lv_at hl 4 rfl) ?_
  refine fx_ci hH (fx_runV (As := []) (rest := []) C hH (c_X7_thrown_8 l hG  M5 _ h) (fx_cwV 0 hts u_929 u_930 u_931 u_8 u_932 rfl rfl (by decide +kernel) ⟨(Nat.le_of_ble_eq_true rfl), (Nat.le_of_ble_eq_true rfl)⟩) (fx_w8 g M5) rfl rfl hl.1 rfl (Nat.le_of_ble_eq_true rfl) dL_law_838 ⟨by show (cells + 1) + 0 ≤ 603072; omega, by show (slots + 6) + 0 ≤ 7198826; omega⟩) (fun r8 M7 H locs h hH => ?_)
  refine lv_iload hx hb dL_law_841 (lv_at hl 1 rfl) ?_
  refine lv_icmp_eq (tgt := 848) hx hb dL_law_843 (by decide) (fun c9 => ?_) (fun c9 => ?_)
  · replace h := h.1 c9
    refine lv_iload hx hb dL_law_848 (lv_at hl 1 rfl) ?_
    refine lv_if_ne (tgt := 865) hx hb dL_law_850 (by decide) (fun c10 => ?_) (fun c10 => ?_)
    · replace h := h.2 c10
      refine lv_goto (tgt := 1622) hx hb dL_law_865 (by decide) ?_
      refine W.widen (k := (cells + 3)) (n := (slots + 18)) (by omega) (by omega) ?_
      exact tb_law_1622 C hfl Y hcb hsb k23 hk23 x4 M7 h H locs ls hH (lv_sub hl [2, 3, 4, 5, 6] rfl)
    · replace h := h.1 c10
      refine lv_aload_n hx hb dL_law_853 rfl (lv_at hl 5 rfl) ?_
      refine lv_iconst (v := 0) hx hb dL_law_854 (by decide) ?_
      refine fx_lald (j := 0) C hH 9 (fx_w9 g M7) (by decide) (by unfold vp_in; decide) dL_law_855 ?_
      refine lv_iload hx hb dL_law_856 (lv_at hl 0 rfl) ?_
      refine lv_i2l hx hb dL_law_858 rfl ?_
      refine W.lcmp hx hb dL_law_859 ?_
      refine lv_if_eq (tgt := 865) hx hb dL_law_860 (by decide) (fun c11 => ?_) (fun c11 => ?_)
      · replace h := h.1 c11
        refine lv_goto (tgt := 1622) hx hb dL_law_865 (by decide) ?_
        refine W.widen (k := (cells + 3)) (n := (slots + 18)) (by omega) (by omega) ?_
        exact tb_law_1622 C hfl Y hcb hsb k23 hk23 x4 M7 h H locs ls hH (lv_sub hl [2, 3, 4, 5, 6] rfl)
      · replace h := h.2 c11
        exact False.elim h
  · replace h := h.2 c9
    exact False.elim h
def wb_law_868 (L : Nat) (xs : Nat → Int32) (k23 : Int32 → fx_Mem → Prop) (x4 : Int32) (M : fx_Mem) : Prop :=
  vp_in (x4 + 1) L ∧ wp_L_itemAt_0_9 (xs (x4 + 1).toNatClampNeg) M (fun r3 M2 => vp_in (x4 + 1) L ∧ wp_X7_itemAt_8 (xs (x4 + 1).toNatClampNeg) M2 (fun r6 M5 => wp_X7_thrown_8  M5 (fun r8 M7 => ((r8 = r3 → ((r3 = 0 → ((lg_cmp (M7.2.2 9 0) r6.toInt64 = 0 → wb_law_1622 L xs k23 x4 M7) ∧ (¬ lg_cmp (M7.2.2 9 0) r6.toInt64 = 0 → False))) ∧ (¬ r3 = 0 → wb_law_1622 L xs k23 x4 M7))) ∧ (¬ r8 = r3 → False)))))
set_option maxHeartbeats 8000000 in
set_option maxRecDepth 100000 in
theorem tb_law_868 {g : fx_Geo} {p : Program} {l : Launch} {e : Env} {s : State} {m : MethodId} {b : Nat} {below : List Frame} {meth : Method} {c : Code} {L : Nat} {xs : Nat → Int32} {cells slots : Nat} (C : fx_Cx g p s m #[Value.ref b] meth c RL cL_law 7 ret) (hfl : l.stackTraces = false) (Y : fx_scr g s b L xs) (hcb : cells + 3 ≤ 603072) (hsb : slots + 18 ≤ 7198826) (k23 : Int32 → fx_Mem → Prop) (hk23 : ∀ (x4 : Int32) (M : fx_Mem), k23 x4 M → ∀ (H : Heap) (locs : List Loc) (ls : Array Slot), fx_H g s M H locs → lv_has ls 7 [(0, .ref b), (1, .ref (fx_a g 0)), (2, .ref (fx_a g 8)), (3, .ref (fx_a g 9)), (4, .int x4)] → W p l e room_1 s m #[Value.ref b] below meth c H locs (cells + 3) (slots + 18) (lw_Z below #[Value.ref b] s) (F0 m 23 ls [])) (x4 : Int32) (M : fx_Mem) (h : wb_law_868 L xs k23 x4 M) (H : Heap) (locs : List Loc) (ls : Array Slot) (hH : fx_H g s M H locs) (hl : lv_has ls 7 [(0, .ref b), (1, .ref (fx_a g 0)), (2, .ref (fx_a g 8)), (3, .ref (fx_a g 9)), (4, .int x4)]) : W p l e room_1 s m #[Value.ref b] below meth c H locs cells slots (lw_Z below #[Value.ref b] s) (F0 m 868 ls []) := by
  obtain ⟨hx, hb, hr, hml, hown, hts, hlocks, hsz, hK, hG, hSt⟩ := id C
  obtain ⟨hX, hbl, hbA, hbas⟩ := id Y
  unfold wb_law_868 at h
  refine lv_aload_n hx hb dL_law_868 rfl (lv_at hl 1 rfl) ?_
  refine lv_aload_n hx hb dL_law_869 rfl (lv_at hl 0 rfl) ?_
  refine lv_iload hx hb dL_law_870 (lv_at hl 4 rfl) ?_
  refine lv_iconst (v := 1) hx hb dL_law_872 (by decide) ?_
  refine lv_iadd hx hb dL_law_873 ?_
  obtain ⟨hi1, h⟩ := h
  refine va_sld hx hb hX hbl hbA hH.2 hi1 dL_law_874 ?_
  refine lv_aload_n hx hb dL_law_875 rfl (lv_at hl 3 rfl) ?_
  refine fx_ciC hH (fx_runSW (As := [.ref (fx_a g 0), .int (xs (x4 + 1).toNatClampNeg), .ref (fx_a g 9)]) (rest := []) C hH (c_L_itemAt_0_9 l hG hfl (xs (x4 + 1).toNatClampNeg) M _ h) (fx_cwSW 3 hts u_671 u_672 u_0 u_673 rfl rfl (by decide +kernel) ⟨(Nat.le_of_ble_eq_true rfl), (Nat.le_of_ble_eq_true rfl)⟩) rfl hl.1 rfl (Nat.le_of_ble_eq_true rfl) dL_law_876 ⟨by show cells + 1 ≤ 603072; omega, by show slots + 6 ≤ 7198826; omega⟩) (fun r3 M2 H locs h hH => ?_)
  refine lv_istore (lv' := [(5, .int r3), (0, .ref b), (1, .ref (fx_a g 0)), (2, .ref (fx_a g 8)), (3, .ref (fx_a g 9)), (4, .int x4)]) hx hb dL_law_879 hl (by decide) rfl (fun ls hl => ?_)
  refine lv_aload_n hx hb dL_law_881 rfl (lv_at hl 3 rfl) ?_
  refine lv_aload_n hx hb dL_law_882 rfl (lv_at hl 1 rfl) ?_
  refine lv_iload hx hb dL_law_883 (lv_at hl 5 rfl) ?_
  refine lv_iconst (v := 1) hx hb dL_law_885 (by decide) ?_
  refine lv_iadd hx hb dL_law_886 ?_
  obtain ⟨hi4, h⟩ := h
  refine va_sld hx hb hX hbl hbA hH.2 hi4 dL_law_887 ?_
  refine fx_ci hH (fx_runV (As := [.int (xs (x4 + 1).toNatClampNeg)]) (rest := []) C hH (c_X7_itemAt_8 l hG (xs (x4 + 1).toNatClampNeg) M2 _ h) (fx_cwV 1 hts u_1112 u_1113 u_1114 u_8 u_1115 rfl rfl (by decide +kernel) ⟨(Nat.le_of_ble_eq_true rfl), (Nat.le_of_ble_eq_true rfl)⟩) (fx_w8 g M2) rfl rfl hl.1 rfl (Nat.le_of_ble_eq_true rfl) dL_law_888 ⟨by show (cells + 1) + 0 ≤ 603072; omega, by show (slots + 6) + 0 ≤ 7198826; omega⟩) (fun r6 M5 H locs h hH => ?_)
  refine lv_istore (lv' := [(6, .int r6), (5, .int r3), (0, .ref b), (1, .ref (fx_a g 0)), (2, .ref (fx_a g 8)), (3, .ref (fx_a g 9)), (4, .int x4)]) hx hb dL_law_891 hl (by decide) rfl (fun ls hl => ?_)
  refine lv_aload_n hx hb dL_law_893 rfl (lv_at hl 4 rfl) ?_
  refine fx_ci hH (fx_runV (As := []) (rest := []) C hH (c_X7_thrown_8 l hG  M5 _ h) (fx_cwV 0 hts u_929 u_930 u_931 u_8 u_932 rfl rfl (by decide +kernel) ⟨(Nat.le_of_ble_eq_true rfl), (Nat.le_of_ble_eq_true rfl)⟩) (fx_w8 g M5) rfl rfl hl.1 rfl (Nat.le_of_ble_eq_true rfl) dL_law_894 ⟨by show (cells + 1) + 0 ≤ 603072; omega, by show (slots + 6) + 0 ≤ 7198826; omega⟩) (fun r8 M7 H locs h hH => ?_)
  refine lv_iload hx hb dL_law_897 (lv_at hl 1 rfl) ?_
  refine lv_icmp_eq (tgt := 904) hx hb dL_law_899 (by decide) (fun c9 => ?_) (fun c9 => ?_)
  · replace h := h.1 c9
    refine lv_iload hx hb dL_law_904 (lv_at hl 1 rfl) ?_
    refine lv_if_ne (tgt := 921) hx hb dL_law_906 (by decide) (fun c10 => ?_) (fun c10 => ?_)
    · replace h := h.2 c10
      refine lv_goto (tgt := 1622) hx hb dL_law_921 (by decide) ?_
      refine W.widen (k := (cells + 3)) (n := (slots + 18)) (by omega) (by omega) ?_
      exact tb_law_1622 C hfl Y hcb hsb k23 hk23 x4 M7 h H locs ls hH (lv_sub hl [2, 3, 4, 5, 6] rfl)
    · replace h := h.1 c10
      refine lv_aload_n hx hb dL_law_909 rfl (lv_at hl 5 rfl) ?_
      refine lv_iconst (v := 0) hx hb dL_law_910 (by decide) ?_
      refine fx_lald (j := 0) C hH 9 (fx_w9 g M7) (by decide) (by unfold vp_in; decide) dL_law_911 ?_
      refine lv_iload hx hb dL_law_912 (lv_at hl 0 rfl) ?_
      refine lv_i2l hx hb dL_law_914 rfl ?_
      refine W.lcmp hx hb dL_law_915 ?_
      refine lv_if_eq (tgt := 921) hx hb dL_law_916 (by decide) (fun c11 => ?_) (fun c11 => ?_)
      · replace h := h.1 c11
        refine lv_goto (tgt := 1622) hx hb dL_law_921 (by decide) ?_
        refine W.widen (k := (cells + 3)) (n := (slots + 18)) (by omega) (by omega) ?_
        exact tb_law_1622 C hfl Y hcb hsb k23 hk23 x4 M7 h H locs ls hH (lv_sub hl [2, 3, 4, 5, 6] rfl)
      · replace h := h.2 c11
        exact False.elim h
  · replace h := h.2 c9
    exact False.elim h
def wb_law_924 (L : Nat) (xs : Nat → Int32) (k23 : Int32 → fx_Mem → Prop) (x4 : Int32) (M : fx_Mem) : Prop :=
  vp_in (x4 + 1) L ∧ wp_L_hypotheticalSize_0_9 (xs (x4 + 1).toNatClampNeg) M (fun r3 M2 => vp_in (x4 + 1) L ∧ wp_X7_hypotheticalSize_8 (xs (x4 + 1).toNatClampNeg) M2 (fun r6 M5 => wp_X7_thrown_8  M5 (fun r8 M7 => ((r8 = r3 → ((r3 = 0 → ((lg_cmp (M7.2.2 9 0) r6.toInt64 = 0 → wb_law_1622 L xs k23 x4 M7) ∧ (¬ lg_cmp (M7.2.2 9 0) r6.toInt64 = 0 → False))) ∧ (¬ r3 = 0 → wb_law_1622 L xs k23 x4 M7))) ∧ (¬ r8 = r3 → False)))))
set_option maxHeartbeats 8000000 in
set_option maxRecDepth 100000 in
theorem tb_law_924 {g : fx_Geo} {p : Program} {l : Launch} {e : Env} {s : State} {m : MethodId} {b : Nat} {below : List Frame} {meth : Method} {c : Code} {L : Nat} {xs : Nat → Int32} {cells slots : Nat} (C : fx_Cx g p s m #[Value.ref b] meth c RL cL_law 7 ret) (hfl : l.stackTraces = false) (Y : fx_scr g s b L xs) (hcb : cells + 3 ≤ 603072) (hsb : slots + 18 ≤ 7198826) (k23 : Int32 → fx_Mem → Prop) (hk23 : ∀ (x4 : Int32) (M : fx_Mem), k23 x4 M → ∀ (H : Heap) (locs : List Loc) (ls : Array Slot), fx_H g s M H locs → lv_has ls 7 [(0, .ref b), (1, .ref (fx_a g 0)), (2, .ref (fx_a g 8)), (3, .ref (fx_a g 9)), (4, .int x4)] → W p l e room_1 s m #[Value.ref b] below meth c H locs (cells + 3) (slots + 18) (lw_Z below #[Value.ref b] s) (F0 m 23 ls [])) (x4 : Int32) (M : fx_Mem) (h : wb_law_924 L xs k23 x4 M) (H : Heap) (locs : List Loc) (ls : Array Slot) (hH : fx_H g s M H locs) (hl : lv_has ls 7 [(0, .ref b), (1, .ref (fx_a g 0)), (2, .ref (fx_a g 8)), (3, .ref (fx_a g 9)), (4, .int x4)]) : W p l e room_1 s m #[Value.ref b] below meth c H locs cells slots (lw_Z below #[Value.ref b] s) (F0 m 924 ls []) := by
  obtain ⟨hx, hb, hr, hml, hown, hts, hlocks, hsz, hK, hG, hSt⟩ := id C
  obtain ⟨hX, hbl, hbA, hbas⟩ := id Y
  unfold wb_law_924 at h
  refine lv_aload_n hx hb dL_law_924 rfl (lv_at hl 1 rfl) ?_
  refine lv_aload_n hx hb dL_law_925 rfl (lv_at hl 0 rfl) ?_
  refine lv_iload hx hb dL_law_926 (lv_at hl 4 rfl) ?_
  refine lv_iconst (v := 1) hx hb dL_law_928 (by decide) ?_
  refine lv_iadd hx hb dL_law_929 ?_
  obtain ⟨hi1, h⟩ := h
  refine va_sld hx hb hX hbl hbA hH.2 hi1 dL_law_930 ?_
  refine lv_aload_n hx hb dL_law_931 rfl (lv_at hl 3 rfl) ?_
  refine fx_ciC hH (fx_runSW (As := [.ref (fx_a g 0), .int (xs (x4 + 1).toNatClampNeg), .ref (fx_a g 9)]) (rest := []) C hH (c_L_hypotheticalSize_0_9 l hG hfl (xs (x4 + 1).toNatClampNeg) M _ h) (fx_cwSW 3 hts u_680 u_681 u_0 u_682 rfl rfl (by decide +kernel) ⟨(Nat.le_of_ble_eq_true rfl), (Nat.le_of_ble_eq_true rfl)⟩) rfl hl.1 rfl (Nat.le_of_ble_eq_true rfl) dL_law_932 ⟨by show cells + 1 ≤ 603072; omega, by show slots + 6 ≤ 7198826; omega⟩) (fun r3 M2 H locs h hH => ?_)
  refine lv_istore (lv' := [(5, .int r3), (0, .ref b), (1, .ref (fx_a g 0)), (2, .ref (fx_a g 8)), (3, .ref (fx_a g 9)), (4, .int x4)]) hx hb dL_law_935 hl (by decide) rfl (fun ls hl => ?_)
  refine lv_aload_n hx hb dL_law_937 rfl (lv_at hl 3 rfl) ?_
  refine lv_aload_n hx hb dL_law_938 rfl (lv_at hl 1 rfl) ?_
  refine lv_iload hx hb dL_law_939 (lv_at hl 5 rfl) ?_
  refine lv_iconst (v := 1) hx hb dL_law_941 (by decide) ?_
  refine lv_iadd hx hb dL_law_942 ?_
  obtain ⟨hi4, h⟩ := h
  refine va_sld hx hb hX hbl hbA hH.2 hi4 dL_law_943 ?_
  refine fx_ci hH (fx_runV (As := [.int (xs (x4 + 1).toNatClampNeg)]) (rest := []) C hH (c_X7_hypotheticalSize_8 l hG (xs (x4 + 1).toNatClampNeg) M2 _ h) (fx_cwV 1 hts u_1116 u_1117 u_1118 u_8 u_1119 rfl rfl (by decide +kernel) ⟨(Nat.le_of_ble_eq_true rfl), (Nat.le_of_ble_eq_true rfl)⟩) (fx_w8 g M2) rfl rfl hl.1 rfl (Nat.le_of_ble_eq_true rfl) dL_law_944 ⟨by show (cells + 1) + 0 ≤ 603072; omega, by show (slots + 6) + 0 ≤ 7198826; omega⟩) (fun r6 M5 H locs h hH => ?_)
  refine lv_istore (lv' := [(6, .int r6), (5, .int r3), (0, .ref b), (1, .ref (fx_a g 0)), (2, .ref (fx_a g 8)), (3, .ref (fx_a g 9)), (4, .int x4)]) hx hb dL_law_947 hl (by decide) rfl (fun ls hl => ?_)
  refine lv_aload_n hx hb dL_law_949 rfl (lv_at hl 4 rfl) ?_
  refine fx_ci hH (fx_runV (As := []) (rest := []) C hH (c_X7_thrown_8 l hG  M5 _ h) (fx_cwV 0 hts u_929 u_930 u_931 u_8 u_932 rfl rfl (by decide +kernel) ⟨(Nat.le_of_ble_eq_true rfl), (Nat.le_of_ble_eq_true rfl)⟩) (fx_w8 g M5) rfl rfl hl.1 rfl (Nat.le_of_ble_eq_true rfl) dL_law_950 ⟨by show (cells + 1) + 0 ≤ 603072; omega, by show (slots + 6) + 0 ≤ 7198826; omega⟩) (fun r8 M7 H locs h hH => ?_)
  refine lv_iload hx hb dL_law_953 (lv_at hl 1 rfl) ?_
  refine lv_icmp_eq (tgt := 960) hx hb dL_law_955 (by decide) (fun c9 => ?_) (fun c9 => ?_)
  · replace h := h.1 c9
    refine lv_iload hx hb dL_law_960 (lv_at hl 1 rfl) ?_
    refine lv_if_ne (tgt := 977) hx hb dL_law_962 (by decide) (fun c10 => ?_) (fun c10 => ?_)
    · replace h := h.2 c10
      refine lv_goto (tgt := 1622) hx hb dL_law_977 (by decide) ?_
      refine W.widen (k := (cells + 3)) (n := (slots + 18)) (by omega) (by omega) ?_
      exact tb_law_1622 C hfl Y hcb hsb k23 hk23 x4 M7 h H locs ls hH (lv_sub hl [2, 3, 4, 5, 6] rfl)
    · replace h := h.1 c10
      refine lv_aload_n hx hb dL_law_965 rfl (lv_at hl 5 rfl) ?_
      refine lv_iconst (v := 0) hx hb dL_law_966 (by decide) ?_
      refine fx_lald (j := 0) C hH 9 (fx_w9 g M7) (by decide) (by unfold vp_in; decide) dL_law_967 ?_
      refine lv_iload hx hb dL_law_968 (lv_at hl 0 rfl) ?_
      refine lv_i2l hx hb dL_law_970 rfl ?_
      refine W.lcmp hx hb dL_law_971 ?_
      refine lv_if_eq (tgt := 977) hx hb dL_law_972 (by decide) (fun c11 => ?_) (fun c11 => ?_)
      · replace h := h.1 c11
        refine lv_goto (tgt := 1622) hx hb dL_law_977 (by decide) ?_
        refine W.widen (k := (cells + 3)) (n := (slots + 18)) (by omega) (by omega) ?_
        exact tb_law_1622 C hfl Y hcb hsb k23 hk23 x4 M7 h H locs ls hH (lv_sub hl [2, 3, 4, 5, 6] rfl)
      · replace h := h.2 c11
        exact False.elim h
  · replace h := h.2 c9
    exact False.elim h
def wb_law_980 (L : Nat) (xs : Nat → Int32) (k23 : Int32 → fx_Mem → Prop) (x4 : Int32) (M : fx_Mem) : Prop :=
  vp_in (x4 + 1) L ∧ vp_in (x4 + 2) L ∧ wp_L_box_0_9 (xs (x4 + 1).toNatClampNeg) (xs (x4 + 2).toNatClampNeg) M (fun r4 M3 => vp_in (x4 + 1) L ∧ vp_in (x4 + 2) L ∧ wp_X7_box_8 (xs (x4 + 1).toNatClampNeg) (xs (x4 + 2).toNatClampNeg) M3 (fun r8 M7 => wp_X7_thrown_8  M7 (fun r10 M9 => ((r10 = r4 → ((r4 = 0 → ((lg_cmp (M9.2.2 9 0) r8.toInt64 = 0 → wb_law_1622 L xs k23 x4 M9) ∧ (¬ lg_cmp (M9.2.2 9 0) r8.toInt64 = 0 → False))) ∧ (¬ r4 = 0 → wb_law_1622 L xs k23 x4 M9))) ∧ (¬ r10 = r4 → False)))))
set_option maxHeartbeats 8000000 in
set_option maxRecDepth 100000 in
theorem tb_law_980 {g : fx_Geo} {p : Program} {l : Launch} {e : Env} {s : State} {m : MethodId} {b : Nat} {below : List Frame} {meth : Method} {c : Code} {L : Nat} {xs : Nat → Int32} {cells slots : Nat} (C : fx_Cx g p s m #[Value.ref b] meth c RL cL_law 7 ret) (hfl : l.stackTraces = false) (Y : fx_scr g s b L xs) (hcb : cells + 3 ≤ 603072) (hsb : slots + 18 ≤ 7198826) (k23 : Int32 → fx_Mem → Prop) (hk23 : ∀ (x4 : Int32) (M : fx_Mem), k23 x4 M → ∀ (H : Heap) (locs : List Loc) (ls : Array Slot), fx_H g s M H locs → lv_has ls 7 [(0, .ref b), (1, .ref (fx_a g 0)), (2, .ref (fx_a g 8)), (3, .ref (fx_a g 9)), (4, .int x4)] → W p l e room_1 s m #[Value.ref b] below meth c H locs (cells + 3) (slots + 18) (lw_Z below #[Value.ref b] s) (F0 m 23 ls [])) (x4 : Int32) (M : fx_Mem) (h : wb_law_980 L xs k23 x4 M) (H : Heap) (locs : List Loc) (ls : Array Slot) (hH : fx_H g s M H locs) (hl : lv_has ls 7 [(0, .ref b), (1, .ref (fx_a g 0)), (2, .ref (fx_a g 8)), (3, .ref (fx_a g 9)), (4, .int x4)]) : W p l e room_1 s m #[Value.ref b] below meth c H locs cells slots (lw_Z below #[Value.ref b] s) (F0 m 980 ls []) := by
  obtain ⟨hx, hb, hr, hml, hown, hts, hlocks, hsz, hK, hG, hSt⟩ := id C
  obtain ⟨hX, hbl, hbA, hbas⟩ := id Y
  unfold wb_law_980 at h
  refine lv_aload_n hx hb dL_law_980 rfl (lv_at hl 1 rfl) ?_
  refine lv_aload_n hx hb dL_law_981 rfl (lv_at hl 0 rfl) ?_
  refine lv_iload hx hb dL_law_982 (lv_at hl 4 rfl) ?_
  refine lv_iconst (v := 1) hx hb dL_law_984 (by decide) ?_
  refine lv_iadd hx hb dL_law_985 ?_
  obtain ⟨hi1, h⟩ := h
  refine va_sld hx hb hX hbl hbA hH.2 hi1 dL_law_986 ?_
  refine lv_aload_n hx hb dL_law_987 rfl (lv_at hl 0 rfl) ?_
  refine lv_iload hx hb dL_law_988 (lv_at hl 4 rfl) ?_
  refine lv_iconst (v := 2) hx hb dL_law_990 (by decide) ?_
  refine lv_iadd hx hb dL_law_991 ?_
  obtain ⟨hi2, h⟩ := h
  refine va_sld hx hb hX hbl hbA hH.2 hi2 dL_law_992 ?_
  refine lv_aload_n hx hb dL_law_993 rfl (lv_at hl 3 rfl) ?_
  refine fx_ciC hH (fx_runSW (As := [.ref (fx_a g 0), .int (xs (x4 + 1).toNatClampNeg), .int (xs (x4 + 2).toNatClampNeg), .ref (fx_a g 9)]) (rest := []) C hH (c_L_box_0_9 l hG hfl (xs (x4 + 1).toNatClampNeg) (xs (x4 + 2).toNatClampNeg) M _ h) (fx_cwSW 4 hts u_688 u_689 u_0 u_690 rfl rfl (by decide +kernel) ⟨(Nat.le_of_ble_eq_true rfl), (Nat.le_of_ble_eq_true rfl)⟩) rfl hl.1 rfl (Nat.le_of_ble_eq_true rfl) dL_law_994 ⟨by show cells + 2 ≤ 603072; omega, by show slots + 12 ≤ 7198826; omega⟩) (fun r4 M3 H locs h hH => ?_)
  refine lv_istore (lv' := [(5, .int r4), (0, .ref b), (1, .ref (fx_a g 0)), (2, .ref (fx_a g 8)), (3, .ref (fx_a g 9)), (4, .int x4)]) hx hb dL_law_997 hl (by decide) rfl (fun ls hl => ?_)
  refine lv_aload_n hx hb dL_law_999 rfl (lv_at hl 3 rfl) ?_
  refine lv_aload_n hx hb dL_law_1000 rfl (lv_at hl 1 rfl) ?_
  refine lv_iload hx hb dL_law_1001 (lv_at hl 5 rfl) ?_
  refine lv_iconst (v := 1) hx hb dL_law_1003 (by decide) ?_
  refine lv_iadd hx hb dL_law_1004 ?_
  obtain ⟨hi5, h⟩ := h
  refine va_sld hx hb hX hbl hbA hH.2 hi5 dL_law_1005 ?_
  refine lv_aload_n hx hb dL_law_1006 rfl (lv_at hl 1 rfl) ?_
  refine lv_iload hx hb dL_law_1007 (lv_at hl 5 rfl) ?_
  refine lv_iconst (v := 2) hx hb dL_law_1009 (by decide) ?_
  refine lv_iadd hx hb dL_law_1010 ?_
  obtain ⟨hi6, h⟩ := h
  refine va_sld hx hb hX hbl hbA hH.2 hi6 dL_law_1011 ?_
  refine fx_ci hH (fx_runV (As := [.int (xs (x4 + 1).toNatClampNeg), .int (xs (x4 + 2).toNatClampNeg)]) (rest := []) C hH (c_X7_box_8 l hG (xs (x4 + 1).toNatClampNeg) (xs (x4 + 2).toNatClampNeg) M3 _ h) (fx_cwV 2 hts u_1120 u_1121 u_1122 u_8 u_1123 rfl rfl (by decide +kernel) ⟨(Nat.le_of_ble_eq_true rfl), (Nat.le_of_ble_eq_true rfl)⟩) (fx_w8 g M3) rfl rfl hl.1 rfl (Nat.le_of_ble_eq_true rfl) dL_law_1012 ⟨by show (cells + 2) + 0 ≤ 603072; omega, by show (slots + 12) + 0 ≤ 7198826; omega⟩) (fun r8 M7 H locs h hH => ?_)
  refine lv_istore (lv' := [(6, .int r8), (5, .int r4), (0, .ref b), (1, .ref (fx_a g 0)), (2, .ref (fx_a g 8)), (3, .ref (fx_a g 9)), (4, .int x4)]) hx hb dL_law_1015 hl (by decide) rfl (fun ls hl => ?_)
  refine lv_aload_n hx hb dL_law_1017 rfl (lv_at hl 4 rfl) ?_
  refine fx_ci hH (fx_runV (As := []) (rest := []) C hH (c_X7_thrown_8 l hG  M7 _ h) (fx_cwV 0 hts u_929 u_930 u_931 u_8 u_932 rfl rfl (by decide +kernel) ⟨(Nat.le_of_ble_eq_true rfl), (Nat.le_of_ble_eq_true rfl)⟩) (fx_w8 g M7) rfl rfl hl.1 rfl (Nat.le_of_ble_eq_true rfl) dL_law_1018 ⟨by show (cells + 2) + 0 ≤ 603072; omega, by show (slots + 12) + 0 ≤ 7198826; omega⟩) (fun r10 M9 H locs h hH => ?_)
  refine lv_iload hx hb dL_law_1021 (lv_at hl 1 rfl) ?_
  refine lv_icmp_eq (tgt := 1028) hx hb dL_law_1023 (by decide) (fun c11 => ?_) (fun c11 => ?_)
  · replace h := h.1 c11
    refine lv_iload hx hb dL_law_1028 (lv_at hl 1 rfl) ?_
    refine lv_if_ne (tgt := 1045) hx hb dL_law_1030 (by decide) (fun c12 => ?_) (fun c12 => ?_)
    · replace h := h.2 c12
      refine lv_goto (tgt := 1622) hx hb dL_law_1045 (by decide) ?_
      refine W.widen (k := (cells + 3)) (n := (slots + 18)) (by omega) (by omega) ?_
      exact tb_law_1622 C hfl Y hcb hsb k23 hk23 x4 M9 h H locs ls hH (lv_sub hl [2, 3, 4, 5, 6] rfl)
    · replace h := h.1 c12
      refine lv_aload_n hx hb dL_law_1033 rfl (lv_at hl 5 rfl) ?_
      refine lv_iconst (v := 0) hx hb dL_law_1034 (by decide) ?_
      refine fx_lald (j := 0) C hH 9 (fx_w9 g M9) (by decide) (by unfold vp_in; decide) dL_law_1035 ?_
      refine lv_iload hx hb dL_law_1036 (lv_at hl 0 rfl) ?_
      refine lv_i2l hx hb dL_law_1038 rfl ?_
      refine W.lcmp hx hb dL_law_1039 ?_
      refine lv_if_eq (tgt := 1045) hx hb dL_law_1040 (by decide) (fun c13 => ?_) (fun c13 => ?_)
      · replace h := h.1 c13
        refine lv_goto (tgt := 1622) hx hb dL_law_1045 (by decide) ?_
        refine W.widen (k := (cells + 3)) (n := (slots + 18)) (by omega) (by omega) ?_
        exact tb_law_1622 C hfl Y hcb hsb k23 hk23 x4 M9 h H locs ls hH (lv_sub hl [2, 3, 4, 5, 6] rfl)
      · replace h := h.2 c13
        exact False.elim h
  · replace h := h.2 c11
    exact False.elim h
def wb_law_1048 (L : Nat) (xs : Nat → Int32) (k23 : Int32 → fx_Mem → Prop) (x4 : Int32) (M : fx_Mem) : Prop :=
  vp_in (x4 + 1) L ∧ wp_L_rounds_0_9 (xs (x4 + 1).toNatClampNeg) M (fun r3 M2 => vp_in (x4 + 1) L ∧ wp_X7_rounds_8 (xs (x4 + 1).toNatClampNeg) M2 (fun r6 M5 => wp_X7_thrown_8  M5 (fun r8 M7 => ((r8 = r3 → ((r3 = 0 → ((lg_cmp (M7.2.2 9 0) r6.toInt64 = 0 → wb_law_1622 L xs k23 x4 M7) ∧ (¬ lg_cmp (M7.2.2 9 0) r6.toInt64 = 0 → False))) ∧ (¬ r3 = 0 → wb_law_1622 L xs k23 x4 M7))) ∧ (¬ r8 = r3 → False)))))
set_option maxHeartbeats 8000000 in
set_option maxRecDepth 100000 in
theorem tb_law_1048 {g : fx_Geo} {p : Program} {l : Launch} {e : Env} {s : State} {m : MethodId} {b : Nat} {below : List Frame} {meth : Method} {c : Code} {L : Nat} {xs : Nat → Int32} {cells slots : Nat} (C : fx_Cx g p s m #[Value.ref b] meth c RL cL_law 7 ret) (hfl : l.stackTraces = false) (Y : fx_scr g s b L xs) (hcb : cells + 3 ≤ 603072) (hsb : slots + 18 ≤ 7198826) (k23 : Int32 → fx_Mem → Prop) (hk23 : ∀ (x4 : Int32) (M : fx_Mem), k23 x4 M → ∀ (H : Heap) (locs : List Loc) (ls : Array Slot), fx_H g s M H locs → lv_has ls 7 [(0, .ref b), (1, .ref (fx_a g 0)), (2, .ref (fx_a g 8)), (3, .ref (fx_a g 9)), (4, .int x4)] → W p l e room_1 s m #[Value.ref b] below meth c H locs (cells + 3) (slots + 18) (lw_Z below #[Value.ref b] s) (F0 m 23 ls [])) (x4 : Int32) (M : fx_Mem) (h : wb_law_1048 L xs k23 x4 M) (H : Heap) (locs : List Loc) (ls : Array Slot) (hH : fx_H g s M H locs) (hl : lv_has ls 7 [(0, .ref b), (1, .ref (fx_a g 0)), (2, .ref (fx_a g 8)), (3, .ref (fx_a g 9)), (4, .int x4)]) : W p l e room_1 s m #[Value.ref b] below meth c H locs cells slots (lw_Z below #[Value.ref b] s) (F0 m 1048 ls []) := by
  obtain ⟨hx, hb, hr, hml, hown, hts, hlocks, hsz, hK, hG, hSt⟩ := id C
  obtain ⟨hX, hbl, hbA, hbas⟩ := id Y
  unfold wb_law_1048 at h
  refine lv_aload_n hx hb dL_law_1048 rfl (lv_at hl 1 rfl) ?_
  refine lv_aload_n hx hb dL_law_1049 rfl (lv_at hl 0 rfl) ?_
  refine lv_iload hx hb dL_law_1050 (lv_at hl 4 rfl) ?_
  refine lv_iconst (v := 1) hx hb dL_law_1052 (by decide) ?_
  refine lv_iadd hx hb dL_law_1053 ?_
  obtain ⟨hi1, h⟩ := h
  refine va_sld hx hb hX hbl hbA hH.2 hi1 dL_law_1054 ?_
  refine lv_aload_n hx hb dL_law_1055 rfl (lv_at hl 3 rfl) ?_
  refine fx_ciC hH (fx_runSW (As := [.ref (fx_a g 0), .int (xs (x4 + 1).toNatClampNeg), .ref (fx_a g 9)]) (rest := []) C hH (c_L_rounds_0_9 l hG hfl (xs (x4 + 1).toNatClampNeg) M _ h) (fx_cwSW 3 hts u_700 u_701 u_0 u_702 rfl rfl (by decide +kernel) ⟨(Nat.le_of_ble_eq_true rfl), (Nat.le_of_ble_eq_true rfl)⟩) rfl hl.1 rfl (Nat.le_of_ble_eq_true rfl) dL_law_1056 ⟨by show cells + 1 ≤ 603072; omega, by show slots + 6 ≤ 7198826; omega⟩) (fun r3 M2 H locs h hH => ?_)
  refine lv_istore (lv' := [(5, .int r3), (0, .ref b), (1, .ref (fx_a g 0)), (2, .ref (fx_a g 8)), (3, .ref (fx_a g 9)), (4, .int x4)]) hx hb dL_law_1059 hl (by decide) rfl (fun ls hl => ?_)
  refine lv_aload_n hx hb dL_law_1061 rfl (lv_at hl 3 rfl) ?_
  refine lv_aload_n hx hb dL_law_1062 rfl (lv_at hl 1 rfl) ?_
  refine lv_iload hx hb dL_law_1063 (lv_at hl 5 rfl) ?_
  refine lv_iconst (v := 1) hx hb dL_law_1065 (by decide) ?_
  refine lv_iadd hx hb dL_law_1066 ?_
  obtain ⟨hi4, h⟩ := h
  refine va_sld hx hb hX hbl hbA hH.2 hi4 dL_law_1067 ?_
  refine fx_ci hH (fx_runV (As := [.int (xs (x4 + 1).toNatClampNeg)]) (rest := []) C hH (c_X7_rounds_8 l hG (xs (x4 + 1).toNatClampNeg) M2 _ h) (fx_cwV 1 hts u_1129 u_1130 u_1131 u_8 u_1132 rfl rfl (by decide +kernel) ⟨(Nat.le_of_ble_eq_true rfl), (Nat.le_of_ble_eq_true rfl)⟩) (fx_w8 g M2) rfl rfl hl.1 rfl (Nat.le_of_ble_eq_true rfl) dL_law_1068 ⟨by show (cells + 1) + 0 ≤ 603072; omega, by show (slots + 6) + 0 ≤ 7198826; omega⟩) (fun r6 M5 H locs h hH => ?_)
  refine lv_istore (lv' := [(6, .int r6), (5, .int r3), (0, .ref b), (1, .ref (fx_a g 0)), (2, .ref (fx_a g 8)), (3, .ref (fx_a g 9)), (4, .int x4)]) hx hb dL_law_1071 hl (by decide) rfl (fun ls hl => ?_)
  refine lv_aload_n hx hb dL_law_1073 rfl (lv_at hl 4 rfl) ?_
  refine fx_ci hH (fx_runV (As := []) (rest := []) C hH (c_X7_thrown_8 l hG  M5 _ h) (fx_cwV 0 hts u_929 u_930 u_931 u_8 u_932 rfl rfl (by decide +kernel) ⟨(Nat.le_of_ble_eq_true rfl), (Nat.le_of_ble_eq_true rfl)⟩) (fx_w8 g M5) rfl rfl hl.1 rfl (Nat.le_of_ble_eq_true rfl) dL_law_1074 ⟨by show (cells + 1) + 0 ≤ 603072; omega, by show (slots + 6) + 0 ≤ 7198826; omega⟩) (fun r8 M7 H locs h hH => ?_)
  refine lv_iload hx hb dL_law_1077 (lv_at hl 1 rfl) ?_
  refine lv_icmp_eq (tgt := 1084) hx hb dL_law_1079 (by decide) (fun c9 => ?_) (fun c9 => ?_)
  · replace h := h.1 c9
    refine lv_iload hx hb dL_law_1084 (lv_at hl 1 rfl) ?_
    refine lv_if_ne (tgt := 1101) hx hb dL_law_1086 (by decide) (fun c10 => ?_) (fun c10 => ?_)
    · replace h := h.2 c10
      refine lv_goto (tgt := 1622) hx hb dL_law_1101 (by decide) ?_
      refine W.widen (k := (cells + 3)) (n := (slots + 18)) (by omega) (by omega) ?_
      exact tb_law_1622 C hfl Y hcb hsb k23 hk23 x4 M7 h H locs ls hH (lv_sub hl [2, 3, 4, 5, 6] rfl)
    · replace h := h.1 c10
      refine lv_aload_n hx hb dL_law_1089 rfl (lv_at hl 5 rfl) ?_
      refine lv_iconst (v := 0) hx hb dL_law_1090 (by decide) ?_
      refine fx_lald (j := 0) C hH 9 (fx_w9 g M7) (by decide) (by unfold vp_in; decide) dL_law_1091 ?_
      refine lv_iload hx hb dL_law_1092 (lv_at hl 0 rfl) ?_
      refine lv_i2l hx hb dL_law_1094 rfl ?_
      refine W.lcmp hx hb dL_law_1095 ?_
      refine lv_if_eq (tgt := 1101) hx hb dL_law_1096 (by decide) (fun c11 => ?_) (fun c11 => ?_)
      · replace h := h.1 c11
        refine lv_goto (tgt := 1622) hx hb dL_law_1101 (by decide) ?_
        refine W.widen (k := (cells + 3)) (n := (slots + 18)) (by omega) (by omega) ?_
        exact tb_law_1622 C hfl Y hcb hsb k23 hk23 x4 M7 h H locs ls hH (lv_sub hl [2, 3, 4, 5, 6] rfl)
      · replace h := h.2 c11
        exact False.elim h
  · replace h := h.2 c9
    exact False.elim h
def wb_law_1104 (L : Nat) (xs : Nat → Int32) (k23 : Int32 → fx_Mem → Prop) (x4 : Int32) (M : fx_Mem) : Prop :=
  vp_in (x4 + 1) L ∧ wp_L_freeSpace_0_9 (xs (x4 + 1).toNatClampNeg) M (fun r3 M2 => vp_in (x4 + 1) L ∧ wp_X7_freeSpace_8 (xs (x4 + 1).toNatClampNeg) M2 (fun r6 M5 => wp_X7_thrown_8  M5 (fun r8 M7 => ((r8 = r3 → ((r3 = 0 → ((lg_cmp (M7.2.2 9 0) r6.toInt64 = 0 → wb_law_1622 L xs k23 x4 M7) ∧ (¬ lg_cmp (M7.2.2 9 0) r6.toInt64 = 0 → False))) ∧ (¬ r3 = 0 → wb_law_1622 L xs k23 x4 M7))) ∧ (¬ r8 = r3 → False)))))
set_option maxHeartbeats 8000000 in
set_option maxRecDepth 100000 in
theorem tb_law_1104 {g : fx_Geo} {p : Program} {l : Launch} {e : Env} {s : State} {m : MethodId} {b : Nat} {below : List Frame} {meth : Method} {c : Code} {L : Nat} {xs : Nat → Int32} {cells slots : Nat} (C : fx_Cx g p s m #[Value.ref b] meth c RL cL_law 7 ret) (hfl : l.stackTraces = false) (Y : fx_scr g s b L xs) (hcb : cells + 3 ≤ 603072) (hsb : slots + 18 ≤ 7198826) (k23 : Int32 → fx_Mem → Prop) (hk23 : ∀ (x4 : Int32) (M : fx_Mem), k23 x4 M → ∀ (H : Heap) (locs : List Loc) (ls : Array Slot), fx_H g s M H locs → lv_has ls 7 [(0, .ref b), (1, .ref (fx_a g 0)), (2, .ref (fx_a g 8)), (3, .ref (fx_a g 9)), (4, .int x4)] → W p l e room_1 s m #[Value.ref b] below meth c H locs (cells + 3) (slots + 18) (lw_Z below #[Value.ref b] s) (F0 m 23 ls [])) (x4 : Int32) (M : fx_Mem) (h : wb_law_1104 L xs k23 x4 M) (H : Heap) (locs : List Loc) (ls : Array Slot) (hH : fx_H g s M H locs) (hl : lv_has ls 7 [(0, .ref b), (1, .ref (fx_a g 0)), (2, .ref (fx_a g 8)), (3, .ref (fx_a g 9)), (4, .int x4)]) : W p l e room_1 s m #[Value.ref b] below meth c H locs cells slots (lw_Z below #[Value.ref b] s) (F0 m 1104 ls []) := by
  obtain ⟨hx, hb, hr, hml, hown, hts, hlocks, hsz, hK, hG, hSt⟩ := id C
  obtain ⟨hX, hbl, hbA, hbas⟩ := id Y
  unfold wb_law_1104 at h
  refine lv_aload_n hx hb dL_law_1104 rfl (lv_at hl 1 rfl) ?_
  refine lv_aload_n hx hb dL_law_1105 rfl (lv_at hl 0 rfl) ?_
  refine lv_iload hx hb dL_law_1106 (lv_at hl 4 rfl) ?_
  refine lv_iconst (v := 1) hx hb dL_law_1108 (by decide) ?_
  refine lv_iadd hx hb dL_law_1109 ?_
  obtain ⟨hi1, h⟩ := h
  refine va_sld hx hb hX hbl hbA hH.2 hi1 dL_law_1110 ?_
  refine lv_aload_n hx hb dL_law_1111 rfl (lv_at hl 3 rfl) ?_
  refine fx_ciC hH (fx_runSW (As := [.ref (fx_a g 0), .int (xs (x4 + 1).toNatClampNeg), .ref (fx_a g 9)]) (rest := []) C hH (c_L_freeSpace_0_9 l hG hfl (xs (x4 + 1).toNatClampNeg) M _ h) (fx_cwSW 3 hts u_712 u_713 u_0 u_714 rfl rfl (by decide +kernel) ⟨(Nat.le_of_ble_eq_true rfl), (Nat.le_of_ble_eq_true rfl)⟩) rfl hl.1 rfl (Nat.le_of_ble_eq_true rfl) dL_law_1112 ⟨by show cells + 1 ≤ 603072; omega, by show slots + 6 ≤ 7198826; omega⟩) (fun r3 M2 H locs h hH => ?_)
  refine lv_istore (lv' := [(5, .int r3), (0, .ref b), (1, .ref (fx_a g 0)), (2, .ref (fx_a g 8)), (3, .ref (fx_a g 9)), (4, .int x4)]) hx hb dL_law_1115 hl (by decide) rfl (fun ls hl => ?_)
  refine lv_aload_n hx hb dL_law_1117 rfl (lv_at hl 3 rfl) ?_
  refine lv_aload_n hx hb dL_law_1118 rfl (lv_at hl 1 rfl) ?_
  refine lv_iload hx hb dL_law_1119 (lv_at hl 5 rfl) ?_
  refine lv_iconst (v := 1) hx hb dL_law_1121 (by decide) ?_
  refine lv_iadd hx hb dL_law_1122 ?_
  obtain ⟨hi4, h⟩ := h
  refine va_sld hx hb hX hbl hbA hH.2 hi4 dL_law_1123 ?_
  refine fx_ci hH (fx_runV (As := [.int (xs (x4 + 1).toNatClampNeg)]) (rest := []) C hH (c_X7_freeSpace_8 l hG (xs (x4 + 1).toNatClampNeg) M2 _ h) (fx_cwV 1 hts u_1137 u_1138 u_1139 u_8 u_1140 rfl rfl (by decide +kernel) ⟨(Nat.le_of_ble_eq_true rfl), (Nat.le_of_ble_eq_true rfl)⟩) (fx_w8 g M2) rfl rfl hl.1 rfl (Nat.le_of_ble_eq_true rfl) dL_law_1124 ⟨by show (cells + 1) + 0 ≤ 603072; omega, by show (slots + 6) + 0 ≤ 7198826; omega⟩) (fun r6 M5 H locs h hH => ?_)
  refine lv_istore (lv' := [(6, .int r6), (5, .int r3), (0, .ref b), (1, .ref (fx_a g 0)), (2, .ref (fx_a g 8)), (3, .ref (fx_a g 9)), (4, .int x4)]) hx hb dL_law_1127 hl (by decide) rfl (fun ls hl => ?_)
  refine lv_aload_n hx hb dL_law_1129 rfl (lv_at hl 4 rfl) ?_
  refine fx_ci hH (fx_runV (As := []) (rest := []) C hH (c_X7_thrown_8 l hG  M5 _ h) (fx_cwV 0 hts u_929 u_930 u_931 u_8 u_932 rfl rfl (by decide +kernel) ⟨(Nat.le_of_ble_eq_true rfl), (Nat.le_of_ble_eq_true rfl)⟩) (fx_w8 g M5) rfl rfl hl.1 rfl (Nat.le_of_ble_eq_true rfl) dL_law_1130 ⟨by show (cells + 1) + 0 ≤ 603072; omega, by show (slots + 6) + 0 ≤ 7198826; omega⟩) (fun r8 M7 H locs h hH => ?_)
  refine lv_iload hx hb dL_law_1133 (lv_at hl 1 rfl) ?_
  refine lv_icmp_eq (tgt := 1140) hx hb dL_law_1135 (by decide) (fun c9 => ?_) (fun c9 => ?_)
  · replace h := h.1 c9
    refine lv_iload hx hb dL_law_1140 (lv_at hl 1 rfl) ?_
    refine lv_if_ne (tgt := 1157) hx hb dL_law_1142 (by decide) (fun c10 => ?_) (fun c10 => ?_)
    · replace h := h.2 c10
      refine lv_goto (tgt := 1622) hx hb dL_law_1157 (by decide) ?_
      refine W.widen (k := (cells + 3)) (n := (slots + 18)) (by omega) (by omega) ?_
      exact tb_law_1622 C hfl Y hcb hsb k23 hk23 x4 M7 h H locs ls hH (lv_sub hl [2, 3, 4, 5, 6] rfl)
    · replace h := h.1 c10
      refine lv_aload_n hx hb dL_law_1145 rfl (lv_at hl 5 rfl) ?_
      refine lv_iconst (v := 0) hx hb dL_law_1146 (by decide) ?_
      refine fx_lald (j := 0) C hH 9 (fx_w9 g M7) (by decide) (by unfold vp_in; decide) dL_law_1147 ?_
      refine lv_iload hx hb dL_law_1148 (lv_at hl 0 rfl) ?_
      refine lv_i2l hx hb dL_law_1150 rfl ?_
      refine W.lcmp hx hb dL_law_1151 ?_
      refine lv_if_eq (tgt := 1157) hx hb dL_law_1152 (by decide) (fun c11 => ?_) (fun c11 => ?_)
      · replace h := h.1 c11
        refine lv_goto (tgt := 1622) hx hb dL_law_1157 (by decide) ?_
        refine W.widen (k := (cells + 3)) (n := (slots + 18)) (by omega) (by omega) ?_
        exact tb_law_1622 C hfl Y hcb hsb k23 hk23 x4 M7 h H locs ls hH (lv_sub hl [2, 3, 4, 5, 6] rfl)
      · replace h := h.2 c11
        exact False.elim h
  · replace h := h.2 c9
    exact False.elim h
def wb_law_1160 (L : Nat) (xs : Nat → Int32) (k23 : Int32 → fx_Mem → Prop) (x4 : Int32) (M : fx_Mem) : Prop :=
  vp_in (x4 + 1) L ∧ wp_L_lineCross_0_9 (xs (x4 + 1).toNatClampNeg) M (fun r3 M2 => vp_in (x4 + 1) L ∧ wp_X7_lineCross_8 (xs (x4 + 1).toNatClampNeg) M2 (fun r6 M5 => wp_X7_thrown_8  M5 (fun r8 M7 => ((r8 = r3 → ((r3 = 0 → ((lg_cmp (M7.2.2 9 0) r6.toInt64 = 0 → wb_law_1622 L xs k23 x4 M7) ∧ (¬ lg_cmp (M7.2.2 9 0) r6.toInt64 = 0 → False))) ∧ (¬ r3 = 0 → wb_law_1622 L xs k23 x4 M7))) ∧ (¬ r8 = r3 → False)))))
set_option maxHeartbeats 8000000 in
set_option maxRecDepth 100000 in
theorem tb_law_1160 {g : fx_Geo} {p : Program} {l : Launch} {e : Env} {s : State} {m : MethodId} {b : Nat} {below : List Frame} {meth : Method} {c : Code} {L : Nat} {xs : Nat → Int32} {cells slots : Nat} (C : fx_Cx g p s m #[Value.ref b] meth c RL cL_law 7 ret) (hfl : l.stackTraces = false) (Y : fx_scr g s b L xs) (hcb : cells + 3 ≤ 603072) (hsb : slots + 18 ≤ 7198826) (k23 : Int32 → fx_Mem → Prop) (hk23 : ∀ (x4 : Int32) (M : fx_Mem), k23 x4 M → ∀ (H : Heap) (locs : List Loc) (ls : Array Slot), fx_H g s M H locs → lv_has ls 7 [(0, .ref b), (1, .ref (fx_a g 0)), (2, .ref (fx_a g 8)), (3, .ref (fx_a g 9)), (4, .int x4)] → W p l e room_1 s m #[Value.ref b] below meth c H locs (cells + 3) (slots + 18) (lw_Z below #[Value.ref b] s) (F0 m 23 ls [])) (x4 : Int32) (M : fx_Mem) (h : wb_law_1160 L xs k23 x4 M) (H : Heap) (locs : List Loc) (ls : Array Slot) (hH : fx_H g s M H locs) (hl : lv_has ls 7 [(0, .ref b), (1, .ref (fx_a g 0)), (2, .ref (fx_a g 8)), (3, .ref (fx_a g 9)), (4, .int x4)]) : W p l e room_1 s m #[Value.ref b] below meth c H locs cells slots (lw_Z below #[Value.ref b] s) (F0 m 1160 ls []) := by
  obtain ⟨hx, hb, hr, hml, hown, hts, hlocks, hsz, hK, hG, hSt⟩ := id C
  obtain ⟨hX, hbl, hbA, hbas⟩ := id Y
  unfold wb_law_1160 at h
  refine lv_aload_n hx hb dL_law_1160 rfl (lv_at hl 1 rfl) ?_
  refine lv_aload_n hx hb dL_law_1161 rfl (lv_at hl 0 rfl) ?_
  refine lv_iload hx hb dL_law_1162 (lv_at hl 4 rfl) ?_
  refine lv_iconst (v := 1) hx hb dL_law_1164 (by decide) ?_
  refine lv_iadd hx hb dL_law_1165 ?_
  obtain ⟨hi1, h⟩ := h
  refine va_sld hx hb hX hbl hbA hH.2 hi1 dL_law_1166 ?_
  refine lv_aload_n hx hb dL_law_1167 rfl (lv_at hl 3 rfl) ?_
  refine fx_ciC hH (fx_runSW (As := [.ref (fx_a g 0), .int (xs (x4 + 1).toNatClampNeg), .ref (fx_a g 9)]) (rest := []) C hH (c_L_lineCross_0_9 l hG hfl (xs (x4 + 1).toNatClampNeg) M _ h) (fx_cwSW 3 hts u_719 u_720 u_0 u_721 rfl rfl (by decide +kernel) ⟨(Nat.le_of_ble_eq_true rfl), (Nat.le_of_ble_eq_true rfl)⟩) rfl hl.1 rfl (Nat.le_of_ble_eq_true rfl) dL_law_1168 ⟨by show cells + 1 ≤ 603072; omega, by show slots + 6 ≤ 7198826; omega⟩) (fun r3 M2 H locs h hH => ?_)
  refine lv_istore (lv' := [(5, .int r3), (0, .ref b), (1, .ref (fx_a g 0)), (2, .ref (fx_a g 8)), (3, .ref (fx_a g 9)), (4, .int x4)]) hx hb dL_law_1171 hl (by decide) rfl (fun ls hl => ?_)
  refine lv_aload_n hx hb dL_law_1173 rfl (lv_at hl 3 rfl) ?_
  refine lv_aload_n hx hb dL_law_1174 rfl (lv_at hl 1 rfl) ?_
  refine lv_iload hx hb dL_law_1175 (lv_at hl 5 rfl) ?_
  refine lv_iconst (v := 1) hx hb dL_law_1177 (by decide) ?_
  refine lv_iadd hx hb dL_law_1178 ?_
  obtain ⟨hi4, h⟩ := h
  refine va_sld hx hb hX hbl hbA hH.2 hi4 dL_law_1179 ?_
  refine fx_ci hH (fx_runV (As := [.int (xs (x4 + 1).toNatClampNeg)]) (rest := []) C hH (c_X7_lineCross_8 l hG (xs (x4 + 1).toNatClampNeg) M2 _ h) (fx_cwV 1 hts u_1141 u_1142 u_1143 u_8 u_1144 rfl rfl (by decide +kernel) ⟨(Nat.le_of_ble_eq_true rfl), (Nat.le_of_ble_eq_true rfl)⟩) (fx_w8 g M2) rfl rfl hl.1 rfl (Nat.le_of_ble_eq_true rfl) dL_law_1180 ⟨by show (cells + 1) + 0 ≤ 603072; omega, by show (slots + 6) + 0 ≤ 7198826; omega⟩) (fun r6 M5 H locs h hH => ?_)
  refine lv_istore (lv' := [(6, .int r6), (5, .int r3), (0, .ref b), (1, .ref (fx_a g 0)), (2, .ref (fx_a g 8)), (3, .ref (fx_a g 9)), (4, .int x4)]) hx hb dL_law_1183 hl (by decide) rfl (fun ls hl => ?_)
  refine lv_aload_n hx hb dL_law_1185 rfl (lv_at hl 4 rfl) ?_
  refine fx_ci hH (fx_runV (As := []) (rest := []) C hH (c_X7_thrown_8 l hG  M5 _ h) (fx_cwV 0 hts u_929 u_930 u_931 u_8 u_932 rfl rfl (by decide +kernel) ⟨(Nat.le_of_ble_eq_true rfl), (Nat.le_of_ble_eq_true rfl)⟩) (fx_w8 g M5) rfl rfl hl.1 rfl (Nat.le_of_ble_eq_true rfl) dL_law_1186 ⟨by show (cells + 1) + 0 ≤ 603072; omega, by show (slots + 6) + 0 ≤ 7198826; omega⟩) (fun r8 M7 H locs h hH => ?_)
  refine lv_iload hx hb dL_law_1189 (lv_at hl 1 rfl) ?_
  refine lv_icmp_eq (tgt := 1196) hx hb dL_law_1191 (by decide) (fun c9 => ?_) (fun c9 => ?_)
  · replace h := h.1 c9
    refine lv_iload hx hb dL_law_1196 (lv_at hl 1 rfl) ?_
    refine lv_if_ne (tgt := 1213) hx hb dL_law_1198 (by decide) (fun c10 => ?_) (fun c10 => ?_)
    · replace h := h.2 c10
      refine lv_goto (tgt := 1622) hx hb dL_law_1213 (by decide) ?_
      refine W.widen (k := (cells + 3)) (n := (slots + 18)) (by omega) (by omega) ?_
      exact tb_law_1622 C hfl Y hcb hsb k23 hk23 x4 M7 h H locs ls hH (lv_sub hl [2, 3, 4, 5, 6] rfl)
    · replace h := h.1 c10
      refine lv_aload_n hx hb dL_law_1201 rfl (lv_at hl 5 rfl) ?_
      refine lv_iconst (v := 0) hx hb dL_law_1202 (by decide) ?_
      refine fx_lald (j := 0) C hH 9 (fx_w9 g M7) (by decide) (by unfold vp_in; decide) dL_law_1203 ?_
      refine lv_iload hx hb dL_law_1204 (lv_at hl 0 rfl) ?_
      refine lv_i2l hx hb dL_law_1206 rfl ?_
      refine W.lcmp hx hb dL_law_1207 ?_
      refine lv_if_eq (tgt := 1213) hx hb dL_law_1208 (by decide) (fun c11 => ?_) (fun c11 => ?_)
      · replace h := h.1 c11
        refine lv_goto (tgt := 1622) hx hb dL_law_1213 (by decide) ?_
        refine W.widen (k := (cells + 3)) (n := (slots + 18)) (by omega) (by omega) ?_
        exact tb_law_1622 C hfl Y hcb hsb k23 hk23 x4 M7 h H locs ls hH (lv_sub hl [2, 3, 4, 5, 6] rfl)
      · replace h := h.2 c11
        exact False.elim h
  · replace h := h.2 c9
    exact False.elim h
def wb_law_1216 (L : Nat) (xs : Nat → Int32) (k23 : Int32 → fx_Mem → Prop) (x4 : Int32) (M : fx_Mem) : Prop :=
  vp_in (x4 + 1) L ∧ wp_L_lineAscent_0_9 (xs (x4 + 1).toNatClampNeg) M (fun r3 M2 => vp_in (x4 + 1) L ∧ wp_X7_lineAscent_8 (xs (x4 + 1).toNatClampNeg) M2 (fun r6 M5 => wp_X7_thrown_8  M5 (fun r8 M7 => ((r8 = r3 → ((r3 = 0 → ((lg_cmp (M7.2.2 9 0) r6.toInt64 = 0 → wb_law_1622 L xs k23 x4 M7) ∧ (¬ lg_cmp (M7.2.2 9 0) r6.toInt64 = 0 → False))) ∧ (¬ r3 = 0 → wb_law_1622 L xs k23 x4 M7))) ∧ (¬ r8 = r3 → False)))))
set_option maxHeartbeats 8000000 in
set_option maxRecDepth 100000 in
theorem tb_law_1216 {g : fx_Geo} {p : Program} {l : Launch} {e : Env} {s : State} {m : MethodId} {b : Nat} {below : List Frame} {meth : Method} {c : Code} {L : Nat} {xs : Nat → Int32} {cells slots : Nat} (C : fx_Cx g p s m #[Value.ref b] meth c RL cL_law 7 ret) (hfl : l.stackTraces = false) (Y : fx_scr g s b L xs) (hcb : cells + 3 ≤ 603072) (hsb : slots + 18 ≤ 7198826) (k23 : Int32 → fx_Mem → Prop) (hk23 : ∀ (x4 : Int32) (M : fx_Mem), k23 x4 M → ∀ (H : Heap) (locs : List Loc) (ls : Array Slot), fx_H g s M H locs → lv_has ls 7 [(0, .ref b), (1, .ref (fx_a g 0)), (2, .ref (fx_a g 8)), (3, .ref (fx_a g 9)), (4, .int x4)] → W p l e room_1 s m #[Value.ref b] below meth c H locs (cells + 3) (slots + 18) (lw_Z below #[Value.ref b] s) (F0 m 23 ls [])) (x4 : Int32) (M : fx_Mem) (h : wb_law_1216 L xs k23 x4 M) (H : Heap) (locs : List Loc) (ls : Array Slot) (hH : fx_H g s M H locs) (hl : lv_has ls 7 [(0, .ref b), (1, .ref (fx_a g 0)), (2, .ref (fx_a g 8)), (3, .ref (fx_a g 9)), (4, .int x4)]) : W p l e room_1 s m #[Value.ref b] below meth c H locs cells slots (lw_Z below #[Value.ref b] s) (F0 m 1216 ls []) := by
  obtain ⟨hx, hb, hr, hml, hown, hts, hlocks, hsz, hK, hG, hSt⟩ := id C
  obtain ⟨hX, hbl, hbA, hbas⟩ := id Y
  unfold wb_law_1216 at h
  refine lv_aload_n hx hb dL_law_1216 rfl (lv_at hl 1 rfl) ?_
  refine lv_aload_n hx hb dL_law_1217 rfl (lv_at hl 0 rfl) ?_
  refine lv_iload hx hb dL_law_1218 (lv_at hl 4 rfl) ?_
  refine lv_iconst (v := 1) hx hb dL_law_1220 (by decide) ?_
  refine lv_iadd hx hb dL_law_1221 ?_
  obtain ⟨hi1, h⟩ := h
  refine va_sld hx hb hX hbl hbA hH.2 hi1 dL_law_1222 ?_
  refine lv_aload_n hx hb dL_law_1223 rfl (lv_at hl 3 rfl) ?_
  refine fx_ciC hH (fx_runSW (As := [.ref (fx_a g 0), .int (xs (x4 + 1).toNatClampNeg), .ref (fx_a g 9)]) (rest := []) C hH (c_L_lineAscent_0_9 l hG hfl (xs (x4 + 1).toNatClampNeg) M _ h) (fx_cwSW 3 hts u_726 u_727 u_0 u_728 rfl rfl (by decide +kernel) ⟨(Nat.le_of_ble_eq_true rfl), (Nat.le_of_ble_eq_true rfl)⟩) rfl hl.1 rfl (Nat.le_of_ble_eq_true rfl) dL_law_1224 ⟨by show cells + 1 ≤ 603072; omega, by show slots + 6 ≤ 7198826; omega⟩) (fun r3 M2 H locs h hH => ?_)
  refine lv_istore (lv' := [(5, .int r3), (0, .ref b), (1, .ref (fx_a g 0)), (2, .ref (fx_a g 8)), (3, .ref (fx_a g 9)), (4, .int x4)]) hx hb dL_law_1227 hl (by decide) rfl (fun ls hl => ?_)
  refine lv_aload_n hx hb dL_law_1229 rfl (lv_at hl 3 rfl) ?_
  refine lv_aload_n hx hb dL_law_1230 rfl (lv_at hl 1 rfl) ?_
  refine lv_iload hx hb dL_law_1231 (lv_at hl 5 rfl) ?_
  refine lv_iconst (v := 1) hx hb dL_law_1233 (by decide) ?_
  refine lv_iadd hx hb dL_law_1234 ?_
  obtain ⟨hi4, h⟩ := h
  refine va_sld hx hb hX hbl hbA hH.2 hi4 dL_law_1235 ?_
  refine fx_ci hH (fx_runV (As := [.int (xs (x4 + 1).toNatClampNeg)]) (rest := []) C hH (c_X7_lineAscent_8 l hG (xs (x4 + 1).toNatClampNeg) M2 _ h) (fx_cwV 1 hts u_1145 u_1146 u_1147 u_8 u_1148 rfl rfl (by decide +kernel) ⟨(Nat.le_of_ble_eq_true rfl), (Nat.le_of_ble_eq_true rfl)⟩) (fx_w8 g M2) rfl rfl hl.1 rfl (Nat.le_of_ble_eq_true rfl) dL_law_1236 ⟨by show (cells + 1) + 0 ≤ 603072; omega, by show (slots + 6) + 0 ≤ 7198826; omega⟩) (fun r6 M5 H locs h hH => ?_)
  refine lv_istore (lv' := [(6, .int r6), (5, .int r3), (0, .ref b), (1, .ref (fx_a g 0)), (2, .ref (fx_a g 8)), (3, .ref (fx_a g 9)), (4, .int x4)]) hx hb dL_law_1239 hl (by decide) rfl (fun ls hl => ?_)
  refine lv_aload_n hx hb dL_law_1241 rfl (lv_at hl 4 rfl) ?_
  refine fx_ci hH (fx_runV (As := []) (rest := []) C hH (c_X7_thrown_8 l hG  M5 _ h) (fx_cwV 0 hts u_929 u_930 u_931 u_8 u_932 rfl rfl (by decide +kernel) ⟨(Nat.le_of_ble_eq_true rfl), (Nat.le_of_ble_eq_true rfl)⟩) (fx_w8 g M5) rfl rfl hl.1 rfl (Nat.le_of_ble_eq_true rfl) dL_law_1242 ⟨by show (cells + 1) + 0 ≤ 603072; omega, by show (slots + 6) + 0 ≤ 7198826; omega⟩) (fun r8 M7 H locs h hH => ?_)
  refine lv_iload hx hb dL_law_1245 (lv_at hl 1 rfl) ?_
  refine lv_icmp_eq (tgt := 1252) hx hb dL_law_1247 (by decide) (fun c9 => ?_) (fun c9 => ?_)
  · replace h := h.1 c9
    refine lv_iload hx hb dL_law_1252 (lv_at hl 1 rfl) ?_
    refine lv_if_ne (tgt := 1269) hx hb dL_law_1254 (by decide) (fun c10 => ?_) (fun c10 => ?_)
    · replace h := h.2 c10
      refine lv_goto (tgt := 1622) hx hb dL_law_1269 (by decide) ?_
      refine W.widen (k := (cells + 3)) (n := (slots + 18)) (by omega) (by omega) ?_
      exact tb_law_1622 C hfl Y hcb hsb k23 hk23 x4 M7 h H locs ls hH (lv_sub hl [2, 3, 4, 5, 6] rfl)
    · replace h := h.1 c10
      refine lv_aload_n hx hb dL_law_1257 rfl (lv_at hl 5 rfl) ?_
      refine lv_iconst (v := 0) hx hb dL_law_1258 (by decide) ?_
      refine fx_lald (j := 0) C hH 9 (fx_w9 g M7) (by decide) (by unfold vp_in; decide) dL_law_1259 ?_
      refine lv_iload hx hb dL_law_1260 (lv_at hl 0 rfl) ?_
      refine lv_i2l hx hb dL_law_1262 rfl ?_
      refine W.lcmp hx hb dL_law_1263 ?_
      refine lv_if_eq (tgt := 1269) hx hb dL_law_1264 (by decide) (fun c11 => ?_) (fun c11 => ?_)
      · replace h := h.1 c11
        refine lv_goto (tgt := 1622) hx hb dL_law_1269 (by decide) ?_
        refine W.widen (k := (cells + 3)) (n := (slots + 18)) (by omega) (by omega) ?_
        exact tb_law_1622 C hfl Y hcb hsb k23 hk23 x4 M7 h H locs ls hH (lv_sub hl [2, 3, 4, 5, 6] rfl)
      · replace h := h.2 c11
        exact False.elim h
  · replace h := h.2 c9
    exact False.elim h
def wb_law_1272 (L : Nat) (xs : Nat → Int32) (k23 : Int32 → fx_Mem → Prop) (x4 : Int32) (M : fx_Mem) : Prop :=
  wp_X6_crossExtent_0  M (fun r2 M1 => wp_X7_crossExtent_8  M1 (fun r4 M3 => ((r2 = r4 → wb_law_1622 L xs k23 x4 M3) ∧ (¬ r2 = r4 → False))))
set_option maxHeartbeats 8000000 in
set_option maxRecDepth 100000 in
theorem tb_law_1272 {g : fx_Geo} {p : Program} {l : Launch} {e : Env} {s : State} {m : MethodId} {b : Nat} {below : List Frame} {meth : Method} {c : Code} {L : Nat} {xs : Nat → Int32} {cells slots : Nat} (C : fx_Cx g p s m #[Value.ref b] meth c RL cL_law 7 ret) (hfl : l.stackTraces = false) (Y : fx_scr g s b L xs) (hcb : cells + 3 ≤ 603072) (hsb : slots + 18 ≤ 7198826) (k23 : Int32 → fx_Mem → Prop) (hk23 : ∀ (x4 : Int32) (M : fx_Mem), k23 x4 M → ∀ (H : Heap) (locs : List Loc) (ls : Array Slot), fx_H g s M H locs → lv_has ls 7 [(0, .ref b), (1, .ref (fx_a g 0)), (2, .ref (fx_a g 8)), (3, .ref (fx_a g 9)), (4, .int x4)] → W p l e room_1 s m #[Value.ref b] below meth c H locs (cells + 3) (slots + 18) (lw_Z below #[Value.ref b] s) (F0 m 23 ls [])) (x4 : Int32) (M : fx_Mem) (h : wb_law_1272 L xs k23 x4 M) (H : Heap) (locs : List Loc) (ls : Array Slot) (hH : fx_H g s M H locs) (hl : lv_has ls 7 [(0, .ref b), (1, .ref (fx_a g 0)), (2, .ref (fx_a g 8)), (3, .ref (fx_a g 9)), (4, .int x4)]) : W p l e room_1 s m #[Value.ref b] below meth c H locs cells slots (lw_Z below #[Value.ref b] s) (F0 m 1272 ls []) := by
  obtain ⟨hx, hb, hr, hml, hown, hts, hlocks, hsz, hK, hG, hSt⟩ := id C
  obtain ⟨hX, hbl, hbA, hbas⟩ := id Y
  unfold wb_law_1272 at h
  refine lv_aload_n hx hb dL_law_1272 rfl (lv_at hl 1 rfl) ?_
  refine fx_ci hH (fx_runV (As := []) (rest := []) C hH (c_X6_crossExtent_0 l hG  M _ h) (fx_cwV 0 hts u_256 u_257 u_258 u_1 u_259 rfl rfl (by decide +kernel) ⟨(Nat.le_of_ble_eq_true rfl), (Nat.le_of_ble_eq_true rfl)⟩) (fx_w0 g M) rfl rfl hl.1 rfl (Nat.le_of_ble_eq_true rfl) dL_law_1273 ⟨by show cells + 0 ≤ 603072; omega, by show slots + 0 ≤ 7198826; omega⟩) (fun r2 M1 H locs h hH => ?_)
  refine lv_aload_n hx hb dL_law_1276 rfl (lv_at hl 2 rfl) ?_
  refine fx_ci hH (fx_runV (As := []) (rest := [.int r2]) C hH (c_X7_crossExtent_8 l hG  M1 _ h) (fx_cwV 0 hts u_1149 u_1150 u_1151 u_8 u_1152 rfl rfl (by decide +kernel) ⟨(Nat.le_of_ble_eq_true rfl), (Nat.le_of_ble_eq_true rfl)⟩) (fx_w8 g M1) rfl rfl hl.1 rfl (Nat.le_of_ble_eq_true rfl) dL_law_1277 ⟨by show cells + 0 ≤ 603072; omega, by show slots + 0 ≤ 7198826; omega⟩) (fun r4 M3 H locs h hH => ?_)
  refine lv_icmp_eq (tgt := 1622) hx hb dL_law_1280 (by decide) (fun c5 => ?_) (fun c5 => ?_)
  · replace h := h.1 c5
    refine W.widen (k := (cells + 3)) (n := (slots + 18)) (by omega) (by omega) ?_
    exact tb_law_1622 C hfl Y hcb hsb k23 hk23 x4 M3 h H locs ls hH (lv_sub hl [0, 1, 2, 3, 4] rfl)
  · replace h := h.2 c5
    exact False.elim h
def wb_law_1285 (L : Nat) (xs : Nat → Int32) (k23 : Int32 → fx_Mem → Prop) (x4 : Int32) (M : fx_Mem) : Prop :=
  vp_in (x4 + 1) L ∧ wp_L_overflows_0_9 (xs (x4 + 1).toNatClampNeg) M (fun r3 M2 => vp_in (x4 + 1) L ∧ wp_X7_overflows_8 (xs (x4 + 1).toNatClampNeg) M2 (fun r6 M5 => wp_X7_thrown_8  M5 (fun r8 M7 => ((r8 = r3 → ((r3 = 0 → ((r6 = 0 → wb_law_1339 L xs k23 x4 r3 r6 0 (M7.2.2 9 0) M7) ∧ (¬ r6 = 0 → wb_law_1339 L xs k23 x4 r3 r6 1 (M7.2.2 9 0) M7))) ∧ (¬ r3 = 0 → wb_law_1622 L xs k23 x4 M7))) ∧ (¬ r8 = r3 → False)))))
set_option maxHeartbeats 8000000 in
set_option maxRecDepth 100000 in
theorem tb_law_1285 {g : fx_Geo} {p : Program} {l : Launch} {e : Env} {s : State} {m : MethodId} {b : Nat} {below : List Frame} {meth : Method} {c : Code} {L : Nat} {xs : Nat → Int32} {cells slots : Nat} (C : fx_Cx g p s m #[Value.ref b] meth c RL cL_law 7 ret) (hfl : l.stackTraces = false) (Y : fx_scr g s b L xs) (hcb : cells + 3 ≤ 603072) (hsb : slots + 18 ≤ 7198826) (k23 : Int32 → fx_Mem → Prop) (hk23 : ∀ (x4 : Int32) (M : fx_Mem), k23 x4 M → ∀ (H : Heap) (locs : List Loc) (ls : Array Slot), fx_H g s M H locs → lv_has ls 7 [(0, .ref b), (1, .ref (fx_a g 0)), (2, .ref (fx_a g 8)), (3, .ref (fx_a g 9)), (4, .int x4)] → W p l e room_1 s m #[Value.ref b] below meth c H locs (cells + 3) (slots + 18) (lw_Z below #[Value.ref b] s) (F0 m 23 ls [])) (x4 : Int32) (M : fx_Mem) (h : wb_law_1285 L xs k23 x4 M) (H : Heap) (locs : List Loc) (ls : Array Slot) (hH : fx_H g s M H locs) (hl : lv_has ls 7 [(0, .ref b), (1, .ref (fx_a g 0)), (2, .ref (fx_a g 8)), (3, .ref (fx_a g 9)), (4, .int x4)]) : W p l e room_1 s m #[Value.ref b] below meth c H locs cells slots (lw_Z below #[Value.ref b] s) (F0 m 1285 ls []) := by
  obtain ⟨hx, hb, hr, hml, hown, hts, hlocks, hsz, hK, hG, hSt⟩ := id C
  obtain ⟨hX, hbl, hbA, hbas⟩ := id Y
  unfold wb_law_1285 at h
  refine lv_aload_n hx hb dL_law_1285 rfl (lv_at hl 1 rfl) ?_
  refine lv_aload_n hx hb dL_law_1286 rfl (lv_at hl 0 rfl) ?_
  refine lv_iload hx hb dL_law_1287 (lv_at hl 4 rfl) ?_
  refine lv_iconst (v := 1) hx hb dL_law_1289 (by decide) ?_
  refine lv_iadd hx hb dL_law_1290 ?_
  obtain ⟨hi1, h⟩ := h
  refine va_sld hx hb hX hbl hbA hH.2 hi1 dL_law_1291 ?_
  refine lv_aload_n hx hb dL_law_1292 rfl (lv_at hl 3 rfl) ?_
  refine fx_ciC hH (fx_runSW (As := [.ref (fx_a g 0), .int (xs (x4 + 1).toNatClampNeg), .ref (fx_a g 9)]) (rest := []) C hH (c_L_overflows_0_9 l hG hfl (xs (x4 + 1).toNatClampNeg) M _ h) (fx_cwSW 3 hts u_733 u_734 u_0 u_735 rfl rfl (by decide +kernel) ⟨(Nat.le_of_ble_eq_true rfl), (Nat.le_of_ble_eq_true rfl)⟩) rfl hl.1 rfl (Nat.le_of_ble_eq_true rfl) dL_law_1293 ⟨by show cells + 1 ≤ 603072; omega, by show slots + 6 ≤ 7198826; omega⟩) (fun r3 M2 H locs h hH => ?_)
  refine lv_istore (lv' := [(5, .int r3), (0, .ref b), (1, .ref (fx_a g 0)), (2, .ref (fx_a g 8)), (3, .ref (fx_a g 9)), (4, .int x4)]) hx hb dL_law_1296 hl (by decide) rfl (fun ls hl => ?_)
  refine lv_aload_n hx hb dL_law_1298 rfl (lv_at hl 3 rfl) ?_
  refine lv_aload_n hx hb dL_law_1299 rfl (lv_at hl 1 rfl) ?_
  refine lv_iload hx hb dL_law_1300 (lv_at hl 5 rfl) ?_
  refine lv_iconst (v := 1) hx hb dL_law_1302 (by decide) ?_
  refine lv_iadd hx hb dL_law_1303 ?_
  obtain ⟨hi4, h⟩ := h
  refine va_sld hx hb hX hbl hbA hH.2 hi4 dL_law_1304 ?_
  refine fx_ci hH (fx_runV (As := [.int (xs (x4 + 1).toNatClampNeg)]) (rest := []) C hH (c_X7_overflows_8 l hG (xs (x4 + 1).toNatClampNeg) M2 _ h) (fx_cwV 1 hts u_1153 u_1154 u_1155 u_8 u_1156 rfl rfl (by decide +kernel) ⟨(Nat.le_of_ble_eq_true rfl), (Nat.le_of_ble_eq_true rfl)⟩) (fx_w8 g M2) rfl rfl hl.1 rfl (Nat.le_of_ble_eq_true rfl) dL_law_1305 ⟨by show (cells + 1) + 0 ≤ 603072; omega, by show (slots + 6) + 0 ≤ 7198826; omega⟩) (fun r6 M5 H locs h hH => ?_)
  refine lv_istore (lv' := [(6, .int r6), (5, .int r3), (0, .ref b), (1, .ref (fx_a g 0)), (2, .ref (fx_a g 8)), (3, .ref (fx_a g 9)), (4, .int x4)]) hx hb dL_law_1308 hl (by decide) rfl (fun ls hl => ?_)
  refine lv_aload_n hx hb dL_law_1310 rfl (lv_at hl 4 rfl) ?_
  refine fx_ci hH (fx_runV (As := []) (rest := []) C hH (c_X7_thrown_8 l hG  M5 _ h) (fx_cwV 0 hts u_929 u_930 u_931 u_8 u_932 rfl rfl (by decide +kernel) ⟨(Nat.le_of_ble_eq_true rfl), (Nat.le_of_ble_eq_true rfl)⟩) (fx_w8 g M5) rfl rfl hl.1 rfl (Nat.le_of_ble_eq_true rfl) dL_law_1311 ⟨by show (cells + 1) + 0 ≤ 603072; omega, by show (slots + 6) + 0 ≤ 7198826; omega⟩) (fun r8 M7 H locs h hH => ?_)
  refine lv_iload hx hb dL_law_1314 (lv_at hl 1 rfl) ?_
  refine lv_icmp_eq (tgt := 1321) hx hb dL_law_1316 (by decide) (fun c9 => ?_) (fun c9 => ?_)
  · replace h := h.1 c9
    refine lv_iload hx hb dL_law_1321 (lv_at hl 1 rfl) ?_
    refine lv_if_ne (tgt := 1345) hx hb dL_law_1323 (by decide) (fun c10 => ?_) (fun c10 => ?_)
    · replace h := h.2 c10
      refine lv_goto (tgt := 1622) hx hb dL_law_1345 (by decide) ?_
      refine W.widen (k := (cells + 3)) (n := (slots + 18)) (by omega) (by omega) ?_
      exact tb_law_1622 C hfl Y hcb hsb k23 hk23 x4 M7 h H locs ls hH (lv_sub hl [2, 3, 4, 5, 6] rfl)
    · replace h := h.1 c10
      refine lv_aload_n hx hb dL_law_1326 rfl (lv_at hl 5 rfl) ?_
      refine lv_iconst (v := 0) hx hb dL_law_1327 (by decide) ?_
      refine fx_lald (j := 0) C hH 9 (fx_w9 g M7) (by decide) (by unfold vp_in; decide) dL_law_1328 ?_
      refine lv_iload hx hb dL_law_1329 (lv_at hl 0 rfl) ?_
      refine lv_if_eq (tgt := 1338) hx hb dL_law_1331 (by decide) (fun c11 => ?_) (fun c11 => ?_)
      · replace h := h.1 c11
        refine lv_lconst (v := 0) hx hb dL_law_1338 (by decide) ?_
        refine W.widen (k := (cells + 3)) (n := (slots + 18)) (by omega) (by omega) ?_
        exact tb_law_1339 C hfl Y hcb hsb k23 hk23 x4 r3 r6 0 (M7.2.2 9 0) M7 h H locs ls hH (lv_sub hl [2, 3, 4, 5, 6, 1, 0] rfl)
      · replace h := h.2 c11
        refine lv_lconst (v := 1) hx hb dL_law_1334 (by decide) ?_
        refine lv_goto (tgt := 1339) hx hb dL_law_1335 (by decide) ?_
        refine W.widen (k := (cells + 3)) (n := (slots + 18)) (by omega) (by omega) ?_
        exact tb_law_1339 C hfl Y hcb hsb k23 hk23 x4 r3 r6 1 (M7.2.2 9 0) M7 h H locs ls hH (lv_sub hl [2, 3, 4, 5, 6, 1, 0] rfl)
  · replace h := h.2 c9
    exact False.elim h
def wb_law_1348 (L : Nat) (xs : Nat → Int32) (k23 : Int32 → fx_Mem → Prop) (x4 : Int32) (M : fx_Mem) : Prop :=
  vp_in (x4 + 1) L ∧ vp_in (x4 + 2) L ∧ wp_L_itemUnder_0_9 (xs (x4 + 1).toNatClampNeg) (xs (x4 + 2).toNatClampNeg) M (fun r4 M3 => vp_in (x4 + 1) L ∧ vp_in (x4 + 2) L ∧ wp_X7_itemUnder_8 (xs (x4 + 1).toNatClampNeg) (xs (x4 + 2).toNatClampNeg) M3 (fun r8 M7 => wp_X7_thrown_8  M7 (fun r10 M9 => ((r10 = r4 → ((r4 = 0 → ((lg_cmp (M9.2.2 9 0) r8.toInt64 = 0 → wb_law_1622 L xs k23 x4 M9) ∧ (¬ lg_cmp (M9.2.2 9 0) r8.toInt64 = 0 → False))) ∧ (¬ r4 = 0 → wb_law_1622 L xs k23 x4 M9))) ∧ (¬ r10 = r4 → False)))))
set_option maxHeartbeats 8000000 in
set_option maxRecDepth 100000 in
theorem tb_law_1348 {g : fx_Geo} {p : Program} {l : Launch} {e : Env} {s : State} {m : MethodId} {b : Nat} {below : List Frame} {meth : Method} {c : Code} {L : Nat} {xs : Nat → Int32} {cells slots : Nat} (C : fx_Cx g p s m #[Value.ref b] meth c RL cL_law 7 ret) (hfl : l.stackTraces = false) (Y : fx_scr g s b L xs) (hcb : cells + 3 ≤ 603072) (hsb : slots + 18 ≤ 7198826) (k23 : Int32 → fx_Mem → Prop) (hk23 : ∀ (x4 : Int32) (M : fx_Mem), k23 x4 M → ∀ (H : Heap) (locs : List Loc) (ls : Array Slot), fx_H g s M H locs → lv_has ls 7 [(0, .ref b), (1, .ref (fx_a g 0)), (2, .ref (fx_a g 8)), (3, .ref (fx_a g 9)), (4, .int x4)] → W p l e room_1 s m #[Value.ref b] below meth c H locs (cells + 3) (slots + 18) (lw_Z below #[Value.ref b] s) (F0 m 23 ls [])) (x4 : Int32) (M : fx_Mem) (h : wb_law_1348 L xs k23 x4 M) (H : Heap) (locs : List Loc) (ls : Array Slot) (hH : fx_H g s M H locs) (hl : lv_has ls 7 [(0, .ref b), (1, .ref (fx_a g 0)), (2, .ref (fx_a g 8)), (3, .ref (fx_a g 9)), (4, .int x4)]) : W p l e room_1 s m #[Value.ref b] below meth c H locs cells slots (lw_Z below #[Value.ref b] s) (F0 m 1348 ls []) := by
  obtain ⟨hx, hb, hr, hml, hown, hts, hlocks, hsz, hK, hG, hSt⟩ := id C
  obtain ⟨hX, hbl, hbA, hbas⟩ := id Y
  unfold wb_law_1348 at h
  refine lv_aload_n hx hb dL_law_1348 rfl (lv_at hl 1 rfl) ?_
  refine lv_aload_n hx hb dL_law_1349 rfl (lv_at hl 0 rfl) ?_
  refine lv_iload hx hb dL_law_1350 (lv_at hl 4 rfl) ?_
  refine lv_iconst (v := 1) hx hb dL_law_1352 (by decide) ?_
  refine lv_iadd hx hb dL_law_1353 ?_
  obtain ⟨hi1, h⟩ := h
  refine va_sld hx hb hX hbl hbA hH.2 hi1 dL_law_1354 ?_
  refine lv_aload_n hx hb dL_law_1355 rfl (lv_at hl 0 rfl) ?_
  refine lv_iload hx hb dL_law_1356 (lv_at hl 4 rfl) ?_
  refine lv_iconst (v := 2) hx hb dL_law_1358 (by decide) ?_
  refine lv_iadd hx hb dL_law_1359 ?_
  obtain ⟨hi2, h⟩ := h
  refine va_sld hx hb hX hbl hbA hH.2 hi2 dL_law_1360 ?_
  refine lv_aload_n hx hb dL_law_1361 rfl (lv_at hl 3 rfl) ?_
  refine fx_ciC hH (fx_runSW (As := [.ref (fx_a g 0), .int (xs (x4 + 1).toNatClampNeg), .int (xs (x4 + 2).toNatClampNeg), .ref (fx_a g 9)]) (rest := []) C hH (c_L_itemUnder_0_9 l hG hfl (xs (x4 + 1).toNatClampNeg) (xs (x4 + 2).toNatClampNeg) M _ h) (fx_cwSW 4 hts u_740 u_741 u_0 u_742 rfl rfl (by decide +kernel) ⟨(Nat.le_of_ble_eq_true rfl), (Nat.le_of_ble_eq_true rfl)⟩) rfl hl.1 rfl (Nat.le_of_ble_eq_true rfl) dL_law_1362 ⟨by show cells + 1 ≤ 603072; omega, by show slots + 6 ≤ 7198826; omega⟩) (fun r4 M3 H locs h hH => ?_)
  refine lv_istore (lv' := [(5, .int r4), (0, .ref b), (1, .ref (fx_a g 0)), (2, .ref (fx_a g 8)), (3, .ref (fx_a g 9)), (4, .int x4)]) hx hb dL_law_1365 hl (by decide) rfl (fun ls hl => ?_)
  refine lv_aload_n hx hb dL_law_1367 rfl (lv_at hl 3 rfl) ?_
  refine lv_aload_n hx hb dL_law_1368 rfl (lv_at hl 1 rfl) ?_
  refine lv_iload hx hb dL_law_1369 (lv_at hl 5 rfl) ?_
  refine lv_iconst (v := 1) hx hb dL_law_1371 (by decide) ?_
  refine lv_iadd hx hb dL_law_1372 ?_
  obtain ⟨hi5, h⟩ := h
  refine va_sld hx hb hX hbl hbA hH.2 hi5 dL_law_1373 ?_
  refine lv_aload_n hx hb dL_law_1374 rfl (lv_at hl 1 rfl) ?_
  refine lv_iload hx hb dL_law_1375 (lv_at hl 5 rfl) ?_
  refine lv_iconst (v := 2) hx hb dL_law_1377 (by decide) ?_
  refine lv_iadd hx hb dL_law_1378 ?_
  obtain ⟨hi6, h⟩ := h
  refine va_sld hx hb hX hbl hbA hH.2 hi6 dL_law_1379 ?_
  refine fx_ci hH (fx_runV (As := [.int (xs (x4 + 1).toNatClampNeg), .int (xs (x4 + 2).toNatClampNeg)]) (rest := []) C hH (c_X7_itemUnder_8 l hG (xs (x4 + 1).toNatClampNeg) (xs (x4 + 2).toNatClampNeg) M3 _ h) (fx_cwV 2 hts u_1157 u_1158 u_1159 u_8 u_1160 rfl rfl (by decide +kernel) ⟨(Nat.le_of_ble_eq_true rfl), (Nat.le_of_ble_eq_true rfl)⟩) (fx_w8 g M3) rfl rfl hl.1 rfl (Nat.le_of_ble_eq_true rfl) dL_law_1380 ⟨by show (cells + 1) + 0 ≤ 603072; omega, by show (slots + 6) + 0 ≤ 7198826; omega⟩) (fun r8 M7 H locs h hH => ?_)
  refine lv_istore (lv' := [(6, .int r8), (5, .int r4), (0, .ref b), (1, .ref (fx_a g 0)), (2, .ref (fx_a g 8)), (3, .ref (fx_a g 9)), (4, .int x4)]) hx hb dL_law_1383 hl (by decide) rfl (fun ls hl => ?_)
  refine lv_aload_n hx hb dL_law_1385 rfl (lv_at hl 4 rfl) ?_
  refine fx_ci hH (fx_runV (As := []) (rest := []) C hH (c_X7_thrown_8 l hG  M7 _ h) (fx_cwV 0 hts u_929 u_930 u_931 u_8 u_932 rfl rfl (by decide +kernel) ⟨(Nat.le_of_ble_eq_true rfl), (Nat.le_of_ble_eq_true rfl)⟩) (fx_w8 g M7) rfl rfl hl.1 rfl (Nat.le_of_ble_eq_true rfl) dL_law_1386 ⟨by show (cells + 1) + 0 ≤ 603072; omega, by show (slots + 6) + 0 ≤ 7198826; omega⟩) (fun r10 M9 H locs h hH => ?_)
  refine lv_iload hx hb dL_law_1389 (lv_at hl 1 rfl) ?_
  refine lv_icmp_eq (tgt := 1396) hx hb dL_law_1391 (by decide) (fun c11 => ?_) (fun c11 => ?_)
  · replace h := h.1 c11
    refine lv_iload hx hb dL_law_1396 (lv_at hl 1 rfl) ?_
    refine lv_if_ne (tgt := 1413) hx hb dL_law_1398 (by decide) (fun c12 => ?_) (fun c12 => ?_)
    · replace h := h.2 c12
      refine lv_goto (tgt := 1622) hx hb dL_law_1413 (by decide) ?_
      refine W.widen (k := (cells + 3)) (n := (slots + 18)) (by omega) (by omega) ?_
      exact tb_law_1622 C hfl Y hcb hsb k23 hk23 x4 M9 h H locs ls hH (lv_sub hl [2, 3, 4, 5, 6] rfl)
    · replace h := h.1 c12
      refine lv_aload_n hx hb dL_law_1401 rfl (lv_at hl 5 rfl) ?_
      refine lv_iconst (v := 0) hx hb dL_law_1402 (by decide) ?_
      refine fx_lald (j := 0) C hH 9 (fx_w9 g M9) (by decide) (by unfold vp_in; decide) dL_law_1403 ?_
      refine lv_iload hx hb dL_law_1404 (lv_at hl 0 rfl) ?_
      refine lv_i2l hx hb dL_law_1406 rfl ?_
      refine W.lcmp hx hb dL_law_1407 ?_
      refine lv_if_eq (tgt := 1413) hx hb dL_law_1408 (by decide) (fun c13 => ?_) (fun c13 => ?_)
      · replace h := h.1 c13
        refine lv_goto (tgt := 1622) hx hb dL_law_1413 (by decide) ?_
        refine W.widen (k := (cells + 3)) (n := (slots + 18)) (by omega) (by omega) ?_
        exact tb_law_1622 C hfl Y hcb hsb k23 hk23 x4 M9 h H locs ls hH (lv_sub hl [2, 3, 4, 5, 6] rfl)
      · replace h := h.2 c13
        exact False.elim h
  · replace h := h.2 c11
    exact False.elim h
def wb_law_1416 (L : Nat) (xs : Nat → Int32) (k23 : Int32 → fx_Mem → Prop) (x4 : Int32) (M : fx_Mem) : Prop :=
  wp_X6_overlaps_0  M (fun r2 M1 => wp_X7_overlaps_8  M1 (fun r4 M3 => ((r2 = r4 → wb_law_1622 L xs k23 x4 M3) ∧ (¬ r2 = r4 → False))))
set_option maxHeartbeats 8000000 in
set_option maxRecDepth 100000 in
theorem tb_law_1416 {g : fx_Geo} {p : Program} {l : Launch} {e : Env} {s : State} {m : MethodId} {b : Nat} {below : List Frame} {meth : Method} {c : Code} {L : Nat} {xs : Nat → Int32} {cells slots : Nat} (C : fx_Cx g p s m #[Value.ref b] meth c RL cL_law 7 ret) (hfl : l.stackTraces = false) (Y : fx_scr g s b L xs) (hcb : cells + 3 ≤ 603072) (hsb : slots + 18 ≤ 7198826) (k23 : Int32 → fx_Mem → Prop) (hk23 : ∀ (x4 : Int32) (M : fx_Mem), k23 x4 M → ∀ (H : Heap) (locs : List Loc) (ls : Array Slot), fx_H g s M H locs → lv_has ls 7 [(0, .ref b), (1, .ref (fx_a g 0)), (2, .ref (fx_a g 8)), (3, .ref (fx_a g 9)), (4, .int x4)] → W p l e room_1 s m #[Value.ref b] below meth c H locs (cells + 3) (slots + 18) (lw_Z below #[Value.ref b] s) (F0 m 23 ls [])) (x4 : Int32) (M : fx_Mem) (h : wb_law_1416 L xs k23 x4 M) (H : Heap) (locs : List Loc) (ls : Array Slot) (hH : fx_H g s M H locs) (hl : lv_has ls 7 [(0, .ref b), (1, .ref (fx_a g 0)), (2, .ref (fx_a g 8)), (3, .ref (fx_a g 9)), (4, .int x4)]) : W p l e room_1 s m #[Value.ref b] below meth c H locs cells slots (lw_Z below #[Value.ref b] s) (F0 m 1416 ls []) := by
  obtain ⟨hx, hb, hr, hml, hown, hts, hlocks, hsz, hK, hG, hSt⟩ := id C
  obtain ⟨hX, hbl, hbA, hbas⟩ := id Y
  unfold wb_law_1416 at h
  refine lv_aload_n hx hb dL_law_1416 rfl (lv_at hl 1 rfl) ?_
  refine fx_ci hH (fx_runV (As := []) (rest := []) C hH (c_X6_overlaps_0 l hG  M _ h) (fx_cwV 0 hts u_316 u_317 u_318 u_1 u_319 rfl rfl (by decide +kernel) ⟨(Nat.le_of_ble_eq_true rfl), (Nat.le_of_ble_eq_true rfl)⟩) (fx_w0 g M) rfl rfl hl.1 rfl (Nat.le_of_ble_eq_true rfl) dL_law_1417 ⟨by show cells + 0 ≤ 603072; omega, by show slots + 0 ≤ 7198826; omega⟩) (fun r2 M1 H locs h hH => ?_)
  refine lv_aload_n hx hb dL_law_1420 rfl (lv_at hl 2 rfl) ?_
  refine fx_ci hH (fx_runV (As := []) (rest := [.int r2]) C hH (c_X7_overlaps_8 l hG  M1 _ h) (fx_cwV 0 hts u_1161 u_1162 u_1163 u_8 u_1164 rfl rfl (by decide +kernel) ⟨(Nat.le_of_ble_eq_true rfl), (Nat.le_of_ble_eq_true rfl)⟩) (fx_w8 g M1) rfl rfl hl.1 rfl (Nat.le_of_ble_eq_true rfl) dL_law_1421 ⟨by show cells + 0 ≤ 603072; omega, by show slots + 0 ≤ 7198826; omega⟩) (fun r4 M3 H locs h hH => ?_)
  refine lv_icmp_eq (tgt := 1622) hx hb dL_law_1424 (by decide) (fun c5 => ?_) (fun c5 => ?_)
  · replace h := h.1 c5
    refine W.widen (k := (cells + 3)) (n := (slots + 18)) (by omega) (by omega) ?_
    exact tb_law_1622 C hfl Y hcb hsb k23 hk23 x4 M3 h H locs ls hH (lv_sub hl [0, 1, 2, 3, 4] rfl)
  · replace h := h.2 c5
    exact False.elim h
def wb_law_1429 (L : Nat) (xs : Nat → Int32) (k23 : Int32 → fx_Mem → Prop) (x4 : Int32) (M : fx_Mem) : Prop :=
  vp_in (x4 + 1) L ∧ wp_L_narrowest_0_9 (xs (x4 + 1).toNatClampNeg) M (fun r3 M2 => vp_in (x4 + 1) L ∧ wp_X7_narrowest_8 (xs (x4 + 1).toNatClampNeg) M2 (fun r6 M5 => wp_X7_thrown_8  M5 (fun r8 M7 => ((r8 = r3 → ((r3 = 0 → ((lg_cmp (M7.2.2 9 0) r6.toInt64 = 0 → wb_law_1622 L xs k23 x4 M7) ∧ (¬ lg_cmp (M7.2.2 9 0) r6.toInt64 = 0 → False))) ∧ (¬ r3 = 0 → wb_law_1622 L xs k23 x4 M7))) ∧ (¬ r8 = r3 → False)))))
set_option maxHeartbeats 8000000 in
set_option maxRecDepth 100000 in
theorem tb_law_1429 {g : fx_Geo} {p : Program} {l : Launch} {e : Env} {s : State} {m : MethodId} {b : Nat} {below : List Frame} {meth : Method} {c : Code} {L : Nat} {xs : Nat → Int32} {cells slots : Nat} (C : fx_Cx g p s m #[Value.ref b] meth c RL cL_law 7 ret) (hfl : l.stackTraces = false) (Y : fx_scr g s b L xs) (hcb : cells + 3 ≤ 603072) (hsb : slots + 18 ≤ 7198826) (k23 : Int32 → fx_Mem → Prop) (hk23 : ∀ (x4 : Int32) (M : fx_Mem), k23 x4 M → ∀ (H : Heap) (locs : List Loc) (ls : Array Slot), fx_H g s M H locs → lv_has ls 7 [(0, .ref b), (1, .ref (fx_a g 0)), (2, .ref (fx_a g 8)), (3, .ref (fx_a g 9)), (4, .int x4)] → W p l e room_1 s m #[Value.ref b] below meth c H locs (cells + 3) (slots + 18) (lw_Z below #[Value.ref b] s) (F0 m 23 ls [])) (x4 : Int32) (M : fx_Mem) (h : wb_law_1429 L xs k23 x4 M) (H : Heap) (locs : List Loc) (ls : Array Slot) (hH : fx_H g s M H locs) (hl : lv_has ls 7 [(0, .ref b), (1, .ref (fx_a g 0)), (2, .ref (fx_a g 8)), (3, .ref (fx_a g 9)), (4, .int x4)]) : W p l e room_1 s m #[Value.ref b] below meth c H locs cells slots (lw_Z below #[Value.ref b] s) (F0 m 1429 ls []) := by
  obtain ⟨hx, hb, hr, hml, hown, hts, hlocks, hsz, hK, hG, hSt⟩ := id C
  obtain ⟨hX, hbl, hbA, hbas⟩ := id Y
  unfold wb_law_1429 at h
  refine lv_aload_n hx hb dL_law_1429 rfl (lv_at hl 1 rfl) ?_
  refine lv_aload_n hx hb dL_law_1430 rfl (lv_at hl 0 rfl) ?_
  refine lv_iload hx hb dL_law_1431 (lv_at hl 4 rfl) ?_
  refine lv_iconst (v := 1) hx hb dL_law_1433 (by decide) ?_
  refine lv_iadd hx hb dL_law_1434 ?_
  obtain ⟨hi1, h⟩ := h
  refine va_sld hx hb hX hbl hbA hH.2 hi1 dL_law_1435 ?_
  refine lv_aload_n hx hb dL_law_1436 rfl (lv_at hl 3 rfl) ?_
  refine fx_ciC hH (fx_runSW (As := [.ref (fx_a g 0), .int (xs (x4 + 1).toNatClampNeg), .ref (fx_a g 9)]) (rest := []) C hH (c_L_narrowest_0_9 l hG hfl (xs (x4 + 1).toNatClampNeg) M _ h) (fx_cwSW 3 hts u_768 u_769 u_0 u_770 rfl rfl (by decide +kernel) ⟨(Nat.le_of_ble_eq_true rfl), (Nat.le_of_ble_eq_true rfl)⟩) rfl hl.1 rfl (Nat.le_of_ble_eq_true rfl) dL_law_1437 ⟨by show cells + 1 ≤ 603072; omega, by show slots + 6 ≤ 7198826; omega⟩) (fun r3 M2 H locs h hH => ?_)
  refine lv_istore (lv' := [(5, .int r3), (0, .ref b), (1, .ref (fx_a g 0)), (2, .ref (fx_a g 8)), (3, .ref (fx_a g 9)), (4, .int x4)]) hx hb dL_law_1440 hl (by decide) rfl (fun ls hl => ?_)
  refine lv_aload_n hx hb dL_law_1442 rfl (lv_at hl 3 rfl) ?_
  refine lv_aload_n hx hb dL_law_1443 rfl (lv_at hl 1 rfl) ?_
  refine lv_iload hx hb dL_law_1444 (lv_at hl 5 rfl) ?_
  refine lv_iconst (v := 1) hx hb dL_law_1446 (by decide) ?_
  refine lv_iadd hx hb dL_law_1447 ?_
  obtain ⟨hi4, h⟩ := h
  refine va_sld hx hb hX hbl hbA hH.2 hi4 dL_law_1448 ?_
  refine fx_ci hH (fx_runV (As := [.int (xs (x4 + 1).toNatClampNeg)]) (rest := []) C hH (c_X7_narrowest_8 l hG (xs (x4 + 1).toNatClampNeg) M2 _ h) (fx_cwV 1 hts u_1169 u_1170 u_1171 u_8 u_1172 rfl rfl (by decide +kernel) ⟨(Nat.le_of_ble_eq_true rfl), (Nat.le_of_ble_eq_true rfl)⟩) (fx_w8 g M2) rfl rfl hl.1 rfl (Nat.le_of_ble_eq_true rfl) dL_law_1449 ⟨by show (cells + 1) + 0 ≤ 603072; omega, by show (slots + 6) + 0 ≤ 7198826; omega⟩) (fun r6 M5 H locs h hH => ?_)
  refine lv_istore (lv' := [(6, .int r6), (5, .int r3), (0, .ref b), (1, .ref (fx_a g 0)), (2, .ref (fx_a g 8)), (3, .ref (fx_a g 9)), (4, .int x4)]) hx hb dL_law_1452 hl (by decide) rfl (fun ls hl => ?_)
  refine lv_aload_n hx hb dL_law_1454 rfl (lv_at hl 4 rfl) ?_
  refine fx_ci hH (fx_runV (As := []) (rest := []) C hH (c_X7_thrown_8 l hG  M5 _ h) (fx_cwV 0 hts u_929 u_930 u_931 u_8 u_932 rfl rfl (by decide +kernel) ⟨(Nat.le_of_ble_eq_true rfl), (Nat.le_of_ble_eq_true rfl)⟩) (fx_w8 g M5) rfl rfl hl.1 rfl (Nat.le_of_ble_eq_true rfl) dL_law_1455 ⟨by show (cells + 1) + 0 ≤ 603072; omega, by show (slots + 6) + 0 ≤ 7198826; omega⟩) (fun r8 M7 H locs h hH => ?_)
  refine lv_iload hx hb dL_law_1458 (lv_at hl 1 rfl) ?_
  refine lv_icmp_eq (tgt := 1465) hx hb dL_law_1460 (by decide) (fun c9 => ?_) (fun c9 => ?_)
  · replace h := h.1 c9
    refine lv_iload hx hb dL_law_1465 (lv_at hl 1 rfl) ?_
    refine lv_if_ne (tgt := 1482) hx hb dL_law_1467 (by decide) (fun c10 => ?_) (fun c10 => ?_)
    · replace h := h.2 c10
      refine lv_goto (tgt := 1622) hx hb dL_law_1482 (by decide) ?_
      refine W.widen (k := (cells + 3)) (n := (slots + 18)) (by omega) (by omega) ?_
      exact tb_law_1622 C hfl Y hcb hsb k23 hk23 x4 M7 h H locs ls hH (lv_sub hl [2, 3, 4, 5, 6] rfl)
    · replace h := h.1 c10
      refine lv_aload_n hx hb dL_law_1470 rfl (lv_at hl 5 rfl) ?_
      refine lv_iconst (v := 0) hx hb dL_law_1471 (by decide) ?_
      refine fx_lald (j := 0) C hH 9 (fx_w9 g M7) (by decide) (by unfold vp_in; decide) dL_law_1472 ?_
      refine lv_iload hx hb dL_law_1473 (lv_at hl 0 rfl) ?_
      refine lv_i2l hx hb dL_law_1475 rfl ?_
      refine W.lcmp hx hb dL_law_1476 ?_
      refine lv_if_eq (tgt := 1482) hx hb dL_law_1477 (by decide) (fun c11 => ?_) (fun c11 => ?_)
      · replace h := h.1 c11
        refine lv_goto (tgt := 1622) hx hb dL_law_1482 (by decide) ?_
        refine W.widen (k := (cells + 3)) (n := (slots + 18)) (by omega) (by omega) ?_
        exact tb_law_1622 C hfl Y hcb hsb k23 hk23 x4 M7 h H locs ls hH (lv_sub hl [2, 3, 4, 5, 6] rfl)
      · replace h := h.2 c11
        exact False.elim h
  · replace h := h.2 c9
    exact False.elim h
def wb_law_1485 (L : Nat) (xs : Nat → Int32) (k23 : Int32 → fx_Mem → Prop) (x4 : Int32) (M : fx_Mem) : Prop :=
  vp_in (x4 + 1) L ∧ vp_in (x4 + 2) L ∧ vp_in (x4 + 3) L ∧ wp_L_share_0_9 (xs (x4 + 1).toNatClampNeg) (xs (x4 + 2).toNatClampNeg) (xs (x4 + 3).toNatClampNeg) M (fun r5 M4 => vp_in (x4 + 1) L ∧ vp_in (x4 + 2) L ∧ vp_in (x4 + 3) L ∧ wp_X7_share_8 (xs (x4 + 1).toNatClampNeg) (xs (x4 + 2).toNatClampNeg) (xs (x4 + 3).toNatClampNeg) M4 (fun r10 M9 => wp_X7_thrown_8  M9 (fun r12 M11 => ((r12 = r5 → ((r5 = 0 → ((lg_cmp (M11.2.2 9 0) r10.toInt64 = 0 → wb_law_1622 L xs k23 x4 M11) ∧ (¬ lg_cmp (M11.2.2 9 0) r10.toInt64 = 0 → False))) ∧ (¬ r5 = 0 → wb_law_1622 L xs k23 x4 M11))) ∧ (¬ r12 = r5 → False)))))
set_option maxHeartbeats 8000000 in
set_option maxRecDepth 100000 in
theorem tb_law_1485 {g : fx_Geo} {p : Program} {l : Launch} {e : Env} {s : State} {m : MethodId} {b : Nat} {below : List Frame} {meth : Method} {c : Code} {L : Nat} {xs : Nat → Int32} {cells slots : Nat} (C : fx_Cx g p s m #[Value.ref b] meth c RL cL_law 7 ret) (hfl : l.stackTraces = false) (Y : fx_scr g s b L xs) (hcb : cells + 3 ≤ 603072) (hsb : slots + 18 ≤ 7198826) (k23 : Int32 → fx_Mem → Prop) (hk23 : ∀ (x4 : Int32) (M : fx_Mem), k23 x4 M → ∀ (H : Heap) (locs : List Loc) (ls : Array Slot), fx_H g s M H locs → lv_has ls 7 [(0, .ref b), (1, .ref (fx_a g 0)), (2, .ref (fx_a g 8)), (3, .ref (fx_a g 9)), (4, .int x4)] → W p l e room_1 s m #[Value.ref b] below meth c H locs (cells + 3) (slots + 18) (lw_Z below #[Value.ref b] s) (F0 m 23 ls [])) (x4 : Int32) (M : fx_Mem) (h : wb_law_1485 L xs k23 x4 M) (H : Heap) (locs : List Loc) (ls : Array Slot) (hH : fx_H g s M H locs) (hl : lv_has ls 7 [(0, .ref b), (1, .ref (fx_a g 0)), (2, .ref (fx_a g 8)), (3, .ref (fx_a g 9)), (4, .int x4)]) : W p l e room_1 s m #[Value.ref b] below meth c H locs cells slots (lw_Z below #[Value.ref b] s) (F0 m 1485 ls []) := by
  obtain ⟨hx, hb, hr, hml, hown, hts, hlocks, hsz, hK, hG, hSt⟩ := id C
  obtain ⟨hX, hbl, hbA, hbas⟩ := id Y
  unfold wb_law_1485 at h
  refine lv_aload_n hx hb dL_law_1485 rfl (lv_at hl 1 rfl) ?_
  refine lv_aload_n hx hb dL_law_1486 rfl (lv_at hl 0 rfl) ?_
  refine lv_iload hx hb dL_law_1487 (lv_at hl 4 rfl) ?_
  refine lv_iconst (v := 1) hx hb dL_law_1489 (by decide) ?_
  refine lv_iadd hx hb dL_law_1490 ?_
  obtain ⟨hi1, h⟩ := h
  refine va_sld hx hb hX hbl hbA hH.2 hi1 dL_law_1491 ?_
  refine lv_aload_n hx hb dL_law_1492 rfl (lv_at hl 0 rfl) ?_
  refine lv_iload hx hb dL_law_1493 (lv_at hl 4 rfl) ?_
  refine lv_iconst (v := 2) hx hb dL_law_1495 (by decide) ?_
  refine lv_iadd hx hb dL_law_1496 ?_
  obtain ⟨hi2, h⟩ := h
  refine va_sld hx hb hX hbl hbA hH.2 hi2 dL_law_1497 ?_
  refine lv_aload_n hx hb dL_law_1498 rfl (lv_at hl 0 rfl) ?_
  refine lv_iload hx hb dL_law_1499 (lv_at hl 4 rfl) ?_
  refine lv_iconst (v := 3) hx hb dL_law_1501 (by decide) ?_
  refine lv_iadd hx hb dL_law_1502 ?_
  obtain ⟨hi3, h⟩ := h
  refine va_sld hx hb hX hbl hbA hH.2 hi3 dL_law_1503 ?_
  refine lv_aload_n hx hb dL_law_1504 rfl (lv_at hl 3 rfl) ?_
  refine fx_ciC hH (fx_runSW (As := [.ref (fx_a g 0), .int (xs (x4 + 1).toNatClampNeg), .int (xs (x4 + 2).toNatClampNeg), .int (xs (x4 + 3).toNatClampNeg), .ref (fx_a g 9)]) (rest := []) C hH (c_L_share_0_9 l hG hfl (xs (x4 + 1).toNatClampNeg) (xs (x4 + 2).toNatClampNeg) (xs (x4 + 3).toNatClampNeg) M _ h) (fx_cwSW 5 hts u_778 u_779 u_0 u_780 rfl rfl (by decide +kernel) ⟨(Nat.le_of_ble_eq_true rfl), (Nat.le_of_ble_eq_true rfl)⟩) rfl hl.1 rfl (Nat.le_of_ble_eq_true rfl) dL_law_1505 ⟨by show cells + 2 ≤ 603072; omega, by show slots + 12 ≤ 7198826; omega⟩) (fun r5 M4 H locs h hH => ?_)
  refine lv_istore (lv' := [(5, .int r5), (0, .ref b), (1, .ref (fx_a g 0)), (2, .ref (fx_a g 8)), (3, .ref (fx_a g 9)), (4, .int x4)]) hx hb dL_law_1508 hl (by decide) rfl (fun ls hl => ?_)
  refine lv_aload_n hx hb dL_law_1510 rfl (lv_at hl 3 rfl) ?_
  refine lv_aload_n hx hb dL_law_1511 rfl (lv_at hl 1 rfl) ?_
  refine lv_iload hx hb dL_law_1512 (lv_at hl 5 rfl) ?_
  refine lv_iconst (v := 1) hx hb dL_law_1514 (by decide) ?_
  refine lv_iadd hx hb dL_law_1515 ?_
  obtain ⟨hi6, h⟩ := h
  refine va_sld hx hb hX hbl hbA hH.2 hi6 dL_law_1516 ?_
  refine lv_aload_n hx hb dL_law_1517 rfl (lv_at hl 1 rfl) ?_
  refine lv_iload hx hb dL_law_1518 (lv_at hl 5 rfl) ?_
  refine lv_iconst (v := 2) hx hb dL_law_1520 (by decide) ?_
  refine lv_iadd hx hb dL_law_1521 ?_
  obtain ⟨hi7, h⟩ := h
  refine va_sld hx hb hX hbl hbA hH.2 hi7 dL_law_1522 ?_
  refine lv_aload_n hx hb dL_law_1523 rfl (lv_at hl 1 rfl) ?_
  refine lv_iload hx hb dL_law_1524 (lv_at hl 5 rfl) ?_
  refine lv_iconst (v := 3) hx hb dL_law_1526 (by decide) ?_
  refine lv_iadd hx hb dL_law_1527 ?_
  obtain ⟨hi8, h⟩ := h
  refine va_sld hx hb hX hbl hbA hH.2 hi8 dL_law_1528 ?_
  refine fx_ci hH (fx_runV (As := [.int (xs (x4 + 1).toNatClampNeg), .int (xs (x4 + 2).toNatClampNeg), .int (xs (x4 + 3).toNatClampNeg)]) (rest := []) C hH (c_X7_share_8 l hG (xs (x4 + 1).toNatClampNeg) (xs (x4 + 2).toNatClampNeg) (xs (x4 + 3).toNatClampNeg) M4 _ h) (fx_cwV 3 hts u_1174 u_1175 u_1176 u_8 u_1177 rfl rfl (by decide +kernel) ⟨(Nat.le_of_ble_eq_true rfl), (Nat.le_of_ble_eq_true rfl)⟩) (fx_w8 g M4) rfl rfl hl.1 rfl (Nat.le_of_ble_eq_true rfl) dL_law_1529 ⟨by show (cells + 2) + 0 ≤ 603072; omega, by show (slots + 12) + 0 ≤ 7198826; omega⟩) (fun r10 M9 H locs h hH => ?_)
  refine lv_istore (lv' := [(6, .int r10), (5, .int r5), (0, .ref b), (1, .ref (fx_a g 0)), (2, .ref (fx_a g 8)), (3, .ref (fx_a g 9)), (4, .int x4)]) hx hb dL_law_1532 hl (by decide) rfl (fun ls hl => ?_)
  refine lv_aload_n hx hb dL_law_1534 rfl (lv_at hl 4 rfl) ?_
  refine fx_ci hH (fx_runV (As := []) (rest := []) C hH (c_X7_thrown_8 l hG  M9 _ h) (fx_cwV 0 hts u_929 u_930 u_931 u_8 u_932 rfl rfl (by decide +kernel) ⟨(Nat.le_of_ble_eq_true rfl), (Nat.le_of_ble_eq_true rfl)⟩) (fx_w8 g M9) rfl rfl hl.1 rfl (Nat.le_of_ble_eq_true rfl) dL_law_1535 ⟨by show (cells + 2) + 0 ≤ 603072; omega, by show (slots + 12) + 0 ≤ 7198826; omega⟩) (fun r12 M11 H locs h hH => ?_)
  refine lv_iload hx hb dL_law_1538 (lv_at hl 1 rfl) ?_
  refine lv_icmp_eq (tgt := 1545) hx hb dL_law_1540 (by decide) (fun c13 => ?_) (fun c13 => ?_)
  · replace h := h.1 c13
    refine lv_iload hx hb dL_law_1545 (lv_at hl 1 rfl) ?_
    refine lv_if_ne (tgt := 1562) hx hb dL_law_1547 (by decide) (fun c14 => ?_) (fun c14 => ?_)
    · replace h := h.2 c14
      refine lv_goto (tgt := 1622) hx hb dL_law_1562 (by decide) ?_
      refine W.widen (k := (cells + 3)) (n := (slots + 18)) (by omega) (by omega) ?_
      exact tb_law_1622 C hfl Y hcb hsb k23 hk23 x4 M11 h H locs ls hH (lv_sub hl [2, 3, 4, 5, 6] rfl)
    · replace h := h.1 c14
      refine lv_aload_n hx hb dL_law_1550 rfl (lv_at hl 5 rfl) ?_
      refine lv_iconst (v := 0) hx hb dL_law_1551 (by decide) ?_
      refine fx_lald (j := 0) C hH 9 (fx_w9 g M11) (by decide) (by unfold vp_in; decide) dL_law_1552 ?_
      refine lv_iload hx hb dL_law_1553 (lv_at hl 0 rfl) ?_
      refine lv_i2l hx hb dL_law_1555 rfl ?_
      refine W.lcmp hx hb dL_law_1556 ?_
      refine lv_if_eq (tgt := 1562) hx hb dL_law_1557 (by decide) (fun c15 => ?_) (fun c15 => ?_)
      · replace h := h.1 c15
        refine lv_goto (tgt := 1622) hx hb dL_law_1562 (by decide) ?_
        refine W.widen (k := (cells + 3)) (n := (slots + 18)) (by omega) (by omega) ?_
        exact tb_law_1622 C hfl Y hcb hsb k23 hk23 x4 M11 h H locs ls hH (lv_sub hl [2, 3, 4, 5, 6] rfl)
      · replace h := h.2 c15
        exact False.elim h
  · replace h := h.2 c13
    exact False.elim h
def wb_law_1565 (L : Nat) (xs : Nat → Int32) (k23 : Int32 → fx_Mem → Prop) (x4 : Int32) (M : fx_Mem) : Prop :=
  wp_X6_save_0  M (fun r2 M1 => wp_X7_save_8  M1 (fun r4 M3 => ((r2 = r4 → wb_law_1622 L xs k23 x4 M3) ∧ (¬ r2 = r4 → False))))
set_option maxHeartbeats 8000000 in
set_option maxRecDepth 100000 in
theorem tb_law_1565 {g : fx_Geo} {p : Program} {l : Launch} {e : Env} {s : State} {m : MethodId} {b : Nat} {below : List Frame} {meth : Method} {c : Code} {L : Nat} {xs : Nat → Int32} {cells slots : Nat} (C : fx_Cx g p s m #[Value.ref b] meth c RL cL_law 7 ret) (hfl : l.stackTraces = false) (Y : fx_scr g s b L xs) (hcb : cells + 3 ≤ 603072) (hsb : slots + 18 ≤ 7198826) (k23 : Int32 → fx_Mem → Prop) (hk23 : ∀ (x4 : Int32) (M : fx_Mem), k23 x4 M → ∀ (H : Heap) (locs : List Loc) (ls : Array Slot), fx_H g s M H locs → lv_has ls 7 [(0, .ref b), (1, .ref (fx_a g 0)), (2, .ref (fx_a g 8)), (3, .ref (fx_a g 9)), (4, .int x4)] → W p l e room_1 s m #[Value.ref b] below meth c H locs (cells + 3) (slots + 18) (lw_Z below #[Value.ref b] s) (F0 m 23 ls [])) (x4 : Int32) (M : fx_Mem) (h : wb_law_1565 L xs k23 x4 M) (H : Heap) (locs : List Loc) (ls : Array Slot) (hH : fx_H g s M H locs) (hl : lv_has ls 7 [(0, .ref b), (1, .ref (fx_a g 0)), (2, .ref (fx_a g 8)), (3, .ref (fx_a g 9)), (4, .int x4)]) : W p l e room_1 s m #[Value.ref b] below meth c H locs cells slots (lw_Z below #[Value.ref b] s) (F0 m 1565 ls []) := by
  obtain ⟨hx, hb, hr, hml, hown, hts, hlocks, hsz, hK, hG, hSt⟩ := id C
  obtain ⟨hX, hbl, hbA, hbas⟩ := id Y
  unfold wb_law_1565 at h
  refine lv_aload_n hx hb dL_law_1565 rfl (lv_at hl 1 rfl) ?_
  refine fx_ci hH (fx_runV (As := []) (rest := []) C hH (c_X6_save_0 l hG  M _ h) (fx_cwV 0 hts u_386 u_387 u_388 u_1 u_389 rfl rfl (by decide +kernel) ⟨(Nat.le_of_ble_eq_true rfl), (Nat.le_of_ble_eq_true rfl)⟩) (fx_w0 g M) rfl rfl hl.1 rfl (Nat.le_of_ble_eq_true rfl) dL_law_1566 ⟨by show cells + 0 ≤ 603072; omega, by show slots + 0 ≤ 7198826; omega⟩) (fun r2 M1 H locs h hH => ?_)
  refine lv_aload_n hx hb dL_law_1569 rfl (lv_at hl 2 rfl) ?_
  refine fx_ci hH (fx_runV (As := []) (rest := [.int r2]) C hH (c_X7_save_8 l hG  M1 _ h) (fx_cwV 0 hts u_1179 u_1180 u_1181 u_8 u_1182 rfl rfl (by decide +kernel) ⟨(Nat.le_of_ble_eq_true rfl), (Nat.le_of_ble_eq_true rfl)⟩) (fx_w8 g M1) rfl rfl hl.1 rfl (Nat.le_of_ble_eq_true rfl) dL_law_1570 ⟨by show cells + 0 ≤ 603072; omega, by show slots + 0 ≤ 7198826; omega⟩) (fun r4 M3 H locs h hH => ?_)
  refine lv_icmp_eq (tgt := 1622) hx hb dL_law_1573 (by decide) (fun c5 => ?_) (fun c5 => ?_)
  · replace h := h.1 c5
    refine W.widen (k := (cells + 3)) (n := (slots + 18)) (by omega) (by omega) ?_
    exact tb_law_1622 C hfl Y hcb hsb k23 hk23 x4 M3 h H locs ls hH (lv_sub hl [0, 1, 2, 3, 4] rfl)
  · replace h := h.2 c5
    exact False.elim h
def wb_law_1578 (L : Nat) (xs : Nat → Int32) (k23 : Int32 → fx_Mem → Prop) (x4 : Int32) (M : fx_Mem) : Prop :=
  wp_L_restore_0_9  M (fun r2 M1 => wp_X7_restore_8  M1 (fun r4 M3 => wp_X7_thrown_8  M3 (fun r6 M5 => ((r6 = r2 → ((r2 = 0 → ((lg_cmp (M5.2.2 9 0) r4.toInt64 = 0 → wb_law_1622 L xs k23 x4 M5) ∧ (¬ lg_cmp (M5.2.2 9 0) r4.toInt64 = 0 → False))) ∧ (¬ r2 = 0 → wb_law_1622 L xs k23 x4 M5))) ∧ (¬ r6 = r2 → False)))))
set_option maxHeartbeats 8000000 in
set_option maxRecDepth 100000 in
theorem tb_law_1578 {g : fx_Geo} {p : Program} {l : Launch} {e : Env} {s : State} {m : MethodId} {b : Nat} {below : List Frame} {meth : Method} {c : Code} {L : Nat} {xs : Nat → Int32} {cells slots : Nat} (C : fx_Cx g p s m #[Value.ref b] meth c RL cL_law 7 ret) (hfl : l.stackTraces = false) (Y : fx_scr g s b L xs) (hcb : cells + 3 ≤ 603072) (hsb : slots + 18 ≤ 7198826) (k23 : Int32 → fx_Mem → Prop) (hk23 : ∀ (x4 : Int32) (M : fx_Mem), k23 x4 M → ∀ (H : Heap) (locs : List Loc) (ls : Array Slot), fx_H g s M H locs → lv_has ls 7 [(0, .ref b), (1, .ref (fx_a g 0)), (2, .ref (fx_a g 8)), (3, .ref (fx_a g 9)), (4, .int x4)] → W p l e room_1 s m #[Value.ref b] below meth c H locs (cells + 3) (slots + 18) (lw_Z below #[Value.ref b] s) (F0 m 23 ls [])) (x4 : Int32) (M : fx_Mem) (h : wb_law_1578 L xs k23 x4 M) (H : Heap) (locs : List Loc) (ls : Array Slot) (hH : fx_H g s M H locs) (hl : lv_has ls 7 [(0, .ref b), (1, .ref (fx_a g 0)), (2, .ref (fx_a g 8)), (3, .ref (fx_a g 9)), (4, .int x4)]) : W p l e room_1 s m #[Value.ref b] below meth c H locs cells slots (lw_Z below #[Value.ref b] s) (F0 m 1578 ls []) := by
  obtain ⟨hx, hb, hr, hml, hown, hts, hlocks, hsz, hK, hG, hSt⟩ := id C
  obtain ⟨hX, hbl, hbA, hbas⟩ := id Y
  unfold wb_law_1578 at h
  refine lv_aload_n hx hb dL_law_1578 rfl (lv_at hl 1 rfl) ?_
  refine lv_aload_n hx hb dL_law_1579 rfl (lv_at hl 3 rfl) ?_
  refine fx_ciC hH (fx_runSW (As := [.ref (fx_a g 0), .ref (fx_a g 9)]) (rest := []) C hH (c_L_restore_0_9 l hG hfl  M _ h) (fx_cwSW 2 hts u_809 u_810 u_0 u_811 rfl rfl (by decide +kernel) ⟨(Nat.le_of_ble_eq_true rfl), (Nat.le_of_ble_eq_true rfl)⟩) rfl hl.1 rfl (Nat.le_of_ble_eq_true rfl) dL_law_1580 ⟨by show cells + 1 ≤ 603072; omega, by show slots + 6 ≤ 7198826; omega⟩) (fun r2 M1 H locs h hH => ?_)
  refine lv_istore (lv' := [(5, .int r2), (0, .ref b), (1, .ref (fx_a g 0)), (2, .ref (fx_a g 8)), (3, .ref (fx_a g 9)), (4, .int x4)]) hx hb dL_law_1583 hl (by decide) rfl (fun ls hl => ?_)
  refine lv_aload_n hx hb dL_law_1585 rfl (lv_at hl 3 rfl) ?_
  refine fx_ci hH (fx_runV (As := []) (rest := []) C hH (c_X7_restore_8 l hG  M1 _ h) (fx_cwV 0 hts u_1183 u_1184 u_1185 u_8 u_1186 rfl rfl (by decide +kernel) ⟨(Nat.le_of_ble_eq_true rfl), (Nat.le_of_ble_eq_true rfl)⟩) (fx_w8 g M1) rfl rfl hl.1 rfl (Nat.le_of_ble_eq_true rfl) dL_law_1586 ⟨by show (cells + 1) + 0 ≤ 603072; omega, by show (slots + 6) + 0 ≤ 7198826; omega⟩) (fun r4 M3 H locs h hH => ?_)
  refine lv_istore (lv' := [(6, .int r4), (5, .int r2), (0, .ref b), (1, .ref (fx_a g 0)), (2, .ref (fx_a g 8)), (3, .ref (fx_a g 9)), (4, .int x4)]) hx hb dL_law_1589 hl (by decide) rfl (fun ls hl => ?_)
  refine lv_aload_n hx hb dL_law_1591 rfl (lv_at hl 4 rfl) ?_
  refine fx_ci hH (fx_runV (As := []) (rest := []) C hH (c_X7_thrown_8 l hG  M3 _ h) (fx_cwV 0 hts u_929 u_930 u_931 u_8 u_932 rfl rfl (by decide +kernel) ⟨(Nat.le_of_ble_eq_true rfl), (Nat.le_of_ble_eq_true rfl)⟩) (fx_w8 g M3) rfl rfl hl.1 rfl (Nat.le_of_ble_eq_true rfl) dL_law_1592 ⟨by show (cells + 1) + 0 ≤ 603072; omega, by show (slots + 6) + 0 ≤ 7198826; omega⟩) (fun r6 M5 H locs h hH => ?_)
  refine lv_iload hx hb dL_law_1595 (lv_at hl 1 rfl) ?_
  refine lv_icmp_eq (tgt := 1602) hx hb dL_law_1597 (by decide) (fun c7 => ?_) (fun c7 => ?_)
  · replace h := h.1 c7
    refine lv_iload hx hb dL_law_1602 (lv_at hl 1 rfl) ?_
    refine lv_if_ne (tgt := 1619) hx hb dL_law_1604 (by decide) (fun c8 => ?_) (fun c8 => ?_)
    · replace h := h.2 c8
      refine lv_goto (tgt := 1622) hx hb dL_law_1619 (by decide) ?_
      refine W.widen (k := (cells + 3)) (n := (slots + 18)) (by omega) (by omega) ?_
      exact tb_law_1622 C hfl Y hcb hsb k23 hk23 x4 M5 h H locs ls hH (lv_sub hl [2, 3, 4, 5, 6] rfl)
    · replace h := h.1 c8
      refine lv_aload_n hx hb dL_law_1607 rfl (lv_at hl 5 rfl) ?_
      refine lv_iconst (v := 0) hx hb dL_law_1608 (by decide) ?_
      refine fx_lald (j := 0) C hH 9 (fx_w9 g M5) (by decide) (by unfold vp_in; decide) dL_law_1609 ?_
      refine lv_iload hx hb dL_law_1610 (lv_at hl 0 rfl) ?_
      refine lv_i2l hx hb dL_law_1612 rfl ?_
      refine W.lcmp hx hb dL_law_1613 ?_
      refine lv_if_eq (tgt := 1619) hx hb dL_law_1614 (by decide) (fun c9 => ?_) (fun c9 => ?_)
      · replace h := h.1 c9
        refine lv_goto (tgt := 1622) hx hb dL_law_1619 (by decide) ?_
        refine W.widen (k := (cells + 3)) (n := (slots + 18)) (by omega) (by omega) ?_
        exact tb_law_1622 C hfl Y hcb hsb k23 hk23 x4 M5 h H locs ls hH (lv_sub hl [2, 3, 4, 5, 6] rfl)
      · replace h := h.2 c9
        exact False.elim h
  · replace h := h.2 c7
    exact False.elim h
def wb_law_23 (L : Nat) (xs : Nat → Int32) (k23 : Int32 → fx_Mem → Prop) (x4 : Int32) (M : fx_Mem) : Prop :=
  (((Int32.ofNat L) - 4 < x4 → True) ∧ (¬ (Int32.ofNat L) - 4 < x4 → vp_in x4 L ∧ (((xs x4.toNatClampNeg) &&& 31 = 0 → wb_law_164 L xs k23 x4 M) ∧ ((xs x4.toNatClampNeg) &&& 31 = 1 → wb_law_220 L xs k23 x4 M) ∧ ((xs x4.toNatClampNeg) &&& 31 = 2 → wb_law_276 L xs k23 x4 M) ∧ ((xs x4.toNatClampNeg) &&& 31 = 3 → wb_law_344 L xs k23 x4 M) ∧ ((xs x4.toNatClampNeg) &&& 31 = 4 → wb_law_412 L xs k23 x4 M) ∧ ((xs x4.toNatClampNeg) &&& 31 = 5 → wb_law_480 L xs k23 x4 M) ∧ ((xs x4.toNatClampNeg) &&& 31 = 6 → wb_law_536 L xs k23 x4 M) ∧ ((xs x4.toNatClampNeg) &&& 31 = 7 → wb_law_549 L xs k23 x4 M) ∧ ((xs x4.toNatClampNeg) &&& 31 = 8 → wb_law_629 L xs k23 x4 M) ∧ ((xs x4.toNatClampNeg) &&& 31 = 9 → wb_law_697 L xs k23 x4 M) ∧ ((xs x4.toNatClampNeg) &&& 31 = 10 → wb_law_755 L xs k23 x4 M) ∧ ((xs x4.toNatClampNeg) &&& 31 = 11 → wb_law_799 L xs k23 x4 M) ∧ ((xs x4.toNatClampNeg) &&& 31 = 12 → wb_law_812 L xs k23 x4 M) ∧ ((xs x4.toNatClampNeg) &&& 31 = 13 → wb_law_868 L xs k23 x4 M) ∧ ((xs x4.toNatClampNeg) &&& 31 = 14 → wb_law_924 L xs k23 x4 M) ∧ ((xs x4.toNatClampNeg) &&& 31 = 15 → wb_law_980 L xs k23 x4 M) ∧ ((xs x4.toNatClampNeg) &&& 31 = 16 → wb_law_1048 L xs k23 x4 M) ∧ ((xs x4.toNatClampNeg) &&& 31 = 17 → wb_law_1104 L xs k23 x4 M) ∧ ((xs x4.toNatClampNeg) &&& 31 = 18 → wb_law_1160 L xs k23 x4 M) ∧ ((xs x4.toNatClampNeg) &&& 31 = 19 → wb_law_1216 L xs k23 x4 M) ∧ ((xs x4.toNatClampNeg) &&& 31 = 20 → wb_law_1272 L xs k23 x4 M) ∧ ((xs x4.toNatClampNeg) &&& 31 = 21 → wb_law_1285 L xs k23 x4 M) ∧ ((xs x4.toNatClampNeg) &&& 31 = 22 → wb_law_1348 L xs k23 x4 M) ∧ ((xs x4.toNatClampNeg) &&& 31 = 23 → wb_law_1416 L xs k23 x4 M) ∧ ((xs x4.toNatClampNeg) &&& 31 = 24 → wb_law_1429 L xs k23 x4 M) ∧ ((xs x4.toNatClampNeg) &&& 31 = 25 → wb_law_1485 L xs k23 x4 M) ∧ ((xs x4.toNatClampNeg) &&& 31 = 26 → wb_law_1565 L xs k23 x4 M) ∧ ((xs x4.toNatClampNeg) &&& 31 = 27 → wb_law_1578 L xs k23 x4 M) ∧ (¬ (xs x4.toNatClampNeg) &&& 31 = 0 → ¬ (xs x4.toNatClampNeg) &&& 31 = 1 → ¬ (xs x4.toNatClampNeg) &&& 31 = 2 → ¬ (xs x4.toNatClampNeg) &&& 31 = 3 → ¬ (xs x4.toNatClampNeg) &&& 31 = 4 → ¬ (xs x4.toNatClampNeg) &&& 31 = 5 → ¬ (xs x4.toNatClampNeg) &&& 31 = 6 → ¬ (xs x4.toNatClampNeg) &&& 31 = 7 → ¬ (xs x4.toNatClampNeg) &&& 31 = 8 → ¬ (xs x4.toNatClampNeg) &&& 31 = 9 → ¬ (xs x4.toNatClampNeg) &&& 31 = 10 → ¬ (xs x4.toNatClampNeg) &&& 31 = 11 → ¬ (xs x4.toNatClampNeg) &&& 31 = 12 → ¬ (xs x4.toNatClampNeg) &&& 31 = 13 → ¬ (xs x4.toNatClampNeg) &&& 31 = 14 → ¬ (xs x4.toNatClampNeg) &&& 31 = 15 → ¬ (xs x4.toNatClampNeg) &&& 31 = 16 → ¬ (xs x4.toNatClampNeg) &&& 31 = 17 → ¬ (xs x4.toNatClampNeg) &&& 31 = 18 → ¬ (xs x4.toNatClampNeg) &&& 31 = 19 → ¬ (xs x4.toNatClampNeg) &&& 31 = 20 → ¬ (xs x4.toNatClampNeg) &&& 31 = 21 → ¬ (xs x4.toNatClampNeg) &&& 31 = 22 → ¬ (xs x4.toNatClampNeg) &&& 31 = 23 → ¬ (xs x4.toNatClampNeg) &&& 31 = 24 → ¬ (xs x4.toNatClampNeg) &&& 31 = 25 → ¬ (xs x4.toNatClampNeg) &&& 31 = 26 → ¬ (xs x4.toNatClampNeg) &&& 31 = 27 → wb_law_1622 L xs k23 x4 M))))
set_option maxHeartbeats 8000000 in
set_option maxRecDepth 100000 in
theorem tb_law_23 {g : fx_Geo} {p : Program} {l : Launch} {e : Env} {s : State} {m : MethodId} {b : Nat} {below : List Frame} {meth : Method} {c : Code} {L : Nat} {xs : Nat → Int32} {cells slots : Nat} (C : fx_Cx g p s m #[Value.ref b] meth c RL cL_law 7 ret) (hfl : l.stackTraces = false) (Y : fx_scr g s b L xs) (hcb : cells + 3 ≤ 603072) (hsb : slots + 18 ≤ 7198826) (k23 : Int32 → fx_Mem → Prop) (hk23 : ∀ (x4 : Int32) (M : fx_Mem), k23 x4 M → ∀ (H : Heap) (locs : List Loc) (ls : Array Slot), fx_H g s M H locs → lv_has ls 7 [(0, .ref b), (1, .ref (fx_a g 0)), (2, .ref (fx_a g 8)), (3, .ref (fx_a g 9)), (4, .int x4)] → W p l e room_1 s m #[Value.ref b] below meth c H locs (cells + 3) (slots + 18) (lw_Z below #[Value.ref b] s) (F0 m 23 ls [])) (x4 : Int32) (M : fx_Mem) (h : wb_law_23 L xs k23 x4 M) (H : Heap) (locs : List Loc) (ls : Array Slot) (hH : fx_H g s M H locs) (hl : lv_has ls 7 [(0, .ref b), (1, .ref (fx_a g 0)), (2, .ref (fx_a g 8)), (3, .ref (fx_a g 9)), (4, .int x4)]) : W p l e room_1 s m #[Value.ref b] below meth c H locs cells slots (lw_Z below #[Value.ref b] s) (F0 m 23 ls []) := by
  obtain ⟨hx, hb, hr, hml, hown, hts, hlocks, hsz, hK, hG, hSt⟩ := id C
  obtain ⟨hX, hbl, hbA, hbas⟩ := id Y
  unfold wb_law_23 at h
  refine lv_iload hx hb dL_law_23 (lv_at hl 4 rfl) ?_
  refine lv_aload_n hx hb dL_law_25 rfl (lv_at hl 0 rfl) ?_
  refine va_slen hx hb hX hbl hbA hH.2 dL_law_26 ?_
  refine lv_iconst (v := 4) hx hb dL_law_27 (by decide) ?_
  refine lv_isub hx hb dL_law_28 ?_
  refine lv_icmp_gt (tgt := 1628) hx hb dL_law_29 (by decide) (fun c1 => ?_) (fun c1 => ?_)
  · replace h := h.1 c1
    refine lv_iconst (v := 1) hx hb dL_law_1628 (by decide) ?_
    refine va_forget (fun q hq => by have h9 := hH.2.2.2 q hq; rw [← hbas]; exact h9) ?_
    refine W.widen (k := 603072) (n := 7198826) (by omega) (by omega) ?_
    exact lw_ret hx hb hr hlocks dL_law_1629
  · replace h := h.2 c1
    refine lv_aload_n hx hb dL_law_32 rfl (lv_at hl 0 rfl) ?_
    refine lv_iload hx hb dL_law_33 (lv_at hl 4 rfl) ?_
    obtain ⟨hi2, h⟩ := h
    refine va_sld hx hb hX hbl hbA hH.2 hi2 dL_law_35 ?_
    refine lv_bipush (v := 31) hx hb dL_law_36 (by decide) ?_
    refine lv_iand hx hb dL_law_38 ?_
    by_cases c3 : (xs x4.toNatClampNeg) &&& 31 = 0
    · replace h := h.1 c3
      refine lv_tableIn (off := 125) (tgt := 164) hx hb dL_law_39 (by rw [c3]; decide) (by rw [c3]; decide) (by rw [c3]; rfl) (by decide) ?_
      exact tb_law_164 C hfl Y hcb hsb k23 hk23 x4 M h H locs ls hH (lv_sub hl [0, 1, 2, 3, 4] rfl)
    by_cases c4 : (xs x4.toNatClampNeg) &&& 31 = 1
    · replace h := h.2.1 c4
      refine lv_tableIn (off := 181) (tgt := 220) hx hb dL_law_39 (by rw [c4]; decide) (by rw [c4]; decide) (by rw [c4]; rfl) (by decide) ?_
      exact tb_law_220 C hfl Y hcb hsb k23 hk23 x4 M h H locs ls hH (lv_sub hl [0, 1, 2, 3, 4] rfl)
    by_cases c5 : (xs x4.toNatClampNeg) &&& 31 = 2
    · replace h := h.2.2.1 c5
      refine lv_tableIn (off := 237) (tgt := 276) hx hb dL_law_39 (by rw [c5]; decide) (by rw [c5]; decide) (by rw [c5]; rfl) (by decide) ?_
      exact tb_law_276 C hfl Y hcb hsb k23 hk23 x4 M h H locs ls hH (lv_sub hl [0, 1, 2, 3, 4] rfl)
    by_cases c6 : (xs x4.toNatClampNeg) &&& 31 = 3
    · replace h := h.2.2.2.1 c6
      refine lv_tableIn (off := 305) (tgt := 344) hx hb dL_law_39 (by rw [c6]; decide) (by rw [c6]; decide) (by rw [c6]; rfl) (by decide) ?_
      exact tb_law_344 C hfl Y hcb hsb k23 hk23 x4 M h H locs ls hH (lv_sub hl [0, 1, 2, 3, 4] rfl)
    by_cases c7 : (xs x4.toNatClampNeg) &&& 31 = 4
    · replace h := h.2.2.2.2.1 c7
      refine lv_tableIn (off := 373) (tgt := 412) hx hb dL_law_39 (by rw [c7]; decide) (by rw [c7]; decide) (by rw [c7]; rfl) (by decide) ?_
      exact tb_law_412 C hfl Y hcb hsb k23 hk23 x4 M h H locs ls hH (lv_sub hl [0, 1, 2, 3, 4] rfl)
    by_cases c8 : (xs x4.toNatClampNeg) &&& 31 = 5
    · replace h := h.2.2.2.2.2.1 c8
      refine lv_tableIn (off := 441) (tgt := 480) hx hb dL_law_39 (by rw [c8]; decide) (by rw [c8]; decide) (by rw [c8]; rfl) (by decide) ?_
      exact tb_law_480 C hfl Y hcb hsb k23 hk23 x4 M h H locs ls hH (lv_sub hl [0, 1, 2, 3, 4] rfl)
    by_cases c9 : (xs x4.toNatClampNeg) &&& 31 = 6
    · replace h := h.2.2.2.2.2.2.1 c9
      refine lv_tableIn (off := 497) (tgt := 536) hx hb dL_law_39 (by rw [c9]; decide) (by rw [c9]; decide) (by rw [c9]; rfl) (by decide) ?_
      exact tb_law_536 C hfl Y hcb hsb k23 hk23 x4 M h H locs ls hH (lv_sub hl [0, 1, 2, 3, 4] rfl)
    by_cases c10 : (xs x4.toNatClampNeg) &&& 31 = 7
    · replace h := h.2.2.2.2.2.2.2.1 c10
      refine lv_tableIn (off := 510) (tgt := 549) hx hb dL_law_39 (by rw [c10]; decide) (by rw [c10]; decide) (by rw [c10]; rfl) (by decide) ?_
      exact tb_law_549 C hfl Y hcb hsb k23 hk23 x4 M h H locs ls hH (lv_sub hl [0, 1, 2, 3, 4] rfl)
    by_cases c11 : (xs x4.toNatClampNeg) &&& 31 = 8
    · replace h := h.2.2.2.2.2.2.2.2.1 c11
      refine lv_tableIn (off := 590) (tgt := 629) hx hb dL_law_39 (by rw [c11]; decide) (by rw [c11]; decide) (by rw [c11]; rfl) (by decide) ?_
      exact tb_law_629 C hfl Y hcb hsb k23 hk23 x4 M h H locs ls hH (lv_sub hl [0, 1, 2, 3, 4] rfl)
    by_cases c12 : (xs x4.toNatClampNeg) &&& 31 = 9
    · replace h := h.2.2.2.2.2.2.2.2.2.1 c12
      refine lv_tableIn (off := 658) (tgt := 697) hx hb dL_law_39 (by rw [c12]; decide) (by rw [c12]; decide) (by rw [c12]; rfl) (by decide) ?_
      exact tb_law_697 C hfl Y hcb hsb k23 hk23 x4 M h H locs ls hH (lv_sub hl [0, 1, 2, 3, 4] rfl)
    by_cases c13 : (xs x4.toNatClampNeg) &&& 31 = 10
    · replace h := h.2.2.2.2.2.2.2.2.2.2.1 c13
      refine lv_tableIn (off := 716) (tgt := 755) hx hb dL_law_39 (by rw [c13]; decide) (by rw [c13]; decide) (by rw [c13]; rfl) (by decide) ?_
      exact tb_law_755 C hfl Y hcb hsb k23 hk23 x4 M h H locs ls hH (lv_sub hl [0, 1, 2, 3, 4] rfl)
    by_cases c14 : (xs x4.toNatClampNeg) &&& 31 = 11
    · replace h := h.2.2.2.2.2.2.2.2.2.2.2.1 c14
      refine lv_tableIn (off := 760) (tgt := 799) hx hb dL_law_39 (by rw [c14]; decide) (by rw [c14]; decide) (by rw [c14]; rfl) (by decide) ?_
      exact tb_law_799 C hfl Y hcb hsb k23 hk23 x4 M h H locs ls hH (lv_sub hl [0, 1, 2, 3, 4] rfl)
    by_cases c15 : (xs x4.toNatClampNeg) &&& 31 = 12
    · replace h := h.2.2.2.2.2.2.2.2.2.2.2.2.1 c15
      refine lv_tableIn (off := 773) (tgt := 812) hx hb dL_law_39 (by rw [c15]; decide) (by rw [c15]; decide) (by rw [c15]; rfl) (by decide) ?_
      exact tb_law_812 C hfl Y hcb hsb k23 hk23 x4 M h H locs ls hH (lv_sub hl [0, 1, 2, 3, 4] rfl)
    by_cases c16 : (xs x4.toNatClampNeg) &&& 31 = 13
    · replace h := h.2.2.2.2.2.2.2.2.2.2.2.2.2.1 c16
      refine lv_tableIn (off := 829) (tgt := 868) hx hb dL_law_39 (by rw [c16]; decide) (by rw [c16]; decide) (by rw [c16]; rfl) (by decide) ?_
      exact tb_law_868 C hfl Y hcb hsb k23 hk23 x4 M h H locs ls hH (lv_sub hl [0, 1, 2, 3, 4] rfl)
    by_cases c17 : (xs x4.toNatClampNeg) &&& 31 = 14
    · replace h := h.2.2.2.2.2.2.2.2.2.2.2.2.2.2.1 c17
      refine lv_tableIn (off := 885) (tgt := 924) hx hb dL_law_39 (by rw [c17]; decide) (by rw [c17]; decide) (by rw [c17]; rfl) (by decide) ?_
      exact tb_law_924 C hfl Y hcb hsb k23 hk23 x4 M h H locs ls hH (lv_sub hl [0, 1, 2, 3, 4] rfl)
    by_cases c18 : (xs x4.toNatClampNeg) &&& 31 = 15
    · replace h := h.2.2.2.2.2.2.2.2.2.2.2.2.2.2.2.1 c18
      refine lv_tableIn (off := 941) (tgt := 980) hx hb dL_law_39 (by rw [c18]; decide) (by rw [c18]; decide) (by rw [c18]; rfl) (by decide) ?_
      exact tb_law_980 C hfl Y hcb hsb k23 hk23 x4 M h H locs ls hH (lv_sub hl [0, 1, 2, 3, 4] rfl)
    by_cases c19 : (xs x4.toNatClampNeg) &&& 31 = 16
    · replace h := h.2.2.2.2.2.2.2.2.2.2.2.2.2.2.2.2.1 c19
      refine lv_tableIn (off := 1009) (tgt := 1048) hx hb dL_law_39 (by rw [c19]; decide) (by rw [c19]; decide) (by rw [c19]; rfl) (by decide) ?_
      exact tb_law_1048 C hfl Y hcb hsb k23 hk23 x4 M h H locs ls hH (lv_sub hl [0, 1, 2, 3, 4] rfl)
    by_cases c20 : (xs x4.toNatClampNeg) &&& 31 = 17
    · replace h := h.2.2.2.2.2.2.2.2.2.2.2.2.2.2.2.2.2.1 c20
      refine lv_tableIn (off := 1065) (tgt := 1104) hx hb dL_law_39 (by rw [c20]; decide) (by rw [c20]; decide) (by rw [c20]; rfl) (by decide) ?_
      exact tb_law_1104 C hfl Y hcb hsb k23 hk23 x4 M h H locs ls hH (lv_sub hl [0, 1, 2, 3, 4] rfl)
    by_cases c21 : (xs x4.toNatClampNeg) &&& 31 = 18
    · replace h := h.2.2.2.2.2.2.2.2.2.2.2.2.2.2.2.2.2.2.1 c21
      refine lv_tableIn (off := 1121) (tgt := 1160) hx hb dL_law_39 (by rw [c21]; decide) (by rw [c21]; decide) (by rw [c21]; rfl) (by decide) ?_
      exact tb_law_1160 C hfl Y hcb hsb k23 hk23 x4 M h H locs ls hH (lv_sub hl [0, 1, 2, 3, 4] rfl)
    by_cases c22 : (xs x4.toNatClampNeg) &&& 31 = 19
    · replace h := h.2.2.2.2.2.2.2.2.2.2.2.2.2.2.2.2.2.2.2.1 c22
      refine lv_tableIn (off := 1177) (tgt := 1216) hx hb dL_law_39 (by rw [c22]; decide) (by rw [c22]; decide) (by rw [c22]; rfl) (by decide) ?_
      exact tb_law_1216 C hfl Y hcb hsb k23 hk23 x4 M h H locs ls hH (lv_sub hl [0, 1, 2, 3, 4] rfl)
    by_cases c23 : (xs x4.toNatClampNeg) &&& 31 = 20
    · replace h := h.2.2.2.2.2.2.2.2.2.2.2.2.2.2.2.2.2.2.2.2.1 c23
      refine lv_tableIn (off := 1233) (tgt := 1272) hx hb dL_law_39 (by rw [c23]; decide) (by rw [c23]; decide) (by rw [c23]; rfl) (by decide) ?_
      exact tb_law_1272 C hfl Y hcb hsb k23 hk23 x4 M h H locs ls hH (lv_sub hl [0, 1, 2, 3, 4] rfl)
    by_cases c24 : (xs x4.toNatClampNeg) &&& 31 = 21
    · replace h := h.2.2.2.2.2.2.2.2.2.2.2.2.2.2.2.2.2.2.2.2.2.1 c24
      refine lv_tableIn (off := 1246) (tgt := 1285) hx hb dL_law_39 (by rw [c24]; decide) (by rw [c24]; decide) (by rw [c24]; rfl) (by decide) ?_
      exact tb_law_1285 C hfl Y hcb hsb k23 hk23 x4 M h H locs ls hH (lv_sub hl [0, 1, 2, 3, 4] rfl)
    by_cases c25 : (xs x4.toNatClampNeg) &&& 31 = 22
    · replace h := h.2.2.2.2.2.2.2.2.2.2.2.2.2.2.2.2.2.2.2.2.2.2.1 c25
      refine lv_tableIn (off := 1309) (tgt := 1348) hx hb dL_law_39 (by rw [c25]; decide) (by rw [c25]; decide) (by rw [c25]; rfl) (by decide) ?_
      exact tb_law_1348 C hfl Y hcb hsb k23 hk23 x4 M h H locs ls hH (lv_sub hl [0, 1, 2, 3, 4] rfl)
    by_cases c26 : (xs x4.toNatClampNeg) &&& 31 = 23
    · replace h := h.2.2.2.2.2.2.2.2.2.2.2.2.2.2.2.2.2.2.2.2.2.2.2.1 c26
      refine lv_tableIn (off := 1377) (tgt := 1416) hx hb dL_law_39 (by rw [c26]; decide) (by rw [c26]; decide) (by rw [c26]; rfl) (by decide) ?_
      exact tb_law_1416 C hfl Y hcb hsb k23 hk23 x4 M h H locs ls hH (lv_sub hl [0, 1, 2, 3, 4] rfl)
    by_cases c27 : (xs x4.toNatClampNeg) &&& 31 = 24
    · replace h := h.2.2.2.2.2.2.2.2.2.2.2.2.2.2.2.2.2.2.2.2.2.2.2.2.1 c27
      refine lv_tableIn (off := 1390) (tgt := 1429) hx hb dL_law_39 (by rw [c27]; decide) (by rw [c27]; decide) (by rw [c27]; rfl) (by decide) ?_
      exact tb_law_1429 C hfl Y hcb hsb k23 hk23 x4 M h H locs ls hH (lv_sub hl [0, 1, 2, 3, 4] rfl)
    by_cases c28 : (xs x4.toNatClampNeg) &&& 31 = 25
    · replace h := h.2.2.2.2.2.2.2.2.2.2.2.2.2.2.2.2.2.2.2.2.2.2.2.2.2.1 c28
      refine lv_tableIn (off := 1446) (tgt := 1485) hx hb dL_law_39 (by rw [c28]; decide) (by rw [c28]; decide) (by rw [c28]; rfl) (by decide) ?_
      exact tb_law_1485 C hfl Y hcb hsb k23 hk23 x4 M h H locs ls hH (lv_sub hl [0, 1, 2, 3, 4] rfl)
    by_cases c29 : (xs x4.toNatClampNeg) &&& 31 = 26
    · replace h := h.2.2.2.2.2.2.2.2.2.2.2.2.2.2.2.2.2.2.2.2.2.2.2.2.2.2.1 c29
      refine lv_tableIn (off := 1526) (tgt := 1565) hx hb dL_law_39 (by rw [c29]; decide) (by rw [c29]; decide) (by rw [c29]; rfl) (by decide) ?_
      exact tb_law_1565 C hfl Y hcb hsb k23 hk23 x4 M h H locs ls hH (lv_sub hl [0, 1, 2, 3, 4] rfl)
    by_cases c30 : (xs x4.toNatClampNeg) &&& 31 = 27
    · replace h := h.2.2.2.2.2.2.2.2.2.2.2.2.2.2.2.2.2.2.2.2.2.2.2.2.2.2.2.1 c30
      refine lv_tableIn (off := 1539) (tgt := 1578) hx hb dL_law_39 (by rw [c30]; decide) (by rw [c30]; decide) (by rw [c30]; rfl) (by decide) ?_
      exact tb_law_1578 C hfl Y hcb hsb k23 hk23 x4 M h H locs ls hH (lv_sub hl [0, 1, 2, 3, 4] rfl)
    replace h := h.2.2.2.2.2.2.2.2.2.2.2.2.2.2.2.2.2.2.2.2.2.2.2.2.2.2.2.2 c3 c4 c5 c6 c7 c8 c9 c10 c11 c12 c13 c14 c15 c16 c17 c18 c19 c20 c21 c22 c23 c24 c25 c26 c27 c28 c29 c30
    refine lv_tableOut (tgt := 1622) hx hb dL_law_39 (by have t0 := lv_neT (a := 0) c3 (by decide); have t1 := lv_neT (a := 1) c4 (by decide); have t2 := lv_neT (a := 2) c5 (by decide); have t3 := lv_neT (a := 3) c6 (by decide); have t4 := lv_neT (a := 4) c7 (by decide); have t5 := lv_neT (a := 5) c8 (by decide); have t6 := lv_neT (a := 6) c9 (by decide); have t7 := lv_neT (a := 7) c10 (by decide); have t8 := lv_neT (a := 8) c11 (by decide); have t9 := lv_neT (a := 9) c12 (by decide); have t10 := lv_neT (a := 10) c13 (by decide); have t11 := lv_neT (a := 11) c14 (by decide); have t12 := lv_neT (a := 12) c15 (by decide); have t13 := lv_neT (a := 13) c16 (by decide); have t14 := lv_neT (a := 14) c17 (by decide); have t15 := lv_neT (a := 15) c18 (by decide); have t16 := lv_neT (a := 16) c19 (by decide); have t17 := lv_neT (a := 17) c20 (by decide); have t18 := lv_neT (a := 18) c21 (by decide); have t19 := lv_neT (a := 19) c22 (by decide); have t20 := lv_neT (a := 20) c23 (by decide); have t21 := lv_neT (a := 21) c24 (by decide); have t22 := lv_neT (a := 22) c25 (by decide); have t23 := lv_neT (a := 23) c26 (by decide); have t24 := lv_neT (a := 24) c27 (by decide); have t25 := lv_neT (a := 25) c28 (by decide); have t26 := lv_neT (a := 26) c29 (by decide); have t27 := lv_neT (a := 27) c30 (by decide); omega) (by decide) ?_
    refine W.widen (k := (cells + 3)) (n := (slots + 18)) (by omega) (by omega) ?_
    exact tb_law_1622 C hfl Y hcb hsb k23 hk23 x4 M h H locs ls hH (lv_sub hl [0, 1, 2, 3, 4] rfl)
