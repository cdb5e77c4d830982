/-! lineOf, box, overflows, itemUnder -/
theorem gx_lwC {D : gx_D} {M : fx_Mem} (hd : gx_ok D) (ha : gx_AC D M) {k : Nat} (hk : k < D.2.2) {Q : Int32 → fx_Mem → Prop} (h : Q (nI (gx_lo D k)) M) : wp_X0_lineWith_5 (nI (gx_it D k)) M Q := by
  have hn := hd.1
  have hLn := gx_L_le D
  obtain ⟨l0, a0, m0, t0, hl0, ht0, ek⟩ := gx_plc hk
  have elo : gx_lo D k = l0 := by rw [ek]; exact gx_lo_eq hl0 ht0
  rw [elo] at h
  have hit := gx_it_lt hk
  obtain ⟨z1, z2, z3⟩ := hl0
  unfold wp_X0_lineWith_5
  refine gx_cnt l0 (fun l s => s = (nI (gx_it D k), nI l, M)) ?_ (nI (gx_it D k), 0, M) rfl
  rintro l _ kk hll rfl hkk
  show wb_X0_lineWith_5_2 (fun x1 x2 M => kk (x1, x2, M)) Q (nI (gx_it D k)) (nI l) M
  unfold wb_X0_lineWith_5_2
  have hlt : l < gx_L D := by omega
  obtain ⟨a, m, hl⟩ := gx_ln_ex hlt
  obtain ⟨m1, m2, m3, m4, m5⟩ := gx_ln_b hd hl
  obtain ⟨e1, e2, e3⟩ := gx_lnC hd ha hl
  rw [ha.1, nI_leI (by omega) (by omega), nI_clamp (n := l) (by omega), e1]
  refine ⟨fun e => absurd e (by omega), fun _ => ⟨vp_in_nI (by omega) (by omega), ?_⟩⟩
  rintro _ rfl
  refine gx_cnt m (fun t s => s = (nI (gx_it D k), nI l, nI (a + t), M) ∧ (l = l0 → a + t ≤ k)) ?_ (nI (gx_it D k), nI l, nI a, M) ⟨rfl, fun e => ?_⟩
  rotate_left
  · subst e; have := hl.2.1; omega
  rintro t _ k2 ht ⟨rfl, hle⟩ hk2
  show wb_X0_lineWith_5_17 (fun x1 x2 x3 M => k2 (x1, x2, x3, M)) (wb_X0_lineWith_5_47 (fun x1 x2 M => kk (x1, x2, M)) Q) Q (nI (gx_it D k)) (nI l) (nI (a + t)) M
  unfold wb_X0_lineWith_5_17
  rw [nI_1 l, nI_clamp (n := l + 1) (by omega), e2, nI_leI (by omega) (by omega), nI_clamp (n := a + t) (by omega)]
  have hl2 := hl.2.1
  have hl3 := hl.2.2
  refine ⟨vp_in_nI (by omega) (by omega), fun e => ?_, fun e => ⟨vp_in_nI (by omega) (by omega), ?_⟩⟩
  · have hne : l ≠ l0 := fun x => by subst x; have := hle rfl; omega
    unfold wb_X0_lineWith_5_47
    rintro _ rfl
    rw [nI_1]
    exact hkk _ (by omega) rfl
  · have htm : t < m := by omega
    obtain ⟨f1, f2⟩ := e3 t htm
    rw [f1, nI_eq (by omega) (by omega)]
    refine ⟨fun e4 => ?_, fun e4 => ?_⟩
    · have e5 := gx_it_inj (by omega) hk e4
      have e6 : l = l0 := by
        have x1 := gx_lo_eq hl htm
        rw [e5, elo] at x1; omega
      rw [e6]; exact h
    · rintro _ rfl
      rw [nI_1]
      refine hk2 _ htm ⟨rfl, fun e6 => ?_⟩
      have := hle e6
      have : a + t ≠ k := fun x => e4 (by rw [x])
      omega
theorem gx_case12 {L : Nat} {xs : Nat → Int32} {j : Nat} {M : fx_Mem} (hL : L ≤ 2048) (hj : j + 4 ≤ L) (h : gx_Inv M) : wb_law_812 L xs (gx_K j) (nI j) M := by
  obtain ⟨D, hd, hv, hm, ht, hs⟩ := h
  have hn := hd.1
  unfold wb_law_812 wp_L_lineOf_0_9 wp_X6_lineOf_0 wp_X7_lineOf_8 wp_X7_thrown_8
  rw [nI_1 j, nI_clamp (n := j + 1) (by omega)]
  generalize xs (j + 1) = a
  refine ⟨vp_in_nI (by omega) (by omega), ?_⟩
  rw [gx_rqC hv]
  refine ⟨fun ha => ⟨rfl, vp_in_nI (by omega) (by omega), ?_⟩, fun ha => ?_⟩
  · rw [gx_itM hm hd, gx_b0]
    refine ⟨fun _ => ?_, fun e => absurd ha e⟩
    unfold wp_X7_fails_8
    rintro _ rfl
    exact gx_fa hd hv hm ⟨ht, hs⟩ 1 (by decide) _
  obtain ⟨i, hi, rfl⟩ := gx_it_ex hd (gx_bt ha)
  obtain ⟨k, hk, rfl⟩ := gx_it_onto hi
  refine gx_arrC hv hd (fun M1 hfr1 ha1 => ?_)
  have hF1 : gx_fr [322, 452, 512, 542, 543] [16, 18, 19, 20, 21, 22, 23, 24, 25, 26, 27, 28, 29, 39, 40, 41, 42, 43, 44, 45, 46, 47, 48, 49, 50, 51, 52, 53, 54, 55] [9, 15, 17, 36, 37, 38] M M1 := gx_fr_mo hfr1 (by decide) (by decide) (by decide)
  refine gx_lwC hd ha1 hk ?_
  rintro _ rfl
  have hF2 := gx_F1 hF1 (nI (gx_lo D k)).toInt64
  refine ⟨vp_in_nI (by omega) (by omega), ?_⟩
  rw [gx_itM (gx_MVF hm hF2) hd, gx_b0]
  refine ⟨fun e => absurd e ha, fun _ => ?_⟩
  rintro _ rfl
  have hF3 := gx_F2 hF2 0
  refine gx_layM2 (gx_MVF hm hF3) hd (fun M2 hfr2 e512 e9 hv2 hml => ?_)
  obtain ⟨q0, q1, q2, q3, q4, q5, q6⟩ := gx_mlv hd hml hk
  rw [nI_clamp (n := gx_it D k) (by omega), q6, nI_clamp (n := k) (by omega), q4]
  refine ⟨vp_in_nI (by omega) (by omega), vp_in_nI (by omega) (by omega), ?_⟩
  exact gx_tl (by rw [e512, gx_r1]) (fun _ => by rw [e9, gx_r3, gx_re, pk_uLs]) (gx_lookI hd hv hm ht hs (gx_fr_tr hF3 hfr2))
theorem gx_bxC {D : gx_D} {M1 : fx_Mem} (hv1 : gx_CV D M1) (hd : gx_ok D) (hcl : gx_CL D M1) {k w : Nat} (hk : k < D.2.2) (hw : w < 4) {Q : Int32 → fx_Mem → Prop} {X : String → fx_Mem → Prop} (nxt : Q (gx_co D k w) M1) : ((nI w = 0 → wb_X6_box_0_37 Q X (nI (gx_it D k)) (nI w) M1) ∧ (¬ nI w = 0 → ((nI w = 2 → wb_X6_box_0_37 Q X (nI (gx_it D k)) (nI w) M1) ∧ (¬ nI w = 2 → wb_X6_box_0_42 Q X (nI (gx_it D k)) (nI w) 0 M1)))) := by
  have hn := hd.1
  have hi := gx_it_lt hk
  obtain ⟨c0, c1, c2, c3⟩ := gx_clv hcl hk
  unfold wb_X6_box_0_37 wb_X6_box_0_42 wb_X6_box_0_59
  have hii : vp_in (nI (gx_it D k)) 20 := vp_in_nI (by omega) (by omega)
  simp only [gx_hoC hv1]
  have eC : (nI (gx_it D k)).toNatClampNeg = gx_it D k := nI_clamp (by omega)
  rw [eC, c0, c1, c2, c3]
  unfold gx_co at nxt
  have z : ((0 : Int32) = 1) = False ∧ ((1 : Int32) = 0) = False := by decide
  have w4 : w = 0 ∨ w = 1 ∨ w = 2 ∨ w = 3 := by omega
  have gb : gx_b (decide (¬ 2 ≤ D.2.1 4)) = if 2 ≤ D.2.1 4 then 0 else 1 := by
    unfold gx_b; by_cases e : 2 ≤ D.2.1 4 <;> simp [e]
  rw [gb]
  by_cases h4 : 2 ≤ D.2.1 4
  · rcases w4 with e | e | e | e <;> subst e
    · have a1 : (nI 0 = 0) = True := by decide
      have a3 : ((2 : Int32) ≤ nI 0) = False := by decide
      simp only [h4, a1, a3, z.1, z.2, hii, if_true, true_implies, false_implies, not_true_eq_false, not_false_eq_true, and_true, true_and]
      simpa [h4] using nxt
    · have a1 : (nI 1 = 0) = False := by decide
      have a2 : (nI 1 = 2) = False := by decide
      have a3 : ((2 : Int32) ≤ nI 1) = False := by decide
      simp only [h4, a1, a2, a3, z.1, z.2, hii, if_true, true_implies, false_implies, not_true_eq_false, not_false_eq_true, and_true, true_and]
      simpa [h4] using nxt
    · have a1 : (nI 2 = 0) = False := by decide
      have a2 : (nI 2 = 2) = True := by decide
      have a3 : ((2 : Int32) ≤ nI 2) = True := by decide
      simp only [h4, a1, a2, a3, z.1, z.2, hii, if_true, true_implies, false_implies, not_true_eq_false, not_false_eq_true, and_true, true_and]
      simpa [h4] using nxt
    · have a1 : (nI 3 = 0) = False := by decide
      have a2 : (nI 3 = 2) = False := by decide
      have a3 : ((2 : Int32) ≤ nI 3) = True := by decide
      simp only [h4, a1, a2, a3, z.1, z.2, hii, if_true, true_implies, false_implies, not_true_eq_false, not_false_eq_true, and_true, true_and]
      simpa [h4] using nxt
  · rcases w4 with e | e | e | e <;> subst e
    · have a1 : (nI 0 = 0) = True := by decide
      have a3 : ((2 : Int32) ≤ nI 0) = False := by decide
      simp only [h4, a1, a3, z.1, z.2, hii, if_false, true_implies, false_implies, not_true_eq_false, not_false_eq_true, and_true, true_and]
      simpa [h4] using nxt
    · have a1 : (nI 1 = 0) = False := by decide
      have a2 : (nI 1 = 2) = False := by decide
      have a3 : ((2 : Int32) ≤ nI 1) = False := by decide
      simp only [h4, a1, a2, a3, z.1, z.2, hii, if_false, true_implies, false_implies, not_true_eq_false, not_false_eq_true, and_true, true_and]
      simpa [h4] using nxt
    · have a1 : (nI 2 = 0) = False := by decide
      have a2 : (nI 2 = 2) = True := by decide
      have a3 : ((2 : Int32) ≤ nI 2) = True := by decide
      simp only [h4, a1, a2, a3, z.1, z.2, hii, if_false, true_implies, false_implies, not_true_eq_false, not_false_eq_true, and_true, true_and]
      simpa [h4] using nxt
    · have a1 : (nI 3 = 0) = False := by decide
      have a2 : (nI 3 = 2) = False := by decide
      have a3 : ((2 : Int32) ≤ nI 3) = True := by decide
      simp only [h4, a1, a2, a3, z.1, z.2, hii, if_false, true_implies, false_implies, not_true_eq_false, not_false_eq_true, and_true, true_and]
      simpa [h4] using nxt
theorem gx_case15 {L : Nat} {xs : Nat → Int32} {j : Nat} {M : fx_Mem} (hL : L ≤ 2048) (hj : j + 4 ≤ L) (h : gx_Inv M) : wb_law_980 L xs (gx_K j) (nI j) M := by
  obtain ⟨D, hd, hv, hm, ht, hs⟩ := h
  have hn := hd.1
  unfold wb_law_980 wp_L_box_0_9 wp_X6_box_0 wp_X7_box_8 wp_X7_thrown_8 wb_X7_box_8_20
  rw [nI_1 j, gx_j2 j, nI_clamp (n := j + 1) (by omega), nI_clamp (n := j + 2) (by omega)]
  generalize xs (j + 1) = a
  generalize xs (j + 2) = b
  refine ⟨vp_in_nI (by omega) (by omega), vp_in_nI (by omega) (by omega), ?_⟩
  have hf : wp_X7_fails_8 1 M (fun r2 M1 => gx_T L xs (gx_K j) (nI j) 1 r2.toInt64 M1) := by
    unfold wp_X7_fails_8
    rintro _ rfl
    exact gx_fa hd hv hm ⟨ht, hs⟩ 1 (by decide) _
  rw [gx_rqC hv]
  refine ⟨fun ha => ⟨rfl, vp_in_nI (by omega) (by omega), vp_in_nI (by omega) (by omega), ?_⟩, fun ha => ?_⟩
  · rw [gx_itM hm hd, gx_b0]
    exact ⟨fun _ => hf, fun e => absurd ha e⟩
  rw [gx_iwC, gx_b0]
  refine ⟨fun hb => ⟨rfl, vp_in_nI (by omega) (by omega), vp_in_nI (by omega) (by omega), ?_⟩, fun hb => ?_⟩
  · rw [gx_itM hm hd, gx_b0]
    refine ⟨fun _ => hf, fun _ => ?_⟩
    rw [gx_lit64.1, gx_lit64.2.2.2.2.2.1, gx_iwM, gx_b0]
    exact ⟨fun _ => hf, fun e => absurd hb e⟩
  obtain ⟨i, hi, rfl⟩ := gx_it_ex hd (gx_bt ha)
  obtain ⟨w, hw, rfl⟩ := gx_row_ex (gx_bt hb) (N := 4) (by decide)
  obtain ⟨k, hk, rfl⟩ := gx_it_onto hi
  refine gx_layC hv hd (fun M1 hF1 hcl => ?_)
  obtain ⟨c0, c1, c2, c3⟩ := gx_clv hcl hk
  -- behind the class's answer
  have nxt : ∀ v : Int32, v = gx_co D k w → ∀ M3 : fx_Mem, M3 = fx_sl M1 9 0 v.toInt64 → vp_in (nI (j + 1)) L ∧ vp_in (nI (j + 2)) L ∧ wp_X7_isItem_8 (nI (gx_it D k)) M3 (fun r2 M1 => ((r2 = 0 → wp_X7_fails_8 1 M1 (fun r2 M1 => gx_T L xs (gx_K j) (nI j) 0 r2.toInt64 M1)) ∧ (¬ r2 = 0 → wp_X7_isBetween (nI w).toInt64 0 3 M1 (fun r5 M4 => ((r5 = 0 → wp_X7_fails_8 1 M4 (fun r2 M1 => gx_T L xs (gx_K j) (nI j) 0 r2.toInt64 M1)) ∧ (¬ r5 = 0 → ∀ M7 : fx_Mem, M7 = fx_si M4 512 0 → wp_X7_findLayout_8  M7 (fun M8 => vp_in (nI (gx_it D k)) 20 ∧ wp_X7_coordinate_8 (M8.2.1 45 (nI (gx_it D k)).toNatClampNeg) (nI w) M8 (fun r11 M10 => gx_T L xs (gx_K j) (nI j) 0 r11.toInt64 M10)))))))) := by
    rintro _ rfl _ rfl
    have hF2 := gx_F1 hF1 (gx_co D k w).toInt64
    refine ⟨vp_in_nI (by omega) (by omega), vp_in_nI (by omega) (by omega), ?_⟩
    rw [gx_itM (gx_MVF hm hF2) hd, gx_b0]
    refine ⟨fun e => absurd e ha, fun _ => ?_⟩
    rw [gx_lit64.1, gx_lit64.2.2.2.2.2.1, gx_iwM, gx_b0]
    refine ⟨fun e => absurd e hb, fun _ => ?_⟩
    rintro _ rfl
    have hF3 := gx_F2 hF2 0
    refine gx_layM2 (gx_MVF hm hF3) hd (fun M2 hfr2 e512 e9 hv2 hml => ?_)
    obtain ⟨q0, q1, q2, q3, q4, q5, q6⟩ := gx_mlv hd hml hk
    rw [nI_clamp (n := gx_it D k) (by omega), q6, gx_coM hv2 hd hml hk hw rfl]
    refine ⟨vp_in_nI (by omega) (by omega), ?_⟩
    exact gx_tl (by rw [e512, gx_r1]) (fun _ => by rw [e9, gx_r3, gx_re, pk_uLs]) (gx_lookI hd hv hm ht hs (gx_fr_tr hF3 hfr2))
  exact gx_bxC (gx_CV_fr hn (by decide) (by decide) hF1 hv) hd hcl hk hw (nxt _ rfl)
def gx_ov (D : gx_D) (k : Nat) : Bool := decide (gx_v1 D k < 0 ∨ D.2.1 0 < gx_v1 D k + gx_v0 D k ∨ gx_v3 D k < 0 ∨ ¬ gx_v3 D k + gx_v2 D k ≤ gx_ex D)
theorem gx_case21 {L : Nat} {xs : Nat → Int32} {j : Nat} {M : fx_Mem} (hL : L ≤ 2048) (hj : j + 4 ≤ L) (h : gx_Inv M) : wb_law_1285 L xs (gx_K j) (nI j) M := by
  obtain ⟨D, hd, hv, hm, ht, hs⟩ := h
  have hn := hd.1
  unfold wb_law_1285 wp_L_overflows_0_9 wp_X6_overflows_0 wp_X7_overflows_8 wp_X7_thrown_8 wb_law_1339
  rw [nI_1 j, nI_clamp (n := j + 1) (by omega)]
  generalize xs (j + 1) = a
  refine ⟨vp_in_nI (by omega) (by omega), ?_⟩
  rw [gx_rqC hv]
  refine ⟨fun ha => ⟨rfl, vp_in_nI (by omega) (by omega), ?_⟩, fun ha => ?_⟩
  · rw [gx_itM hm hd, gx_b0]
    refine ⟨fun _ => ?_, fun e => absurd ha e⟩
    unfold wb_X7_overflows_8_14
    rintro _ rfl
    rw [gx_r1]
    have hF := gx_F2 (gx_fr_rfl [322, 452, 512, 542, 543] [16, 18, 19, 20, 21, 22, 23, 24, 25, 26, 27, 28, 29, 39, 40, 41, 42, 43, 44, 45, 46, 47, 48, 49, 50, 51, 52, 53, 54, 55] [9, 15, 17, 36, 37, 38] M) 1
    exact ⟨fun e => absurd e (by decide), fun _ => ⟨fun _ => ⟨fun e => absurd e (by decide), fun _ => gx_nx (gx_lookI hd hv hm ht hs hF)⟩, fun e => e (gx_r1 _ _ _)⟩⟩
  obtain ⟨i, hi, rfl⟩ := gx_it_ex hd (gx_bt ha)
  obtain ⟨k, hk, rfl⟩ := gx_it_onto hi
  refine gx_layC hv hd (fun M1 hF1 hcl => ?_)
  have hv1 : gx_CV D M1 := gx_CV_fr hn (by decide) (by decide) hF1 hv
  obtain ⟨c0, c1, c2, c3⟩ := gx_clv hcl hk
  have hii : vp_in (nI (gx_it D k)) 20 := vp_in_nI (by omega) (by omega)
  rw [nI_clamp (n := gx_it D k) (by omega), c1, c3]
  refine ⟨hii, ?_⟩
  rintro _ rfl
  refine ⟨hii, ?_⟩
  rintro _ rfl
  rw [c0, c2, hv1.1, hcl.2.2.2.1]
  -- behind the class's answer
  have nxt : ∀ b : Bool, b = gx_ov D k → ((gx_b b = 0 → wb_L_overflows_0_9_15 (fun r3 M2 => vp_in (nI (j + 1)) L ∧ wp_X7_isItem_8 (nI (gx_it D k)) M2 (fun r2 M1 => ((r2 = 0 → wb_X7_overflows_8_14 (fun r6 M5 => ((M5.1 512 = r3 → ((r3 = 0 → ((r6 = 0 → ((lg_cmp (M5.2.2 9 0) 0 = 0 → wb_law_1622 L xs (gx_K j) (nI j) M5) ∧ (¬ lg_cmp (M5.2.2 9 0) 0 = 0 → False))) ∧ (¬ r6 = 0 → ((lg_cmp (M5.2.2 9 0) 1 = 0 → wb_law_1622 L xs (gx_K j) (nI j) M5) ∧ (¬ lg_cmp (M5.2.2 9 0) 1 = 0 → False))))) ∧ (¬ r3 = 0 → wb_law_1622 L xs (gx_K j) (nI j) M5))) ∧ (¬ M5.1 512 = r3 → False))) (nI (gx_it D k)) 1 M1) ∧ (¬ r2 = 0 → wb_X7_overflows_8_14 (fun r6 M5 => ((M5.1 512 = r3 → ((r3 = 0 → ((r6 = 0 → ((lg_cmp (M5.2.2 9 0) 0 = 0 → wb_law_1622 L xs (gx_K j) (nI j) M5) ∧ (¬ lg_cmp (M5.2.2 9 0) 0 = 0 → False))) ∧ (¬ r6 = 0 → ((lg_cmp (M5.2.2 9 0) 1 = 0 → wb_law_1622 L xs (gx_K j) (nI j) M5) ∧ (¬ lg_cmp (M5.2.2 9 0) 1 = 0 → False))))) ∧ (¬ r3 = 0 → wb_law_1622 L xs (gx_K j) (nI j) M5))) ∧ (¬ M5.1 512 = r3 → False))) (nI (gx_it D k)) 0 M1)))) 0 0 M1) ∧ (¬ gx_b b = 0 → wb_L_overflows_0_9_15 (fun r3 M2 => vp_in (nI (j + 1)) L ∧ wp_X7_isItem_8 (nI (gx_it D k)) M2 (fun r2 M1 => ((r2 = 0 → wb_X7_overflows_8_14 (fun r6 M5 => ((M5.1 512 = r3 → ((r3 = 0 → ((r6 = 0 → ((lg_cmp (M5.2.2 9 0) 0 = 0 → wb_law_1622 L xs (gx_K j) (nI j) M5) ∧ (¬ lg_cmp (M5.2.2 9 0) 0 = 0 → False))) ∧ (¬ r6 = 0 → ((lg_cmp (M5.2.2 9 0) 1 = 0 → wb_law_1622 L xs (gx_K j) (nI j) M5) ∧ (¬ lg_cmp (M5.2.2 9 0) 1 = 0 → False))))) ∧ (¬ r3 = 0 → wb_law_1622 L xs (gx_K j) (nI j) M5))) ∧ (¬ M5.1 512 = r3 → False))) (nI (gx_it D k)) 1 M1) ∧ (¬ r2 = 0 → wb_X7_overflows_8_14 (fun r6 M5 => ((M5.1 512 = r3 → ((r3 = 0 → ((r6 = 0 → ((lg_cmp (M5.2.2 9 0) 0 = 0 → wb_law_1622 L xs (gx_K j) (nI j) M5) ∧ (¬ lg_cmp (M5.2.2 9 0) 0 = 0 → False))) ∧ (¬ r6 = 0 → ((lg_cmp (M5.2.2 9 0) 1 = 0 → wb_law_1622 L xs (gx_K j) (nI j) M5) ∧ (¬ lg_cmp (M5.2.2 9 0) 1 = 0 → False))))) ∧ (¬ r3 = 0 → wb_law_1622 L xs (gx_K j) (nI j) M5))) ∧ (¬ M5.1 512 = r3 → False))) (nI (gx_it D k)) 0 M1)))) 1 0 M1)) := by
    intro b hb
    have go : ∀ y : Int64, y = (if b then 1 else 0) → wb_L_overflows_0_9_15 (fun r3 M2 => vp_in (nI (j + 1)) L ∧ wp_X7_isItem_8 (nI (gx_it D k)) M2 (fun r2 M1 => ((r2 = 0 → wb_X7_overflows_8_14 (fun r6 M5 => ((M5.1 512 = r3 → ((r3 = 0 → ((r6 = 0 → ((lg_cmp (M5.2.2 9 0) 0 = 0 → wb_law_1622 L xs (gx_K j) (nI j) M5) ∧ (¬ lg_cmp (M5.2.2 9 0) 0 = 0 → False))) ∧ (¬ r6 = 0 → ((lg_cmp (M5.2.2 9 0) 1 = 0 → wb_law_1622 L xs (gx_K j) (nI j) M5) ∧ (¬ lg_cmp (M5.2.2 9 0) 1 = 0 → False))))) ∧ (¬ r3 = 0 → wb_law_1622 L xs (gx_K j) (nI j) M5))) ∧ (¬ M5.1 512 = r3 → False))) (nI (gx_it D k)) 1 M1) ∧ (¬ r2 = 0 → wb_X7_overflows_8_14 (fun r6 M5 => ((M5.1 512 = r3 → ((r3 = 0 → ((r6 = 0 → ((lg_cmp (M5.2.2 9 0) 0 = 0 → wb_law_1622 L xs (gx_K j) (nI j) M5) ∧ (¬ lg_cmp (M5.2.2 9 0) 0 = 0 → False))) ∧ (¬ r6 = 0 → ((lg_cmp (M5.2.2 9 0) 1 = 0 → wb_law_1622 L xs (gx_K j) (nI j) M5) ∧ (¬ lg_cmp (M5.2.2 9 0) 1 = 0 → False))))) ∧ (¬ r3 = 0 → wb_law_1622 L xs (gx_K j) (nI j) M5))) ∧ (¬ M5.1 512 = r3 → False))) (nI (gx_it D k)) 0 M1)))) y 0 M1 := by
      rintro _ rfl
      unfold wb_L_overflows_0_9_15
      refine ⟨show vp_in (nI 0) 1 from vp_in_nI (by omega) (by omega), ?_⟩
      rintro _ rfl
      have e0 : (0 : Int32).toNatClampNeg = 0 := rfl
      rw [e0]
      have hF2 := gx_F1 hF1 (if b then 1 else 0)
      refine ⟨vp_in_nI (by omega) (by omega), ?_⟩
      rw [gx_itM (gx_MVF hm hF2) hd, gx_b0]
      refine ⟨fun e => absurd e ha, fun _ => ?_⟩
      unfold wb_X7_overflows_8_14 wb_X7_overflows_8_97
      rintro _ rfl
      have hF3 := gx_F2 hF2 0
      rw [gx_r1]
      refine ⟨fun _ => gx_layM2 (gx_MVF hm hF3) hd (fun M2 hfr2 e512 e9 hv2 hml => ?_), fun e => absurd (by decide) e⟩
      obtain ⟨q0, q1, q2, q3, q4, q5, q6⟩ := gx_mlv hd hml hk
      rw [nI_clamp (n := gx_it D k) (by omega), q6]
      refine ⟨hii, ?_⟩
      rintro _ rfl
      have hki : vp_in (nI k) 20 := vp_in_nI (by omega) (by omega)
      rw [nI_clamp (n := k) (by omega), q0, q1, q2, q3, hv2.1 0 (by decide), hml.2.2.1]
      have hI := gx_lookI hd hv hm ht hs (gx_fr_tr hF3 hfr2)
      have h512 : M2.1 512 = 0 := by rw [e512, gx_r1]
      have h9 : M2.2.2 9 0 = if b then 1 else 0 := by rw [e9, gx_r3, gx_re, pk_uLs]
      have fin : ∀ r6 : Int32, r6 = gx_b b → ((M2.1 512 = 0 → (((0 : Int32) = 0 → ((r6 = 0 → ((lg_cmp (M2.2.2 9 0) 0 = 0 → wb_law_1622 L xs (gx_K j) (nI j) M2) ∧ (¬ lg_cmp (M2.2.2 9 0) 0 = 0 → False))) ∧ (¬ r6 = 0 → ((lg_cmp (M2.2.2 9 0) 1 = 0 → wb_law_1622 L xs (gx_K j) (nI j) M2) ∧ (¬ lg_cmp (M2.2.2 9 0) 1 = 0 → False))))) ∧ (¬ (0 : Int32) = 0 → wb_law_1622 L xs (gx_K j) (nI j) M2))) ∧ (¬ M2.1 512 = 0 → False)) := by
        rintro _ rfl
        rw [gx_b0]
        refine ⟨fun _ => ⟨fun _ => ⟨fun e => ⟨fun _ => gx_nx hI, fun e2 => e2 ?_⟩, fun e => ⟨fun _ => gx_nx hI, fun e2 => e2 ?_⟩⟩, fun _ => gx_nx hI⟩, fun e => e h512⟩
        · rw [lg_cmp_eq, h9, e]; rfl
        · rw [lg_cmp_eq, h9, gx_bt e]; rfl
      rw [hb] at fin
      unfold gx_ov at fin
      refine ⟨hki, fun c1 => fin 1 ?_, fun c1 => ⟨hki, hki, fun c2 => fin 1 ?_, fun c2 => ⟨hki, fun c3 => fin 1 ?_, fun c3 => ⟨hki, hki, fun c4 => fin 0 ?_, fun c4 => fin 1 ?_⟩⟩⟩⟩
      · simp [c1, gx_b]
      · simp [c2, gx_b]
      · simp [c3, gx_b]
      · simp [c1, c2, c3, c4, gx_b]
      · simp [c4, gx_b]
    refine ⟨fun e => go _ ?_, fun e => go _ ?_⟩
    · rw [gx_b0] at e; rw [e]; rfl
    · rw [gx_b0] at e; rw [gx_bt e]; rfl
  unfold wb_X6_overflows_0_79
  unfold gx_ov at nxt
  refine ⟨fun c1 => nxt true ?_, fun c1 => ⟨hii, fun c2 => nxt true ?_, fun c2 => ⟨fun c3 => nxt true ?_, fun c3 => ⟨hii, fun c4 => nxt false ?_, fun c4 => nxt true ?_⟩⟩⟩⟩
  · simp [c1]
  · simp [c2]
  · simp [c3]
  · simp [c1, c2, c3, c4]
  · simp [c4]
