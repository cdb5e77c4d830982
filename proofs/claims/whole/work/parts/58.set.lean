/-! the cases of the law that set the box -/
theorem gx_j2 (j : Nat) : nI j + 2 = nI (j + 2) := nI_add j 2
theorem gx_j3 (j : Nat) : nI j + 3 = nI (j + 3) := nI_add j 3
theorem gx_ub_ok {D : gx_D} (hd : gx_ok D) {k : Nat} {v : Int32} (h0 : k = 0 → 0 ≤ v.toInt ∧ v.toInt ≤ 9999) (h1 : k = 1 → -1 ≤ v.toInt ∧ v.toInt ≤ 9999) (h2 : k = 2 → 0 ≤ v.toInt ∧ v.toInt ≤ 99) (h3 : k = 3 → 0 ≤ v.toInt ∧ v.toInt ≤ 99) (h4 : ∀ s, k = 4 + s → 0 ≤ v.toInt ∧ v.toInt ≤ (fx_tHS s).toInt) : gx_ok (gx_ub D k v) := by
  obtain ⟨d0, d1, d2, d3, d4, d5, d6⟩ := hd
  unfold gx_ub
  refine ⟨d0, ?_, ?_, ?_, ?_, fun s hs => ?_, d6⟩
  · show 0 ≤ (if 0 = k then v else D.2.1 0).toInt ∧ (if 0 = k then v else D.2.1 0).toInt ≤ 9999
    split
    · exact h0 (by omega)
    · exact d1
  · show -1 ≤ (if 1 = k then v else D.2.1 1).toInt ∧ (if 1 = k then v else D.2.1 1).toInt ≤ 9999
    split
    · exact h1 (by omega)
    · exact d2
  · show 0 ≤ (if 2 = k then v else D.2.1 2).toInt ∧ (if 2 = k then v else D.2.1 2).toInt ≤ 99
    split
    · exact h2 (by omega)
    · exact d3
  · show 0 ≤ (if 3 = k then v else D.2.1 3).toInt ∧ (if 3 = k then v else D.2.1 3).toInt ≤ 99
    split
    · exact h3 (by omega)
    · exact d4
  · show 0 ≤ (if 4 + s = k then v else D.2.1 (4 + s)).toInt ∧ (if 4 + s = k then v else D.2.1 (4 + s)).toInt ≤ (fx_tHS s).toInt
    split
    · exact h4 s (by omega)
    · exact d5 s hs
theorem gx_CV_u0 {D : gx_D} {M : fx_Mem} (hv : gx_CV D M) (v : Int32) : gx_CV (gx_ub D 0 v) (fx_si M 64 v) := by
  obtain ⟨v1, v2, v3, v4, v5, v6, v7⟩ := hv
  exact ⟨gx_r1 _ _ _, v2, v3, v4, fun k hk => by rw [gx_r3]; show _ = if 4 + k = 0 then v else D.2.1 (4 + k); rw [if_neg (by omega)]; exact v5 k hk, v6, v7⟩
theorem gx_CV_u1 {D : gx_D} {M : fx_Mem} (hv : gx_CV D M) (v : Int32) : gx_CV (gx_ub D 1 v) (fx_si M 65 v) := by
  obtain ⟨v1, v2, v3, v4, v5, v6, v7⟩ := hv
  exact ⟨v1, gx_r1 _ _ _, v3, v4, fun k hk => by rw [gx_r3]; show _ = if 4 + k = 1 then v else D.2.1 (4 + k); rw [if_neg (by omega)]; exact v5 k hk, v6, v7⟩
theorem gx_CV_u2 {D : gx_D} {M : fx_Mem} (hv : gx_CV D M) (v : Int32) : gx_CV (gx_ub D 2 v) (fx_si M 66 v) := by
  obtain ⟨v1, v2, v3, v4, v5, v6, v7⟩ := hv
  exact ⟨v1, v2, gx_r1 _ _ _, v4, fun k hk => by rw [gx_r3]; show _ = if 4 + k = 2 then v else D.2.1 (4 + k); rw [if_neg (by omega)]; exact v5 k hk, v6, v7⟩
theorem gx_CV_u3 {D : gx_D} {M : fx_Mem} (hv : gx_CV D M) (v : Int32) : gx_CV (gx_ub D 3 v) (fx_si M 67 v) := by
  obtain ⟨v1, v2, v3, v4, v5, v6, v7⟩ := hv
  exact ⟨v1, v2, v3, gx_r1 _ _ _, fun k hk => by rw [gx_r3]; show _ = if 4 + k = 3 then v else D.2.1 (4 + k); rw [if_neg (by omega)]; exact v5 k hk, v6, v7⟩
theorem gx_CV_us {D : gx_D} {M : fx_Mem} (hd : gx_ok D) (hv : gx_CV D M) {s : Nat} (v : Int32) : gx_CV (gx_ub D (4 + s) v) (fx_sa M 10 s v) := by
  obtain ⟨v1, v2, v3, v4, v5, v6, v7⟩ := hv
  have hn := hd.1
  refine ⟨?_, ?_, ?_, ?_, fun k hk => ?_, v6, fun i hi p hp => ?_⟩
  · show _ = if 0 = 4 + s then v else D.2.1 0
    rw [if_neg (by omega)]; exact v1
  · show _ = if 1 = 4 + s then v else D.2.1 1
    rw [if_neg (by omega)]; exact v2
  · show _ = if 2 = 4 + s then v else D.2.1 2
    rw [if_neg (by omega)]; exact v3
  · show _ = if 3 = 4 + s then v else D.2.1 3
    rw [if_neg (by omega)]; exact v4
  · rw [gx_ra]
    show _ = if 4 + k = 4 + s then v else D.2.1 (4 + k)
    by_cases e : k = s
    · rw [e, pk_us, if_pos rfl]
    · rw [pk_un e, if_neg (by omega)]; exact v5 k hk
  · have hi2 : i < D.2.2 := hi
    rw [gx_rb _ _ _ (by omega)]; exact v7 i hi p hp
/-- both sides have taken the new box -/
theorem gx_bxfin {D' : gx_D} {M2 M' : fx_Mem} (hd' : gx_ok D') (hv : gx_CV D' M2) (hr : gx_TX M2 ∧ gx_SK M2) (hfr : gx_fr [512] [30] [] M2 M') (hm : gx_MV D' M') : gx_Inv M' := by
  have h2 := gx_rest (by decide) (by decide) hfr hr
  exact ⟨D', hd', gx_CV_fr hd'.1 (by decide) (by decide) hfr hv, hm, h2.1, h2.2⟩
theorem gx_lit64 : (0 : Int64) = (0 : Int32).toInt64 ∧ (9999 : Int64) = (9999 : Int32).toInt64 ∧ (99 : Int64) = (99 : Int32).toInt64 ∧ (4 : Int64) = (4 : Int32).toInt64 ∧ (9 : Int64) = (9 : Int32).toInt64 ∧ (3 : Int64) = (3 : Int32).toInt64 ∧ (-1 : Int64) = (-1 : Int32).toInt64 ∧ (20 : Int64) = (20 : Int32).toInt64 ∧ (1 : Int64) = (1 : Int32).toInt64 ∧ (99999 : Int64) = (99999 : Int32).toInt64 := by decide
theorem gx_case0 {L : Nat} {xs : Nat → Int32} {j : Nat} {M : fx_Mem} (hL : L ≤ 2048) (hj : j + 4 ≤ L) (h : gx_Inv M) : wb_law_164 L xs (gx_K j) (nI j) M := by
  obtain ⟨D, hd, hv, hm, ht, hs⟩ := h
  unfold wb_law_164 wp_L_setMainSize_0_9 wp_X6_setMainSize_0 wp_X7_setMainSize_8 wp_X7_thrown_8
  rw [nI_1 j, nI_clamp (by omega)]
  generalize xs (j + 1) = a
  refine ⟨vp_in_nI (by omega) (by omega), ?_⟩
  rw [gx_iwC, gx_b0]
  refine ⟨fun hb => ⟨rfl, vp_in_nI (by omega) (by omega), ?_⟩, fun hb => ?_⟩
  · rw [gx_lit64.1, gx_lit64.2.1, gx_iwM, gx_b0]
    refine ⟨fun _ => ?_, fun e => absurd hb e⟩
    unfold wp_X7_fails_8
    rintro _ rfl
    exact gx_fa hd hv hm ⟨ht, hs⟩ 1 (by decide) _
  · rw [hv.1]
    rintro _ rfl _ rfl _ rfl
    have hb2 := gx_in_t (gx_bt hb)
    rw [show (0 : Int32).toInt = 0 from rfl, show (9999 : Int32).toInt = 9999 from rfl] at hb2
    have hfr : gx_fr [64] [] [9] M (fx_sl (fx_si M 64 a) 9 0 (D.2.1 0).toInt64) := gx_fr_sl _ _ (gx_fr_si _ (gx_fr_rfl _ _ _ _) (by decide)) (by decide)
    have hd' : gx_ok (gx_ub D 0 a) := gx_ub_ok hd (fun _ => hb2) (fun e => absurd e (by decide)) (fun e => absurd e (by decide)) (fun e => absurd e (by decide)) (fun s e => absurd e (by omega))
    have hv' : gx_CV (gx_ub D 0 a) (fx_sl (fx_si M 64 a) 9 0 (D.2.1 0).toInt64) := gx_CV_9 hd' (gx_CV_u0 hv a) _
    have hm' := gx_MV_fr (by decide) (by decide) hfr hm
    have hr' := gx_rest (by decide) (by decide) hfr ⟨ht, hs⟩
    refine ⟨vp_in_nI (by omega) (by omega), ?_⟩
    rw [gx_lit64.1, gx_lit64.2.1, gx_iwM, gx_b0]
    refine ⟨fun e => absurd e hb, fun _ => gx_reM hm' (k := 0) (by decide) rfl a ?_⟩
    refine gx_tl (by rw [gx_r8, gx_r1]) (fun _ => by rw [gx_r9, gx_r3, gx_re, pk_uLs]) (gx_bxfin hd' hv' hr' (gx_fr_sa _ _ (gx_fr_si _ (gx_fr_rfl _ _ _ _) (by decide)) (by decide)) (gx_MV_u (gx_MV_512 hm' _) a))
theorem gx_case1 {L : Nat} {xs : Nat → Int32} {j : Nat} {M : fx_Mem} (hL : L ≤ 2048) (hj : j + 4 ≤ L) (h : gx_Inv M) : wb_law_220 L xs (gx_K j) (nI j) M := by
  obtain ⟨D, hd, hv, hm, ht, hs⟩ := h
  unfold wb_law_220 wp_L_setCrossSize_0_9 wp_X6_setCrossSize_0 wp_X7_setCrossSize_8 wp_X7_thrown_8 wb_X6_setCrossSize_0_26
  rw [nI_1 j, nI_clamp (by omega)]
  generalize xs (j + 1) = a
  refine ⟨vp_in_nI (by omega) (by omega), ?_⟩
  have good : gx_in a (-1) 9999 = true → (∀ v1 : Int32, v1 = M.1 65 → ∀ M2 : fx_Mem, M2 = fx_si M 65 a → ∀ M3 : fx_Mem, M3 = fx_sl M2 9 0 v1.toInt64 → vp_in (nI (j + 1)) L ∧ wp_X7_isBetween a.toInt64 (-1) 9999 M3 (fun r2 M1 => ((r2 = 0 → wp_X7_fails_8 1 M1 (fun r5 M4 => gx_T L xs (gx_K j) (nI j) 0 r5.toInt64 M4)) ∧ (¬ r2 = 0 → wp_X7_replaces_8 1 a M1 (fun r7 M6 => gx_T L xs (gx_K j) (nI j) 0 r7.toInt64 M6))))) := by
    intro hb
    rw [hv.2.1]
    rintro _ rfl _ rfl _ rfl
    have hb2 := gx_in_t hb
    rw [show (-1 : Int32).toInt = -1 from by decide, show (9999 : Int32).toInt = 9999 from rfl] at hb2
    have hfr : gx_fr [65] [] [9] M (fx_sl (fx_si M 65 a) 9 0 (D.2.1 1).toInt64) := gx_fr_sl _ _ (gx_fr_si _ (gx_fr_rfl _ _ _ _) (by decide)) (by decide)
    have hd' : gx_ok (gx_ub D 1 a) := gx_ub_ok hd (fun e => absurd e (by decide)) (fun _ => hb2) (fun e => absurd e (by decide)) (fun e => absurd e (by decide)) (fun s e => absurd e (by omega))
    have hv' : gx_CV (gx_ub D 1 a) (fx_sl (fx_si M 65 a) 9 0 (D.2.1 1).toInt64) := gx_CV_9 hd' (gx_CV_u1 hv a) _
    have hm' := gx_MV_fr (by decide) (by decide) hfr hm
    have hr' := gx_rest (by decide) (by decide) hfr ⟨ht, hs⟩
    refine ⟨vp_in_nI (by omega) (by omega), ?_⟩
    rw [gx_lit64.2.2.2.2.2.2.1, gx_lit64.2.1, gx_iwM, hb]
    refine ⟨fun e => absurd e (by decide), fun _ => gx_reM hm' (k := 1) (by decide) rfl a ?_⟩
    refine gx_tl (by rw [gx_r8, gx_r1]) (fun _ => by rw [gx_r9, gx_r3, gx_re, pk_uLs]) (gx_bxfin hd' hv' hr' (gx_fr_sa _ _ (gx_fr_si _ (gx_fr_rfl _ _ _ _) (by decide)) (by decide)) (gx_MV_u (gx_MV_512 hm' _) a))
  have hz : (0 : Int32).toInt = 0 := rfl
  have hm1 : (-1 : Int32).toInt = -1 := by decide
  rw [gx_iwC, gx_b0]
  refine ⟨fun e => good ?_, fun e => ⟨fun hb => ⟨rfl, vp_in_nI (by omega) (by omega), ?_⟩, fun hb => good ?_⟩⟩
  · rw [e]; decide
  · have hb2 : gx_in a (-1) 9999 = false := by
      cases hc : gx_in a (-1) 9999 with
      | false => rfl
      | true =>
        have h1 := gx_in_t hc
        have h2 : ¬ (gx_in a 0 9999 = true) := by rw [hb]; decide
        rw [gx_in_i, hz] at h2
        rw [fa_eq, hm1] at e
        rw [hm1] at h1
        exact absurd ⟨by omega, h1.2⟩ h2
    rw [gx_lit64.2.2.2.2.2.2.1, gx_lit64.2.1, gx_iwM, gx_b0]
    refine ⟨fun _ => ?_, fun e2 => absurd hb2 e2⟩
    unfold wp_X7_fails_8
    rintro _ rfl
    exact gx_fa hd hv hm ⟨ht, hs⟩ 1 (by decide) _
  · have h1 := gx_in_t (gx_bt hb)
    rw [hz] at h1
    rw [gx_in_i, hm1]; omega
theorem gx_case2 {L : Nat} {xs : Nat → Int32} {j : Nat} {M : fx_Mem} (hL : L ≤ 2048) (hj : j + 4 ≤ L) (h : gx_Inv M) : wb_law_276 L xs (gx_K j) (nI j) M := by
  obtain ⟨D, hd, hv, hm, ht, hs⟩ := h
  unfold wb_law_276 wp_L_setGaps_0_9 wp_X6_setGaps_0 wp_X7_setGaps_8 wp_X7_thrown_8 wb_X6_setGaps_0_20 wb_X7_setGaps_8_24
  rw [nI_1 j, gx_j2 j, nI_clamp (n := j + 1) (by omega), nI_clamp (n := j + 2) (by omega)]
  generalize xs (j + 1) = a
  generalize xs (j + 2) = b
  refine ⟨vp_in_nI (by omega) (by omega), vp_in_nI (by omega) (by omega), ?_⟩
  have bad : gx_in a 0 99 = false ∨ gx_in b 0 99 = false → wp_X7_isBetween a.toInt64 0 99 M (fun r2 M1 => ((r2 = 0 → wp_X7_fails_8 1 M1 (fun r2 M1 => gx_T L xs (gx_K j) (nI j) 1 r2.toInt64 M1)) ∧ (¬ r2 = 0 → wp_X7_isBetween b.toInt64 0 99 M1 (fun r5 M4 => ((r5 = 0 → wp_X7_fails_8 1 M4 (fun r2 M1 => gx_T L xs (gx_K j) (nI j) 1 r2.toInt64 M1)) ∧ (¬ r5 = 0 → wp_X7_replaces_8 2 a M4 (fun r8 M7 => ∀ v9 : Int32, v9 = 100 * r8 → wp_X7_replaces_8 3 b M7 (fun r11 M10 => gx_T L xs (gx_K j) (nI j) 1 (v9 + r11).toInt64 M10)))))))) := by
    intro hc
    have hf : wp_X7_fails_8 1 M (fun r2 M1 => gx_T L xs (gx_K j) (nI j) 1 r2.toInt64 M1) := by
      unfold wp_X7_fails_8
      rintro _ rfl
      exact gx_fa hd hv hm ⟨ht, hs⟩ 1 (by decide) _
    rw [gx_lit64.1, gx_lit64.2.2.1, gx_iwM, gx_b0]
    refine ⟨fun _ => hf, fun e => ?_⟩
    rw [gx_iwM, gx_b0]
    refine ⟨fun _ => hf, fun e2 => ?_⟩
    rcases hc with x | x
    · exact absurd x e
    · exact absurd x e2
  rw [gx_iwC, gx_b0]
  refine ⟨fun ha => ⟨rfl, vp_in_nI (by omega) (by omega), vp_in_nI (by omega) (by omega), bad (Or.inl ha)⟩, fun ha => ?_⟩
  rw [gx_iwC, gx_b0]
  refine ⟨fun hb => ⟨rfl, vp_in_nI (by omega) (by omega), vp_in_nI (by omega) (by omega), bad (Or.inr hb)⟩, fun hb => ?_⟩
  rw [hv.2.2.1, hv.2.2.2.1]
  rintro _ rfl _ rfl _ rfl _ rfl
  have ha2 := gx_in_t (gx_bt ha)
  have hb2 := gx_in_t (gx_bt hb)
  rw [show (0 : Int32).toInt = 0 from rfl, show (99 : Int32).toInt = 99 from rfl] at ha2 hb2
  generalize hM2 : fx_sl (fx_si (fx_si M 66 a) 67 b) 9 0 (100 * D.2.1 2 + D.2.1 3).toInt64 = M2
  have hfr : gx_fr [66, 67] [] [9] M M2 := by rw [← hM2]; exact gx_fr_sl _ _ (gx_fr_si _ (gx_fr_si _ (gx_fr_rfl _ _ _ _) (by decide)) (by decide)) (by decide)
  have hd1 : gx_ok (gx_ub D 2 a) := gx_ub_ok hd (fun e => absurd e (by decide)) (fun e => absurd e (by decide)) (fun _ => ha2) (fun e => absurd e (by decide)) (fun s e => absurd e (by omega))
  have hd' : gx_ok (gx_ub (gx_ub D 2 a) 3 b) := gx_ub_ok hd1 (fun e => absurd e (by decide)) (fun e => absurd e (by decide)) (fun e => absurd e (by decide)) (fun _ => hb2) (fun s e => absurd e (by omega))
  have hv' : gx_CV (gx_ub (gx_ub D 2 a) 3 b) M2 := by rw [← hM2]; exact gx_CV_9 hd' (gx_CV_u3 (gx_CV_u2 hv a) b) _
  have hm' := gx_MV_fr (by decide) (by decide) hfr hm
  have hr' := gx_rest (by decide) (by decide) hfr ⟨ht, hs⟩
  have ho : M2.2.2 9 0 = (100 * D.2.1 2 + D.2.1 3).toInt64 := by rw [← hM2, gx_re, pk_uLs]
  clear hM2
  refine ⟨vp_in_nI (by omega) (by omega), vp_in_nI (by omega) (by omega), ?_⟩
  rw [gx_lit64.1, gx_lit64.2.2.1, gx_iwM, gx_b0]
  refine ⟨fun e => absurd e ha, fun _ => ?_⟩
  rw [gx_iwM, gx_b0]
  refine ⟨fun e => absurd e hb, fun _ => gx_reM hm' (k := 2) (by decide) rfl a ?_⟩
  rintro _ rfl
  have hm2 := gx_MV_u (k := 2) (gx_MV_512 hm' 0) a
  refine gx_reM hm2 (k := 3) (by decide) rfl b ?_
  have e3 : (gx_ub D 2 a).2.1 3 = D.2.1 3 := rfl
  rw [e3]
  refine gx_tl (by rw [gx_r8, gx_r1]) (fun _ => by rw [gx_r9, gx_r3, gx_r9, gx_r3]; exact ho) (gx_bxfin hd' hv' hr' (gx_fr_sa _ _ (gx_fr_si _ (gx_fr_sa _ _ (gx_fr_si _ (gx_fr_rfl _ _ _ _) (by decide)) (by decide)) (by decide)) (by decide)) (gx_MV_u (gx_MV_512 hm2 0) b))
theorem gx_case3 {L : Nat} {xs : Nat → Int32} {j : Nat} {M : fx_Mem} (hL : L ≤ 2048) (hj : j + 4 ≤ L) (h : gx_Inv M) : wb_law_344 L xs (gx_K j) (nI j) M := by
  obtain ⟨D, hd, hv, hm, ht, hs⟩ := h
  unfold wb_law_344 wp_L_setSetting_0_9 wp_X6_setSetting_0 wp_X7_setSetting_8 wp_X7_thrown_8
  rw [nI_1 j, gx_j2 j, nI_clamp (n := j + 1) (by omega), nI_clamp (n := j + 2) (by omega)]
  generalize xs (j + 1) = a
  generalize xs (j + 2) = b
  refine ⟨vp_in_nI (by omega) (by omega), vp_in_nI (by omega) (by omega), ?_⟩
  rw [gx_iwC, gx_b0]
  refine ⟨fun ha => Or.inl ⟨rfl, vp_in_nI (by omega) (by omega), vp_in_nI (by omega) (by omega), ?_⟩, fun ha => ?_⟩
  · rw [gx_lit64.1, gx_lit64.2.2.2.1, gx_iwM, gx_b0]
    refine ⟨fun _ => ?_, fun e => absurd ha e⟩
    unfold wp_X7_fails_8
    rintro _ rfl
    exact gx_fa hd hv hm ⟨ht, hs⟩ 1 (by decide) _
  obtain ⟨s, hs5, rfl⟩ := gx_row_ex (gx_bt ha) (N := 5) (by decide)
  rw [nI_clamp (by omega), gx_iwC, gx_b0, hv.2.2.2.2.1 s hs5]
  have eT : fx_tQS s = fx_tHS s := rfl
  refine ⟨vp_in_nI (by omega) (by omega), fun hb => Or.inr ⟨rfl, vp_in_nI (by omega) (by omega), vp_in_nI (by omega) (by omega), ?_⟩, fun hb => ⟨vp_in_nI (by omega) (by omega), ?_⟩⟩
  · rw [gx_lit64.1, gx_lit64.2.2.2.1, gx_iwM, gx_b0]
    refine ⟨fun e => absurd e ha, fun _ => ⟨vp_in_nI (by omega) (by omega), ?_⟩⟩
    rw [eT, gx_iwM, gx_b0]
    refine ⟨fun _ => ?_, fun e => absurd hb e⟩
    unfold wp_X7_fails_8
    rintro _ rfl
    exact gx_fa hd hv hm ⟨ht, hs⟩ 2 (by decide) _
  · rintro _ rfl
    refine ⟨vp_in_nI (by omega) (by omega), ?_⟩
    rintro _ rfl _ rfl
    have hb2 := gx_in_t (gx_bt hb)
    rw [show (0 : Int32).toInt = 0 from rfl] at hb2
    generalize hM2 : fx_sl (fx_sa M 10 s b) 9 0 (D.2.1 (4 + s)).toInt64 = M2
    have hfr : gx_fr [] [10] [9] M M2 := by rw [← hM2]; exact gx_fr_sl _ _ (gx_fr_sa _ _ (gx_fr_rfl _ _ _ _) (by decide)) (by decide)
    have hd' : gx_ok (gx_ub D (4 + s) b) := gx_ub_ok hd (fun e => absurd e (by omega)) (fun e => absurd e (by omega)) (fun e => absurd e (by omega)) (fun e => absurd e (by omega)) (fun s' e => by rw [show s' = s by omega]; exact hb2)
    have hv' : gx_CV (gx_ub D (4 + s) b) M2 := by rw [← hM2]; exact gx_CV_9 hd' (gx_CV_us hd hv b) _
    have hm' := gx_MV_fr (by decide) (by decide) hfr hm
    have hr' := gx_rest (by decide) (by decide) hfr ⟨ht, hs⟩
    have ho : M2.2.2 9 0 = (D.2.1 (4 + s)).toInt64 := by rw [← hM2, gx_re, pk_uLs]
    clear hM2
    refine ⟨vp_in_nI (by omega) (by omega), vp_in_nI (by omega) (by omega), ?_⟩
    rw [gx_lit64.1, gx_lit64.2.2.2.1, gx_iwM, gx_b0]
    refine ⟨fun e => absurd e ha, fun _ => ⟨vp_in_nI (by omega) (by omega), ?_⟩⟩
    rw [eT, gx_iwM, gx_b0]
    refine ⟨fun e => absurd e hb, fun _ => gx_reM hm' (k := 4 + s) (by omega) (nI_add 4 s) b ?_⟩
    refine gx_tl (by rw [gx_r8, gx_r1]) (fun _ => by rw [gx_r9, gx_r3]; exact ho) (gx_bxfin hd' hv' hr' (gx_fr_sa _ _ (gx_fr_si _ (gx_fr_rfl _ _ _ _) (by decide)) (by decide)) (gx_MV_u (gx_MV_512 hm' _) b))
theorem gx_case6 {L : Nat} {xs : Nat → Int32} {j : Nat} {M : fx_Mem} (h : gx_Inv M) : wb_law_536 L xs (gx_K j) (nI j) M := by
  obtain ⟨D, hd, hv, hm, ht, hs⟩ := h
  unfold wb_law_536 wp_X6_items_0 wp_X7_items_8
  rintro _ rfl
  have hfr : gx_fr [512] [] [] M (fx_si M 512 0) := gx_fr_si _ (gx_fr_rfl _ _ _ _) (by decide)
  have h2 := gx_rest (by decide) (by decide) hfr ⟨ht, hs⟩
  refine ⟨fun _ => gx_nx ⟨D, hd, gx_CV_fr hd.1 (by decide) (by decide) hfr hv, gx_MV_fr (by decide) (by decide) hfr hm, h2.1, h2.2⟩, fun e => e ?_⟩
  rw [gx_r2 _ _ (by decide), hv.2.2.2.2.2.1, hm.2.1]
