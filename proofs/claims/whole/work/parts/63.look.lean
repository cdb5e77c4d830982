/-! the cases of the law that look at the layout -/
theorem gx_F1 {M M1 : fx_Mem} (hfr : gx_fr [322, 452, 512, 542, 543] [16, 18, 19, 20, 21, 22, 23, 24, 25, 26, 27, 28, 29, 39, 40, 41, 42, 43, 44, 45, 46, 47, 48, 49, 50, 51, 52, 53, 54, 55] [9, 15, 17, 36, 37, 38] M M1) (v : Int64) : gx_fr [322, 452, 512, 542, 543] [16, 18, 19, 20, 21, 22, 23, 24, 25, 26, 27, 28, 29, 39, 40, 41, 42, 43, 44, 45, 46, 47, 48, 49, 50, 51, 52, 53, 54, 55] [9, 15, 17, 36, 37, 38] M (fx_sl M1 9 0 v) := gx_fr_sl _ _ hfr (by decide)
theorem gx_F2 {M M1 : fx_Mem} (hfr : gx_fr [322, 452, 512, 542, 543] [16, 18, 19, 20, 21, 22, 23, 24, 25, 26, 27, 28, 29, 39, 40, 41, 42, 43, 44, 45, 46, 47, 48, 49, 50, 51, 52, 53, 54, 55] [9, 15, 17, 36, 37, 38] M M1) (v : Int32) : gx_fr [322, 452, 512, 542, 543] [16, 18, 19, 20, 21, 22, 23, 24, 25, 26, 27, 28, 29, 39, 40, 41, 42, 43, 44, 45, 46, 47, 48, 49, 50, 51, 52, 53, 54, 55] [9, 15, 17, 36, 37, 38] M (fx_si M1 512 v) := gx_fr_si _ hfr (by decide)
theorem gx_MVF {D : gx_D} {M M1 : fx_Mem} (hm : gx_MV D M) (hfr : gx_fr [322, 452, 512, 542, 543] [16, 18, 19, 20, 21, 22, 23, 24, 25, 26, 27, 28, 29, 39, 40, 41, 42, 43, 44, 45, 46, 47, 48, 49, 50, 51, 52, 53, 54, 55] [9, 15, 17, 36, 37, 38] M M1) : gx_MV D M1 := gx_MV_fr (by decide) (by decide) hfr hm
/-- the reference refuses behind a look -/
theorem gx_faF {D : gx_D} {M M1 : fx_Mem} (hd : gx_ok D) (hv : gx_CV D M) (hm : gx_MV D M) (ht : gx_TX M) (hs : gx_SK M) (hfr : gx_fr [322, 452, 512, 542, 543] [16, 18, 19, 20, 21, 22, 23, 24, 25, 26, 27, 28, 29, 39, 40, 41, 42, 43, 44, 45, 46, 47, 48, 49, 50, 51, 52, 53, 54, 55] [9, 15, 17, 36, 37, 38] M M1) {L : Nat} {xs : Nat → Int32} {j : Nat} (c : Int32) (hc : ¬ c = 0) (b : Int64) : gx_T L xs (gx_K j) (nI j) c b (fx_si M1 512 c) :=
  gx_tl (gx_r1 _ _ _) (fun e => absurd e hc) (gx_lookI hd hv hm ht hs (gx_F2 hfr c))
theorem gx_case11 {L : Nat} {xs : Nat → Int32} {j : Nat} {M : fx_Mem} (h : gx_Inv M) : wb_law_799 L xs (gx_K j) (nI j) M := by
  obtain ⟨D, hd, hv, hm, ht, hs⟩ := h
  unfold wb_law_799 wp_X6_lines_0 wp_X7_lines_8
  refine gx_arrC hv hd (fun M1 hfr1 ha1 => ?_)
  rintro _ rfl
  have hF : gx_fr [322, 452, 512, 542, 543] [16, 18, 19, 20, 21, 22, 23, 24, 25, 26, 27, 28, 29, 39, 40, 41, 42, 43, 44, 45, 46, 47, 48, 49, 50, 51, 52, 53, 54, 55] [9, 15, 17, 36, 37, 38] M (fx_si M1 512 0) := gx_F2 (gx_fr_mo hfr1 (by decide) (by decide) (by decide)) 0
  refine gx_layM2 (gx_MVF hm hF) hd (fun M2 hfr2 e512 e9 hv2 hml => ?_)
  have e542 : M2.1 542 = nI (gx_L D) := hml.1.2.1
  rw [ha1.1, e542]
  exact ⟨fun _ => gx_nx (gx_lookI hd hv hm ht hs (gx_fr_tr hF hfr2)), fun e => e rfl⟩
theorem gx_case20 {L : Nat} {xs : Nat → Int32} {j : Nat} {M : fx_Mem} (h : gx_Inv M) : wb_law_1272 L xs (gx_K j) (nI j) M := by
  obtain ⟨D, hd, hv, hm, ht, hs⟩ := h
  unfold wb_law_1272 wp_X6_crossExtent_0 wp_X7_crossExtent_8
  refine gx_arrC hv hd (fun M1 hfr1 ha1 => ?_)
  have hF1 : gx_fr [322, 452, 512, 542, 543] [16, 18, 19, 20, 21, 22, 23, 24, 25, 26, 27, 28, 29, 39, 40, 41, 42, 43, 44, 45, 46, 47, 48, 49, 50, 51, 52, 53, 54, 55] [9, 15, 17, 36, 37, 38] M M1 := gx_fr_mo hfr1 (by decide) (by decide) (by decide)
  refine gx_xlC (gx_CV_fr hd.1 (by decide) (by decide) hfr1 hv) hd ha1 (fun M2 hfr2 hex _ _ => ?_)
  rintro _ rfl
  have hF : gx_fr [322, 452, 512, 542, 543] [16, 18, 19, 20, 21, 22, 23, 24, 25, 26, 27, 28, 29, 39, 40, 41, 42, 43, 44, 45, 46, 47, 48, 49, 50, 51, 52, 53, 54, 55] [9, 15, 17, 36, 37, 38] M (fx_si M2 512 0) := gx_F2 (gx_fr_tr hF1 (gx_fr_mo hfr2 (by decide) (by decide) (by decide))) 0
  refine gx_layM2 (gx_MVF hm hF) hd (fun M3 hfr3 e512 e9 hv3 hml => ?_)
  rw [hex, hml.2.2.1]
  exact ⟨fun _ => gx_nx (gx_lookI hd hv hm ht hs (gx_fr_tr hF hfr3)), fun e => e rfl⟩
theorem gx_case13 {L : Nat} {xs : Nat → Int32} {j : Nat} {M : fx_Mem} (hL : L ≤ 2048) (hj : j + 4 ≤ L) (h : gx_Inv M) : wb_law_868 L xs (gx_K j) (nI j) M := by
  obtain ⟨D, hd, hv, hm, ht, hs⟩ := h
  have hn := hd.1
  unfold wb_law_868 wp_L_itemAt_0_9 wp_X6_itemAt_0 wp_X7_itemAt_8 wp_X7_thrown_8
  rw [nI_1 j, nI_clamp (n := j + 1) (by omega)]
  generalize xs (j + 1) = a
  refine ⟨vp_in_nI (by omega) (by omega), ?_⟩
  rw [gx_iwC, gx_b0, hv.2.2.2.2.2.1]
  refine ⟨fun ha => ⟨rfl, vp_in_nI (by omega) (by omega), ?_⟩, fun ha => ?_⟩
  · rw [gx_itM hm hd, gx_b0]
    refine ⟨fun _ => ?_, fun e => absurd ha e⟩
    unfold wp_X7_fails_8
    rintro _ rfl
    exact gx_fa hd hv hm ⟨ht, hs⟩ 1 (by decide) _
  obtain ⟨i, hi, rfl⟩ := gx_it_ex hd (gx_bt ha)
  refine gx_seqC hv hd (fun M1 hfr1 h18 => ?_)
  rw [nI_clamp (by omega), h18 i hi]
  refine ⟨vp_in_nI (by omega) (by omega), ?_⟩
  rintro _ rfl
  have hF1 : gx_fr [322, 452, 512, 542, 543] [16, 18, 19, 20, 21, 22, 23, 24, 25, 26, 27, 28, 29, 39, 40, 41, 42, 43, 44, 45, 46, 47, 48, 49, 50, 51, 52, 53, 54, 55] [9, 15, 17, 36, 37, 38] M (fx_sl M1 9 0 (nI (gx_it D i)).toInt64) := gx_F1 (gx_fr_mo hfr1 (by decide) (by decide) (by decide)) _
  have hm1 := gx_MVF hm hF1
  refine ⟨vp_in_nI (by omega) (by omega), ?_⟩
  rw [gx_itM hm1 hd, gx_b0]
  refine ⟨fun e => absurd e ha, fun _ => ?_⟩
  rintro _ rfl
  have hF2 := gx_F2 hF1 0
  refine gx_seqM (gx_MVF hm hF2) hd (fun M2 hfr2 h39 => ?_)
  rw [(h39 i hi).1]
  refine ⟨vp_in_nI (by omega) (by omega), ?_⟩
  exact gx_tl (by rw [hfr2.1 512 (by decide), gx_r1]) (fun _ => by rw [hfr2.2.2 9 (by decide), gx_r3, gx_re, pk_uLs]) (gx_lookI hd hv hm ht hs (gx_fr_tr hF2 (gx_fr_mo hfr2 (by decide) (by decide) (by decide))))
theorem gx_case14 {L : Nat} {xs : Nat → Int32} {j : Nat} {M : fx_Mem} (hL : L ≤ 2048) (hj : j + 4 ≤ L) (h : gx_Inv M) : wb_law_924 L xs (gx_K j) (nI j) M := by
  obtain ⟨D, hd, hv, hm, ht, hs⟩ := h
  have hn := hd.1
  unfold wb_law_924 wp_L_hypotheticalSize_0_9 wp_X6_hypotheticalSize_0 wp_X7_hypotheticalSize_8 wp_X7_thrown_8
  rw [nI_1 j, nI_clamp (n := j + 1) (by omega)]
  generalize xs (j + 1) = a
  refine ⟨vp_in_nI (by omega) (by omega), ?_⟩
  rw [gx_rqC hv]
  refine ⟨fun ha => ⟨rfl, vp_in_nI (by omega) (by omega), ?_⟩, fun ha => ?_⟩
  · rw [gx_itM hm hd, gx_b0]
    refine ⟨fun _ => ?_, fun e => absurd ha e⟩
    unfold wp_X7_fails_8
    rintro _ rfl
    exact gx_fa hd hv hm ⟨ht, hs⟩ 1 (by decide) _
  obtain ⟨i, hi, rfl⟩ := gx_it_ex hd (gx_bt ha)
  rw [gx_hyC hv hd hi]
  rintro _ rfl
  have hF1 : gx_fr [322, 452, 512, 542, 543] [16, 18, 19, 20, 21, 22, 23, 24, 25, 26, 27, 28, 29, 39, 40, 41, 42, 43, 44, 45, 46, 47, 48, 49, 50, 51, 52, 53, 54, 55] [9, 15, 17, 36, 37, 38] M (fx_sl M 9 0 (gx_hyp (D.1 i)).toInt64) := gx_F1 (gx_fr_rfl _ _ _ _) _
  refine ⟨vp_in_nI (by omega) (by omega), ?_⟩
  rw [gx_itM (gx_MVF hm hF1) hd, gx_b0]
  refine ⟨fun e => absurd e ha, fun _ => ?_⟩
  rintro _ rfl
  have hF2 := gx_F2 hF1 0
  rw [gx_hyM (gx_MVF hm hF2) hd hi]
  exact gx_tl (gx_r1 _ _ _) (fun _ => by rw [gx_r3, gx_re, pk_uLs]) (gx_lookI hd hv hm ht hs hF2)
/-! lines -/
theorem gx_rlC {D : gx_D} {M : fx_Mem} (ha : gx_AC D M) (a : Int32) (Q : fx_Mem → Prop) (X : String → fx_Mem → Prop) : wp_X6_requireLine_0 a M Q X ↔ ((gx_in a 0 (nI (gx_L D) - 1) = false → X "java/lang/IndexOutOfBoundsException" M) ∧ (¬ gx_in a 0 (nI (gx_L D) - 1) = false → Q M)) := by
  unfold wp_X6_requireLine_0
  rw [gx_iwC, gx_b0, ha.1]
theorem gx_li_ex {D : gx_D} (hd : gx_ok D) {a : Int32} (h : gx_in a 0 (nI (gx_L D) - 1) = true) : ∃ i, i < gx_L D ∧ a = nI i := by
  have hn := hd.1
  have hLn := gx_L_le D
  have h1 := gx_in_t h
  have e1 : (nI (gx_L D)).toInt = (gx_L D : Int) := nI_toInt (by omega)
  have z1 : (1 : Int32).toInt = 1 := rfl
  have z0 : (0 : Int32).toInt = 0 := rfl
  rw [gx_ts (by rw [e1, z1]; omega) (by rw [e1, z1]; omega), e1, z1, z0] at h1
  refine ⟨a.toNatClampNeg, by rw [gx_nnv]; omega, gx_nn h1.1⟩
theorem gx_ilM {D : gx_D} {M : fx_Mem} (hm : gx_MV D M) (hd : gx_ok D) (a : Int32) {Q : Int32 → fx_Mem → Prop} (h : ∀ M', gx_fr [322, 452, 512, 542, 543] [16, 18, 19, 20, 21, 22, 23, 24, 25, 26, 27, 28, 29, 39, 40, 41, 42, 43, 44, 45, 46, 47, 48, 49, 50, 51, 52, 53, 54, 55] [9, 15, 17, 36, 37, 38] M M' → M'.2.2 9 = M.2.2 9 → gx_ML D M' → Q (gx_b (gx_in a 0 (nI (gx_L D) - 1))) (fx_si M' 512 (if gx_in a 0 (nI (gx_L D) - 1) then 0 else 1))) : wp_X7_isLine_8 a M Q := by
  have hn := hd.1
  have hLn := gx_L_le D
  unfold wp_X7_isLine_8
  refine gx_layM2 hm hd (fun M2 hfr2 e512 e9 hv2 hml => ?_)
  have h1 := h M2 hfr2 e9 hml
  have e542 : M2.1 542 = nI (gx_L D) := hml.1.2.1
  have e : (nI (gx_L D) ≤ a) ↔ (nI (gx_L D) - 1 < a) := by
    have e1 : (nI (gx_L D)).toInt = (gx_L D : Int) := nI_toInt (by omega)
    have z1 : (1 : Int32).toInt = 1 := rfl
    rw [fa_le, fa_lt, gx_ts (by rw [e1, z1]; omega) (by rw [e1, z1]; omega), e1, z1]; omega
  rw [e542, e]
  unfold wb_X7_isLine_8_21 wb_X7_isLine_8_22
  unfold gx_in at h1
  refine ⟨fun c1 => ?_, fun c1 => ⟨fun c2 => ?_, fun c2 => ?_⟩⟩
  · rintro _ rfl
    rw [gx_r1]
    simp only [c1, not_true_eq_false, false_and, decide_false, Bool.false_eq_true, if_false] at h1
    exact ⟨fun x => absurd x (by decide), fun _ => h1⟩
  · rintro _ rfl
    rw [gx_r1]
    simp only [c2, not_true_eq_false, and_false, decide_false, Bool.false_eq_true, if_false] at h1
    exact ⟨fun x => absurd x (by decide), fun _ => h1⟩
  · rintro _ rfl
    rw [gx_r1]
    simp only [c1, c2, not_false_eq_true, and_self, decide_true, if_true] at h1
    exact ⟨fun _ => h1, fun x => absurd rfl x⟩
theorem gx_case16 {L : Nat} {xs : Nat → Int32} {j : Nat} {M : fx_Mem} (hL : L ≤ 2048) (hj : j + 4 ≤ L) (h : gx_Inv M) : wb_law_1048 L xs (gx_K j) (nI j) M := by
  obtain ⟨D, hd, hv, hm, ht, hs⟩ := h
  have hn := hd.1
  have hLn := gx_L_le D
  unfold wb_law_1048 wp_L_rounds_0_9 wp_X6_rounds_0 wp_X7_rounds_8 wp_X7_thrown_8
  rw [nI_1 j, nI_clamp (n := j + 1) (by omega)]
  generalize xs (j + 1) = a
  refine ⟨vp_in_nI (by omega) (by omega), ?_⟩
  refine gx_arrC hv hd (fun M1 hfr1 ha1 => ?_)
  have hF1 : gx_fr [322, 452, 512, 542, 543] [16, 18, 19, 20, 21, 22, 23, 24, 25, 26, 27, 28, 29, 39, 40, 41, 42, 43, 44, 45, 46, 47, 48, 49, 50, 51, 52, 53, 54, 55] [9, 15, 17, 36, 37, 38] M M1 := gx_fr_mo hfr1 (by decide) (by decide) (by decide)
  rw [gx_rlC ha1]
  refine ⟨fun hb => ⟨rfl, vp_in_nI (by omega) (by omega), ?_⟩, fun hb => ?_⟩
  · refine gx_ilM (gx_MVF hm hF1) hd a (fun M2 hfr2 e9 hml => ?_)
    rw [hb]
    exact ⟨fun _ => gx_faF hd hv hm ht hs (gx_fr_tr hF1 hfr2) 1 (by decide) _, fun x => absurd rfl x⟩
  have hbt := gx_bt hb
  obtain ⟨l, hl, rfl⟩ := gx_li_ex hd hbt
  refine gx_mlC (gx_CV_fr hn (by decide) (by decide) hfr1 hv) hd ha1 (fun M2 hfr2 hmc => ?_)
  have hv2 : M2.2.1 22 l = nI (gx_rn D l) := by obtain ⟨a, m, hln⟩ := gx_ln_ex hl; exact (hmc l hl a m hln).2.1
  rw [nI_clamp (by omega), hv2]
  refine ⟨vp_in_nI (by omega) (by omega), ?_⟩
  rintro _ rfl
  have hF2 : gx_fr [322, 452, 512, 542, 543] [16, 18, 19, 20, 21, 22, 23, 24, 25, 26, 27, 28, 29, 39, 40, 41, 42, 43, 44, 45, 46, 47, 48, 49, 50, 51, 52, 53, 54, 55] [9, 15, 17, 36, 37, 38] M (fx_sl M2 9 0 (nI (gx_rn D l)).toInt64) := gx_F1 (gx_fr_tr hF1 (gx_fr_mo hfr2 (by decide) (by decide) (by decide))) _
  refine ⟨vp_in_nI (by omega) (by omega), gx_ilM (gx_MVF hm hF2) hd _ (fun M3 hfr3 e9 hml => ?_)⟩
  rw [hbt, gx_r3, (hml.2.2.2.1 l hl).1]
  refine ⟨fun x => absurd x (by decide), fun _ => ⟨vp_in_nI (by omega) (by omega), ?_⟩⟩
  exact gx_tl (gx_r1 _ _ _) (fun _ => by rw [gx_r3, e9, gx_re, pk_uLs]) (gx_lookI hd hv hm ht hs (gx_F2 (gx_fr_tr hF2 hfr3) _))
theorem gx_case17 {L : Nat} {xs : Nat → Int32} {j : Nat} {M : fx_Mem} (hL : L ≤ 2048) (hj : j + 4 ≤ L) (h : gx_Inv M) : wb_law_1104 L xs (gx_K j) (nI j) M := by
  obtain ⟨D, hd, hv, hm, ht, hs⟩ := h
  have hn := hd.1
  have hLn := gx_L_le D
  unfold wb_law_1104 wp_L_freeSpace_0_9 wp_X6_freeSpace_0 wp_X7_freeSpace_8 wp_X7_thrown_8
  rw [nI_1 j, nI_clamp (n := j + 1) (by omega)]
  generalize xs (j + 1) = a
  refine ⟨vp_in_nI (by omega) (by omega), ?_⟩
  refine gx_arrC hv hd (fun M1 hfr1 ha1 => ?_)
  have hF1 : gx_fr [322, 452, 512, 542, 543] [16, 18, 19, 20, 21, 22, 23, 24, 25, 26, 27, 28, 29, 39, 40, 41, 42, 43, 44, 45, 46, 47, 48, 49, 50, 51, 52, 53, 54, 55] [9, 15, 17, 36, 37, 38] M M1 := gx_fr_mo hfr1 (by decide) (by decide) (by decide)
  rw [gx_rlC ha1]
  refine ⟨fun hb => ⟨rfl, vp_in_nI (by omega) (by omega), ?_⟩, fun hb => ?_⟩
  · refine gx_ilM (gx_MVF hm hF1) hd a (fun M2 hfr2 e9 hml => ?_)
    rw [hb]
    exact ⟨fun _ => gx_faF hd hv hm ht hs (gx_fr_tr hF1 hfr2) 1 (by decide) _, fun x => absurd rfl x⟩
  have hbt := gx_bt hb
  obtain ⟨l, hl, rfl⟩ := gx_li_ex hd hbt
  refine gx_mlC (gx_CV_fr hn (by decide) (by decide) hfr1 hv) hd ha1 (fun M2 hfr2 hmc => ?_)
  have hv2 : M2.2.1 23 l = gx_fs D l := by obtain ⟨a, m, hln⟩ := gx_ln_ex hl; exact (hmc l hl a m hln).2.2
  rw [nI_clamp (by omega), hv2]
  refine ⟨vp_in_nI (by omega) (by omega), ?_⟩
  rintro _ rfl
  have hF2 : gx_fr [322, 452, 512, 542, 543] [16, 18, 19, 20, 21, 22, 23, 24, 25, 26, 27, 28, 29, 39, 40, 41, 42, 43, 44, 45, 46, 47, 48, 49, 50, 51, 52, 53, 54, 55] [9, 15, 17, 36, 37, 38] M (fx_sl M2 9 0 (gx_fs D l).toInt64) := gx_F1 (gx_fr_tr hF1 (gx_fr_mo hfr2 (by decide) (by decide) (by decide))) _
  refine ⟨vp_in_nI (by omega) (by omega), gx_ilM (gx_MVF hm hF2) hd _ (fun M3 hfr3 e9 hml => ?_)⟩
  rw [hbt, gx_r3, (hml.2.2.2.1 l hl).2.1]
  refine ⟨fun x => absurd x (by decide), fun _ => ⟨vp_in_nI (by omega) (by omega), ?_⟩⟩
  exact gx_tl (gx_r1 _ _ _) (fun _ => by rw [gx_r3, e9, gx_re, pk_uLs]) (gx_lookI hd hv hm ht hs (gx_F2 (gx_fr_tr hF2 hfr3) _))
theorem gx_case18 {L : Nat} {xs : Nat → Int32} {j : Nat} {M : fx_Mem} (hL : L ≤ 2048) (hj : j + 4 ≤ L) (h : gx_Inv M) : wb_law_1160 L xs (gx_K j) (nI j) M := by
  obtain ⟨D, hd, hv, hm, ht, hs⟩ := h
  have hn := hd.1
  have hLn := gx_L_le D
  unfold wb_law_1160 wp_L_lineCross_0_9 wp_X6_lineCross_0 wp_X7_lineCross_8 wp_X7_thrown_8
  rw [nI_1 j, nI_clamp (n := j + 1) (by omega)]
  generalize xs (j + 1) = a
  refine ⟨vp_in_nI (by omega) (by omega), ?_⟩
  refine gx_arrC hv hd (fun M1 hfr1 ha1 => ?_)
  have hF1 : gx_fr [322, 452, 512, 542, 543] [16, 18, 19, 20, 21, 22, 23, 24, 25, 26, 27, 28, 29, 39, 40, 41, 42, 43, 44, 45, 46, 47, 48, 49, 50, 51, 52, 53, 54, 55] [9, 15, 17, 36, 37, 38] M M1 := gx_fr_mo hfr1 (by decide) (by decide) (by decide)
  rw [gx_rlC ha1]
  refine ⟨fun hb => ⟨rfl, vp_in_nI (by omega) (by omega), ?_⟩, fun hb => ?_⟩
  · refine gx_ilM (gx_MVF hm hF1) hd a (fun M2 hfr2 e9 hml => ?_)
    rw [hb]
    exact ⟨fun _ => gx_faF hd hv hm ht hs (gx_fr_tr hF1 hfr2) 1 (by decide) _, fun x => absurd rfl x⟩
  have hbt := gx_bt hb
  obtain ⟨l, hl, rfl⟩ := gx_li_ex hd hbt
  refine gx_xlC (gx_CV_fr hn (by decide) (by decide) hfr1 hv) hd ha1 (fun M2 hfr2 hex h26 hxc => ?_)
  have hv2 : M2.2.1 26 l = gx_lc D l := (h26 l hl).1
  rw [nI_clamp (by omega), hv2]
  refine ⟨vp_in_nI (by omega) (by omega), ?_⟩
  rintro _ rfl
  have hF2 : gx_fr [322, 452, 512, 542, 543] [16, 18, 19, 20, 21, 22, 23, 24, 25, 26, 27, 28, 29, 39, 40, 41, 42, 43, 44, 45, 46, 47, 48, 49, 50, 51, 52, 53, 54, 55] [9, 15, 17, 36, 37, 38] M (fx_sl M2 9 0 (gx_lc D l).toInt64) := gx_F1 (gx_fr_tr hF1 (gx_fr_mo hfr2 (by decide) (by decide) (by decide))) _
  refine ⟨vp_in_nI (by omega) (by omega), gx_ilM (gx_MVF hm hF2) hd _ (fun M3 hfr3 e9 hml => ?_)⟩
  rw [hbt, gx_r3, (hml.2.2.2.1 l hl).2.2.1]
  refine ⟨fun x => absurd x (by decide), fun _ => ⟨vp_in_nI (by omega) (by omega), ?_⟩⟩
  exact gx_tl (gx_r1 _ _ _) (fun _ => by rw [gx_r3, e9, gx_re, pk_uLs]) (gx_lookI hd hv hm ht hs (gx_F2 (gx_fr_tr hF2 hfr3) _))
theorem gx_case19 {L : Nat} {xs : Nat → Int32} {j : Nat} {M : fx_Mem} (hL : L ≤ 2048) (hj : j + 4 ≤ L) (h : gx_Inv M) : wb_law_1216 L xs (gx_K j) (nI j) M := by
  obtain ⟨D, hd, hv, hm, ht, hs⟩ := h
  have hn := hd.1
  have hLn := gx_L_le D
  unfold wb_law_1216 wp_L_lineAscent_0_9 wp_X6_lineAscent_0 wp_X7_lineAscent_8 wp_X7_thrown_8
  rw [nI_1 j, nI_clamp (n := j + 1) (by omega)]
  generalize xs (j + 1) = a
  refine ⟨vp_in_nI (by omega) (by omega), ?_⟩
  refine gx_arrC hv hd (fun M1 hfr1 ha1 => ?_)
  have hF1 : gx_fr [322, 452, 512, 542, 543] [16, 18, 19, 20, 21, 22, 23, 24, 25, 26, 27, 28, 29, 39, 40, 41, 42, 43, 44, 45, 46, 47, 48, 49, 50, 51, 52, 53, 54, 55] [9, 15, 17, 36, 37, 38] M M1 := gx_fr_mo hfr1 (by decide) (by decide) (by decide)
  rw [gx_rlC ha1]
  refine ⟨fun hb => ⟨rfl, vp_in_nI (by omega) (by omega), ?_⟩, fun hb => ?_⟩
  · refine gx_ilM (gx_MVF hm hF1) hd a (fun M2 hfr2 e9 hml => ?_)
    rw [hb]
    exact ⟨fun _ => gx_faF hd hv hm ht hs (gx_fr_tr hF1 hfr2) 1 (by decide) _, fun x => absurd rfl x⟩
  have hbt := gx_bt hb
  obtain ⟨l, hl, rfl⟩ := gx_li_ex hd hbt
  refine gx_xlC (gx_CV_fr hn (by decide) (by decide) hfr1 hv) hd ha1 (fun M2 hfr2 hex h26 hxc => ?_)
  have hv2 : M2.2.1 27 l = gx_as D l := (h26 l hl).2
  rw [nI_clamp (by omega), hv2]
  refine ⟨vp_in_nI (by omega) (by omega), ?_⟩
  rintro _ rfl
  have hF2 : gx_fr [322, 452, 512, 542, 543] [16, 18, 19, 20, 21, 22, 23, 24, 25, 26, 27, 28, 29, 39, 40, 41, 42, 43, 44, 45, 46, 47, 48, 49, 50, 51, 52, 53, 54, 55] [9, 15, 17, 36, 37, 38] M (fx_sl M2 9 0 (gx_as D l).toInt64) := gx_F1 (gx_fr_tr hF1 (gx_fr_mo hfr2 (by decide) (by decide) (by decide))) _
  refine ⟨vp_in_nI (by omega) (by omega), gx_ilM (gx_MVF hm hF2) hd _ (fun M3 hfr3 e9 hml => ?_)⟩
  rw [hbt, gx_r3, (hml.2.2.2.1 l hl).2.2.2]
  refine ⟨fun x => absurd x (by decide), fun _ => ⟨vp_in_nI (by omega) (by omega), ?_⟩⟩
  exact gx_tl (gx_r1 _ _ _) (fun _ => by rw [gx_r3, e9, gx_re, pk_uLs]) (gx_lookI hd hv hm ht hs (gx_F2 (gx_fr_tr hF2 hfr3) _))
