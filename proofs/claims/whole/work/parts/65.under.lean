/-! the item under a point -/
def gx_hit (D : gx_D) (mn cr : Int32) (k : Nat) : Bool := decide ((¬ mn < gx_v1 D k ∧ ¬ gx_v1 D k + gx_v0 D k ≤ mn) ∧ (¬ cr < gx_v3 D k ∧ ¬ gx_v3 D k + gx_v2 D k ≤ cr))
def gx_un (D : gx_D) (mn cr : Int32) : Nat → Option Nat
  | 0 => none
  | n + 1 => if gx_hit D mn cr n then some n else gx_un D mn cr n
theorem gx_iwL (x l s : Int32) (M : fx_Mem) (Q : Int32 → fx_Mem → Prop) : wp_X7_isBetween x.toInt64 l.toInt64 (s.toInt64 - 1) M Q ↔ Q (gx_b (decide (¬ x < l ∧ ¬ s ≤ x))) M := by
  have hs := gx_rg s
  have e1 : (s.toInt64 - 1).toInt = s.toInt - 1 := by
    rw [Int64.toInt_sub, Int32.toInt_toInt64, show (1 : Int64).toInt = 1 from rfl]
    exact gx_bmL (by omega) (by omega)
  have e : (s.toInt64 - 1 < x.toInt64) ↔ s ≤ x := by
    rw [fa_lt64, e1, Int32.toInt_toInt64, fa_le]; omega
  unfold wp_X7_isBetween gx_b
  rw [lg_cmp_lt, lg_cmp_gt, fa_wide_lt, e]
  by_cases h1 : x < l
  · simp [h1]
  · by_cases h2 : s ≤ x
    · simp [h1, h2]
    · simp [h1, h2]
theorem gx_dn {n t : Nat} (h : t ≤ n) (hn : n ≤ 20) : (nI (n - t) - 1 < 0 ↔ n - t = 0) := by
  rcases Nat.eq_zero_or_pos (n - t) with e | e
  · rw [e]; exact ⟨fun _ => rfl, fun _ => by decide⟩
  · rw [gx_n5 e]; exact ⟨fun x => absurd x (nI_pos (by omega)), fun x => absurd x (by omega)⟩
theorem gx_unC {D : gx_D} {M : fx_Mem} (hv : gx_CV D M) (hd : gx_ok D) (hcl : gx_CL D M) (mn cr : Int32) {Q : Int32 → fx_Mem → Prop} {X : String → fx_Mem → Prop} (hS : ∀ k, k < D.2.2 → gx_un D mn cr D.2.2 = some k → Q (nI (gx_it D k)) M) (hN : gx_un D mn cr D.2.2 = none → X "java/util/NoSuchElementException" M) : wb_X6_itemUnder_0_35 Q X mn cr M := by
  have hn := hd.1
  unfold wb_X6_itemUnder_0_35
  rw [hv.2.2.2.2.2.1]
  rintro _ rfl
  refine gx_cnt D.2.2 (fun t s => s = (mn, cr, nI (D.2.2 - t) - 1, M) ∧ gx_un D mn cr (D.2.2 - t) = gx_un D mn cr D.2.2) ?_ (mn, cr, nI D.2.2 - 1, M) ⟨rfl, rfl⟩
  rintro t _ kk htt ⟨rfl, hu⟩ hkk
  show wb_X6_itemUnder_0_48 (fun x3 x4 x5 M => kk (x3, x4, x5, M)) (wb_X6_itemUnder_0_86 Q X) Q X mn cr (nI (D.2.2 - t) - 1) M
  unfold wb_X6_itemUnder_0_48
  rw [gx_dn htt hn]
  refine ⟨fun e => ?_, fun e => ?_⟩
  · unfold wb_X6_itemUnder_0_86
    apply hN
    rw [← hu, e]; rfl
  · have hk : D.2.2 - t - 1 < D.2.2 := by omega
    have hit := gx_it_lt hk
    obtain ⟨c0, c1, c2, c3⟩ := gx_clv hcl hk
    rw [gx_n5 (by omega), nI_clamp (by omega), hcl.1.2.1 _ hk]
    refine ⟨vp_in_nI (by omega) (by omega), ?_⟩
    rintro _ rfl
    have hii : vp_in (nI (gx_it D (D.2.2 - t - 1))) 20 := vp_in_nI (by omega) (by omega)
    have hstep : gx_un D mn cr (D.2.2 - t) = if gx_hit D mn cr (D.2.2 - t - 1) then some (D.2.2 - t - 1) else gx_un D mn cr (D.2.2 - t - 1) := by
      obtain ⟨q, hq⟩ : ∃ q, D.2.2 - t = q + 1 := ⟨D.2.2 - t - 1, by omega⟩
      rw [hq]; rfl
    have no : gx_hit D mn cr (D.2.2 - t - 1) = false → ∀ v7 : Int32, v7 = nI (D.2.2 - t - 1) + (-1) → kk (mn, cr, v7, M) := by
      rintro hf _ rfl
      refine hkk _ (by omega) ⟨?_, ?_⟩
      · have e9 : nI (D.2.2 - t - 1) + (-1) = nI (D.2.2 - t - 1) - 1 := by grind
        rw [e9, show D.2.2 - (t + 1) = D.2.2 - t - 1 by omega]
      · rw [show D.2.2 - (t + 1) = D.2.2 - t - 1 by omega, ← hu, hstep, hf]; rfl
    have yes : gx_hit D mn cr (D.2.2 - t - 1) = true → Q (nI (gx_it D (D.2.2 - t - 1))) M := by
      intro hf
      exact hS _ hk (by rw [← hu, hstep, hf]; rfl)
    unfold wp_X6_contains_0
    rw [nI_clamp (n := gx_it D (D.2.2 - t - 1)) (by omega), c0, c1, c2, c3]
    refine ⟨hii, ?_⟩
    rintro _ rfl
    refine ⟨hii, ?_⟩
    rintro _ rfl
    unfold gx_hit at no yes
    refine ⟨fun d1 => ⟨fun _ => no (by simp [d1]), fun x => absurd rfl x⟩, fun d1 => ⟨hii, fun d2 => ⟨fun _ => no (by simp [d2]), fun x => absurd rfl x⟩, fun d2 => ⟨fun d3 => ⟨fun _ => no (by simp [d3]), fun x => absurd rfl x⟩, fun d3 => ⟨hii, fun d4 => ⟨fun _ => no (by simp [d4]), fun x => absurd rfl x⟩, fun d4 => ⟨fun x => absurd x (by decide), fun _ => yes (by simp [d1, d2, d3, d4])⟩⟩⟩⟩⟩
theorem gx_unM {D : gx_D} {M : fx_Mem} (hv : gx_MV D M) (hd : gx_ok D) (hml : gx_ML D M) (x y mn cr : Int32) (hmc : (2 ≤ D.2.1 4 ∧ mn = y ∧ cr = x) ∨ (¬ 2 ≤ D.2.1 4 ∧ mn = x ∧ cr = y)) {Q : Int32 → fx_Mem → Prop} (hS : ∀ k, k < D.2.2 → gx_un D mn cr D.2.2 = some k → Q (nI (gx_it D k)) M) (hN : gx_un D mn cr D.2.2 = none → Q 0 (fx_si M 512 1)) : ∀ v3 : Int32, v3 = (M.1 515) - 1 → ∃ n16 : Nat, wl_X7_itemUnder_8_16 (wb_X7_itemUnder_8_82 Q) (wb_X7_itemUnder_8_95 Q) Q n16 x y v3 M := by
  have hn := hd.1
  rw [hv.2.1]
  rintro _ rfl
  refine gx_cnt D.2.2 (fun t s => s = (x, y, nI (D.2.2 - t) - 1, M) ∧ gx_un D mn cr (D.2.2 - t) = gx_un D mn cr D.2.2) ?_ (x, y, nI D.2.2 - 1, M) ⟨rfl, rfl⟩
  rintro t _ kk htt ⟨rfl, hu⟩ hkk
  show wb_X7_itemUnder_8_16 (fun x1 x2 x3 M => kk (x1, x2, x3, M)) (wb_X7_itemUnder_8_82 Q) (wb_X7_itemUnder_8_95 Q) Q x y (nI (D.2.2 - t) - 1) M
  unfold wb_X7_itemUnder_8_16
  rw [gx_dn htt hn]
  refine ⟨fun e => ?_, fun e => ?_⟩
  · unfold wb_X7_itemUnder_8_95 wp_X7_fails_8
    rintro _ rfl
    apply hN
    rw [← hu, e]; rfl
  · have hk : D.2.2 - t - 1 < D.2.2 := by omega
    obtain ⟨q0, q1, q2, q3, q4, q5, q6⟩ := gx_mlv hd hml hk
    have hstep : gx_un D mn cr (D.2.2 - t) = if gx_hit D mn cr (D.2.2 - t - 1) then some (D.2.2 - t - 1) else gx_un D mn cr (D.2.2 - t - 1) := by
      obtain ⟨q, hq⟩ : ∃ q, D.2.2 - t = q + 1 := ⟨D.2.2 - t - 1, by omega⟩
      rw [hq]; rfl
    have no : gx_hit D mn cr (D.2.2 - t - 1) = false → wb_X7_itemUnder_8_89 (fun x1 x2 x3 M => kk (x1, x2, x3, M)) (wb_X7_itemUnder_8_82 Q) (wb_X7_itemUnder_8_95 Q) Q x y (nI (D.2.2 - t - 1)) M := by
      intro hf
      unfold wb_X7_itemUnder_8_89
      rintro _ rfl
      refine hkk _ (by omega) ⟨?_, ?_⟩
      · have e9 : nI (D.2.2 - t - 1) + (-1) = nI (D.2.2 - t - 1) - 1 := by grind
        rw [e9, show D.2.2 - (t + 1) = D.2.2 - t - 1 by omega]
      · rw [show D.2.2 - (t + 1) = D.2.2 - t - 1 by omega, ← hu, hstep, hf]; rfl
    have yes : gx_hit D mn cr (D.2.2 - t - 1) = true → wb_X7_itemUnder_8_82 Q (nI (D.2.2 - t - 1)) M := by
      intro hf
      unfold wb_X7_itemUnder_8_82
      rw [nI_clamp (by omega), q5]
      exact ⟨vp_in_nI (by omega) (by omega), hS _ hk (by rw [← hu, hstep, hf]; rfl)⟩
    rw [gx_n5 (by omega)]
    simp only [gx_coM hv hd hml hk (w := 0) (by decide) (show (0 : Int32) = nI 0 from rfl), gx_coM hv hd hml hk (w := 1) (by decide) (show (1 : Int32) = nI 1 from rfl), gx_coM hv hd hml hk (w := 2) (by decide) (show (2 : Int32) = nI 2 from rfl), gx_coM hv hd hml hk (w := 3) (by decide) (show (3 : Int32) = nI 3 from rfl), gx_iwL, gx_b0]
    unfold gx_hit at no yes
    rcases hmc with ⟨h4, rfl, rfl⟩ | ⟨h4, rfl, rfl⟩
    · have o0 : gx_co D (D.2.2 - t - 1) 0 = gx_v3 D (D.2.2 - t - 1) := by unfold gx_co; simp [h4]
      have o1 : gx_co D (D.2.2 - t - 1) 1 = gx_v1 D (D.2.2 - t - 1) := by unfold gx_co; simp [h4]
      have o2 : gx_co D (D.2.2 - t - 1) 2 = gx_v2 D (D.2.2 - t - 1) := by unfold gx_co; simp [h4]
      have o3 : gx_co D (D.2.2 - t - 1) 3 = gx_v0 D (D.2.2 - t - 1) := by unfold gx_co; simp [h4]
      rw [o0, o1, o2, o3]
      refine ⟨fun d1 => no ?_, fun d1 => ⟨fun d2 => no ?_, fun d2 => yes ?_⟩⟩
      · rw [decide_eq_false_iff_not] at d1 ⊢; exact fun z => d1 z.2
      · rw [decide_eq_false_iff_not] at d2 ⊢; exact fun z => d2 z.1
      · have d1' := of_decide_eq_true (gx_bt d1)
        have d2' := of_decide_eq_true (gx_bt d2)
        exact decide_eq_true ⟨d2', d1'⟩
    · have o0 : gx_co D (D.2.2 - t - 1) 0 = gx_v1 D (D.2.2 - t - 1) := by unfold gx_co; simp [h4]
      have o1 : gx_co D (D.2.2 - t - 1) 1 = gx_v3 D (D.2.2 - t - 1) := by unfold gx_co; simp [h4]
      have o2 : gx_co D (D.2.2 - t - 1) 2 = gx_v0 D (D.2.2 - t - 1) := by unfold gx_co; simp [h4]
      have o3 : gx_co D (D.2.2 - t - 1) 3 = gx_v2 D (D.2.2 - t - 1) := by unfold gx_co; simp [h4]
      rw [o0, o1, o2, o3]
      refine ⟨fun d1 => no ?_, fun d1 => ⟨fun d2 => no ?_, fun d2 => yes ?_⟩⟩
      · rw [decide_eq_false_iff_not] at d1 ⊢; exact fun z => d1 z.1
      · rw [decide_eq_false_iff_not] at d2 ⊢; exact fun z => d2 z.2
      · have d1' := of_decide_eq_true (gx_bt d1)
        have d2' := of_decide_eq_true (gx_bt d2)
        exact decide_eq_true ⟨d1', d2'⟩
theorem gx_un_b (D : gx_D) (mn cr : Int32) : ∀ n k, gx_un D mn cr n = some k → k < n
  | 0, k, h => by cases h
  | n + 1, k, h => by
    unfold gx_un at h
    split at h
    · cases h; omega
    · have := gx_un_b D mn cr n k h; omega
theorem gx_case22 {L : Nat} {xs : Nat → Int32} {j : Nat} {M : fx_Mem} (hL : L ≤ 2048) (hj : j + 4 ≤ L) (h : gx_Inv M) : wb_law_1348 L xs (gx_K j) (nI j) M := by
  obtain ⟨D, hd, hv, hm, ht, hs⟩ := h
  have hn := hd.1
  unfold wb_law_1348 wp_L_itemUnder_0_9 wp_X6_itemUnder_0 wp_X7_itemUnder_8 wp_X7_thrown_8
  rw [nI_1 j, gx_j2 j, nI_clamp (n := j + 1) (by omega), nI_clamp (n := j + 2) (by omega)]
  generalize xs (j + 1) = x
  generalize xs (j + 2) = y
  refine ⟨vp_in_nI (by omega) (by omega), vp_in_nI (by omega) (by omega), ?_⟩
  refine gx_layC hv hd (fun M1 hF1 hcl => ?_)
  have hv1 : gx_CV D M1 := gx_CV_fr hn (by decide) (by decide) hF1 hv
  -- for the point in the order of the axes
  have key : ∀ mn cr : Int32, ((2 ≤ D.2.1 4 ∧ mn = y ∧ cr = x) ∨ (¬ 2 ≤ D.2.1 4 ∧ mn = x ∧ cr = y)) → wb_X6_itemUnder_0_35 (fun r2 M1 => ∀ M3 : fx_Mem, M3 = fx_sl M1 9 0 r2.toInt64 → vp_in (nI (j + 1)) L ∧ vp_in (nI (j + 2)) L ∧ ∀ M4 : fx_Mem, M4 = fx_si M3 512 0 → wp_X7_findLayout_8 M4 (fun M2 => ∀ v3 : Int32, v3 = (M2.1 515) - 1 → ∃ n16 : Nat, wl_X7_itemUnder_8_16 (wb_X7_itemUnder_8_82 (fun r8 M7 => gx_T L xs (gx_K j) (nI j) 0 r8.toInt64 M7)) (wb_X7_itemUnder_8_95 (fun r8 M7 => gx_T L xs (gx_K j) (nI j) 0 r8.toInt64 M7)) (fun r8 M7 => gx_T L xs (gx_K j) (nI j) 0 r8.toInt64 M7) n16 x y v3 M2)) (fun E M9 => (E = "java/util/NoSuchElementException" ∧ vp_in (nI (j + 1)) L ∧ vp_in (nI (j + 2)) L ∧ ∀ M4 : fx_Mem, M4 = fx_si M9 512 0 → wp_X7_findLayout_8 M4 (fun M2 => ∀ v3 : Int32, v3 = (M2.1 515) - 1 → ∃ n16 : Nat, wl_X7_itemUnder_8_16 (wb_X7_itemUnder_8_82 (fun r8 M7 => gx_T L xs (gx_K j) (nI j) 1 r8.toInt64 M7)) (wb_X7_itemUnder_8_95 (fun r8 M7 => gx_T L xs (gx_K j) (nI j) 1 r8.toInt64 M7)) (fun r8 M7 => gx_T L xs (gx_K j) (nI j) 1 r8.toInt64 M7) n16 x y v3 M2))) mn cr M1 := by
    intro mn cr hmc
    refine gx_unC hv1 hd hcl mn cr (fun k hk hsome => ?_) (fun hnone => ?_)
    · rintro _ rfl
      refine ⟨vp_in_nI (by omega) (by omega), vp_in_nI (by omega) (by omega), ?_⟩
      rintro _ rfl
      have hF3 := gx_F2 (gx_F1 hF1 (nI (gx_it D k)).toInt64) 0
      refine gx_layM2 (gx_MVF hm hF3) hd (fun M2 hfr2 e512 e9 hv2 hml => ?_)
      refine gx_unM hv2 hd hml x y mn cr hmc (fun k' hk' hs' => ?_) (fun hn' => ?_)
      · rw [hsome] at hs'
        cases hs'
        exact gx_tl (by rw [e512, gx_r1]) (fun _ => by rw [e9, gx_r3, gx_re, pk_uLs]) (gx_lookI hd hv hm ht hs (gx_fr_tr hF3 hfr2))
      · rw [hsome] at hn'; cases hn'
    · refine ⟨rfl, vp_in_nI (by omega) (by omega), vp_in_nI (by omega) (by omega), ?_⟩
      rintro _ rfl
      have hF3 := gx_F2 hF1 0
      refine gx_layM2 (gx_MVF hm hF3) hd (fun M2 hfr2 e512 e9 hv2 hml => ?_)
      refine gx_unM hv2 hd hml x y mn cr hmc (fun k' hk' hs' => ?_) (fun _ => ?_)
      · rw [hnone] at hs'; cases hs'
      · exact gx_faF hd hv hm ht hs (gx_fr_tr hF3 hfr2) 1 (by decide) _
  rw [gx_hoC hv1, gx_b0]
  unfold wb_X6_itemUnder_0_19
  rw [gx_hoC hv1, gx_hoC hv1, gx_b0]
  refine ⟨fun e => ⟨fun _ => key _ _ (Or.inl ⟨by simpa using e, rfl, rfl⟩), fun x => absurd e x⟩, fun e => ⟨fun x => absurd x e, fun _ => key _ _ (Or.inr ⟨by simpa using e, rfl, rfl⟩)⟩⟩
