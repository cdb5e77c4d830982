/-! keeping and bringing back -/
theorem gx_cp21 {D : gx_D} {M : fx_Mem} (hd : gx_ok D) (hv : gx_CV D M) {Q : fx_Mem → Prop} (h : ∀ M', (∀ k, ¬ (k = 128 ∨ k = 129 ∨ k = 130 ∨ k = 131 ∨ k = 134) → M'.1 k = M.1 k) → (∀ k, ¬ (k = 12 ∨ 77 ≤ k) → M'.2.1 k = M.2.1 k) → M'.2.2 = M.2.2 → gx_KV D M' → Q M') : wp_X1_copyFrom_2_1 M Q := by
  have hn := hd.1
  obtain ⟨v1, v2, v3, v4, v5, v6, v7⟩ := hv
  unfold wp_X1_copyFrom_2_1
  rw [v1]
  rintro _ rfl
  rw [gx_r2 _ _ (by decide), v2]
  rintro _ rfl
  rw [gx_r2 _ _ (by decide), gx_r2 _ _ (by decide), v3]
  rintro _ rfl
  rw [gx_r2 _ _ (by decide), gx_r2 _ _ (by decide), gx_r2 _ _ (by decide), v4]
  rintro _ rfl
  rw [gx_r2 _ _ (by decide), gx_r2 _ _ (by decide), gx_r2 _ _ (by decide), gx_r2 _ _ (by decide), v6]
  rintro _ rfl
  generalize hM5 : fx_si (fx_si (fx_si (fx_si (fx_si M 128 (D.2.1 0)) 129 (D.2.1 1)) 130 (D.2.1 2)) 131 (D.2.1 3)) 134 (nI D.2.2) = M5
  have f2 : M5.2 = M.2 := by rw [← hM5, gx_r3, gx_r3, gx_r3, gx_r3, gx_r3]
  have f1 : ∀ k, ¬ (k = 128 ∨ k = 129 ∨ k = 130 ∨ k = 131 ∨ k = 134) → M5.1 k = M.1 k := by
    intro k hk
    rw [← hM5, gx_r2 _ _ (by omega), gx_r2 _ _ (by omega), gx_r2 _ _ (by omega), gx_r2 _ _ (by omega), gx_r2 _ _ (by omega)]
  have k1 : M5.1 128 = D.2.1 0 := by rw [← hM5, gx_r2 _ _ (by decide), gx_r2 _ _ (by decide), gx_r2 _ _ (by decide), gx_r2 _ _ (by decide), gx_r1]
  have k2 : M5.1 129 = D.2.1 1 := by rw [← hM5, gx_r2 _ _ (by decide), gx_r2 _ _ (by decide), gx_r2 _ _ (by decide), gx_r1]
  have k3 : M5.1 130 = D.2.1 2 := by rw [← hM5, gx_r2 _ _ (by decide), gx_r2 _ _ (by decide), gx_r1]
  have k4 : M5.1 131 = D.2.1 3 := by rw [← hM5, gx_r2 _ _ (by decide), gx_r1]
  have k5 : M5.1 134 = nI D.2.2 := by rw [← hM5, gx_r1]
  clear hM5
  rintro _ rfl
  refine gx_cnt 20 (fun t s => ∃ M1, s = (nI t, M1) ∧ M1.1 = M5.1 ∧ M1.2.2 = M5.2.2 ∧ (∀ k, ¬ (k = 12 ∨ 77 ≤ k) → M1.2.1 k = M.2.1 k) ∧ (∀ k, k < 5 → M1.2.1 12 k = D.2.1 (4 + k)) ∧ (∀ k, k < t → ∀ p, p < 10 → M1.2.1 (77 + k) p = M.2.1 (57 + k) p)) ?_ (0, _) ⟨_, rfl, rfl, rfl, fun k hk => by rw [gx_r7 _ _ (by omega), f2], fun k hk => by rw [gx_r6, pk_cpy_in (by omega) (by omega), f2, show 0 + (k - 0) = k by omega]; exact v5 k hk, fun k hk => absurd hk (by omega)⟩
  rintro t _ kk htt ⟨M1, rfl, q1, q2, q3, q4, q5⟩ hkk
  show wb_X1_copyFrom_2_1_56 (fun x2 M => kk (x2, M)) _ (nI t) M1
  unfold wb_X1_copyFrom_2_1_56
  rw [show (20 : Int32) = nI 20 from rfl, nI_leI (by omega) (by omega), nI_clamp (by omega)]
  refine ⟨fun e => ?_, fun e => ⟨vp_in_nI (by omega) (by omega), vp_in_nI (by omega) (by omega), ?_⟩⟩
  · refine h M1 (fun k hk => by rw [q1]; exact f1 k hk) q3 (by rw [q2, f2]) ⟨by rw [q1]; exact k1, by rw [q1]; exact k2, by rw [q1]; exact k3, by rw [q1]; exact k4, q4, by rw [q1]; exact k5, fun i hi p hp => ?_⟩
    rw [q5 i (by omega) p hp]; exact v7 i hi p hp
  · rintro _ rfl _ rfl
    rw [nI_1]
    refine hkk _ (by omega) ⟨_, rfl, q1, q2, fun k hk => by rw [gx_r7 _ _ (by omega)]; exact q3 k hk, fun k hk => by rw [gx_r7 _ _ (by omega)]; exact q4 k hk, fun k hk p hp => ?_⟩
    by_cases e1 : k = t
    · rw [e1, gx_r6, pk_cpy_in (by omega) (by omega), q3 _ (by omega), show 0 + (p - 0) = p by omega]
    · rw [gx_r7 _ _ (by omega)]; exact q5 k (by omega) p hp
theorem gx_case26 {L : Nat} {xs : Nat → Int32} {j : Nat} {M : fx_Mem} (h : gx_Inv M) : wb_law_1565 L xs (gx_K j) (nI j) M := by
  obtain ⟨D, hd, hv, hm, ht, hs⟩ := h
  have hn := hd.1
  unfold wb_law_1565 wp_X6_save_0
  refine gx_cp21 hd hv (fun M1 f1 f2 f3 hk => ?_)
  rintro _ rfl
  rw [gx_r2 _ _ (by decide), hk.2.2.2.2.2.1]
  generalize hM2 : fx_si M1 2 1 = M2
  have e2 : M2.1 2 = 1 := by rw [← hM2, gx_r1]
  have g1 : ∀ k, ¬ (k = 2 ∨ k = 128 ∨ k = 129 ∨ k = 130 ∨ k = 131 ∨ k = 134) → M2.1 k = M.1 k := fun k hk => by rw [← hM2, gx_r2 _ _ (by omega)]; exact f1 k (by omega)
  have g2 : ∀ k, ¬ (k = 12 ∨ 77 ≤ k) → M2.2.1 k = M.2.1 k := fun k hk => by rw [← hM2, gx_r3]; exact f2 k hk
  have hk2 : gx_KV D M2 := by
    rw [← hM2]
    exact gx_KV_fr hn (F := [2]) (A := []) (L := []) (by decide) (by decide) (gx_fr_si _ (gx_fr_rfl _ _ _ _) (by decide)) hk
  clear hM2
  unfold wp_X7_save_8
  rintro _ rfl
  rw [gx_r2 _ _ (by decide), g1 515 (by decide), hm.2.1]
  rintro _ rfl
  refine gx_cnt 9 (fun t s => ∃ M3, s = (nI t, M3) ∧ gx_fr [512, 546] [56] [] M2 M3 ∧ M3.1 546 = nI D.2.2 ∧ (∀ k, k < t → M3.2.1 56 (200 + k) = D.2.1 k)) ?_ (0, fx_si (fx_si M2 512 0) 546 (nI D.2.2)) ⟨_, rfl, gx_fr_si _ (gx_fr_si _ (gx_fr_rfl _ _ _ _) (by decide)) (by decide), gx_r1 _ _ _, fun k hk => absurd hk (by omega)⟩
  rintro t _ kk htt ⟨M3, rfl, hfr3, q1, q2⟩ hkk
  show wb_X7_save_8_15 (fun x1 M => kk (x1, M)) _ _ (nI t) M3
  unfold wb_X7_save_8_15
  rw [show (9 : Int32) = nI 9 from rfl, nI_leI (by omega) (by omega), show (200 : Int32) + nI t = nI (200 + t) from nI_add 200 t, nI_clamp (n := 200 + t) (by omega), nI_clamp (n := t) (by omega)]
  refine ⟨fun e => ?_, fun e => ⟨vp_in_nI (by omega) (by omega), vp_in_nI (by omega) (by omega), ?_⟩⟩
  rotate_left
  · rw [hfr3.2.1 30 (by decide), g2 30 (by decide), hm.1 t (by omega)]
    rintro _ rfl _ rfl
    rw [nI_1]
    refine hkk _ (by omega) ⟨_, rfl, gx_fr_sa _ _ hfr3 (by decide), q1, fun k hk => ?_⟩
    rw [gx_ra]
    by_cases e1 : k = t
    · rw [e1, pk_us]
    · rw [pk_un (by omega)]; exact q2 k (by omega)
  unfold wb_X7_save_8_43
  refine gx_cnt 200 (fun u s => ∃ M4, s = (nI u, M4) ∧ gx_fr [512, 546] [56] [] M2 M4 ∧ M4.1 546 = nI D.2.2 ∧ (∀ k, k < 9 → M4.2.1 56 (200 + k) = D.2.1 k) ∧ (∀ q, q < u → M4.2.1 56 q = M.2.1 31 q)) ?_ (0, M3) ⟨M3, rfl, hfr3, q1, fun k hk => q2 k (by omega), fun k hk => absurd hk (by omega)⟩
  rintro u _ kk2 huu ⟨M4, rfl, hfr4, r1, r2, r3⟩ hkk2
  show wb_X7_save_8_45 (fun x1 M => kk2 (x1, M)) _ _ (nI u) M4
  unfold wb_X7_save_8_45
  rw [show (200 : Int32) = nI 200 from rfl, nI_leI (by omega) (by omega), nI_clamp (by omega)]
  refine ⟨fun e3 => ?_, fun e3 => ⟨vp_in_nI (by omega) (by omega), vp_in_nI (by omega) (by omega), ?_⟩⟩
  rotate_left
  · rw [hfr4.2.1 31 (by decide), g2 31 (by decide)]
    rintro _ rfl _ rfl
    rw [nI_1]
    refine hkk2 _ (by omega) ⟨_, rfl, gx_fr_sa _ _ hfr4 (by decide), r1, fun k hk => by rw [gx_ra, pk_un (by omega)]; exact r2 k hk, fun q hq => ?_⟩
    rw [gx_ra]
    by_cases e1 : q = u
    · rw [e1, pk_us]
    · rw [pk_un e1]; exact r3 q (by omega)
  unfold wb_X7_save_8_70
  rw [hfr4.1 515 (by decide), g1 515 (by decide), hm.2.1]
  have w1 : ∀ k, ¬ (k = 2 ∨ k = 128 ∨ k = 129 ∨ k = 130 ∨ k = 131 ∨ k = 134 ∨ k = 512 ∨ k = 546) → M4.1 k = M.1 k := fun k hk => by rw [hfr4.1 k (by simp; omega)]; exact g1 k (by omega)
  have w2 : ∀ k, ¬ (k = 12 ∨ k = 56 ∨ 77 ≤ k) → M4.2.1 k = M.2.1 k := fun k hk => by rw [hfr4.2.1 k (by simp; omega)]; exact g2 k (by omega)
  refine ⟨fun _ => gx_nx ⟨D, hd, ?_, ?_, ?_, Or.inr ⟨by rw [hfr4.1 2 (by decide)]; exact e2, D, hd, gx_KV_fr hn (by decide) (by decide) hfr4 hk2, r1, r2, fun i hi p hp => ?_⟩⟩, fun e => e rfl⟩
  · obtain ⟨v1, v2, v3, v4, v5, v6, v7⟩ := hv
    exact ⟨by rw [w1 64 (by decide), v1], by rw [w1 65 (by decide), v2], by rw [w1 66 (by decide), v3], by rw [w1 67 (by decide), v4], fun k hk => by rw [w2 10 (by decide), v5 k hk], by rw [w1 70 (by decide), v6], fun i hi p hp => by rw [w2 (57 + i) (by omega), v7 i hi p hp]⟩
  · obtain ⟨v1, v2, v3⟩ := hm
    exact ⟨fun k hk => by rw [w2 30 (by decide), v1 k hk], by rw [w1 515 (by decide), v2], fun i hi p hp => by rw [w2 31 (by decide), v3 i hi p hp]⟩
  · obtain ⟨t, t1, t2, t3, t4⟩ := ht
    exact ⟨t, t1, by rw [w1 193 (by decide), t2], by rw [w1 520 (by decide), t3], fun k hk => by rw [w2 14 (by decide), w2 32 (by decide)]; exact t4 k hk⟩
  · rw [r3 _ (by omega)]; exact hm.2.2 i hi p hp
theorem gx_cp12 {D : gx_D} {M : fx_Mem} (hd : gx_ok D) (hv : gx_KV D M) {Q : fx_Mem → Prop} (h : ∀ M', (∀ k, ¬ (k = 64 ∨ k = 65 ∨ k = 66 ∨ k = 67 ∨ k = 70) → M'.1 k = M.1 k) → (∀ k, ¬ (k = 10 ∨ (57 ≤ k ∧ k < 77)) → M'.2.1 k = M.2.1 k) → M'.2.2 = M.2.2 → gx_CV D M' → Q M') : wp_X1_copyFrom_1_2 M Q := by
  have hn := hd.1
  obtain ⟨v1, v2, v3, v4, v5, v6, v7⟩ := hv
  unfold wp_X1_copyFrom_1_2
  rw [v1]
  rintro _ rfl
  rw [gx_r2 _ _ (by decide), v2]
  rintro _ rfl
  rw [gx_r2 _ _ (by decide), gx_r2 _ _ (by decide), v3]
  rintro _ rfl
  rw [gx_r2 _ _ (by decide), gx_r2 _ _ (by decide), gx_r2 _ _ (by decide), v4]
  rintro _ rfl
  rw [gx_r2 _ _ (by decide), gx_r2 _ _ (by decide), gx_r2 _ _ (by decide), gx_r2 _ _ (by decide), v6]
  rintro _ rfl
  generalize hM5 : fx_si (fx_si (fx_si (fx_si (fx_si M 64 (D.2.1 0)) 65 (D.2.1 1)) 66 (D.2.1 2)) 67 (D.2.1 3)) 70 (nI D.2.2) = M5
  have f2 : M5.2 = M.2 := by rw [← hM5, gx_r3, gx_r3, gx_r3, gx_r3, gx_r3]
  have f1 : ∀ k, ¬ (k = 64 ∨ k = 65 ∨ k = 66 ∨ k = 67 ∨ k = 70) → M5.1 k = M.1 k := by
    intro k hk
    rw [← hM5, gx_r2 _ _ (by omega), gx_r2 _ _ (by omega), gx_r2 _ _ (by omega), gx_r2 _ _ (by omega), gx_r2 _ _ (by omega)]
  have k1 : M5.1 64 = D.2.1 0 := by rw [← hM5, gx_r2 _ _ (by decide), gx_r2 _ _ (by decide), gx_r2 _ _ (by decide), gx_r2 _ _ (by decide), gx_r1]
  have k2 : M5.1 65 = D.2.1 1 := by rw [← hM5, gx_r2 _ _ (by decide), gx_r2 _ _ (by decide), gx_r2 _ _ (by decide), gx_r1]
  have k3 : M5.1 66 = D.2.1 2 := by rw [← hM5, gx_r2 _ _ (by decide), gx_r2 _ _ (by decide), gx_r1]
  have k4 : M5.1 67 = D.2.1 3 := by rw [← hM5, gx_r2 _ _ (by decide), gx_r1]
  have k5 : M5.1 70 = nI D.2.2 := by rw [← hM5, gx_r1]
  clear hM5
  rintro _ rfl
  refine gx_cnt 20 (fun t s => ∃ M1, s = (nI t, M1) ∧ M1.1 = M5.1 ∧ M1.2.2 = M5.2.2 ∧ (∀ k, ¬ (k = 10 ∨ (57 ≤ k ∧ k < 77)) → M1.2.1 k = M.2.1 k) ∧ (∀ k, k < 5 → M1.2.1 10 k = D.2.1 (4 + k)) ∧ (∀ k, k < t → ∀ p, p < 10 → M1.2.1 (57 + k) p = M.2.1 (77 + k) p)) ?_ (0, _) ⟨_, rfl, rfl, rfl, fun k hk => by rw [gx_r7 _ _ (by omega), f2], fun k hk => by rw [gx_r6, pk_cpy_in (by omega) (by omega), f2, show 0 + (k - 0) = k by omega]; exact v5 k hk, fun k hk => absurd hk (by omega)⟩
  rintro t _ kk htt ⟨M1, rfl, q1, q2, q3, q4, q5⟩ hkk
  show wb_X1_copyFrom_1_2_56 (fun x2 M => kk (x2, M)) _ (nI t) M1
  unfold wb_X1_copyFrom_1_2_56
  rw [show (20 : Int32) = nI 20 from rfl, nI_leI (by omega) (by omega), nI_clamp (by omega)]
  refine ⟨fun e => ?_, fun e => ⟨vp_in_nI (by omega) (by omega), vp_in_nI (by omega) (by omega), ?_⟩⟩
  · refine h M1 (fun k hk => by rw [q1]; exact f1 k hk) q3 (by rw [q2, f2]) ⟨by rw [q1]; exact k1, by rw [q1]; exact k2, by rw [q1]; exact k3, by rw [q1]; exact k4, q4, by rw [q1]; exact k5, fun i hi p hp => ?_⟩
    rw [q5 i (by omega) p hp]; exact v7 i hi p hp
  · rintro _ rfl _ rfl
    rw [nI_1]
    refine hkk _ (by omega) ⟨_, rfl, q1, q2, fun k hk => by rw [gx_r7 _ _ (by omega)]; exact q3 k hk, fun k hk => by rw [gx_r7 _ _ (by omega)]; exact q4 k hk, fun k hk p hp => ?_⟩
    by_cases e1 : k = t
    · rw [e1, gx_r6, pk_cpy_in (by omega) (by omega), q3 _ (by omega), show 0 + (p - 0) = p by omega]
    · rw [gx_r7 _ _ (by omega)]; exact q5 k (by omega) p hp
theorem gx_case27 {L : Nat} {xs : Nat → Int32} {j : Nat} {M : fx_Mem} (h : gx_Inv M) : wb_law_1578 L xs (gx_K j) (nI j) M := by
  obtain ⟨D0, hd0, hv0, hm0, ht, hs⟩ := h
  have hs2 := hs
  unfold wb_law_1578 wp_L_restore_0_9 wp_X6_restore_0 wp_X7_restore_8 wp_X7_thrown_8
  rcases hs with ⟨s1, s2⟩ | ⟨s1, D, hd, hk, hsv⟩
  · rw [s1]
    refine ⟨fun _ => ⟨rfl, ?_⟩, fun e => absurd rfl e⟩
    dsimp only
    rw [s2]
    refine ⟨fun e => absurd e (by decide), fun _ => ?_⟩
    unfold wp_X7_fails_8
    rintro _ rfl
    exact gx_fa hd0 hv0 hm0 ⟨ht, hs2⟩ 1 (by decide) _
  rw [s1]
  have hn := hd.1
  refine ⟨fun e => absurd e (by decide), fun _ => gx_cp12 hd hk (fun M1 f1 f2 f3 hc => ?_)⟩
  rw [hc.2.2.2.2.2.1]
  rintro _ rfl
  have hfr : gx_fr [] [] [9] M1 (fx_sl M1 9 0 (nI D.2.2).toInt64) := gx_fr_sl _ _ (gx_fr_rfl _ _ _ _) (by decide)
  have e546 : (fx_sl M1 9 0 (nI D.2.2).toInt64).1 546 = nI D.2.2 := by rw [gx_rc, f1 546 (by decide)]; exact hsv.1
  have e56 : (fx_sl M1 9 0 (nI D.2.2).toInt64).2.1 56 = M.2.1 56 := by rw [gx_rd]; exact f2 56 (by decide)
  have hc2 := gx_CV_fr hn (by decide) (by decide) hfr hc
  have ht1 : gx_TX M1 := by
    obtain ⟨t, t1, t2, t3, t4⟩ := ht
    exact ⟨t, t1, by rw [f1 193 (by decide), t2], by rw [f1 520 (by decide), t3], fun k hk => by rw [f2 14 (by decide), f2 32 (by decide)]; exact t4 k hk⟩
  have hs1 : gx_SK M1 := by
    obtain ⟨v1, v2, v3, v4, v5, v6, v7⟩ := hk
    obtain ⟨w1, w2, w3⟩ := hsv
    exact Or.inr ⟨by rw [f1 2 (by decide), s1], D, hd, ⟨by rw [f1 128 (by decide), v1], by rw [f1 129 (by decide), v2], by rw [f1 130 (by decide), v3], by rw [f1 131 (by decide), v4], fun k hk => by rw [f2 12 (by decide), v5 k hk], by rw [f1 134 (by decide), v6], fun i hi p hp => by rw [f2 (77 + i) (by omega), v7 i hi p hp]⟩, ⟨by rw [f1 546 (by decide), w1], fun k hk => by rw [f2 56 (by decide), w2 k hk], fun i hi p hp => by rw [f2 56 (by decide), w3 i hi p hp]⟩⟩
  have hr := gx_rest (by decide) (by decide) hfr ⟨ht1, hs1⟩
  have ho : (fx_sl M1 9 0 (nI D.2.2).toInt64).2.2 9 0 = (nI D.2.2).toInt64 := by rw [gx_re, pk_uLs]
  generalize fx_sl M1 9 0 (nI D.2.2).toInt64 = M2 at *
  rw [e546, gx_na (by omega)]
  refine ⟨fun _ => ?_, fun e => absurd trivial e⟩
  rintro _ rfl
  rw [gx_r2 _ _ (by decide), e546]
  rintro _ rfl
  refine gx_cnt 9 (fun t s => ∃ M3, s = (nI t, M3) ∧ gx_fr [512, 515] [30, 31] [] M2 M3 ∧ M3.1 512 = 0 ∧ M3.1 515 = nI D.2.2 ∧ (∀ k, k < t → M3.2.1 30 k = D.2.1 k)) ?_ (0, fx_si (fx_si M2 512 0) 515 (nI D.2.2)) ⟨_, rfl, gx_fr_si _ (gx_fr_si _ (gx_fr_rfl _ _ _ _) (by decide)) (by decide), by rw [gx_r2 _ _ (by decide), gx_r1], gx_r1 _ _ _, fun k hk => absurd hk (by omega)⟩
  rintro t _ kk htt ⟨M3, rfl, hfr3, q0, q1, q2⟩ hkk
  show wb_X7_restore_8_28 (fun x1 M => kk (x1, M)) _ _ (nI t) M3
  unfold wb_X7_restore_8_28
  rw [show (9 : Int32) = nI 9 from rfl, nI_leI (by omega) (by omega), show (200 : Int32) + nI t = nI (200 + t) from nI_add 200 t, nI_clamp (n := 200 + t) (by omega), nI_clamp (n := t) (by omega)]
  refine ⟨fun e => ?_, fun e => ⟨vp_in_nI (by omega) (by omega), vp_in_nI (by omega) (by omega), ?_⟩⟩
  rotate_left
  · rw [hfr3.2.1 56 (by decide), e56, hsv.2.1 t (by omega)]
    rintro _ rfl _ rfl
    rw [nI_1]
    refine hkk _ (by omega) ⟨_, rfl, gx_fr_sa _ _ hfr3 (by decide), q0, q1, fun k hk => ?_⟩
    rw [gx_ra]
    by_cases e1 : k = t
    · rw [e1, pk_us]
    · rw [pk_un e1]; exact q2 k (by omega)
  unfold wb_X7_restore_8_56
  refine gx_cnt 200 (fun u s => ∃ M4, s = (nI u, M4) ∧ gx_fr [512, 515] [30, 31] [] M2 M4 ∧ M4.1 512 = 0 ∧ M4.1 515 = nI D.2.2 ∧ (∀ k, k < 9 → M4.2.1 30 k = D.2.1 k) ∧ (∀ q, q < u → M4.2.1 31 q = M.2.1 56 q)) ?_ (0, M3) ⟨M3, rfl, hfr3, q0, q1, fun k hk => q2 k (by omega), fun k hk => absurd hk (by omega)⟩
  rintro u _ kk2 huu ⟨M4, rfl, hfr4, r0, r1, r2, r3⟩ hkk2
  show wb_X7_restore_8_58 (fun x1 M => kk2 (x1, M)) _ _ (nI u) M4
  unfold wb_X7_restore_8_58
  rw [show (200 : Int32) = nI 200 from rfl, nI_leI (by omega) (by omega), nI_clamp (by omega)]
  refine ⟨fun e3 => ?_, fun e3 => ⟨vp_in_nI (by omega) (by omega), vp_in_nI (by omega) (by omega), ?_⟩⟩
  rotate_left
  · rw [hfr4.2.1 56 (by decide), e56]
    rintro _ rfl _ rfl
    rw [nI_1]
    refine hkk2 _ (by omega) ⟨_, rfl, gx_fr_sa _ _ hfr4 (by decide), r0, r1, fun k hk => by rw [gx_rb _ _ _ (by decide)]; exact r2 k hk, fun q hq => ?_⟩
    rw [gx_ra]
    by_cases e1 : q = u
    · rw [e1, pk_us]
    · rw [pk_un e1]; exact r3 q (by omega)
  unfold wb_X7_restore_8_83
  rw [r1]
  have hr4 := gx_rest (by decide) (by decide) hfr4 hr
  refine gx_tl r0 (fun _ => by rw [hfr4.2.2 9 (by decide)]; exact ho) ⟨D, hd, gx_CV_fr hn (by decide) (by decide) hfr4 hc2, ⟨r2, r1, fun i hi p hp => ?_⟩, hr4.1, hr4.2⟩
  rw [r3 _ (by omega)]; exact hsv.2.2 i hi p hp
