/-! the class's cross axis -/
theorem gx_msC {D : gx_D} {M : fx_Mem} (hv : gx_CV D M) (hd : gx_ok D) (ha : gx_AC D M) {l a m : Nat} (hl : gx_ln D l a m) {Q : fx_Mem → Prop}
    (h : ∀ M', gx_fr [] [26, 27] [] M M' → M'.2.1 26 l = gx_ns D l → M'.2.1 27 l = gx_as D l → (∀ j, j ≠ l → M'.2.1 26 j = M.2.1 26 j ∧ M'.2.1 27 j = M.2.1 27 j) → Q M') : wp_X2_measure_7_1_5 (nI l) M Q := by
  obtain ⟨m1, m2, m3, m4, m5⟩ := gx_ln_b hd hl
  obtain ⟨e1, e2, e3⟩ := gx_lnC hd ha hl
  obtain ⟨q1, q2⟩ := gx_ln_eq hl
  unfold wp_X2_measure_7_1_5
  rw [nI_clamp (n := l) (by omega), e1]
  refine ⟨vp_in_nI (by omega) (by omega), ?_⟩
  rintro _ rfl
  refine gx_cnt m (fun t s => s = (nI l, (gx_nt D a t).1, (gx_nt D a t).2.1, (gx_nt D a t).2.2.1, gx_b (gx_nt D a t).2.2.2, nI (a + t), M)) ?_ (nI l, 0, 0, 0, 0, nI a, M) rfl
  rintro t _ k ht rfl hk
  show wb_X2_measure_7_1_5_20 (fun x3 x4 x5 x6 x7 x8 M => k (x3, x4, x5, x6, x7, x8, M)) (wb_X2_measure_7_1_5_127 Q) Q (nI l) (gx_nt D a t).1 (gx_nt D a t).2.1 (gx_nt D a t).2.2.1 (gx_b (gx_nt D a t).2.2.2) (nI (a + t)) M
  unfold wb_X2_measure_7_1_5_20 wb_X2_measure_7_1_5_102 wb_X2_measure_7_1_5_121
  rw [nI_1 l, nI_clamp (n := l + 1) (by omega), e2, nI_leI (by omega) (by omega), nI_clamp (n := a + t) (by omega)]
  refine ⟨vp_in_nI (by omega) (by omega), fun hc => ?_, fun hc => ⟨vp_in_nI (by omega) (by omega), ?_⟩⟩
  · have e : t = m := by omega
    subst e
    unfold wb_X2_measure_7_1_5_127
    rw [nI_clamp (n := l) (by omega)]
    refine ⟨vp_in_nI (by omega) (by omega), ?_⟩
    rintro _ rfl
    refine ⟨vp_in_nI (by omega) (by omega), ?_⟩
    rintro _ rfl
    refine h _ (gx_fr_sa _ _ (gx_fr_sa _ _ (gx_fr_rfl _ _ _ _) (by decide)) (by decide)) ?_ ?_ (fun j hj => ?_)
    · rw [gx_rb _ _ _ (by decide), gx_ra, pk_us]; unfold gx_ns; rw [q2, q1]; rfl
    · rw [gx_ra, pk_us]; unfold gx_as; rw [q2, q1]
    · rw [gx_rb _ _ _ (by decide), gx_ra, pk_un hj, gx_ra, pk_un hj, gx_rb _ _ _ (by decide)]; exact ⟨rfl, rfl⟩
  · have htm : t < m := by omega
    obtain ⟨f1, f2⟩ := e3 t htm
    rw [f1]
    rintro _ rfl
    rw [gx_alC hv hd f2, nI_clamp (n := gx_it D (a + t)) (by omega), hv.2.2.2.2.2.2 _ f2 5 (by decide), hv.2.2.2.2.2.2 _ f2 6 (by decide), gx_b0]
    refine ⟨vp_in_nI (by omega) (by omega), fun h4 => ?_, fun h4 => ?_⟩
    · rintro _ rfl _ rfl
      refine ⟨fun hb => ?_, fun hb => ?_⟩
      · rintro _ rfl
        rw [nI_1]
        refine hk _ htm ?_
        conv => rhs; unfold gx_nt
        rw [if_pos h4, hb]; rfl
      · have hb2 : (gx_nt D a t).2.2.2 = true := by simpa using hb
        rintro _ rfl
        rw [nI_1]
        refine hk _ htm ?_
        conv => rhs; unfold gx_nt
        rw [if_pos h4, hb2]; rfl
    · rintro _ rfl _ rfl
      rw [nI_1]
      refine hk _ htm ?_
      conv => rhs; unfold gx_nt
      rw [if_neg h4]; rfl
theorem gx_lenC {D : gx_D} {M : fx_Mem} (hv : gx_CV D M) (hd : gx_ok D) (ha : gx_AC D M) {c : Nat → Int32} (hc : ∀ l, l < gx_L D → M.2.1 26 l = c l) {Q : Int32 → fx_Mem → Prop} (h : Q (gx_tk D c) M) : wp_X2_lengthOfLines_7_1_5 M Q := by
  have hn := hd.1
  have hLn := gx_L_le D
  unfold wp_X2_lengthOfLines_7_1_5
  refine gx_cnt (gx_L D) (fun l s => s = (gx_sm (fun l => c l + (if l = 0 then 0 else D.2.1 3)) 0 l, nI l, M)) ?_ (0, 0, M) rfl
  rintro l _ k hl rfl hk
  show wb_X2_lengthOfLines_7_1_5_5 (fun x3 x4 M => k (x3, x4, M)) Q (gx_sm (fun l => c l + (if l = 0 then 0 else D.2.1 3)) 0 l) (nI l) M
  unfold wb_X2_lengthOfLines_7_1_5_5 wb_X2_lengthOfLines_7_1_5_35
  rw [ha.1, nI_leI (by omega) (by omega), nI_clamp (n := l) (by omega), gx_n3 (by omega), hv.2.2.2.1]
  refine ⟨fun e => ?_, fun e => ⟨vp_in_nI (by omega) (by omega), ?_⟩⟩
  · unfold gx_tk at h; rw [show gx_L D = l by omega] at h; exact h
  · rw [hc l (by omega)]
    refine ⟨fun e0 => ?_, fun e0 => ?_⟩
    · rintro _ rfl _ rfl
      rw [nI_1]
      refine hk _ (by omega) ?_
      rw [gx_sm_succ, Nat.zero_add, if_pos e0]
    · rintro _ rfl _ rfl
      rw [nI_1]
      refine hk _ (by omega) ?_
      rw [gx_sm_succ, Nat.zero_add, if_neg e0]
theorem gx_strC {D : gx_D} {M : fx_Mem} (hv : gx_CV D M) (hd : gx_ok D) (ha : gx_AC D M) (hc : ∀ l, l < gx_L D → M.2.1 26 l = gx_ns D l) {Q : fx_Mem → Prop}
    (h : ∀ M', gx_fr [] [16, 26] [15, 17] M M' → (∀ l, l < gx_L D → M'.2.1 26 l = if 0 < gx_f0 D then gx_ns D l + nI (gx_dv (gx_f0 D).toNatClampNeg (fun _ => 1) (gx_L D) l) else gx_ns D l) → Q M') : wp_X2_stretch_7_1_5_4 M Q := by
  have hn := hd.1
  have hLn := gx_L_le D
  have hfb := gx_f0_b hd
  unfold wp_X2_stretch_7_1_5_4
  refine gx_lenC hv hd ha hc ?_
  rw [hv.2.1]
  rintro _ rfl
  show ((0 < gx_f0 D → _) ∧ (¬ 0 < gx_f0 D → _))
  refine ⟨fun hp => ?_, fun hp => h M (gx_fr_rfl _ _ _ _) (fun l hl => by rw [if_neg hp]; exact hc l hl)⟩
  simp only [if_pos hp] at h
  have hp2 : 0 ≤ (gx_f0 D).toInt := by rw [fa_lt, show (0 : Int32).toInt = 0 from rfl] at hp; omega
  have ef : D.2.1 1 - gx_tk D (gx_ns D) = nI (gx_f0 D).toNatClampNeg := gx_nn hp2
  rw [ef]
  generalize hpp : (gx_f0 D).toNatClampNeg = p at h
  have hpb : p ≤ 9999 := by rw [← hpp, gx_nnv]; omega
  refine gx_cnt (gx_L D) (fun l s => ∃ M1, s = (nI p, nI l, M1) ∧ gx_fr [] [16, 26] [15, 17] M M1 ∧ M1.2.1 26 = M.2.1 26 ∧ (∀ j, j < l → M1.2.2 15 j = lN 1)) ?_ (nI p, 0, M) ⟨M, rfl, gx_fr_rfl _ _ _ _, rfl, fun j hj => absurd hj (by omega)⟩
  rintro l _ k hl ⟨M1, rfl, hfr, h26, hw⟩ hk
  have ha1 := gx_AC_fr (by decide) (by decide) hfr ha
  show wb_X2_stretch_7_1_5_4_22 (fun x4 x5 M => k (x4, x5, M)) (wb_X2_stretch_7_1_5_4_45 Q) Q (nI p) (nI l) M1
  unfold wb_X2_stretch_7_1_5_4_22
  rw [ha1.1, nI_leI (by omega) (by omega), nI_clamp (n := l) (by omega)]
  refine ⟨fun e => ?_, fun e => ⟨vp_in_nI (by omega) (by omega), ?_⟩⟩
  rotate_left
  · rintro _ rfl _ rfl
    rw [nI_1]
    refine hk _ (by omega) ⟨_, rfl, gx_fr_sl _ _ hfr (by decide), h26, fun j hj => ?_⟩
    rw [gx_re]
    by_cases e2 : j = l
    · rw [e2, pk_uLs]; rfl
    · rw [pk_uLn e2]; exact hw j (by omega)
  have el : l = gx_L D := by omega
  subst el
  clear hk hl e k
  unfold wb_X2_stretch_7_1_5_4_45
  rw [ha1.1]
  refine gx_divC (w := fun _ => 1) (by omega) (by omega) (fun t _ => by omega) hw (fun M2 hfr2 h16 => ?_)
  refine gx_cnt (gx_L D) (fun l s => ∃ M3, s = (nI l, M3) ∧ gx_fr [] [26] [] M2 M3 ∧ (∀ j, j < gx_L D → M3.2.1 26 j = if j < l then gx_ns D j + nI (gx_dv p (fun _ => 1) (gx_L D) j) else gx_ns D j)) ?_ (0, M2) ⟨M2, rfl, gx_fr_rfl _ _ _ _, fun j hj => by rw [if_neg (by omega), hfr2.2.1 26 (by decide), h26]; exact hc j hj⟩
  rintro l _ k hl ⟨M3, rfl, hfr3, h3⟩ hk
  have ha3 := gx_AC_fr (by decide) (by decide) hfr3 (gx_AC_fr (by decide) (by decide) hfr2 ha1)
  show wb_X2_stretch_7_1_5_4_58 (fun x5 M => k (x5, M)) Q (nI l) M3
  unfold wb_X2_stretch_7_1_5_4_58
  rw [ha3.1, nI_leI (by omega) (by omega), nI_clamp (n := l) (by omega)]
  refine ⟨fun e => h M3 (gx_fr_tr hfr (gx_fr_tr (gx_fr_mo hfr2 (by decide) (by decide) (by decide)) (gx_fr_mo hfr3 (by decide) (by decide) (by decide)))) (fun j hj => by rw [h3 j hj, if_pos (by omega)]), fun e => ⟨vp_in_nI (by omega) (by omega), vp_in_nI (by omega) (by omega), vp_in_nI (by omega) (by omega), ?_⟩⟩
  rintro _ rfl _ rfl
  have hlL : l < gx_L D := by omega
  rw [nI_1, h3 l hlL, if_neg (by omega), hfr3.2.1 16 (by decide), h16 l hlL]
  refine hk _ hlL ⟨_, rfl, gx_fr_sa _ _ hfr3 (by decide), fun j hj => ?_⟩
  rw [gx_ra]
  by_cases e2 : j = l
  · rw [e2, pk_us, if_pos (by omega)]
  · rw [pk_un e2, h3 j hj]
    by_cases e3 : j < l
    · rw [if_pos e3, if_pos (by omega)]
    · rw [if_neg e3, if_neg (by omega)]
theorem gx_pilC {D : gx_D} {M : fx_Mem} (hv : gx_CV D M) (hd : gx_ok D) {l k : Nat} (hl : l < gx_L D) (hk : k < D.2.2) (h26 : M.2.1 26 l = gx_lc D l) (h27 : M.2.1 27 l = gx_as D l) (h28 : M.2.1 28 (gx_it D k) = gx_cs D l k) {Q : Int32 → fx_Mem → Prop} (h : Q (gx_wi D l k) M) : wp_X2_positionInLine_7_1 (nI (gx_it D k)) (nI l) M Q := by
  have hn := hd.1
  have hLn := gx_L_le D
  have f2 := gx_it_lt hk
  have b1 := gx_lc_b hd hl
  have b2 := gx_cs_b hd hl hk
  unfold wp_X2_positionInLine_7_1
  rw [nI_clamp (n := l) (by omega), nI_clamp (n := gx_it D k) (by omega), h26, h28]
  refine ⟨vp_in_nI (by omega) (by omega), vp_in_nI (by omega) (by omega), ?_⟩
  rintro _ rfl
  rw [gx_alC hv hd f2, h27, hv.2.2.2.2.2.2 _ f2 6 (by decide), gx_fd (by rw [gx_ts (by omega) (by omega)]; omega)]
  unfold gx_wi at h
  refine ⟨fun e => ?_, fun e => ?_, fun e => ⟨vp_in_nI (by omega) (by omega), vp_in_nI (by omega) (by omega), ?_⟩, fun e1 e2 e3 => ?_⟩
  · rw [if_pos e] at h; exact h
  · rw [if_neg (by rw [e]; decide), if_pos e] at h; exact h
  · rw [if_neg (by rw [e]; decide), if_neg (by rw [e]; decide), if_pos e] at h; exact h
  · rw [if_neg e1, if_neg e2, if_neg e3] at h; exact h
theorem gx_putC {D : gx_D} {M : fx_Mem} (hv : gx_CV D M) (hd : gx_ok D) {l k : Nat} (hl : l < gx_L D) (hk : k < D.2.2) (h26 : M.2.1 26 l = gx_lc D l) (h27 : M.2.1 27 l = gx_as D l) (hex : M.1 452 = gx_ex D) {Q : fx_Mem → Prop}
    (h : ∀ M', gx_fr [] [28, 29] [] M M' → M'.2.1 28 (gx_it D k) = gx_cs D l k → M'.2.1 29 (gx_it D k) = gx_cp D l k → (∀ i, i ≠ gx_it D k → M'.2.1 28 i = M.2.1 28 i ∧ M'.2.1 29 i = M.2.1 29 i) → Q M') : wp_X2_put_7_1 (nI (gx_it D k)) (nI l) (gx_la D l) M Q := by
  have hn := hd.1
  have hLn := gx_L_le D
  have f2 := gx_it_lt hk
  have st : ∀ v : Int32, v = gx_cs D l k → wb_X2_put_7_1_55 Q (nI (gx_it D k)) (nI l) (gx_la D l) v (nI (gx_it D k)) M := by
    rintro _ rfl
    unfold wb_X2_put_7_1_55
    rw [nI_clamp (n := gx_it D k) (by omega)]
    refine ⟨vp_in_nI (by omega) (by omega), ?_⟩
    rintro _ rfl
    have hfr : gx_fr [] [28, 29] [] M (fx_sa M 28 (gx_it D k) (gx_cs D l k)) := gx_fr_sa _ _ (gx_fr_rfl _ _ _ _) (by decide)
    have hv1 := gx_CV_fr hn (by decide) (by decide) hfr hv
    refine gx_pilC hv1 hd hl hk (by rw [gx_rb _ _ _ (by decide)]; exact h26) (by rw [gx_rb _ _ _ (by decide)]; exact h27) (by rw [gx_ra, pk_us]) ?_
    rintro _ rfl
    have s1 := hv1.2.2.2.2.1 1 (by decide)
    rw [s1, gx_r8, hex, gx_ra, pk_us]
    have st2 : ∀ v : Int32, v = gx_cp D l k → wb_X2_put_7_1_102 Q v (nI (gx_it D k)) (fx_sa M 28 (gx_it D k) (gx_cs D l k)) := by
      rintro _ rfl
      unfold wb_X2_put_7_1_102
      rw [nI_clamp (n := gx_it D k) (by omega)]
      refine ⟨vp_in_nI (by omega) (by omega), ?_⟩
      rintro _ rfl
      refine h _ (gx_fr_sa _ _ hfr (by decide)) (by rw [gx_rb _ _ _ (by decide), gx_ra, pk_us]) (by rw [gx_ra, pk_us]) (fun i hi => ?_)
      rw [gx_rb _ _ _ (by decide), gx_ra, pk_un hi, gx_ra, pk_un hi, gx_rb _ _ _ (by decide)]
      exact ⟨rfl, rfl⟩
    refine ⟨fun e => ⟨vp_in_nI (by omega) (by omega), st2 _ ?_⟩, fun e => st2 _ ?_⟩
    · unfold gx_cp; rw [if_pos e]
    · unfold gx_cp; rw [if_neg e]
  unfold wp_X2_put_7_1 wb_X2_put_7_1_29 wb_X2_put_7_1_30
  rw [gx_alC hv hd f2, nI_clamp (n := gx_it D k) (by omega), nI_clamp (n := l) (by omega), hv.2.2.2.2.2.2 _ f2 5 (by decide), hv.2.2.2.2.2.2 _ f2 9 (by decide), h26]
  refine ⟨vp_in_nI (by omega) (by omega), fun e => ⟨fun e1 => ⟨fun x => absurd x (by decide), fun _ => ⟨vp_in_nI (by omega) (by omega), st _ ?_⟩⟩, fun e1 => ⟨fun _ => st _ ?_, fun x => absurd rfl x⟩⟩, fun e => ⟨fun _ => st _ ?_, fun x => absurd rfl x⟩⟩
  · unfold gx_cs; rw [if_pos ⟨e, e1⟩]
  · unfold gx_cs; rw [if_neg (fun x => e1 x.2)]; rfl
  · unfold gx_cs; rw [if_neg (fun x => e x.1)]; rfl
/-- what the class's cross axis holds, up to a line -/
def gx_XC (D : gx_D) (n : Nat) (M : fx_Mem) : Prop := ∀ l, l < n → ∀ a m, gx_ln D l a m → ∀ t, t < m → M.2.1 28 (gx_it D (a + t)) = gx_cs D l (a + t) ∧ M.2.1 29 (gx_it D (a + t)) = gx_cp D l (a + t)
theorem gx_fpC {D : gx_D} {M : fx_Mem} (hv : gx_CV D M) (hd : gx_ok D) (ha : gx_AC D M) (h26 : ∀ l, l < gx_L D → M.2.1 26 l = gx_lc D l) (h27 : ∀ l, l < gx_L D → M.2.1 27 l = gx_as D l) (hex : M.1 452 = gx_ex D) {Q : fx_Mem → Prop}
    (h : ∀ M', gx_fr [] [28, 29] [] M M' → gx_XC D (gx_L D) M' → Q M') : wp_X2_findPositions_7_1_5 (gx_cf D) M Q := by
  have hn := hd.1
  have hLn := gx_L_le D
  have hcb := gx_ex_b hd
  have key : ∀ w : Int32, w = (if D.2.1 8 = 0 then 0 else D.2.1 8 - 1) → wb_X2_findPositions_7_1_5_21 Q (gx_cf D) w M := by
    intro w hw
    unfold wb_X2_findPositions_7_1_5_21
    refine gx_cnt (gx_L D) (fun l s => ∃ M1, s = (gx_cf D, w, gx_sm (fun l => gx_lc D l + D.2.1 3) 0 l, nI l, M1) ∧ gx_fr [] [28, 29] [] M M1 ∧ gx_XC D l M1) ?_ (gx_cf D, w, 0, 0, M) ⟨M, rfl, gx_fr_rfl _ _ _ _, fun l hl => absurd hl (by omega)⟩
    rintro l _ k hlL ⟨M1, rfl, hfr, hx⟩ hk
    have ha1 := gx_AC_fr (by decide) (by decide) hfr ha
    show wb_X2_findPositions_7_1_5_29 (fun x3 x5 x6 x7 M => k (x3, x5, x6, x7, M)) Q (gx_cf D) w (gx_sm (fun l => gx_lc D l + D.2.1 3) 0 l) (nI l) M1
    unfold wb_X2_findPositions_7_1_5_29
    rw [ha1.1, nI_leI (by omega) (by omega), nI_clamp (n := l) (by omega)]
    refine ⟨fun e => h M1 hfr (by rw [show gx_L D = l by omega]; exact hx), fun e => ?_⟩
    have hlt : l < gx_L D := by omega
    obtain ⟨a, m, hl⟩ := gx_ln_ex hlt
    obtain ⟨m1, m2, m3, m4, m5⟩ := gx_ln_b hd hl
    obtain ⟨e1, e2, e3⟩ := gx_lnC hd ha1 hl
    refine gx_ofC (by omega) (by omega) _ _ _ (by omega) ?_
    rintro _ rfl
    have ela : gx_sm (fun l => gx_lc D l + D.2.1 3) 0 l + gx_off w (gx_cf D) (nI l) (nI (gx_L D)) = gx_la D l := by rw [hw]; rfl
    rw [ela, e1]
    refine ⟨vp_in_nI (by omega) (by omega), ?_⟩
    rintro _ rfl
    refine gx_cnt m (fun t s => ∃ M2, s = (gx_cf D, w, gx_sm (fun l => gx_lc D l + D.2.1 3) 0 l, nI l, gx_la D l, nI (a + t), M2) ∧ gx_fr [] [28, 29] [] M M2 ∧ gx_XC D l M2 ∧ (∀ s, s < t → M2.2.1 28 (gx_it D (a + s)) = gx_cs D l (a + s) ∧ M2.2.1 29 (gx_it D (a + s)) = gx_cp D l (a + s))) ?_ (gx_cf D, w, gx_sm (fun l => gx_lc D l + D.2.1 3) 0 l, nI l, gx_la D l, nI a, M1) ⟨M1, rfl, hfr, hx, fun s hs => absurd hs (by omega)⟩
    rintro t _ k2 ht ⟨M2, rfl, hfr2, hx2, hp2⟩ hk2
    have hv2 := gx_CV_fr hn (by decide) (by decide) hfr2 hv
    have ha2 := gx_AC_fr (by decide) (by decide) hfr2 ha
    obtain ⟨e1, e2, e3⟩ := gx_lnC hd ha2 hl
    show wb_X2_findPositions_7_1_5_64 (fun x3 x5 x6 x7 x8 x9 M => k2 (x3, x5, x6, x7, x8, x9, M)) (wb_X2_findPositions_7_1_5_100 (fun x3 x5 x6 x7 M => k (x3, x5, x6, x7, M)) Q) Q (gx_cf D) w (gx_sm (fun l => gx_lc D l + D.2.1 3) 0 l) (nI l) (gx_la D l) (nI (a + t)) M2
    unfold wb_X2_findPositions_7_1_5_64
    rw [nI_1 l, nI_clamp (n := l + 1) (by omega), e2, nI_leI (by omega) (by omega), nI_clamp (n := a + t) (by omega)]
    have g26 : M2.2.1 26 l = gx_lc D l := by rw [hfr2.2.1 26 (by decide)]; exact h26 l hlt
    refine ⟨vp_in_nI (by omega) (by omega), fun hc => ?_, fun hc => ⟨vp_in_nI (by omega) (by omega), ?_⟩⟩
    · have e : t = m := by omega
      subst e
      unfold wb_X2_findPositions_7_1_5_100
      rw [nI_clamp (n := l) (by omega), g26, hv2.2.2.2.1]
      refine ⟨vp_in_nI (by omega) (by omega), ?_⟩
      rintro _ rfl _ rfl
      rw [nI_1]
      refine hk _ hlt ⟨M2, by rw [gx_sm_succ, Nat.zero_add], hfr2, fun l' hl' a' m' hln' s hs => ?_⟩
      by_cases e9 : l' = l
      · subst e9
        obtain ⟨ea, em⟩ := gx_ln_u hl hln'
        subst ea; subst em
        exact hp2 s hs
      · exact hx2 l' (by omega) a' m' hln' s hs
    · have htm : t < m := by omega
      obtain ⟨f1, f2⟩ := e3 t htm
      rw [f1]
      refine gx_putC hv2 hd hlt (by omega) g26 (by rw [hfr2.2.1 27 (by decide)]; exact h27 l hlt) (by rw [hfr2.1 452 (by decide)]; exact hex) (fun M3 hfr3 p1 p2 p3 => ?_)
      rintro _ rfl
      rw [nI_1]
      refine hk2 _ htm ⟨M3, rfl, gx_fr_tr hfr2 hfr3, fun l' hl' a' m' hln' s hs => ?_, fun s hs => ?_⟩
      · have hne := (gx_ln_ne hd hl hln' hl' htm hs).1
        rw [(p3 _ hne).1, (p3 _ hne).2]
        exact hx2 l' hl' a' m' hln' s hs
      · by_cases e9 : s = t
        · rw [e9]; exact ⟨p1, p2⟩
        · have hne : gx_it D (a + s) ≠ gx_it D (a + t) := fun e4 => e9 (by have := gx_it_inj (by omega) (by omega) e4; omega)
          rw [(p3 _ hne).1, (p3 _ hne).2]
          exact hp2 s (by omega)
  unfold wp_X2_findPositions_7_1_5
  rw [hv.2.2.2.2.1 4 (by decide)]
  rintro _ rfl
  exact ⟨fun e => key _ (by rw [if_pos e]), fun e => key _ (by rw [if_neg e])⟩
theorem gx_xlC {D : gx_D} {M : fx_Mem} (hv : gx_CV D M) (hd : gx_ok D) (ha : gx_AC D M) {Q : fx_Mem → Prop}
    (h : ∀ M', gx_fr [452] [16, 26, 27, 28, 29] [15, 17] M M' → M'.1 452 = gx_ex D → (∀ l, l < gx_L D → M'.2.1 26 l = gx_lc D l ∧ M'.2.1 27 l = gx_as D l) → gx_XC D (gx_L D) M' → Q M') : wp_X2_layOut_7_1_5_4 M Q := by
  have hn := hd.1
  have hLn := gx_L_le D
  unfold wp_X2_layOut_7_1_5_4
  refine gx_cnt (gx_L D) (fun l s => ∃ M1, s = (nI l, M1) ∧ gx_fr [452] [16, 26, 27, 28, 29] [15, 17] M M1 ∧ (∀ j, j < l → M1.2.1 26 j = gx_ns D j ∧ M1.2.1 27 j = gx_as D j)) ?_ (0, M) ⟨M, rfl, gx_fr_rfl _ _ _ _, fun j hj => absurd hj (by omega)⟩
  rintro l _ k hlL ⟨M1, rfl, hfr, hx⟩ hk
  have hv1 := gx_CV_fr hn (by decide) (by decide) hfr hv
  have ha1 := gx_AC_fr (by decide) (by decide) hfr ha
  show wb_X2_layOut_7_1_5_4_3 (fun x4 M => k (x4, M)) (wb_X2_layOut_7_1_5_4_26 Q) Q (nI l) M1
  unfold wb_X2_layOut_7_1_5_4_3
  rw [ha1.1, nI_leI (by omega) (by omega)]
  refine ⟨fun e => ?_, fun e => ?_⟩
  rotate_left
  · have hlt : l < gx_L D := by omega
    obtain ⟨a, m, hl⟩ := gx_ln_ex hlt
    refine gx_msC hv1 hd ha1 hl (fun M2 hfr2 p1 p2 p3 => ?_)
    rintro _ rfl
    rw [nI_1]
    refine hk _ hlt ⟨M2, rfl, gx_fr_tr hfr (gx_fr_mo hfr2 (by decide) (by decide) (by decide)), fun j hj => ?_⟩
    by_cases e9 : j = l
    · rw [e9]; exact ⟨p1, p2⟩
    · rw [(p3 j e9).1, (p3 j e9).2]; exact hx j (by omega)
  have el : l = gx_L D := by omega
  subst el
  clear hk e k hlL
  have hZ : ((0 : Int32) = 0) := rfl
  -- behind the cross sizes of the lines
  have key : ∀ (b : Bool) (M2 : fx_Mem), b = decide (¬ D.2.1 1 = -1) → gx_fr [452] [16, 26, 27, 28, 29] [15, 17] M M2 → (∀ j, j < gx_L D → M2.2.1 26 j = gx_lc D j ∧ M2.2.1 27 j = gx_as D j) → wb_X2_layOut_7_1_5_4_95 Q (gx_b b) M2 := by
    intro b M2 hb hfr2 hx2
    have hv2 := gx_CV_fr hn (by decide) (by decide) hfr2 hv
    have ha2 := gx_AC_fr (by decide) (by decide) hfr2 ha
    unfold wb_X2_layOut_7_1_5_4_95
    refine gx_lenC hv2 hd ha2 (fun l hl => (hx2 l hl).1) ?_
    have fin : ∀ v : Int32, v = gx_ex D → wb_X2_layOut_7_1_5_4_118 Q (gx_tk D (gx_lc D)) v M2 := by
      rintro _ rfl
      unfold wb_X2_layOut_7_1_5_4_118
      rintro _ rfl
      rw [gx_r1]
      have hfr3 : gx_fr [452] [16, 26, 27, 28, 29] [15, 17] M (fx_si M2 452 (gx_ex D)) := gx_fr_si _ hfr2 (by decide)
      refine gx_fpC (gx_CV_fr hn (by decide) (by decide) hfr3 hv) hd (gx_AC_fr (by decide) (by decide) hfr3 ha) (fun l hl => (hx2 l hl).1) (fun l hl => (hx2 l hl).2) (gx_r1 _ _ _) (fun M4 hfr4 hx4 => ?_)
      refine h M4 (gx_fr_tr hfr3 (gx_fr_mo hfr4 (by decide) (by decide) (by decide))) (by rw [hfr4.1 452 (by decide), gx_r1]) (fun l hl => ?_) hx4
      rw [hfr4.2.1 26 (by decide), hfr4.2.1 27 (by decide)]; exact hx2 l hl
    rw [gx_b0, hv2.2.1]
    refine ⟨fun e => fin _ ?_, fun e => fin _ ?_⟩
    · rw [hb] at e
      have e2 : D.2.1 1 = -1 := by simpa using e
      unfold gx_ex; rw [if_pos e2]
    · rw [hb] at e
      have e2 : ¬ D.2.1 1 = -1 := by simpa using e
      unfold gx_ex; rw [if_neg e2]
  have k74 : ∀ b : Bool, b = decide (¬ D.2.1 1 = -1) → ¬ (gx_L D = 1 ∧ D.2.1 5 = 0 ∧ ¬ D.2.1 1 = -1) → wb_X2_layOut_7_1_5_4_74 Q (gx_b b) M1 := by
    intro b hb hnm
    unfold wb_X2_layOut_7_1_5_4_74
    rw [gx_b0, hv1.2.2.2.2.1 4 (by decide)]
    refine ⟨fun e => key b M1 hb hfr (fun j hj => ?_), fun e => ⟨fun e2 => ?_, fun e2 => key b M1 hb hfr (fun j hj => ?_)⟩⟩
    · rw [hb] at e
      have e3 : D.2.1 1 = -1 := by simpa using e
      have em : gx_md D = 0 := by unfold gx_md; rw [if_pos e3]
      refine ⟨?_, (hx j hj).2⟩
      rw [(hx j hj).1]; unfold gx_lc; rw [em]; rfl
    · rw [hb] at e
      have e3 : ¬ D.2.1 1 = -1 := by simpa using e
      have e2' : D.2.1 8 = 0 := e2
      have en : ¬ (gx_L D = 1 ∧ D.2.1 5 = 0) := fun x => hnm ⟨x.1, x.2, e3⟩
      refine gx_strC hv1 hd ha1 (fun l hl => (hx l hl).1) (fun M2 hfr2 h26 => ?_)
      refine key b M2 hb (gx_fr_tr hfr (gx_fr_mo hfr2 (by decide) (by decide) (by decide))) (fun j hj => ⟨?_, by rw [hfr2.2.1 27 (by decide)]; exact (hx j hj).2⟩)
      rw [h26 j hj]
      by_cases hp : 0 < gx_f0 D
      · have em : gx_md D = 2 := by unfold gx_md; rw [if_neg e3, if_neg en, if_pos ⟨e2', hp⟩]
        unfold gx_lc; rw [em, if_pos hp]; rfl
      · have em : gx_md D = 0 := by unfold gx_md; rw [if_neg e3, if_neg en, if_neg (fun x => hp x.2)]
        unfold gx_lc; rw [em, if_neg hp]; rfl
    · rw [hb] at e
      have e3 : ¬ D.2.1 1 = -1 := by simpa using e
      have e2' : ¬ D.2.1 8 = 0 := e2
      have en : ¬ (gx_L D = 1 ∧ D.2.1 5 = 0) := fun x => hnm ⟨x.1, x.2, e3⟩
      have em : gx_md D = 0 := by unfold gx_md; rw [if_neg e3, if_neg en, if_neg (fun x => e2' x.1)]
      refine ⟨?_, (hx j hj).2⟩
      rw [(hx j hj).1]; unfold gx_lc; rw [em]; rfl
  have k39 : ∀ b : Bool, b = decide (¬ D.2.1 1 = -1) → wb_X2_layOut_7_1_5_4_39 Q (gx_b b) M1 := by
    intro b hb
    unfold wb_X2_layOut_7_1_5_4_39
    rw [gx_b0, ha1.1, show (1 : Int32) = nI 1 from rfl, nI_eq (by omega) (by omega), gx_wrC hv1, gx_b0]
    refine ⟨fun e => k74 b hb ?_, fun e => ⟨fun e1 => ⟨fun e2 => ?_, fun e2 => k74 b hb ?_⟩, fun e1 => k74 b hb (fun x => e1 x.1)⟩⟩
    · rw [hb] at e
      have e3 : D.2.1 1 = -1 := by simpa using e
      exact fun x => x.2.2 e3
    · rintro _ rfl
      rw [hb] at e
      have e3 : ¬ D.2.1 1 = -1 := by simpa using e
      have e4 : D.2.1 5 = 0 := by simpa using e2
      have em : gx_md D = 1 := by unfold gx_md; rw [if_neg e3, if_pos ⟨e1, e4⟩]
      refine key b _ hb (gx_fr_sa _ _ hfr (by decide)) (fun j hj => ?_)
      rw [gx_ra, gx_rb _ _ _ (by decide), show j = 0 by omega, pk_us, hv1.2.1]
      refine ⟨?_, (hx 0 (by omega)).2⟩
      unfold gx_lc; rw [em]; rfl
    · have e4 : ¬ D.2.1 5 = 0 := by simpa using e2
      exact fun x => e4 x.2.1
  unfold wb_X2_layOut_7_1_5_4_26
  rw [hv1.2.1]
  exact ⟨fun e => k39 false (by simp [e]), fun e => k39 true (by simp [e])⟩
