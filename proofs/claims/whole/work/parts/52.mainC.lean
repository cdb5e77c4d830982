/-! main positions, the class -/
def gx_mp (D : gx_D) (l a m t : Nat) : Int32 :=
  if gx_rev D then (D.2.1 0 - (gx_sm (fun k => (gx_xf D l).2 k + D.2.1 2) a t + gx_off (D.2.1 6) (gx_fs D l) (nI t) (nI m))) - (gx_xf D l).2 (a + t)
  else gx_sm (fun k => (gx_xf D l).2 k + D.2.1 2) a t + gx_off (D.2.1 6) (gx_fs D l) (nI t) (nI m)
theorem gx_xf_b {D : gx_D} (hd : gx_ok D) {l a m : Nat} (hl : gx_ln D l a m) : gx_xb a m (gx_xf D l) := by
  rw [(gx_xf_eq hl).1]; exact gx_rs_b hd hl _ _
theorem gx_fs_b {D : gx_D} (hd : gx_ok D) {l a m : Nat} (hl : gx_ln D l a m) : -700000 ≤ (gx_fs D l).toInt ∧ (gx_fs D l).toInt ≤ 9999 := by
  obtain ⟨m1, m2, m3, m4, m5⟩ := gx_ln_b hd hl
  have hb := gx_xf_b hd hl
  have ba := gx_av_b hd m1 (by omega)
  have hs := gx_sm_b (f := (gx_xf D l).2) (a := a) (lo := 0) (hi := 30000) (by omega) (by omega) (by omega) (by omega) (m := m) (by omega) hb
  have e : gx_fs D l = gx_av D m - gx_sm (gx_xf D l).2 a m := by
    rw [(gx_xf_eq hl).2.2, (gx_xf_eq hl).1]
  rw [e, gx_ts (by omega) (by omega)]; omega
theorem gx_s_mono {D : gx_D} {i j : Nat} (h : i ≤ j) : gx_s D i ≤ gx_s D j := by
  induction j with
  | zero => rw [show i = 0 by omega]; exact Nat.le_refl _
  | succ j ih =>
    rcases Nat.lt_or_ge i (j + 1) with e | e
    · have h1 := ih (by omega)
      rcases Nat.lt_or_ge j (gx_L D) with e2 | e2
      · have := gx_s_lt e2; omega
      · rw [gx_s_end (j := j + 1) (by omega)]; exact gx_s_le D i
    · rw [show i = j + 1 by omega]; exact Nat.le_refl _
theorem gx_ln_ne {D : gx_D} (hd : gx_ok D) {l l' a m a' m' t t' : Nat} (hl : gx_ln D l a m) (hl' : gx_ln D l' a' m') (h : l' < l) (ht : t < m) (ht' : t' < m') : gx_it D (a' + t') ≠ gx_it D (a + t) ∧ a' + t' < a := by
  obtain ⟨m1, m2, m3, m4, m5⟩ := gx_ln_b hd hl
  have h1 := gx_s_mono (D := D) (show l' + 1 ≤ l by omega)
  have x1 := hl.2.1
  have x2 := hl'.2.2
  refine ⟨fun e => ?_, by omega⟩
  have := gx_it_inj (by omega) (by omega) e
  omega
theorem gx_mpC {D : gx_D} {M : fx_Mem} (hv : gx_CV D M) (hd : gx_ok D) (ha : gx_AC D M) {l a m : Nat} (hl : gx_ln D l a m) (hS : ∀ t, t < m → M.2.1 20 (gx_it D (a + t)) = (gx_xf D l).2 (a + t)) (h23 : M.2.1 23 l = gx_fs D l) {Q : fx_Mem → Prop}
    (h : ∀ M', gx_fr [] [21] [] M M' → (∀ t, t < m → M'.2.1 21 (gx_it D (a + t)) = gx_mp D l a m t) → (∀ i, (∀ t, t < m → i ≠ gx_it D (a + t)) → M'.2.1 21 i = M.2.1 21 i) → Q M') : wp_X5_findPositions_6_1_5 (nI l) M Q := by
  obtain ⟨m1, m2, m3, m4, m5⟩ := gx_ln_b hd hl
  obtain ⟨e1, e2, e3⟩ := gx_lnC hd ha hl
  have hfb := gx_fs_b hd hl
  unfold wp_X5_findPositions_6_1_5
  rw [nI_1 l, nI_clamp (n := l) (by omega), nI_clamp (n := l + 1) (by omega), e1, e2]
  refine ⟨vp_in_nI (by omega) (by omega), ?_⟩
  rintro _ rfl
  rw [pk_sub (by omega), show a + m - a = m by omega]
  refine ⟨vp_in_nI (by omega) (by omega), ?_⟩
  rintro _ rfl
  refine gx_cnt m (fun t s => ∃ M1, s = (nI l, nI a, nI m, gx_sm (fun k => (gx_xf D l).2 k + D.2.1 2) a t, nI t, M1) ∧ gx_fr [] [21] [] M M1 ∧ (∀ s, s < t → M1.2.1 21 (gx_it D (a + s)) = gx_mp D l a m s) ∧ (∀ i, (∀ s, s < m → i ≠ gx_it D (a + s)) → M1.2.1 21 i = M.2.1 21 i)) ?_ (nI l, nI a, nI m, 0, 0, M) ⟨M, rfl, gx_fr_rfl _ _ _ _, fun s hs => absurd hs (by omega), fun i _ => rfl⟩
  rintro t _ k ht ⟨M1, rfl, hfr, h21, hout⟩ hk
  have hv1 := gx_CV_fr hd.1 (by decide) (by decide) hfr hv
  obtain ⟨e1, e2, e3⟩ := gx_lnC hd (gx_AC_fr (by decide) (by decide) hfr ha) hl
  show wb_X5_findPositions_6_1_5_27 (fun x3 x4 x5 x6 x7 M => k (x3, x4, x5, x6, x7, M)) Q (nI l) (nI a) (nI m) (gx_sm (fun k => (gx_xf D l).2 k + D.2.1 2) a t) (nI t) M1
  unfold wb_X5_findPositions_6_1_5_27
  rw [nI_leI (by omega) (by omega), nI_add, nI_clamp (n := l) (by omega), nI_clamp (n := a + t) (by omega)]
  refine ⟨fun hc => ?_, fun hc => ⟨vp_in_nI (by omega) (by omega), ?_⟩⟩
  · have e : t = m := by omega
    subst e; exact h M1 hfr h21 hout
  · have htm : t < m := by omega
    obtain ⟨f1, f2⟩ := e3 t htm
    rw [f1]
    rintro _ rfl
    rw [hfr.2.1 23 (by decide), h23, hv1.2.2.2.2.1 2 (by decide)]
    refine ⟨vp_in_nI (by omega) (by omega), gx_ofC m1 (by omega) _ _ _ (by omega) ?_⟩
    rintro _ rfl
    have h20 : M1.2.1 20 (gx_it D (a + t)) = (gx_xf D l).2 (a + t) := by rw [hfr.2.1 20 (by decide)]; exact hS t htm
    have st : ∀ v : Int32, v = gx_mp D l a m t → wb_X5_findPositions_6_1_5_103 (fun x3 x4 x5 x6 x7 M => k (x3, x4, x5, x6, x7, M)) Q (nI l) (nI a) (nI m) (gx_sm (fun k => (gx_xf D l).2 k + D.2.1 2) a t) (nI t) (nI (gx_it D (a + t))) v (nI (gx_it D (a + t))) M1 := by
      rintro _ rfl
      unfold wb_X5_findPositions_6_1_5_103
      rw [nI_clamp (by omega)]
      refine ⟨vp_in_nI (by omega) (by omega), ?_⟩
      rintro _ rfl
      refine ⟨vp_in_nI (by omega) (by omega), ?_⟩
      rintro _ rfl _ rfl
      rw [nI_1, gx_rb _ _ _ (by decide), h20, gx_r8, hv1.2.2.1]
      refine hk _ htm ⟨_, rfl, gx_fr_sa _ _ hfr (by decide), fun s hs => ?_, fun i hi => ?_⟩
      · rw [gx_ra]
        by_cases e : s = t
        · rw [e, pk_us]
        · rw [pk_un (fun e4 => e (by have := gx_it_inj (by omega) (by omega) e4; omega))]
          exact h21 s (by omega)
      · rw [gx_ra, pk_un (hi t htm)]; exact hout i hi
    rw [gx_reC hv1, gx_b0, nI_clamp (n := gx_it D (a + t)) (by omega), h20, hv1.1]
    refine ⟨fun hr => st _ ?_, fun hr => ⟨vp_in_nI (by omega) (by omega), st _ ?_⟩⟩
    · unfold gx_mp; rw [hr]; rfl
    · have hr2 : gx_rev D = true := by simpa using hr
      unfold gx_mp; rw [hr2]; rfl
/-- what the class's main axis holds, up to a line -/
def gx_MC (D : gx_D) (n : Nat) (M : fx_Mem) : Prop := ∀ l, l < n → ∀ a m, gx_ln D l a m → (∀ t, t < m → M.2.1 20 (gx_it D (a + t)) = (gx_xf D l).2 (a + t) ∧ M.2.1 21 (gx_it D (a + t)) = gx_mp D l a m t) ∧ M.2.1 22 l = nI (gx_rn D l) ∧ M.2.1 23 l = gx_fs D l
theorem gx_ln_ex {D : gx_D} {l : Nat} (h : l < gx_L D) : ∃ a m, gx_ln D l a m := by
  have := gx_s_lt h
  exact ⟨gx_s D l, gx_s D (l + 1) - gx_s D l, h, rfl, by omega⟩
theorem gx_ln_u {D : gx_D} {l a m a' m' : Nat} (h : gx_ln D l a m) (h' : gx_ln D l a' m') : a' = a ∧ m' = m := by
  obtain ⟨x1, x2, x3⟩ := h
  obtain ⟨y1, y2, y3⟩ := h'
  omega
theorem gx_mlC {D : gx_D} {M : fx_Mem} (hv : gx_CV D M) (hd : gx_ok D) (ha : gx_AC D M) {Q : fx_Mem → Prop}
    (h : ∀ M', gx_fr [] [16, 20, 21, 22, 23, 24, 25] [15, 17] M M' → gx_MC D (gx_L D) M' → Q M') : wp_X5_layOut_6_1_5_4 M Q := by
  have hn := hd.1
  have hLn := gx_L_le D
  unfold wp_X5_layOut_6_1_5_4
  refine gx_cnt (gx_L D) (fun l s => ∃ M1, s = (nI l, M1) ∧ gx_fr [] [16, 20, 21, 22, 23, 24, 25] [15, 17] M M1 ∧ gx_MC D l M1) ?_ (0, M) ⟨M, rfl, gx_fr_rfl _ _ _ _, fun l hl => absurd hl (by omega)⟩
  rintro l _ k hlL ⟨M1, rfl, hfr, hmc⟩ hk
  have hv1 := gx_CV_fr hn (by decide) (by decide) hfr hv
  have ha1 := gx_AC_fr (by decide) (by decide) hfr ha
  show wb_X5_layOut_6_1_5_4_3 (fun x4 M => k (x4, M)) Q (nI l) M1
  unfold wb_X5_layOut_6_1_5_4_3
  rw [ha1.1, nI_leI (by omega) (by omega)]
  refine ⟨fun hc => h M1 hfr (by rw [show gx_L D = l by omega]; exact hmc), fun hc => ?_⟩
  have hlt : l < gx_L D := by omega
  obtain ⟨a, m, hl⟩ := gx_ln_ex hlt
  refine gx_szC hv1 hd ha1 hl (fun M2 hfr2 hz hr hf hoj hout => ?_)
  have hv2 := gx_CV_fr hn (by decide) (by decide) hfr2 hv1
  have ha2 := gx_AC_fr (by decide) (by decide) hfr2 ha1
  refine gx_mpC hv2 hd ha2 hl hz hf (fun M3 hfr3 hp hout3 => ?_)
  rintro _ rfl
  rw [nI_1]
  refine hk _ hlt ⟨M3, rfl, gx_fr_tr hfr (gx_fr_tr (gx_fr_mo hfr2 (by decide) (by decide) (by decide)) (gx_fr_mo hfr3 (by decide) (by decide) (by decide))), fun l' hl' a' m' hln' => ?_⟩
  rw [hfr3.2.1 20 (by decide), hfr3.2.1 22 (by decide), hfr3.2.1 23 (by decide)]
  by_cases e : l' = l
  · subst e
    obtain ⟨ea, em⟩ := gx_ln_u hl hln'
    subst ea; subst em
    exact ⟨fun t ht => ⟨hz t ht, hp t ht⟩, hr, hf⟩
  · have hll : l' < l := by omega
    obtain ⟨p1, p2, p3⟩ := hmc l' hll a' m' hln'
    rw [(hoj l' e).1, (hoj l' e).2]
    refine ⟨fun t ht => ?_, p2, p3⟩
    have hne : ∀ s, s < m → gx_it D (a' + t) ≠ gx_it D (a + s) := fun s hs => (gx_ln_ne hd hl hln' hll hs ht).1
    rw [hout _ hne, hout3 _ hne, hfr2.2.1 21 (by decide)]
    exact p1 t ht
