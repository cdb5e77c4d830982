/-! narrowest -/
theorem gx_h_b {D : gx_D} (hd : gx_ok D) {k : Nat} (hk : k < D.2.2) : 0 ≤ (gx_h D k).toInt ∧ (gx_h D k).toInt ≤ 30000 := by
  have hp := gx_prb hd hk (p := 0) (by decide)
  rw [show (fx_tLO 0).toInt = 0 from by decide, show (fx_tHI 0).toInt = 9999 from by decide] at hp
  exact gx_clamp_b hd (gx_it_lt hk) (v := D.1 (gx_it D k) 0) (by unfold gx_P at hp; omega)
theorem gx_us_b {D : gx_D} (hd : gx_ok D) (w : Int32) : ∀ k, k ≤ D.2.2 → 0 ≤ (gx_fl (gx_h D) (D.2.1 2) w true k).2.1.toInt ∧ (gx_fl (gx_h D) (D.2.1 2) w true k).2.1.toInt ≤ 40000 * k
  | 0, _ => by show 0 ≤ (0 : Int32).toInt ∧ (0 : Int32).toInt ≤ 40000 * ((0 : Nat) : Int); decide
  | k + 1, hk => by
    obtain ⟨h1, h2⟩ := gx_us_b hd w k (by omega)
    have hb := gx_h_b hd (show k < D.2.2 by omega)
    have hg := hd.2.2.2.1
    have hn := hd.1
    by_cases hc : (gx_fl (gx_h D) (D.2.1 2) w true k).1 = 0 ∨ (true = true ∧ ¬ ((gx_fl (gx_h D) (D.2.1 2) w true k).2.1 + D.2.1 2) + gx_h D k ≤ w)
    · rw [gx_fl_new hc]; simp only; omega
    · rw [gx_fl_old hc]; simp only
      have e1 : ((gx_fl (gx_h D) (D.2.1 2) w true k).2.1 + D.2.1 2).toInt = (gx_fl (gx_h D) (D.2.1 2) w true k).2.1.toInt + (D.2.1 2).toInt := gx_ta (by omega) (by omega)
      rw [gx_ta (by rw [e1]; omega) (by rw [e1]; omega), e1]; omega
theorem gx_fl_mono {D : gx_D} (hd : gx_ok D) {w w' : Int32} (hw : w.toInt ≤ w'.toInt) : ∀ k, k ≤ D.2.2 → (gx_fl (gx_h D) (D.2.1 2) w' true k).1 < (gx_fl (gx_h D) (D.2.1 2) w true k).1 ∨ ((gx_fl (gx_h D) (D.2.1 2) w' true k).1 = (gx_fl (gx_h D) (D.2.1 2) w true k).1 ∧ (gx_fl (gx_h D) (D.2.1 2) w' true k).2.1.toInt ≤ (gx_fl (gx_h D) (D.2.1 2) w true k).2.1.toInt)
  | 0, _ => Or.inr ⟨rfl, Int.le_refl _⟩
  | k + 1, hk => by
    have ih := gx_fl_mono hd hw k (by omega)
    obtain ⟨a1, a2⟩ := gx_us_b hd w k (by omega)
    obtain ⟨b1, b2⟩ := gx_us_b hd w' k (by omega)
    have hb := gx_h_b hd (show k < D.2.2 by omega)
    have hg := hd.2.2.2.1
    have hn := hd.1
    have z1 := (gx_fl_inv (gx_h D) (D.2.1 2) w true k).2.1
    have z2 := (gx_fl_inv (gx_h D) (D.2.1 2) w' true k).2.1
    have s1 : (((gx_fl (gx_h D) (D.2.1 2) w true k).2.1 + D.2.1 2) + gx_h D k).toInt = (gx_fl (gx_h D) (D.2.1 2) w true k).2.1.toInt + (D.2.1 2).toInt + (gx_h D k).toInt := by
      have e1 : ((gx_fl (gx_h D) (D.2.1 2) w true k).2.1 + D.2.1 2).toInt = (gx_fl (gx_h D) (D.2.1 2) w true k).2.1.toInt + (D.2.1 2).toInt := gx_ta (by omega) (by omega)
      rw [gx_ta (by rw [e1]; omega) (by rw [e1]; omega), e1]
    have s2 : (((gx_fl (gx_h D) (D.2.1 2) w' true k).2.1 + D.2.1 2) + gx_h D k).toInt = (gx_fl (gx_h D) (D.2.1 2) w' true k).2.1.toInt + (D.2.1 2).toInt + (gx_h D k).toInt := by
      have e1 : ((gx_fl (gx_h D) (D.2.1 2) w' true k).2.1 + D.2.1 2).toInt = (gx_fl (gx_h D) (D.2.1 2) w' true k).2.1.toInt + (D.2.1 2).toInt := gx_ta (by omega) (by omega)
      rw [gx_ta (by rw [e1]; omega) (by rw [e1]; omega), e1]
    by_cases hc : (gx_fl (gx_h D) (D.2.1 2) w true k).1 = 0 ∨ (true = true ∧ ¬ ((gx_fl (gx_h D) (D.2.1 2) w true k).2.1 + D.2.1 2) + gx_h D k ≤ w) <;>
    by_cases hc' : (gx_fl (gx_h D) (D.2.1 2) w' true k).1 = 0 ∨ (true = true ∧ ¬ ((gx_fl (gx_h D) (D.2.1 2) w' true k).2.1 + D.2.1 2) + gx_h D k ≤ w')
    · rw [gx_fl_new hc, gx_fl_new hc']; simp only; omega
    · rw [gx_fl_new hc, gx_fl_old hc']; simp only; omega
    · rw [gx_fl_old hc, gx_fl_new hc']; simp only
      have hc2 := not_or.mp hc
      have hle : ((gx_fl (gx_h D) (D.2.1 2) w true k).2.1 + D.2.1 2) + gx_h D k ≤ w := Classical.byContradiction (fun x => hc2.2 ⟨rfl, x⟩)
      rw [fa_le, s1] at hle
      rw [s1]
      rcases hc' with e | ⟨_, e⟩
      · by_cases hk0 : 0 < k
        · have := z2 hk0; omega
        · have : k = 0 := by omega
          subst this
          exact absurd rfl hc2.1
      · rw [fa_le, s2] at e
        omega
    · rw [gx_fl_old hc, gx_fl_old hc']; simp only
      rw [s1, s2]; omega
def gx_nl (D : gx_D) (w : Nat) : Nat := (gx_fl (gx_h D) (D.2.1 2) (nI w) true D.2.2).1
theorem gx_nl_mono {D : gx_D} (hd : gx_ok D) {w w' : Nat} (h : w ≤ w') (h2 : w' < 20000) : gx_nl D w' ≤ gx_nl D w := by
  have := gx_fl_mono hd (w := nI w) (w' := nI w') (by rw [nI_toInt (by omega), nI_toInt (by omega)]; omega) D.2.2 (Nat.le_refl _)
  unfold gx_nl; omega
theorem gx_nl_le {D : gx_D} (hd : gx_ok D) (w : Nat) : gx_nl D w ≤ 20 := by
  have := (gx_fl_inv (gx_h D) (D.2.1 2) (nI w) true D.2.2).1
  have := hd.1
  unfold gx_nl; omega
def gx_nw (D : gx_D) (c : Nat) : Nat := fa_first (fun w => decide (gx_nl D w ≤ c)) 10000
theorem gx_case24 {L : Nat} {xs : Nat → Int32} {j : Nat} {M : fx_Mem} (hL : L ≤ 2048) (hj : j + 4 ≤ L) (h : gx_Inv M) : wb_law_1429 L xs (gx_K j) (nI j) M := by
  obtain ⟨D, hd, hv, hm, ht, hs⟩ := h
  have hn := hd.1
  unfold wb_law_1429 wp_L_narrowest_0_9 wp_X6_narrowest_0 wp_X7_thrown_8
  rw [nI_1 j, nI_clamp (n := j + 1) (by omega)]
  generalize xs (j + 1) = a
  have i1 : vp_in (nI (j + 1)) L := vp_in_nI (by omega) (by omega)
  refine ⟨i1, ?_⟩
  rw [gx_iwC, gx_b0]
  refine ⟨fun ha => Or.inl ⟨rfl, i1, ?_⟩, fun ha => ?_⟩
  · unfold wp_X7_narrowest_8
    rw [gx_lit64.2.2.2.2.2.2.2.2.1, gx_lit64.2.2.2.2.2.2.2.1, gx_iwM, gx_b0]
    refine ⟨fun _ => ?_, fun e => absurd ha e⟩
    unfold wp_X7_fails_8
    rintro _ rfl
    exact gx_fa hd hv hm ⟨ht, hs⟩ 1 (by decide) _
  have ha2 := gx_in_t (gx_bt ha)
  rw [show (1 : Int32).toInt = 1 from rfl, show (20 : Int32).toInt = 20 from rfl] at ha2
  have ea : a = nI a.toNatClampNeg := gx_nn (by omega)
  have hcb : a.toNatClampNeg ≤ 20 := by rw [gx_nnv]; omega
  generalize a.toNatClampNeg = c at ea hcb
  subst ea
  -- the reference
  have ref : ∀ (M1 : fx_Mem) (Q : Int32 → fx_Mem → Prop), gx_MV D M1 → (∀ M2, gx_fr [322, 452, 512, 542, 543] [16, 18, 19, 20, 21, 22, 23, 24, 25, 26, 27, 28, 29, 39, 40, 41, 42, 43, 44, 45, 46, 47, 48, 49, 50, 51, 52, 53, 54, 55] [9, 15, 17, 36, 37, 38] M1 M2 → M2.2.2 9 = M1.2.2 9 → M2.1 512 = 0 → gx_nw D c < 10000 → Q (nI (gx_nw D c)) M2) → (∀ M2, gx_fr [322, 452, 512, 542, 543] [16, 18, 19, 20, 21, 22, 23, 24, 25, 26, 27, 28, 29, 39, 40, 41, 42, 43, 44, 45, 46, 47, 48, 49, 50, 51, 52, 53, 54, 55] [9, 15, 17, 36, 37, 38] M1 M2 → gx_nw D c = 10000 → Q 0 (fx_si M2 512 2)) → wp_X7_narrowest_8 (nI c) M1 Q := by
    intro M1 Q hm1 r1 r2
    unfold wp_X7_narrowest_8
    rw [gx_lit64.2.2.2.2.2.2.2.2.1, gx_lit64.2.2.2.2.2.2.2.1, gx_iwM, gx_b0]
    refine ⟨fun e => absurd e ha, fun _ => ?_⟩
    rintro _ rfl
    refine gx_seqM (gx_MV_512 hm1 0) hd (fun M2 hfr2 h39 => ?_)
    have hF2 : gx_fr [322, 452, 512, 542, 543] [16, 18, 19, 20, 21, 22, 23, 24, 25, 26, 27, 28, 29, 39, 40, 41, 42, 43, 44, 45, 46, 47, 48, 49, 50, 51, 52, 53, 54, 55] [9, 15, 17, 36, 37, 38] M1 M2 := gx_fr_tr (gx_F2 (gx_fr_rfl _ _ _ _) 0) (gx_fr_mo hfr2 (by decide) (by decide) (by decide))
    have e512 : M2.1 512 = 0 := by rw [hfr2.1 512 (by decide), gx_r1]
    have e9 : M2.2.2 9 = M1.2.2 9 := by rw [hfr2.2.2 9 (by decide), gx_r3]
    refine gx_cnt 10000 (fun w s => ∃ M3, s = (nI c, nI w, M3) ∧ gx_fr [542] [41, 47, 48] [] M2 M3 ∧ (∀ v, v < w → ¬ gx_nl D v ≤ c)) ?_ (nI c, 0, M2) ⟨M2, rfl, gx_fr_rfl _ _ _ _, fun v hv => absurd hv (by omega)⟩
    rintro w _ kk hw ⟨M3, rfl, hfr3, hno⟩ hkk
    have hF3 : gx_fr [322, 452, 512, 542, 543] [16, 18, 19, 20, 21, 22, 23, 24, 25, 26, 27, 28, 29, 39, 40, 41, 42, 43, 44, 45, 46, 47, 48, 49, 50, 51, 52, 53, 54, 55] [9, 15, 17, 36, 37, 38] M1 M3 := gx_fr_tr hF2 (gx_fr_mo hfr3 (by decide) (by decide) (by decide))
    show wb_X7_narrowest_8_29 (fun x1 x2 M => kk (x1, x2, M)) (wb_X7_narrowest_8_58 Q) Q (nI c) (nI w) M3
    unfold wb_X7_narrowest_8_29
    rw [show (9999 : Int32) = nI 9999 from rfl, nI_ltI (by omega) (by omega)]
    refine ⟨fun e => ?_, fun e => ?_⟩
    · unfold wb_X7_narrowest_8_58 wp_X7_fails_8
      rintro _ rfl
      refine r2 M3 hF3 ?_
      have h1 := fa_first_le (fun w => decide (gx_nl D w ≤ c)) 10000
      rcases Nat.lt_or_ge (gx_nw D c) 10000 with e2 | e2
      · have := fa_first_yes (fun w => decide (gx_nl D w ≤ c)) 10000 e2
        have h3 : gx_nl D (gx_nw D c) ≤ c := of_decide_eq_true this
        exact absurd h3 (hno _ (by omega))
      · unfold gx_nw at e2 ⊢; omega
    · refine gx_fillM (gx_MVF hm1 hF3) hd (fun j hj => by rw [hfr3.2.1 39 (by decide)]; exact (h39 j hj).1) (nI w) true rfl (fun M4 hfr4 hlm => ?_)
      have e542 : M4.1 542 = nI (gx_nl D w) := hlm.1
      have hlb := gx_nl_le hd w
      have hF4 : gx_fr [322, 452, 512, 542, 543] [16, 18, 19, 20, 21, 22, 23, 24, 25, 26, 27, 28, 29, 39, 40, 41, 42, 43, 44, 45, 46, 47, 48, 49, 50, 51, 52, 53, 54, 55] [9, 15, 17, 36, 37, 38] M1 M4 := gx_fr_tr hF3 (gx_fr_mo hfr4 (by decide) (by decide) (by decide))
      rw [e542, nI_ltI (by omega) (by omega)]
      refine ⟨fun e2 => ?_, fun e2 => ?_⟩
      · rintro _ rfl
        rw [nI_1]
        refine hkk _ (by omega) ⟨M4, rfl, gx_fr_tr hfr3 hfr4, fun v hv => ?_⟩
        by_cases e3 : v = w
        · rw [e3]; omega
        · exact hno v (by omega)
      · have enw : gx_nw D c = w := by
          have h1 : ¬ gx_nw D c < w := by
            intro h2
            have := fa_first_yes (fun w => decide (gx_nl D w ≤ c)) 10000 (by unfold gx_nw at h2; omega)
            exact hno _ h2 (of_decide_eq_true this)
          have h3 : ¬ w < gx_nw D c := by
            intro h2
            have := fa_first_no (fun w => decide (gx_nl D w ≤ c)) 10000 w h2
            have := of_decide_eq_false this
            omega
          omega
        have := r1 M4 hF4 (by rw [hfr4.2.2 9 (by decide), hfr3.2.2 9 (by decide), e9]) (by rw [hfr4.1 512 (by decide), hfr3.1 512 (by decide), e512]) (by omega)
        rw [enw] at this; exact this
  refine gx_seqC hv hd (fun M1 hfr1 h18 => ?_)
  have hF1 : gx_fr [322, 452, 512, 542, 543] [16, 18, 19, 20, 21, 22, 23, 24, 25, 26, 27, 28, 29, 39, 40, 41, 42, 43, 44, 45, 46, 47, 48, 49, 50, 51, 52, 53, 54, 55] [9, 15, 17, 36, 37, 38] M M1 := gx_fr_mo hfr1 (by decide) (by decide) (by decide)
  have hv1 := gx_CV_fr hn (by decide) (by decide) hfr1 hv
  refine gx_fillC hv1 hd h18 _ (fun M2 hfr2 _ => ?_)
  have hF2 : gx_fr [322, 452, 512, 542, 543] [16, 18, 19, 20, 21, 22, 23, 24, 25, 26, 27, 28, 29, 39, 40, 41, 42, 43, 44, 45, 46, 47, 48, 49, 50, 51, 52, 53, 54, 55] [9, 15, 17, 36, 37, 38] M M2 := gx_fr_tr hF1 (gx_fr_mo hfr2 (by decide) (by decide) (by decide))
  have enl : (gx_fl (gx_h D) (D.2.1 2) 9999 true D.2.2).1 = gx_nl D 9999 := rfl
  have hlb := gx_nl_le hd 9999
  rw [enl, nI_leI (by omega) (by omega)]
  refine ⟨fun hle => ?_, fun hle => Or.inr ⟨rfl, i1, ref M2 _ (gx_MVF hm hF2) (fun M3 hfr3 _ _ hlt => ?_) (fun M3 hfr3 _ => ?_)⟩⟩
  rotate_left
  · have := fa_first_yes (fun w => decide (gx_nl D w ≤ c)) 10000 hlt
    have h3 : gx_nl D (gx_nw D c) ≤ c := of_decide_eq_true this
    have := gx_nl_mono hd (w := gx_nw D c) (w' := 9999) (by omega) (by omega)
    omega
  · exact gx_faF hd hv hm ht hs (gx_fr_tr hF2 hfr3) 2 (by decide) _
  have hnw : gx_nw D c < 10000 := by
    rcases Nat.lt_or_ge (gx_nw D c) 10000 with e2 | e2
    · exact e2
    · have := fa_first_no (fun w => decide (gx_nl D w ≤ c)) 10000 9999 (by unfold gx_nw at e2; omega)
      exact absurd hle (of_decide_eq_false this)
  have hyes : gx_nl D (gx_nw D c) ≤ c := of_decide_eq_true (fa_first_yes (fun w => decide (gx_nl D w ≤ c)) 10000 hnw)
  have hno : ∀ v, v < gx_nw D c → ¬ gx_nl D v ≤ c := fun v hv => of_decide_eq_false (fa_first_no (fun w => decide (gx_nl D w ≤ c)) 10000 v hv)
  refine gx_cnt 14 (fun t s => ∃ lo hi M3, s = (nI c, nI lo, nI hi, nI t, M3) ∧ gx_fr [] [19] [] M1 M3 ∧ lo ≤ gx_nw D c ∧ gx_nw D c ≤ hi ∧ hi ≤ 9999 ∧ hi - lo ≤ 9999 / 2 ^ t) ?_ (nI c, 0, 9999, 0, M2) ⟨0, 9999, M2, rfl, hfr2, by omega, by omega, by omega, by simp⟩
  rintro t _ kk htt ⟨lo, hi, M3, rfl, hfr3, l1, l2, l3, l4⟩ hkk
  have hF3 : gx_fr [322, 452, 512, 542, 543] [16, 18, 19, 20, 21, 22, 23, 24, 25, 26, 27, 28, 29, 39, 40, 41, 42, 43, 44, 45, 46, 47, 48, 49, 50, 51, 52, 53, 54, 55] [9, 15, 17, 36, 37, 38] M M3 := gx_fr_tr hF1 (gx_fr_mo hfr3 (by decide) (by decide) (by decide))
  have hv3 := gx_CV_fr hn (by decide) (by decide) hfr3 hv1
  have fin : lo = gx_nw D c → ∀ M4 : fx_Mem, M4 = fx_sl M3 9 0 (nI lo).toInt64 → vp_in (nI (j + 1)) L ∧ wp_X7_narrowest_8 (nI c) M4 (fun r6 M5 => gx_T L xs (gx_K j) (nI j) 0 r6.toInt64 M5) := by
    intro elo
    rintro _ rfl
    have hF4 := gx_F1 hF3 (nI lo).toInt64
    refine ⟨i1, ref _ _ (gx_MVF hm hF4) (fun M5 hfr5 e9 e512 _ => ?_) (fun M5 hfr5 e => absurd e (by omega))⟩
    exact gx_tl e512 (fun _ => by rw [e9, gx_re, pk_uLs, elo]) (gx_lookI hd hv hm ht hs (gx_fr_tr hF4 hfr5))
  show wb_X6_narrowest_0_68 (fun x1 x2 x3 x4 M => kk (x1, x2, x3, x4, M)) _ _ (nI c) (nI lo) (nI hi) (nI t) M3
  unfold wb_X6_narrowest_0_68
  rw [show (14 : Int32) = nI 14 from rfl, nI_leI (by omega) (by omega), nI_leI (by omega) (by omega)]
  refine ⟨fun e => fin ?_, fun e => ⟨fun e2 => fin (by omega), fun e2 => ?_⟩⟩
  · have et : t = 14 := by omega
    rw [et] at l4
    have : 9999 / 2 ^ 14 = 0 := by decide
    omega
  rw [nI_add, show (2 : Int32) = nI 2 from rfl, pk_div (by omega) (by decide) (by decide)]
  rintro _ rfl
  refine gx_fillC hv3 hd (fun j hj => by rw [hfr3.2.1 18 (by decide)]; exact h18 j hj) _ (fun M4 hfr4 _ => ?_)
  have enl2 : (gx_fl (gx_h D) (D.2.1 2) (nI ((lo + hi) / 2)) true D.2.2).1 = gx_nl D ((lo + hi) / 2) := rfl
  have hlb2 := gx_nl_le hd ((lo + hi) / 2)
  have ep : 9999 / 2 ^ (t + 1) = 9999 / 2 ^ t / 2 := by rw [Nat.pow_succ, Nat.div_div_eq_div_mul]
  rw [enl2, nI_leI (by omega) (by omega)]
  unfold wb_X6_narrowest_0_115
  refine ⟨fun e3 => ?_, fun e3 => ?_⟩
  · rintro _ rfl
    rw [nI_1]
    refine hkk _ (by omega) ⟨lo, (lo + hi) / 2, M4, rfl, gx_fr_tr hfr3 hfr4, l1, ?_, by omega, ?_⟩
    · rcases Nat.lt_or_ge ((lo + hi) / 2) (gx_nw D c) with e4 | e4
      · exact absurd e3 (hno _ e4)
      · exact e4
    · rw [ep]; omega
  · rintro _ rfl _ rfl
    rw [nI_1, nI_1]
    refine hkk _ (by omega) ⟨(lo + hi) / 2 + 1, hi, M4, rfl, gx_fr_tr hfr3 hfr4, ?_, l2, l3, ?_⟩
    · rcases Nat.lt_or_ge ((lo + hi) / 2) (gx_nw D c) with e4 | e4
      · omega
      · have := gx_nl_mono hd e4 (by omega)
        omega
    · rw [ep]; omega
