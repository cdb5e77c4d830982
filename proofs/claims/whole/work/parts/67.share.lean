/-! share -/
def gx_cw (a : Int32) : Bool := gx_in a 0 3 || decide (a = 5)
theorem gx_cwC (a : Int32) (M : fx_Mem) (Q : Int32 → fx_Mem → Prop) : wp_X6_canBeWeight a M Q ↔ Q (gx_b (gx_cw a)) M := by
  unfold wp_X6_canBeWeight wb_X6_canBeWeight_14
  rw [gx_iwC, gx_b0]
  unfold gx_cw gx_b
  cases h1 : gx_in a 0 3 with
  | true => simp
  | false =>
    by_cases h2 : a = 5
    · simp [h2]
    · simp [h2]
theorem gx_cw_ex {a : Int32} (h : gx_cw a = true) : ∃ p, p < 10 ∧ a = nI p ∧ (fx_tLO p).toInt = 0 ∧ (fx_tHI p).toInt ≤ 9999 := by
  unfold gx_cw at h
  rw [Bool.or_eq_true] at h
  rcases h with h | h
  · obtain ⟨p, hp, rfl⟩ := gx_row_ex h (N := 4) (by decide)
    have : ∀ p, p < 4 → (fx_tLO p).toInt = 0 ∧ (fx_tHI p).toInt ≤ 9999 := by decide
    exact ⟨p, by omega, rfl, (this p hp).1, (this p hp).2⟩
  · have e := of_decide_eq_true h
    exact ⟨5, by decide, by rw [e]; rfl, by decide, by decide⟩
theorem gx_case25 {L : Nat} {xs : Nat → Int32} {j : Nat} {M : fx_Mem} (hL : L ≤ 2048) (hj : j + 4 ≤ L) (h : gx_Inv M) : wb_law_1485 L xs (gx_K j) (nI j) M := by
  obtain ⟨D, hd, hv, hm, ht, hs⟩ := h
  have hn := hd.1
  unfold wb_law_1485 wp_L_share_0_9 wp_X6_share_0 wp_X7_thrown_8 wb_X6_share_0_17
  rw [nI_1 j, gx_j2 j, gx_j3 j, nI_clamp (n := j + 1) (by omega), nI_clamp (n := j + 2) (by omega), nI_clamp (n := j + 3) (by omega)]
  generalize xs (j + 1) = a
  generalize xs (j + 2) = b
  generalize xs (j + 3) = c
  have i1 : vp_in (nI (j + 1)) L := vp_in_nI (by omega) (by omega)
  have i2 : vp_in (nI (j + 2)) L := vp_in_nI (by omega) (by omega)
  have i3 : vp_in (nI (j + 3)) L := vp_in_nI (by omega) (by omega)
  refine ⟨i1, i2, i3, ?_⟩
  -- the reference, as far as its refusals go
  have ref : ∀ (M1 : fx_Mem) (Q : Int32 → fx_Mem → Prop), gx_MV D M1 → ((gx_in a 0 99999 = false ∨ gx_cw b = false) → Q 0 (fx_si M1 512 1)) → ((gx_in a 0 99999 = true ∧ gx_cw b = true) → gx_in c 0 (nI D.2.2 - 1) = false → Q 0 (fx_si M1 512 2)) → ((gx_in a 0 99999 = true ∧ gx_cw b = true) → gx_in c 0 (nI D.2.2 - 1) = true → ∃ n55 : Nat, wl_X7_share_8_55 (wb_X7_share_8_97 Q) Q n55 a b c 0 0 M1) → wp_X7_share_8 a b c M1 Q := by
    intro M1 Q hm1 r1 r2 r3
    unfold wp_X7_share_8 wb_X7_share_8_29 wp_X7_fails_8
    have k35 : (gx_in a 0 99999 = true ∧ gx_cw b = true) → wb_X7_share_8_35 Q a b c M1 := by
      intro hh
      unfold wb_X7_share_8_35 wp_X7_fails_8
      rw [gx_itM hm1 hd, gx_b0]
      refine ⟨fun e => ?_, fun e => r3 hh (gx_bt e)⟩
      rintro _ rfl
      exact r2 hh e
    rw [gx_lit64.1, show (99999 : Int64) = (99999 : Int32).toInt64 from by decide, gx_iwM, gx_b0]
    refine ⟨fun e => ?_, fun e => ?_⟩
    · rintro _ rfl
      exact r1 (Or.inl e)
    rw [gx_lit64.2.2.2.2.2.1, gx_iwM, gx_b0]
    refine ⟨fun e2 => ⟨fun e3 => k35 ⟨gx_bt e, ?_⟩, fun e3 => ?_⟩, fun e2 => k35 ⟨gx_bt e, ?_⟩⟩
    · unfold gx_cw; rw [e2, e3]; decide
    · rintro _ rfl
      refine r1 (Or.inr ?_)
      unfold gx_cw; rw [e2]; simp [e3]
    · unfold gx_cw; rw [gx_bt e2]; rfl
  have fa : ∀ cc : Int32, ¬ cc = 0 → gx_T L xs (gx_K j) (nI j) cc (0 : Int32).toInt64 (fx_si M 512 cc) := fun cc hc => gx_fa hd hv hm ⟨ht, hs⟩ cc hc _
  rw [gx_iwC, gx_b0]
  refine ⟨fun ha => Or.inl ⟨rfl, i1, i2, i3, ref M _ hm (fun _ => fa 1 (by decide)) (fun x => by rw [ha] at x; exact absurd x.1 (by decide)) (fun x => by rw [ha] at x; exact absurd x.1 (by decide))⟩, fun ha => ?_⟩
  rw [gx_cwC, gx_b0]
  refine ⟨fun hb => Or.inl ⟨rfl, i1, i2, i3, ref M _ hm (fun _ => fa 1 (by decide)) (fun x => by rw [hb] at x; exact absurd x.2 (by decide)) (fun x => by rw [hb] at x; exact absurd x.2 (by decide))⟩, fun hb => ?_⟩
  rw [gx_rqC hv]
  refine ⟨fun hc => Or.inr (Or.inl ⟨rfl, i1, i2, i3, ref M _ hm (fun x => ?_) (fun _ _ => fa 2 (by decide)) (fun _ x => by rw [hc] at x; exact absurd x (by decide))⟩), fun hc => ?_⟩
  · rcases x with x | x
    · exact absurd x ha
    · exact absurd x hb
  obtain ⟨i, hi, rfl⟩ := gx_it_ex hd (gx_bt hc)
  obtain ⟨p, hp, rfl, hlo, hhi⟩ := gx_cw_ex (gx_bt hb)
  have ha2 := gx_in_t (gx_bt ha)
  rw [show (0 : Int32).toInt = 0 from rfl, show (99999 : Int32).toInt = 99999 from rfl] at ha2
  have ea : a = nI a.toNatClampNeg := gx_nn ha2.1
  have hpa : a.toNatClampNeg ≤ 99999 := by rw [gx_nnv]; omega
  generalize hpx : a.toNatClampNeg = px at ea hpa
  generalize hW : (fun k => (D.1 k p).toNatClampNeg) = w
  have hwb : ∀ k, k < D.2.2 → w k ≤ 1000000 ∧ D.1 k p = nI (w k) := by
    intro k hk
    have b1 := hd.2.2.2.2.2.2 k hk p hp
    rw [← hW]
    exact ⟨by show (D.1 k p).toNatClampNeg ≤ _; rw [gx_nnv]; omega, gx_nn (by omega)⟩
  have hsb : fb_sm w D.2.2 ≤ D.2.2 * 1000000 := fb_sm_bound (fun k hk => (hwb k hk).1)
  have hsb2 : D.2.2 * 1000000 ≤ 20 * 1000000 := Nat.mul_le_mul_right _ hn
  -- the reference's weights
  have refw : ∀ (M1 : fx_Mem) (Q : Int32 → fx_Mem → Prop), gx_MV D M1 → (∀ M2, gx_fr [322, 452, 512, 542, 543] [16, 18, 19, 20, 21, 22, 23, 24, 25, 26, 27, 28, 29, 39, 40, 41, 42, 43, 44, 45, 46, 47, 48, 49, 50, 51, 52, 53, 54, 55] [9, 15, 17, 36, 37, 38] M1 M2 → M2.2.2 9 = M1.2.2 9 → gx_MV D M2 → (∀ k, k < D.2.2 → M2.2.2 36 k = lN (w k)) → wb_X7_share_8_97 Q a (nI i) (lN (fb_sm w D.2.2)) M2) → ∃ n55 : Nat, wl_X7_share_8_55 (wb_X7_share_8_97 Q) Q n55 a (nI p) (nI i) 0 0 M1 := by
    intro M1 Q hm1 r
    refine gx_cnt D.2.2 (fun t s => ∃ M2, s = (a, nI p, nI i, lN (fb_sm w t), nI t, M2) ∧ gx_fr [] [] [36] M1 M2 ∧ (∀ k, k < t → M2.2.2 36 k = lN (w k))) ?_ (a, nI p, nI i, 0, 0, M1) ⟨M1, rfl, gx_fr_rfl _ _ _ _, fun k hk => absurd hk (by omega)⟩
    rintro t _ kk htt ⟨M2, rfl, hfr2, h36⟩ hkk
    have hm2 := gx_MV_fr (by decide) (by decide) hfr2 hm1
    show wb_X7_share_8_55 (fun x1 x2 x3 y4 x6 M => kk (x1, x2, x3, y4, x6, M)) (wb_X7_share_8_97 Q) Q a (nI p) (nI i) (lN (fb_sm w t)) (nI t) M2
    unfold wb_X7_share_8_55
    rw [hm2.2.1, nI_leI (by omega) (by omega)]
    refine ⟨fun e => ?_, fun e => ?_⟩
    · have et : t = D.2.2 := by omega
      subst et
      exact r M2 (gx_fr_mo hfr2 (by decide) (by decide) (by decide)) (hfr2.2.2 9 (by decide)) hm2 h36
    · have htn : t < D.2.2 := by omega
      rw [gx_ofN hm2 hd htn hp, nI_clamp (by omega), (hwb t htn).2, nI_l (by have := (hwb t htn).1; omega)]
      refine ⟨vp_in_nI (by omega) (by omega), ?_⟩
      rintro _ rfl
      refine ⟨vp_in_nI (by omega) (by omega), ?_⟩
      rintro _ rfl _ rfl
      rw [nI_1, gx_re, pk_uLs, lN_add]
      refine hkk _ htn ⟨_, rfl, gx_fr_sl _ _ hfr2 (by decide), fun k hk => ?_⟩
      rw [gx_re]
      by_cases e4 : k = t
      · rw [e4, pk_uLs]
      · rw [pk_uLn e4]; exact h36 k (by omega)
  -- the class's weights
  refine gx_cnt D.2.2 (fun t s => ∃ M1, s = (a, nI p, nI i, nI t, M1) ∧ gx_fr [322, 452, 512, 542, 543] [16, 18, 19, 20, 21, 22, 23, 24, 25, 26, 27, 28, 29, 39, 40, 41, 42, 43, 44, 45, 46, 47, 48, 49, 50, 51, 52, 53, 54, 55] [9, 15, 17, 36, 37, 38] M M1 ∧ (∀ k, k < t → M1.2.2 15 k = lN (w k))) ?_ (a, nI p, nI i, 0, M) ⟨M, rfl, gx_fr_rfl _ _ _ _, fun k hk => absurd hk (by omega)⟩
  rintro t _ kk htt ⟨M1, rfl, hfr1, h15⟩ hkk
  have hv1 := gx_CV_fr hn (by decide) (by decide) hfr1 hv
  show wb_X6_share_0_35 (fun x1 x2 x3 x4 M => kk (x1, x2, x3, x4, M)) _ _ _ a (nI p) (nI i) (nI t) M1
  unfold wb_X6_share_0_35
  rw [hv1.2.2.2.2.2.1, nI_leI (by omega) (by omega), nI_clamp (n := t) (by omega), nI_clamp (n := p) (by omega)]
  refine ⟨fun e => ?_, fun e => ⟨vp_in_nI (by omega) (by omega), vp_in_nI (by omega) (by omega), vp_in_nI (by omega) (by omega), ?_⟩⟩
  rotate_left
  · have htn : t < D.2.2 := by omega
    rw [hv1.2.2.2.2.2.2 t htn p hp, (hwb t htn).2, nI_l (by have := (hwb t htn).1; omega)]
    rintro _ rfl _ rfl
    rw [nI_1]
    refine hkk _ htn ⟨_, rfl, gx_fr_sl _ _ hfr1 (by decide), fun k hk => ?_⟩
    rw [gx_re]
    by_cases e4 : k = t
    · rw [e4, pk_uLs]
    · rw [pk_uLn e4]; exact h15 k (by omega)
  have et : t = D.2.2 := by omega
  subst et
  clear hkk e kk htt
  have hm1 := gx_MVF hm hfr1
  unfold wb_X6_share_0_76
  rw [hv1.2.2.2.2.2.1]
  refine gx_wsC hn h15 ?_
  rw [lg_cmp_eq, gx_l0e (by omega)]
  refine ⟨fun e0 => Or.inr (Or.inr ⟨rfl, i1, i2, i3, ref M1 _ hm1 (fun x => ?_) (fun _ x => absurd x hc) (fun _ _ => refw M1 _ hm1 (fun M2 hfr2 e9 hm2 h36 => ?_))⟩), fun e0 => ?_⟩
  · rcases x with x | x
    · exact absurd x ha
    · exact absurd x hb
  · unfold wb_X7_share_8_97 wp_X7_fails_8
    rw [lg_cmp_eq, gx_l0e (by omega)]
    refine ⟨fun _ => ?_, fun x => absurd e0 x⟩
    rintro _ rfl
    exact gx_faF hd hv hm ht hs (gx_fr_tr hfr1 hfr2) 3 (by decide) _
  rw [hv1.2.2.2.2.2.1]
  have hdv : ∀ Q, (∀ M', gx_fr [] [16] [17] M1 M' → (∀ k, k < D.2.2 → M'.2.1 16 k = nI (gx_dv px w D.2.2 k)) → Q M') → wp_X3_divide_4 a (nI D.2.2) M1 Q := by
    intro Q hq
    rw [ea]
    exact gx_divC hn (by omega) (fun k hk => (hwb k hk).1) h15 hq
  refine hdv _ (fun M2 hfr2 h16 => ?_)
  rw [nI_clamp (n := i) (by omega), h16 i hi]
  refine ⟨vp_in_nI (by omega) (by omega), ?_⟩
  rintro _ rfl
  have hF2 : gx_fr [322, 452, 512, 542, 543] [16, 18, 19, 20, 21, 22, 23, 24, 25, 26, 27, 28, 29, 39, 40, 41, 42, 43, 44, 45, 46, 47, 48, 49, 50, 51, 52, 53, 54, 55] [9, 15, 17, 36, 37, 38] M (fx_sl M2 9 0 (nI (gx_dv px w D.2.2 i)).toInt64) := gx_F1 (gx_fr_tr hfr1 (gx_fr_mo hfr2 (by decide) (by decide) (by decide))) _
  have ho : (fx_sl M2 9 0 (nI (gx_dv px w D.2.2 i)).toInt64).2.2 9 0 = (nI (gx_dv px w D.2.2 i)).toInt64 := by rw [gx_re, pk_uLs]
  generalize fx_sl M2 9 0 (nI (gx_dv px w D.2.2 i)).toInt64 = M3 at hF2 ho
  have hm3 := gx_MVF hm hF2
  refine ⟨i1, i2, i3, ref M3 _ hm3 (fun x => ?_) (fun _ x => absurd x hc) (fun _ _ => refw M3 _ hm3 (fun M4 hfr4 e9 hm4 h36 => ?_))⟩
  · rcases x with x | x
    · exact absurd x ha
    · exact absurd x hb
  unfold wb_X7_share_8_97
  rw [lg_cmp_eq, gx_l0e (by omega)]
  refine ⟨fun x => absurd x e0, fun _ => ?_⟩
  rintro _ rfl
  rw [gx_r2 _ _ (by decide), hm4.2.1]
  have e64 : a.toInt64 = lN px := by rw [ea, nI_l (by omega)]
  rw [e64]
  refine gx_divM hn (by omega) (fun k hk => (hwb k hk).1) (by omega) (by rw [gx_r3]; exact h36) (fun M5 hfr5 h37 => ?_)
  rw [nI_clamp (n := i) (by omega), h37 i hi, lN_i]
  refine ⟨vp_in_nI (by omega) (by omega), ?_⟩
  exact gx_tl (by rw [hfr5.1 512 (by decide), gx_r1]) (fun _ => by rw [hfr5.2.2 9 (by decide), gx_r3, e9]; exact ho) (gx_lookI hd hv hm ht hs (gx_fr_tr (gx_F2 (gx_fr_tr hF2 hfr4) 0) (gx_fr_mo hfr5 (by decide) (by decide) (by decide))))
