/-! the cases of the law that touch the items -/
theorem gx_rqC {D : gx_D} {M : fx_Mem} (hv : gx_CV D M) (a : Int32) (Q : fx_Mem → Prop) (X : String → fx_Mem → Prop) : wp_X6_requireItem_0 a M Q X ↔ ((gx_in a 0 (nI D.2.2 - 1) = false → X "java/lang/IndexOutOfBoundsException" M) ∧ (¬ gx_in a 0 (nI D.2.2 - 1) = false → Q M)) := by
  unfold wp_X6_requireItem_0
  rw [gx_iwC, gx_b0, hv.2.2.2.2.2.1]
theorem gx_rpC (a : Int32) (M : fx_Mem) (Q : fx_Mem → Prop) (X : String → fx_Mem → Prop) : wp_X6_requireProperty a M Q X ↔ ((gx_in a 0 9 = false → X "java/lang/IndexOutOfBoundsException" M) ∧ (¬ gx_in a 0 9 = false → Q M)) := by
  unfold wp_X6_requireProperty
  rw [gx_iwC, gx_b0]
theorem gx_chC {p : Nat} (hp : p < 10) (v : Int32) (M : fx_Mem) (Q : Int32 → fx_Mem → Prop) : wp_X6_canHave (nI p) v M Q ↔ Q (gx_b (gx_in v (fx_tLO p) (fx_tHI p))) M := by
  unfold wp_X6_canHave
  have h1 : gx_in (nI p) 0 9 = true := by
    rw [gx_in_i, nI_toInt (by omega), show (0 : Int32).toInt = 0 from rfl, show (9 : Int32).toInt = 9 from rfl]; omega
  rw [gx_iwC, h1, nI_clamp (by omega), gx_iwC, gx_b0 (gx_in v _ _)]
  constructor
  · rintro ⟨_, h⟩
    obtain ⟨_, _, h3, h4⟩ := h (by decide)
    cases hb : gx_in v (fx_tLO p) (fx_tHI p) with
    | false => exact h3 hb
    | true => exact h4 (by rw [hb]; decide)
  · intro h
    refine ⟨fun e => absurd e (by decide), fun _ => ⟨vp_in_nI (by omega) (by omega), vp_in_nI (by omega) (by omega), fun hb => ?_, fun hb => ?_⟩⟩
    · rw [hb] at h; exact h
    · rw [gx_bt hb] at h; exact h
theorem gx_case8 {L : Nat} {xs : Nat → Int32} {j : Nat} {M : fx_Mem} (hL : L ≤ 2048) (hj : j + 4 ≤ L) (h : gx_Inv M) : wb_law_629 L xs (gx_K j) (nI j) M := by
  obtain ⟨D, hd, hv, hm, ht, hs⟩ := h
  have hn := hd.1
  unfold wb_law_629 wp_L_property_0_9 wp_X6_property_0 wp_X7_property_8 wp_X7_thrown_8 wb_X7_property_8_20
  rw [nI_1 j, gx_j2 j, nI_clamp (n := j + 1) (by omega), nI_clamp (n := j + 2) (by omega)]
  generalize xs (j + 1) = a
  generalize xs (j + 2) = b
  refine ⟨vp_in_nI (by omega) (by omega), vp_in_nI (by omega) (by omega), ?_⟩
  have hf : wp_X7_fails_8 1 M (fun r2 M1 => gx_T L xs (gx_K j) (nI j) 1 r2.toInt64 M1) := by
    unfold wp_X7_fails_8
    rintro _ rfl
    exact gx_fa hd hv hm ⟨ht, hs⟩ 1 (by decide) _
  rw [gx_rqC hv]
  refine ⟨fun ha => ⟨rfl, vp_in_nI (by omega) (by omega), vp_in_nI (by omega) (by omega), ?_⟩, fun ha => ?_⟩
  · rw [gx_itM hm hd, gx_b0]
    exact ⟨fun _ => hf, fun e => absurd ha e⟩
  rw [gx_rpC]
  refine ⟨fun hb => ⟨rfl, vp_in_nI (by omega) (by omega), vp_in_nI (by omega) (by omega), ?_⟩, fun hb => ?_⟩
  · rw [gx_itM hm hd, gx_b0]
    refine ⟨fun _ => hf, fun _ => ?_⟩
    rw [gx_lit64.1, gx_lit64.2.2.2.2.1, gx_iwM, gx_b0]
    exact ⟨fun _ => hf, fun e => absurd hb e⟩
  obtain ⟨i, hi, rfl⟩ := gx_it_ex hd (gx_bt ha)
  obtain ⟨p, hp, rfl⟩ := gx_row_ex (gx_bt hb) (N := 10) (by decide)
  rw [nI_clamp (by omega), nI_clamp (by omega), hv.2.2.2.2.2.2 i hi p hp]
  refine ⟨vp_in_nI (by omega) (by omega), vp_in_nI (by omega) (by omega), ?_⟩
  rintro _ rfl
  have hfr : gx_fr [] [] [9] M (fx_sl M 9 0 (D.1 i p).toInt64) := gx_fr_sl _ _ (gx_fr_rfl _ _ _ _) (by decide)
  have hm' := gx_MV_fr (by decide) (by decide) hfr hm
  refine ⟨vp_in_nI (by omega) (by omega), vp_in_nI (by omega) (by omega), ?_⟩
  rw [gx_itM hm' hd, gx_b0]
  refine ⟨fun e => absurd e ha, fun _ => ?_⟩
  rw [gx_lit64.1, gx_lit64.2.2.2.2.1, gx_iwM, gx_b0]
  refine ⟨fun e => absurd e hb, fun _ => ?_⟩
  rintro _ rfl
  rw [gx_ofN (gx_MV_512 hm' 0) hd hi hp]
  have hfr2 : gx_fr [512] [] [9] M (fx_si (fx_sl M 9 0 (D.1 i p).toInt64) 512 0) := gx_fr_si _ (gx_fr_sl _ _ (gx_fr_rfl _ _ _ _) (by decide)) (by decide)
  have hr2 := gx_rest (by decide) (by decide) hfr2 ⟨ht, hs⟩
  exact gx_tl (gx_r1 _ _ _) (fun _ => by rw [gx_r3, gx_re, pk_uLs]) ⟨D, hd, gx_CV_fr hn (by decide) (by decide) hfr2 hv, gx_MV_fr (by decide) (by decide) hfr2 hm, hr2.1, hr2.2⟩
def gx_up (D : gx_D) (i p : Nat) (v : Int32) : gx_D := (fun i' p' => if i' = i ∧ p' = p then v else D.1 i' p', D.2)
theorem gx_case7 {L : Nat} {xs : Nat → Int32} {j : Nat} {M : fx_Mem} (hL : L ≤ 2048) (hj : j + 4 ≤ L) (h : gx_Inv M) : wb_law_549 L xs (gx_K j) (nI j) M := by
  obtain ⟨D, hd, hv, hm, ht, hs⟩ := h
  have hn := hd.1
  unfold wb_law_549 wp_L_setProperty_0_9 wp_X6_setProperty_0 wp_X7_setProperty_8 wp_X7_thrown_8 wb_X7_setProperty_8_20
  rw [nI_1 j, gx_j2 j, gx_j3 j, nI_clamp (n := j + 1) (by omega), nI_clamp (n := j + 2) (by omega), nI_clamp (n := j + 3) (by omega)]
  generalize xs (j + 1) = a
  generalize xs (j + 2) = b
  generalize xs (j + 3) = c
  refine ⟨vp_in_nI (by omega) (by omega), vp_in_nI (by omega) (by omega), vp_in_nI (by omega) (by omega), ?_⟩
  have hf : ∀ c : Int32, ¬ c = 0 → wp_X7_fails_8 c M (fun r2 M1 => gx_T L xs (gx_K j) (nI j) c r2.toInt64 M1) := by
    intro c hc
    unfold wp_X7_fails_8
    rintro _ rfl
    exact gx_fa hd hv hm ⟨ht, hs⟩ c hc _
  rw [gx_rqC hv]
  refine ⟨fun ha => Or.inl ⟨rfl, vp_in_nI (by omega) (by omega), vp_in_nI (by omega) (by omega), vp_in_nI (by omega) (by omega), ?_⟩, fun ha => ?_⟩
  · rw [gx_itM hm hd, gx_b0]
    exact ⟨fun _ => hf 1 (by decide), fun e => absurd ha e⟩
  rw [gx_rpC]
  refine ⟨fun hb => Or.inl ⟨rfl, vp_in_nI (by omega) (by omega), vp_in_nI (by omega) (by omega), vp_in_nI (by omega) (by omega), ?_⟩, fun hb => ?_⟩
  · rw [gx_itM hm hd, gx_b0]
    refine ⟨fun _ => hf 1 (by decide), fun _ => ?_⟩
    rw [gx_lit64.1, gx_lit64.2.2.2.2.1, gx_iwM, gx_b0]
    exact ⟨fun _ => hf 1 (by decide), fun e => absurd hb e⟩
  obtain ⟨i, hi, rfl⟩ := gx_it_ex hd (gx_bt ha)
  obtain ⟨p, hp, rfl⟩ := gx_row_ex (gx_bt hb) (N := 10) (by decide)
  have eL : fx_tQL p = fx_tLO p := rfl
  have eM : fx_tQM p = fx_tHI p := rfl
  rw [gx_chC hp, gx_b0, nI_clamp (n := i) (by omega), nI_clamp (n := p) (by omega), hv.2.2.2.2.2.2 i hi p hp]
  refine ⟨fun hc => Or.inr ⟨rfl, vp_in_nI (by omega) (by omega), vp_in_nI (by omega) (by omega), vp_in_nI (by omega) (by omega), ?_⟩, fun hc => ⟨vp_in_nI (by omega) (by omega), vp_in_nI (by omega) (by omega), ?_⟩⟩
  · rw [gx_itM hm hd, gx_b0]
    refine ⟨fun e => absurd e ha, fun _ => ?_⟩
    rw [gx_lit64.1, gx_lit64.2.2.2.2.1, gx_iwM, gx_b0]
    refine ⟨fun e => absurd e hb, fun _ => ⟨vp_in_nI (by omega) (by omega), vp_in_nI (by omega) (by omega), ?_⟩⟩
    rw [eL, eM, gx_iwM, gx_b0]
    exact ⟨fun _ => hf 2 (by decide), fun e => absurd hc e⟩
  rintro _ rfl
  refine ⟨vp_in_nI (by omega) (by omega), vp_in_nI (by omega) (by omega), ?_⟩
  rintro _ rfl _ rfl
  have hd' : gx_ok (gx_up D i p c) := by
    obtain ⟨d0, d1, d2, d3, d4, d5, d6⟩ := hd
    refine ⟨d0, d1, d2, d3, d4, d5, fun i' hi' p' hp' => ?_⟩
    show (fx_tLO p').toInt ≤ (if i' = i ∧ p' = p then c else D.1 i' p').toInt ∧ (if i' = i ∧ p' = p then c else D.1 i' p').toInt ≤ (fx_tHI p').toInt
    split
    · rename_i e; rw [e.2]; exact gx_in_t (gx_bt hc)
    · exact d6 i' hi' p' hp'
  have hv1 : gx_CV (gx_up D i p c) (fx_sa M (57 + i) p c) := by
    obtain ⟨v1, v2, v3, v4, v5, v6, v7⟩ := hv
    refine ⟨v1, v2, v3, v4, fun k hk => by rw [gx_rb _ _ _ (by omega)]; exact v5 k hk, v6, fun i' hi' p' hp' => ?_⟩
    have hi2 : i' < D.2.2 := hi'
    show _ = if i' = i ∧ p' = p then c else D.1 i' p'
    by_cases e : i' = i
    · subst e
      rw [gx_ra]
      by_cases e2 : p' = p
      · rw [e2, pk_us, if_pos ⟨rfl, rfl⟩]
      · rw [pk_un e2, if_neg (fun x => e2 x.2)]; exact v7 i' hi2 p' hp'
    · rw [gx_rb _ _ _ (by omega), if_neg (fun x => e x.1)]; exact v7 i' hi2 p' hp'
  have hrs : gx_TX (fx_sa M (57 + i) p c) ∧ gx_SK (fx_sa M (57 + i) p c) := by
    refine gx_rest (F := []) (A := [57 + i]) (L := []) (by decide) ?_ (gx_fr_sa _ _ (gx_fr_rfl _ _ _ _) (by simp)) ⟨ht, hs⟩
    simp; omega
  have hm1 : gx_MV D (fx_sa M (57 + i) p c) := by
    refine gx_MV_fr (F := []) (A := [57 + i]) (L := []) (by decide) ?_ (gx_fr_sa _ _ (gx_fr_rfl _ _ _ _) (by simp)) hm
    simp; omega
  generalize fx_sa M (57 + i) p c = M1 at *
  have hfr : gx_fr [] [] [9] M1 (fx_sl M1 9 0 (D.1 i p).toInt64) := gx_fr_sl _ _ (gx_fr_rfl _ _ _ _) (by decide)
  have hm' := gx_MV_fr (by decide) (by decide) hfr hm1
  have hm2 := gx_MV_512 hm' 0
  refine ⟨vp_in_nI (by omega) (by omega), vp_in_nI (by omega) (by omega), vp_in_nI (by omega) (by omega), ?_⟩
  rw [gx_itM hm' hd, gx_b0]
  refine ⟨fun e => absurd e ha, fun _ => ?_⟩
  rw [gx_lit64.1, gx_lit64.2.2.2.2.1, gx_iwM, gx_b0]
  refine ⟨fun e => absurd e hb, fun _ => ⟨vp_in_nI (by omega) (by omega), vp_in_nI (by omega) (by omega), ?_⟩⟩
  rw [eL, eM, gx_iwM, gx_b0]
  refine ⟨fun e => absurd e hc, fun _ => ?_⟩
  rintro _ rfl
  rw [gx_ofN hm2 hd hi hp]
  have et : (10 * nI i) + nI p = nI (10 * i + p) := gx_ten i p
  rw [et, nI_clamp (by omega)]
  refine ⟨vp_in_nI (by omega) (by omega), ?_⟩
  rintro _ rfl
  have hfr3 : gx_fr [512] [31] [9] M1 (fx_sa (fx_si (fx_sl M1 9 0 (D.1 i p).toInt64) 512 0) 31 (10 * i + p) c) := gx_fr_sa _ _ (gx_fr_si _ (gx_fr_sl _ _ (gx_fr_rfl _ _ _ _) (by decide)) (by decide)) (by decide)
  have hr3 := gx_rest (by decide) (by decide) hfr3 hrs
  refine gx_tl (by rw [gx_r8, gx_r1]) (fun _ => by rw [gx_r9, gx_r3, gx_re, pk_uLs]) ⟨gx_up D i p c, hd', gx_CV_fr hn (by decide) (by decide) hfr3 hv1, ?_, hr3.1, hr3.2⟩
  obtain ⟨m1, m2, m3⟩ := hm2
  refine ⟨fun k hk => by rw [gx_rb _ _ _ (by decide)]; exact m1 k hk, by rw [gx_r8]; exact m2, fun i' hi' p' hp' => ?_⟩
  have hi2 : i' < D.2.2 := hi'
  show _ = if i' = i ∧ p' = p then c else D.1 i' p'
  rw [gx_ra]
  by_cases e : i' = i ∧ p' = p
  · rw [e.1, e.2, pk_us, if_pos ⟨rfl, rfl⟩]
  · rw [if_neg e, pk_un (fun x => e ?_)]
    · exact m3 i' hi2 p' hp'
    · omega
theorem gx_case9 {L : Nat} {xs : Nat → Int32} {j : Nat} {M : fx_Mem} (hL : L ≤ 2048) (hj : j + 4 ≤ L) (h : gx_Inv M) : wb_law_697 L xs (gx_K j) (nI j) M := by
  obtain ⟨D, hd, hv, hm, ht, hs⟩ := h
  have hn := hd.1
  have htx := ht
  obtain ⟨t, t1, t2, t3, t4⟩ := ht
  unfold wb_law_697 wp_L_feed_0_9 wp_X6_feed_0 wp_X7_feed_8 wp_X7_thrown_8
  rw [nI_1 j, nI_clamp (n := j + 1) (by omega)]
  generalize ((xs (j + 1)).toUInt32 % 65536).toInt32 = a
  rw [t2, show (80 : Int32) = nI 80 from rfl, nI_ltI (by omega) (by omega), nI_clamp (by omega)]
  refine ⟨vp_in_nI (by omega) (by omega), fun e => ⟨vp_in_nI (by omega) (by omega), ?_⟩, fun e => ⟨rfl, vp_in_nI (by omega) (by omega), ?_⟩⟩
  rotate_left
  · rw [t3, nI_eq (by omega) (by omega)]
    refine ⟨fun _ => ?_, fun e2 => absurd (show t = 80 by omega) e2⟩
    unfold wp_X7_fails_8
    rintro _ rfl
    exact gx_fa hd hv hm ⟨htx, hs⟩ 1 (by decide) _
  rintro _ rfl
  rw [gx_r8, t2, nI_1]
  rintro _ rfl
  rw [gx_r1]
  rintro _ rfl
  refine ⟨vp_in_nI (by omega) (by omega), ?_⟩
  generalize hM1 : fx_sl (fx_si (fx_sa M 14 t (vp_nar .char a)) 193 (nI (t + 1))) 9 0 (nI (t + 1)).toInt64 = M1
  have hfr : gx_fr [193] [14] [9] M M1 := by rw [← hM1]; exact gx_fr_sl _ _ (gx_fr_si _ (gx_fr_sa _ _ (gx_fr_rfl _ _ _ _) (by decide)) (by decide)) (by decide)
  have h520 : M1.1 520 = nI t := by rw [hfr.1 520 (by decide), t3]
  have h193 : M1.1 193 = nI (t + 1) := by rw [← hM1, gx_rc, gx_r1]
  have h14 : M1.2.1 14 = upd (M.2.1 14) t (vp_nar .char a) := by rw [← hM1, gx_rd, gx_r3, gx_ra]
  have ho : M1.2.2 9 0 = (nI (t + 1)).toInt64 := by rw [← hM1, gx_re, pk_uLs]
  clear hM1
  rw [h520, nI_eq (by omega) (by omega)]
  refine ⟨fun e2 => absurd e2 (by omega), fun _ => ?_⟩
  rintro _ rfl
  rw [gx_r2 _ _ (by decide), h520, nI_clamp (by omega)]
  refine ⟨vp_in_nI (by omega) (by omega), ?_⟩
  rintro _ rfl
  rw [gx_r8, gx_r2 _ _ (by decide), h520, nI_1]
  rintro _ rfl
  rw [gx_r1]
  have hfr2 : gx_fr [193, 512, 520] [14, 32] [9] M (fx_si (fx_sa (fx_si M1 512 0) 32 t (vp_nar .char a)) 520 (nI (t + 1))) := gx_fr_si _ (gx_fr_sa _ _ (gx_fr_si _ (gx_fr_mo hfr (by decide) (by decide) (by decide)) (by decide)) (by decide)) (by decide)
  refine gx_tl (by rw [gx_r2 _ _ (by decide), gx_r8, gx_r1]) (fun _ => by rw [gx_r3, gx_r9, gx_r3]; exact ho) ⟨D, hd, gx_CV_fr hn (by decide) (by decide) hfr2 hv, gx_MV_fr (by decide) (by decide) hfr2 hm, ⟨t + 1, by omega, ?_, gx_r1 _ _ _, fun k hk => ?_⟩, gx_SK_fr (by decide) (by decide) hfr2 hs⟩
  · rw [gx_r2 _ _ (by decide), gx_r8, gx_r2 _ _ (by decide)]; exact h193
  · rw [gx_r3, gx_rb _ _ _ (by decide), gx_ra, gx_r3, h14, hfr.2.1 32 (by decide)]
    by_cases e3 : k = t
    · rw [e3, pk_us, pk_us]
    · rw [pk_un e3, pk_un e3]; exact t4 k (by omega)
