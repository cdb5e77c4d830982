/-! adding and removing items -/
def gx_ad (D : gx_D) (r : Nat → Int32) : gx_D := (fun i p => if i = D.2.2 then r p else D.1 i p, D.2.1, D.2.2 + 1)
theorem gx_ad_ok {D : gx_D} (hd : gx_ok D) (h20 : D.2.2 < 20) {r : Nat → Int32} (hr : ∀ p, p < 10 → (fx_tLO p).toInt ≤ (r p).toInt ∧ (r p).toInt ≤ (fx_tHI p).toInt) : gx_ok (gx_ad D r) := by
  obtain ⟨d0, d1, d2, d3, d4, d5, d6⟩ := hd
  refine ⟨by show D.2.2 + 1 ≤ 20; omega, d1, d2, d3, d4, d5, fun i hi p hp => ?_⟩
  have hi2 : i < D.2.2 + 1 := hi
  show (fx_tLO p).toInt ≤ (if i = D.2.2 then r p else D.1 i p).toInt ∧ (if i = D.2.2 then r p else D.1 i p).toInt ≤ (fx_tHI p).toInt
  split
  · exact hr p hp
  · exact d6 i (by omega) p hp
theorem gx_CV_ad {D : gx_D} {M : fx_Mem} (hd : gx_ok D) (h20 : D.2.2 < 20) (hv : gx_CV D M) {r f : Nat → Int32} (hf : ∀ p, p < 10 → f p = r p) : gx_CV (gx_ad D r) (fx_si (fx_sA M (57 + D.2.2) f) 70 (nI (D.2.2 + 1))) := by
  obtain ⟨v1, v2, v3, v4, v5, v6, v7⟩ := hv
  refine ⟨v1, v2, v3, v4, fun k hk => by rw [gx_r3, gx_r7 _ _ (by omega)]; exact v5 k hk, gx_r1 _ _ _, fun i hi p hp => ?_⟩
  have hi2 : i < D.2.2 + 1 := hi
  rw [gx_r3]
  show _ = if i = D.2.2 then r p else D.1 i p
  by_cases e : i = D.2.2
  · rw [if_pos e, e, gx_r6, hf p hp]
  · rw [if_neg e, gx_r7 _ _ (by omega)]; exact v7 i (by omega) p hp
def gx_nr0 (a b : Int32) (p : Nat) : Int32 := if p = 5 then b else if p = 0 then a else fx_tFI p
theorem gx_beM {D : gx_D} {M : fx_Mem} (hm : gx_MV D M) (h20 : D.2.2 < 20) (a b : Int32) {Q : Int32 → fx_Mem → Prop} (h : ∀ M', gx_fr [515] [31] [] M M' → gx_MV (gx_ad D (gx_nr0 a b)) M' → Q (nI D.2.2) M') : wp_X7_begins_8 a b M Q := by
  have e10 : ∀ k, 10 * nI D.2.2 + nI k = nI (10 * D.2.2 + k) := fun k => gx_ten _ _
  have e11 : 10 * nI D.2.2 = nI (10 * D.2.2) := by rw [show (10 : Int32) = nI 10 from rfl, pk_mul]
  unfold wp_X7_begins_8
  refine gx_cnt 10 (fun k s => ∃ M1, s = (a, b, nI k, M1) ∧ gx_fr [] [31] [] M M1 ∧ (∀ q, q < 10 * D.2.2 → M1.2.1 31 q = M.2.1 31 q) ∧ (∀ p, p < k → M1.2.1 31 (10 * D.2.2 + p) = fx_tFI p)) ?_ (a, b, 0, M) ⟨M, rfl, gx_fr_rfl _ _ _ _, fun _ _ => rfl, fun p hp => absurd hp (by omega)⟩
  rintro k _ kk hk ⟨M1, rfl, hfr, h1, h2⟩ hkk
  have hm1 : M1.1 515 = nI D.2.2 := by rw [hfr.1 515 (by decide)]; exact hm.2.1
  show wb_X7_begins_8_2 (fun x1 x2 x3 M => kk (x1, x2, x3, M)) (wb_X7_begins_8_33 Q) Q a b (nI k) M1
  unfold wb_X7_begins_8_2
  rw [show (10 : Int32) ≤ nI k ↔ 10 ≤ k from by rw [show (10 : Int32) = nI 10 from rfl, nI_leI (by omega) (by omega)], hm1, e10, nI_clamp (by omega), nI_clamp (by omega)]
  refine ⟨fun e => ?_, fun e => ⟨vp_in_nI (by omega) (by omega), vp_in_nI (by omega) (by omega), ?_⟩⟩
  · have ek : k = 10 := by omega
    subst ek
    unfold wb_X7_begins_8_33
    rw [hm1, e11, nI_clamp (by omega)]
    refine ⟨vp_in_nI (by omega) (by omega), ?_⟩
    rintro _ rfl
    rw [gx_r8, hm1, show (5 : Int32) = nI 5 from rfl, e10, nI_clamp (by omega)]
    refine ⟨vp_in_nI (by omega) (by omega), ?_⟩
    rintro _ rfl
    rw [gx_r8, gx_r8, hm1, nI_1]
    rintro _ rfl
    rw [gx_r1, gx_n5 (by omega)]
    refine h _ (gx_fr_si _ (gx_fr_sa _ _ (gx_fr_sa _ _ (gx_fr_mo hfr (by decide) (by decide) (by decide)) (by decide)) (by decide)) (by decide)) ⟨fun k hk => ?_, gx_r1 _ _ _, fun i hi p hp => ?_⟩
    · rw [gx_r3, gx_rb _ _ _ (by decide), gx_rb _ _ _ (by decide), hfr.2.1 30 (by decide)]; exact hm.1 k hk
    · have hi2 : i < D.2.2 + 1 := hi
      rw [gx_r3, gx_ra, gx_ra]
      show _ = if i = D.2.2 then gx_nr0 a b p else D.1 i p
      unfold gx_nr0
      by_cases e1 : i = D.2.2
      · rw [if_pos e1, e1]
        by_cases e2 : p = 5
        · rw [if_pos e2, e2, pk_us]
        · rw [if_neg e2, pk_un (by omega)]
          by_cases e3 : p = 0
          · rw [if_pos e3, e3, Nat.add_zero, pk_us]
          · rw [if_neg e3, pk_un (by omega)]; exact h2 p hp
      · rw [if_neg e1, pk_un (by omega), pk_un (by omega), h1 _ (by omega)]; exact hm.2.2 i (by omega) p hp
  · rintro _ rfl _ rfl
    rw [nI_1]
    refine hkk _ (by omega) ⟨_, rfl, gx_fr_sa _ _ hfr (by decide), fun q hq => ?_, fun p hp => ?_⟩
    · rw [gx_ra, pk_un (by omega)]; exact h1 q hq
    · rw [gx_ra]
      by_cases e1 : p = k
      · rw [e1, pk_us]; rfl
      · rw [pk_un (by omega)]; exact h2 p (by omega)
theorem gx_case4 {L : Nat} {xs : Nat → Int32} {j : Nat} {M : fx_Mem} (hL : L ≤ 2048) (hj : j + 4 ≤ L) (h : gx_Inv M) : wb_law_412 L xs (gx_K j) (nI j) M := by
  obtain ⟨D, hd, hv, hm, ht, hs⟩ := h
  have hn := hd.1
  unfold wb_law_412 wp_L_addItem_0_9 wp_X6_addItem_0 wp_X7_addItem_8 wp_X7_thrown_8 wb_X6_addItem_0_16 wb_X7_addItem_8_24
  rw [nI_1 j, gx_j2 j, nI_clamp (n := j + 1) (by omega), nI_clamp (n := j + 2) (by omega)]
  generalize xs (j + 1) = a
  generalize xs (j + 2) = b
  refine ⟨vp_in_nI (by omega) (by omega), vp_in_nI (by omega) (by omega), ?_⟩
  have hf : ∀ c : Int32, ¬ c = 0 → wp_X7_fails_8 c M (fun r2 M1 => gx_T L xs (gx_K j) (nI j) c r2.toInt64 M1) := by
    intro c hc
    unfold wp_X7_fails_8
    rintro _ rfl
    exact gx_fa hd hv hm ⟨ht, hs⟩ c hc _
  have e0 : ∀ M Q, wp_X6_canHave 0 a M Q ↔ Q (gx_b (gx_in a 0 9999)) M := fun M Q => gx_chC (p := 0) (by decide) a M Q
  have e5 : ∀ M Q, wp_X6_canHave 5 b M Q ↔ Q (gx_b (gx_in b 0 9999)) M := fun M Q => gx_chC (p := 5) (by decide) b M Q
  rw [e0, gx_b0]
  refine ⟨fun ha => Or.inl ⟨rfl, vp_in_nI (by omega) (by omega), vp_in_nI (by omega) (by omega), ?_⟩, fun ha => ?_⟩
  · rw [gx_lit64.1, gx_lit64.2.1, gx_iwM, gx_b0]
    exact ⟨fun _ => hf 1 (by decide), fun e => absurd ha e⟩
  rw [e5, gx_b0]
  refine ⟨fun hb => Or.inl ⟨rfl, vp_in_nI (by omega) (by omega), vp_in_nI (by omega) (by omega), ?_⟩, fun hb => ?_⟩
  · rw [gx_lit64.1, gx_lit64.2.1, gx_iwM, gx_b0]
    refine ⟨fun _ => hf 1 (by decide), fun _ => ?_⟩
    rw [gx_iwM, gx_b0]
    exact ⟨fun _ => hf 1 (by decide), fun e => absurd hb e⟩
  unfold wp_X6_requireRoom_0
  rw [hv.2.2.2.2.2.1, show (20 : Int32) = nI 20 from rfl, nI_ltI (by omega) (by omega)]
  refine ⟨fun h20 => ?_, fun h20 => Or.inr ⟨rfl, vp_in_nI (by omega) (by omega), vp_in_nI (by omega) (by omega), ?_⟩⟩
  rotate_left
  · rw [gx_lit64.1, gx_lit64.2.1, gx_iwM, gx_b0]
    refine ⟨fun e => absurd e ha, fun _ => ?_⟩
    rw [gx_iwM, gx_b0]
    refine ⟨fun e => absurd e hb, fun _ => ?_⟩
    rw [hm.2.1, nI_eq (by omega) (by omega)]
    exact ⟨fun _ => hf 2 (by decide), fun e => absurd (show D.2.2 = 20 by omega) e⟩
  unfold wp_X1_freshRow_1 wp_X1_takeFreshRow_1
  have e19 : (if 19 < M.1 70 then 19 else M.1 70) = nI D.2.2 := by
    rw [hv.2.2.2.2.2.1, show (19 : Int32) = nI 19 from rfl, if_neg (by rw [nI_ltI (by omega) (by omega)]; omega)]
  dsimp only
  rw [e19, nI_clamp (by omega)]
  refine ⟨vp_in_nI (by omega) (by omega), ?_⟩
  rintro _ rfl _ rfl _ rfl
  rw [gx_r8, gx_r8, gx_r4, hv.2.2.2.2.2.1, nI_1]
  rintro _ rfl
  rw [gx_r1, gx_n5 (by omega), Nat.add_sub_cancel]
  rintro _ rfl
  generalize hrow : upd (upd (va_cpy fx_tFI (M.2.1 (57 + D.2.2)) 0 0 10) 0 a) 5 b = f
  have hfp : ∀ p, p < 10 → f p = gx_nr0 a b p := by
    intro p hp
    rw [← hrow]; unfold gx_nr0
    by_cases e2 : p = 5
    · rw [if_pos e2, e2, pk_us]
    · rw [if_neg e2, pk_un e2]
      by_cases e3 : p = 0
      · rw [if_pos e3, e3, pk_us]
      · rw [if_neg e3, pk_un e3, pk_cpy_in (by omega) (by omega)]; simp
  have hMe : fx_sa (fx_sa (fx_sA M (57 + D.2.2) (va_cpy fx_tFI (M.2.1 (57 + D.2.2)) 0 0 10)) (57 + D.2.2) 0 a) (57 + D.2.2) 5 b = fx_sA M (57 + D.2.2) f := by
    rw [← hrow]
    unfold fx_sa
    rw [gx_r6, gx_r6]
    unfold fx_sA
    refine Prod.ext rfl (Prod.ext (funext fun c => ?_) rfl)
    show va_up (va_up (va_up M.2.1 _ _) _ _) _ _ c = va_up M.2.1 _ _ c
    by_cases e : c = 57 + D.2.2
    · rw [e, va_up_self, va_up_self]
    · rw [va_up_ne _ _ e, va_up_ne _ _ e, va_up_ne _ _ e, va_up_ne _ _ e]
  rw [hMe]
  have hd' : gx_ok (gx_ad D (gx_nr0 a b)) := by
    refine gx_ad_ok hd h20 (fun p hp => ?_)
    have ha2 := gx_in_t (gx_bt ha)
    have hb2 := gx_in_t (gx_bt hb)
    unfold gx_nr0
    by_cases e2 : p = 5
    · rw [if_pos e2, e2]; exact hb2
    · rw [if_neg e2]
      by_cases e3 : p = 0
      · rw [if_pos e3, e3]; exact ha2
      · rw [if_neg e3]
        have : ∀ p, p < 10 → (fx_tLO p).toInt ≤ (fx_tFI p).toInt ∧ (fx_tFI p).toInt ≤ (fx_tHI p).toInt := by decide
        exact this p hp
  have hv1 := gx_CV_ad hd h20 hv hfp
  have hfr1 : gx_fr [70] [57 + D.2.2] [] M (fx_si (fx_sA M (57 + D.2.2) f) 70 (nI (D.2.2 + 1))) := gx_fr_si _ (gx_fr_sA _ (gx_fr_rfl _ _ _ _) (by simp)) (by decide)
  have hm1 : gx_MV D (fx_si (fx_sA M (57 + D.2.2) f) 70 (nI (D.2.2 + 1))) := gx_MV_fr (by decide) (by simp; omega) hfr1 hm
  have hr1 : gx_TX (fx_si (fx_sA M (57 + D.2.2) f) 70 (nI (D.2.2 + 1))) ∧ gx_SK (fx_si (fx_sA M (57 + D.2.2) f) 70 (nI (D.2.2 + 1))) := gx_rest (by decide) (by simp; omega) hfr1 ⟨ht, hs⟩
  generalize fx_si (fx_sA M (57 + D.2.2) f) 70 (nI (D.2.2 + 1)) = M1 at *
  have hfr : gx_fr [] [] [9] M1 (fx_sl M1 9 0 (nI D.2.2).toInt64) := gx_fr_sl _ _ (gx_fr_rfl _ _ _ _) (by decide)
  have hm' := gx_MV_fr (by decide) (by decide) hfr hm1
  refine ⟨vp_in_nI (by omega) (by omega), vp_in_nI (by omega) (by omega), ?_⟩
  rw [gx_lit64.1, gx_lit64.2.1, gx_iwM, gx_b0]
  refine ⟨fun e => absurd e ha, fun _ => ?_⟩
  rw [gx_iwM, gx_b0]
  refine ⟨fun e => absurd e hb, fun _ => ?_⟩
  rw [hm'.2.1, nI_eq (by omega) (by omega)]
  refine ⟨fun e => absurd e (by omega), fun _ => ?_⟩
  rintro _ rfl
  refine gx_beM (gx_MV_512 hm' 0) h20 a b (fun M3 hfr3 hm3 => ?_)
  have hfrA : gx_fr [512, 515] [31] [9] M1 M3 := gx_fr_tr (gx_fr_si _ (gx_fr_mo hfr (by decide) (by decide) (by decide)) (by decide)) (gx_fr_mo hfr3 (by decide) (by decide) (by decide))
  have hr3 := gx_rest (by decide) (by decide) hfrA hr1
  exact gx_tl (by rw [hfr3.1 512 (by decide), gx_r1]) (fun _ => by rw [hfr3.2.2 9 (by decide), gx_r3, gx_re, pk_uLs]) ⟨gx_ad D (gx_nr0 a b), hd', gx_CV_fr hd'.1 (by decide) (by decide) hfrA hv1, hm3, hr3.1, hr3.2⟩
def gx_rm (D : gx_D) (i : Nat) : gx_D := (fun k p => if k < i then D.1 k p else D.1 (k + 1) p, D.2.1, D.2.2 - 1)
theorem gx_case5 {L : Nat} {xs : Nat → Int32} {j : Nat} {M : fx_Mem} (hL : L ≤ 2048) (hj : j + 4 ≤ L) (h : gx_Inv M) : wb_law_480 L xs (gx_K j) (nI j) M := by
  obtain ⟨D, hd, hv, hm, ht, hs⟩ := h
  have hn := hd.1
  unfold wb_law_480 wp_L_removeItem_0_9 wp_X6_removeItem_0 wp_X7_removeItem_8 wp_X7_thrown_8
  rw [nI_1 j, nI_clamp (n := j + 1) (by omega)]
  generalize xs (j + 1) = a
  refine ⟨vp_in_nI (by omega) (by omega), ?_⟩
  rw [gx_rqC hv]
  refine ⟨fun ha => ⟨rfl, vp_in_nI (by omega) (by omega), ?_⟩, fun ha => ?_⟩
  · rw [gx_itM hm hd, gx_b0]
    refine ⟨fun _ => ?_, fun e => absurd ha e⟩
    unfold wp_X7_fails_8
    rintro _ rfl
    exact gx_fa hd hv hm ⟨ht, hs⟩ 1 (by decide) _
  obtain ⟨i, hi, rfl⟩ := gx_it_ex hd (gx_bt ha)
  unfold wp_X1_dropRow_1
  rw [nI_1]
  rintro _ rfl
  have hd' : gx_ok (gx_rm D i) := by
    obtain ⟨d0, d1, d2, d3, d4, d5, d6⟩ := hd
    refine ⟨by show D.2.2 - 1 ≤ 20; omega, d1, d2, d3, d4, d5, fun k hk p hp => ?_⟩
    have hk2 : k < D.2.2 - 1 := hk
    show (fx_tLO p).toInt ≤ (if k < i then D.1 k p else D.1 (k + 1) p).toInt ∧ (if k < i then D.1 k p else D.1 (k + 1) p).toInt ≤ (fx_tHI p).toInt
    split
    · exact d6 k (by omega) p hp
    · exact d6 (k + 1) (by omega) p hp
  -- the class
  have e77 : ∀ M1 : fx_Mem, (∀ k, ¬ (57 ≤ k ∧ k < 77) → M1.2.1 k = M.2.1 k) → M1.1 = M.1 → M1.2.2 = M.2.2 → gx_MV D M1 ∧ gx_TX M1 ∧ gx_SK M1 := by
    intro M1 q1 q2 q3
    have hfr : gx_fr [] [57, 58, 59, 60, 61, 62, 63, 64, 65, 66, 67, 68, 69, 70, 71, 72, 73, 74, 75, 76] [] M M1 := ⟨fun k _ => by rw [q2], fun k hk => q1 k (fun e => hk (by
      obtain ⟨c, hc, rfl⟩ : ∃ c, c < 20 ∧ k = 57 + c := ⟨k - 57, by omega, by omega⟩
      have : ∀ c, c < 20 → 57 + c ∈ [57, 58, 59, 60, 61, 62, 63, 64, 65, 66, 67, 68, 69, 70, 71, 72, 73, 74, 75, 76] := by decide
      exact this c hc)), fun k _ => by rw [q3]⟩
    have hr := gx_rest (by decide) (by decide) hfr ⟨ht, hs⟩
    exact ⟨gx_MV_fr (by decide) (by decide) hfr hm, hr.1, hr.2⟩
  have q0 : ∀ k, k < D.2.2 → ∀ p, p < 10 → M.2.1 (57 + k) p = if k < i then D.1 k p else if k < i + 0 then D.1 (k + 1) p else D.1 k p := by
    intro k hk p hp
    rw [hv.2.2.2.2.2.2 k hk p hp]
    by_cases e : k < i
    · rw [if_pos e]
    · rw [if_neg e, if_neg (by omega)]
  refine gx_cnt (D.2.2 - 1 - i) (fun t s => ∃ M1, s = (nI (i + 1 + t), M1) ∧ (∀ k, ¬ (57 ≤ k ∧ k < 77) → M1.2.1 k = M.2.1 k) ∧ M1.1 = M.1 ∧ M1.2.2 = M.2.2 ∧ (∀ k, k < D.2.2 → ∀ p, p < 10 → M1.2.1 (57 + k) p = if k < i then D.1 k p else if k < i + t then D.1 (k + 1) p else D.1 k p)) ?_ (nI (i + 1), M) ⟨M, rfl, fun _ _ => rfl, rfl, rfl, q0⟩
  rintro t _ kk htt ⟨M1, rfl, q1, q2, q3, q4⟩ hkk
  show wb_X1_dropRow_1_4 (fun x2 M => kk (x2, M)) _ _ (nI (i + 1 + t)) M1
  unfold wb_X1_dropRow_1_4
  have h70 : M1.1 70 = nI D.2.2 := by rw [q2]; exact hv.2.2.2.2.2.1
  rw [h70, nI_leI (by omega) (by omega), gx_n5 (n := i + 1 + t) (by omega), nI_clamp (n := i + 1 + t) (by omega), nI_clamp (n := i + 1 + t - 1) (by omega)]
  refine ⟨fun e => ?_, fun e => ⟨vp_in_nI (by omega) (by omega), vp_in_nI (by omega) (by omega), ?_⟩⟩
  rotate_left
  · rintro _ rfl _ rfl
    rw [nI_1]
    refine hkk _ (by omega) ⟨_, rfl, fun k hk => ?_, q2, q3, fun k hk p hp => ?_⟩
    · rw [gx_r7 _ _ (by omega)]; exact q1 k hk
    · by_cases e1 : k = i + t
      · rw [e1, show 57 + (i + 1 + t - 1) = 57 + (i + t) by omega, gx_r6, pk_cpy_in (by omega) (by omega), if_neg (by omega), if_pos (by omega), show 0 + (p - 0) = p by omega, q4 (i + 1 + t) (by omega) p hp, if_neg (by omega), if_neg (by omega), show i + 1 + t = i + t + 1 by omega]
      · rw [gx_r7 _ _ (by omega), q4 k hk p hp]
        by_cases e2 : k < i
        · rw [if_pos e2, if_pos e2]
        · rw [if_neg e2, if_neg e2]
          by_cases e3 : k < i + t
          · rw [if_pos e3, if_pos (by omega)]
          · rw [if_neg e3, if_neg (by omega)]
  have et : t = D.2.2 - 1 - i := by omega
  obtain ⟨r1, r2, r3⟩ := e77 M1 q1 q2 q3
  unfold wb_X1_dropRow_1_39
  rw [h70, gx_n5 (by omega)]
  rintro _ rfl
  rw [gx_r1]
  rintro _ rfl
  generalize hM2 : fx_sl (fx_si M1 70 (nI (D.2.2 - 1))) 9 0 (nI (D.2.2 - 1)).toInt64 = M2
  have hfr : gx_fr [70] [] [9] M1 M2 := by rw [← hM2]; exact gx_fr_sl _ _ (gx_fr_si _ (gx_fr_rfl _ _ _ _) (by decide)) (by decide)
  have ho : M2.2.2 9 0 = (nI (D.2.2 - 1)).toInt64 := by rw [← hM2, gx_re, pk_uLs]
  have hv2 : gx_CV (gx_rm D i) M2 := by
    obtain ⟨v1, v2, v3, v4, v5, v6, v7⟩ := hv
    refine ⟨by rw [hfr.1 64 (by decide), q2]; exact v1, by rw [hfr.1 65 (by decide), q2]; exact v2, by rw [hfr.1 66 (by decide), q2]; exact v3, by rw [hfr.1 67 (by decide), q2]; exact v4, fun k hk => by rw [hfr.2.1 10 (by decide), q1 10 (by omega)]; exact v5 k hk, by rw [← hM2, gx_rc, gx_r1]; rfl, fun k hk p hp => ?_⟩
    have hk2 : k < D.2.2 - 1 := hk
    rw [hfr.2.1 (57 + k) (by simp), q4 k (by omega) p hp]
    show _ = if k < i then D.1 k p else D.1 (k + 1) p
    by_cases e2 : k < i
    · rw [if_pos e2, if_pos e2]
    · rw [if_neg e2, if_neg e2, if_pos (by omega)]
  have hm2 := gx_MV_fr (by decide) (by decide) hfr r1
  have hr2 := gx_rest (by decide) (by decide) hfr ⟨r2, r3⟩
  clear hM2
  refine ⟨vp_in_nI (by omega) (by omega), ?_⟩
  rw [gx_itM hm2 hd, gx_b0]
  refine ⟨fun e => absurd e ha, fun _ => ?_⟩
  rintro _ rfl
  rw [gx_r2 _ _ (by decide), hm2.2.1, gx_n5 (by omega)]
  rintro _ rfl
  rw [show (10 : Int32) * nI i = nI (10 * i) from by rw [show (10 : Int32) = nI 10 from rfl, pk_mul]]
  rintro _ rfl
  have q9 : ∀ q, q < 10 * D.2.2 → (fx_si (fx_si M2 512 0) 515 (nI (D.2.2 - 1))).2.1 31 q = if q < 10 * i then M2.2.1 31 q else if q < 10 * i + 0 then M2.2.1 31 (q + 10) else M2.2.1 31 q := by
    intro q hq
    rw [gx_r3, gx_r3]
    by_cases e : q < 10 * i
    · rw [if_pos e]
    · rw [if_neg e, if_neg (by omega)]
  refine gx_cnt (10 * (D.2.2 - 1) - 10 * i) (fun t s => ∃ M3, s = (nI (10 * i + t), M3) ∧ gx_fr [512, 515] [31] [] M2 M3 ∧ M3.1 512 = 0 ∧ M3.1 515 = nI (D.2.2 - 1) ∧ (∀ q, q < 10 * D.2.2 → M3.2.1 31 q = if q < 10 * i then M2.2.1 31 q else if q < 10 * i + t then M2.2.1 31 (q + 10) else M2.2.1 31 q)) ?_ (nI (10 * i), fx_si (fx_si M2 512 0) 515 (nI (D.2.2 - 1))) ⟨_, rfl, gx_fr_si _ (gx_fr_si _ (gx_fr_rfl _ _ _ _) (by decide)) (by decide), by rw [gx_r2 _ _ (by decide), gx_r1], gx_r1 _ _ _, q9⟩
  rintro t _ kk htt ⟨M3, rfl, hfr3, g512, g515, g31⟩ hkk
  show wb_X7_removeItem_8_34 (fun x2 M => kk (x2, M)) _ _ (nI (10 * i + t)) M3
  unfold wb_X7_removeItem_8_34
  rw [g515, show (10 : Int32) * nI (D.2.2 - 1) = nI (10 * (D.2.2 - 1)) from by rw [show (10 : Int32) = nI 10 from rfl, pk_mul], show nI (10 * i + t) + 10 = nI (10 * i + t + 10) from nI_add _ 10, nI_leI (by omega) (by omega), nI_clamp (n := 10 * i + t + 10) (by omega), nI_clamp (n := 10 * i + t) (by omega)]
  refine ⟨fun e => ?_, fun e => ⟨vp_in_nI (by omega) (by omega), vp_in_nI (by omega) (by omega), ?_⟩⟩
  · unfold wb_X7_removeItem_8_66
    rw [g515]
    have hr3 := gx_rest (by decide) (by decide) hfr3 hr2
    refine gx_tl g512 (fun _ => by rw [hfr3.2.2 9 (by decide)]; exact ho) ⟨gx_rm D i, hd', gx_CV_fr hd'.1 (by decide) (by decide) hfr3 hv2, ⟨fun k hk => by rw [hfr3.2.1 30 (by decide)]; exact hm2.1 k hk, g515, fun k hk p hp => ?_⟩, hr3.1, hr3.2⟩
    have hk2 : k < D.2.2 - 1 := hk
    show _ = if k < i then D.1 k p else D.1 (k + 1) p
    rw [g31 _ (by omega)]
    by_cases e2 : k < i
    · rw [if_pos e2, if_pos (by omega)]; exact hm2.2.2 k (by omega) p hp
    · rw [if_neg e2, if_neg (by omega), if_pos (by omega), show 10 * k + p + 10 = 10 * (k + 1) + p by omega]; exact hm2.2.2 (k + 1) (by omega) p hp
  · rintro _ rfl _ rfl
    rw [nI_1, show 10 * i + t + 1 = 10 * i + (t + 1) by omega]
    refine hkk _ (by omega) ⟨_, rfl, gx_fr_sa _ _ hfr3 (by decide), g512, g515, fun q hq => ?_⟩
    rw [gx_ra]
    by_cases e1 : q = 10 * i + t
    · rw [e1, pk_us, if_neg (by omega), if_pos (by omega), g31 _ (by omega), if_neg (by omega), if_neg (by omega)]
    · rw [pk_un e1, g31 q hq]
      by_cases e2 : q < 10 * i
      · rw [if_pos e2, if_pos e2]
      · rw [if_neg e2, if_neg e2]
        by_cases e3 : q < 10 * i + t
        · rw [if_pos e3, if_pos (by omega)]
        · rw [if_neg e3, if_neg (by omega)]
