/-! readItem -/
theorem gx_rw_b {c : Nat → Int32} {t : Nat} : ∀ (K : Nat), (∀ i, i < K → gx_gd c t i = true) → ∀ p, p < 10 → (fx_tLO p).toInt ≤ (gx_rw c t K p).toInt ∧ (gx_rw c t K p).toInt ≤ (fx_tHI p).toInt
  | 0, _, p, hp => by
    have : ∀ p, p < 10 → (fx_tLO p).toInt ≤ (fx_tFI p).toInt ∧ (fx_tFI p).toInt ≤ (fx_tHI p).toInt := by decide
    exact this p hp
  | K + 1, hg, p, hp => by
    show (fx_tLO p).toInt ≤ (upd (gx_rw c t K) (gx_pP c t K) (gx_pV c t K) p).toInt ∧ (upd (gx_rw c t K) (gx_pP c t K) (gx_pV c t K) p).toInt ≤ (fx_tHI p).toInt
    by_cases e : p = gx_pP c t K
    · rw [e, pk_us]; exact gx_in_t (hg K (by omega))
    · rw [pk_un e]; exact gx_rw_b K (fun i hi => hg i (by omega)) p hp
theorem gx_rdM {D : gx_D} {M : fx_Mem} {c : Nat → Int32} {t : Nat} (hm : gx_MV D M) (hd : gx_ok D) (h20 : D.2.2 < 20) (ht : t ≤ 80) (h520 : M.1 520 = nI t) (hc : ∀ x, x < t → M.2.1 32 x = c x) {Q : Int32 → fx_Mem → Prop}
    (hE : ∀ e M', gx_er c t e → gx_fr [512, 515, 520, 521, 522] [31, 33, 34, 35] [] M M' → M'.1 512 = 0 → M'.1 520 = 0 → gx_MV D M' → Q ((-100) - nI e) M')
    (hB : ∀ k M', gx_okp c t → gx_pA c t k < t → (∀ i, i < k → gx_gd c t i = true) → gx_gd c t k = false → gx_fr [512, 515, 520, 521, 522] [31, 33, 34, 35] [] M M' → M'.1 512 = 0 → M'.1 520 = 0 → gx_MV D M' → Q ((-100) - nI (gx_pA c t k)) M')
    (hG : ∀ K M', gx_okp c t → gx_pA c t K = t + 1 → (∀ i, i < K → gx_gd c t i = true) → gx_fr [512, 515, 520, 521, 522] [31, 33, 34, 35] [] M M' → M'.1 512 = 0 → M'.1 520 = 0 → gx_MV (gx_ad D (gx_rw c t K)) M' → Q (nI D.2.2) M') : wp_X7_readItem_8 M Q := by
  have hn := hd.1
  unfold wp_X7_readItem_8
  rw [hm.2.1, show (20 : Int32) = nI 20 from rfl, nI_eq (by omega) (by omega)]
  refine ⟨fun e => absurd e (by omega), fun _ => ?_⟩
  rintro _ rfl
  have hfr0 : gx_fr [512, 515, 520, 521, 522] [31, 33, 34, 35] [] M (fx_si M 512 0) := gx_fr_si _ (gx_fr_rfl _ _ _ _) (by decide)
  refine gx_taM (M := fx_si M 512 0) ht (by rw [gx_r2 _ _ (by decide)]; exact h520) hc (fun M2 e hfr2 he her => ?_) (fun M2 K hfr2 hK h522 hAK hok hpc => ?_)
  · rintro _ rfl
    refine ⟨fun _ => ?_, fun x => absurd rfl x⟩
    rw [gx_r2 _ _ (by decide), he]
    have hfrA : gx_fr [512, 515, 520, 521, 522] [31, 33, 34, 35] [] M (fx_si M2 520 0) := gx_fr_si _ (gx_fr_tr hfr0 (gx_fr_mo hfr2 (by decide) (by decide) (by decide))) (by decide)
    refine hE e _ her hfrA (by rw [gx_r2 _ _ (by decide), hfr2.1 512 (by decide), gx_r1]) (gx_r1 _ _ _) ?_
    have hfrB : gx_fr [512, 520, 521, 522] [33, 34, 35] [] M (fx_si M2 520 0) := gx_fr_si _ (gx_fr_tr (gx_fr_si _ (gx_fr_rfl _ _ _ _) (by decide)) (gx_fr_mo hfr2 (by decide) (by decide) (by decide))) (by decide)
    exact gx_MV_fr (by decide) (by decide) hfrB hm
  · rintro _ rfl
    refine ⟨fun x => absurd x (by decide), fun _ => ?_⟩
    generalize hM3 : fx_si M2 520 0 = M3
    have hfrB : gx_fr [512, 520, 521, 522] [33, 34, 35] [] M M3 := by rw [← hM3]; exact gx_fr_si _ (gx_fr_tr (gx_fr_si _ (gx_fr_rfl _ _ _ _) (by decide)) (gx_fr_mo hfr2 (by decide) (by decide) (by decide))) (by decide)
    have hm3 := gx_MV_fr (by decide) (by decide) hfrB hm
    have g512 : M3.1 512 = 0 := by rw [← hM3, gx_r2 _ _ (by decide), hfr2.1 512 (by decide), gx_r1]
    have g520 : M3.1 520 = 0 := by rw [← hM3, gx_r1]
    have g522 : M3.1 522 = nI K := by rw [← hM3, gx_r2 _ _ (by decide)]; exact h522
    have gpc : ∀ i, i < K → gx_pc c t i M3 := by
      intro i hi
      obtain ⟨a1, a2, a3, a4⟩ := hpc i hi
      rw [← hM3]
      exact ⟨a1, by rw [gx_r3]; exact a2, by rw [gx_r3]; exact a3, by rw [gx_r3]; exact a4⟩
    clear hM3
    have hfrC : gx_fr [512, 515, 520, 521, 522] [31, 33, 34, 35] [] M M3 := gx_fr_mo hfrB (by decide) (by decide) (by decide)
    refine gx_cnt K (fun i s => s = (nI i, M3) ∧ (∀ k, k < i → gx_gd c t k = true)) ?_ (0, M3) ⟨rfl, fun k hk => absurd hk (by omega)⟩
    rintro i _ kk hi ⟨rfl, hgd⟩ hkk
    show wb_X7_readItem_8_44 (fun x2 M => kk (x2, M)) (wb_X7_readItem_8_87 Q) (wb_X7_readItem_8_103 Q) Q (nI i) M3
    unfold wb_X7_readItem_8_44
    rw [g522, nI_leI (by omega) (by omega), nI_clamp (n := i) (by omega)]
    refine ⟨fun e => ?_, fun e => ?_⟩
    rotate_left
    · have hiK : i < K := by omega
      obtain ⟨a1, a2, a3, a4⟩ := gpc i hiK
      rw [a2, a3, nI_clamp (n := gx_pP c t i) (by omega), show fx_tQL (gx_pP c t i) = fx_tLO (gx_pP c t i) from rfl, show fx_tQM (gx_pP c t i) = fx_tHI (gx_pP c t i) from rfl, gx_iwM, gx_b0]
      have vi : vp_in (nI i) 40 := vp_in_nI (by omega) (by omega)
      have vp : vp_in (nI (gx_pP c t i)) 10 := vp_in_nI (by omega) (by omega)
      refine ⟨vi, vi, vp, vi, vp, fun hb => ?_, fun hb => ?_⟩
      · unfold wb_X7_readItem_8_87
        rw [nI_clamp (n := i) (by omega), a4]
        refine ⟨vi, hB i M3 hok ?_ hgd hb hfrC g512 g520 hm3⟩
        have h1 := gx_pA_mono c t hiK
        rcases Nat.lt_or_ge (gx_pA c t i) t with e9 | e9
        · exact e9
        · have e8 : gx_pA c t i = t := by omega
          -- a piece at the very end has no letter
          have e7 : gx_en c t (gx_pA c t i) = t := by
            rw [e8]; unfold gx_en
            have := fa_first_le (fun d => decide (c (t + d) = 32)) (t - t)
            omega
          have e6 : i = 0 ∨ 0 < i := by omega
          rcases e6 with e6 | e6
          · rw [e6] at e8
            have : t = 0 := by have : gx_pA c t 0 = 0 := rfl; omega
            have := (gx_ok_0 hok (Nat.zero_le _) (Or.inl rfl)).2
            omega
          · have e5 : gx_pA c t i = gx_en c t (gx_pA c t (i - 1)) + 1 := by
              obtain ⟨q, rfl⟩ : ∃ q, i = q + 1 := ⟨i - 1, by omega⟩
              rfl
            have hl := fa_first_le (fun d => decide (c (gx_pA c t (i - 1) + d) = 32)) (t - gx_pA c t (i - 1))
            have hlt : gx_pA c t (i - 1) < t := by unfold gx_en at e5; omega
            have h4 : c (t - 1) = 32 := by
              have e4 : fa_first (fun d => decide (c (gx_pA c t (i - 1) + d) = 32)) (t - gx_pA c t (i - 1)) = t - 1 - gx_pA c t (i - 1) := by unfold gx_en at e5; omega
              have h5 := of_decide_eq_true (fa_first_yes (fun d => decide (c (gx_pA c t (i - 1) + d) = 32)) (t - gx_pA c t (i - 1)) (by rw [e4]; omega))
              rw [e4, show gx_pA c t (i - 1) + (t - 1 - gx_pA c t (i - 1)) = t - 1 by omega] at h5
              exact h5
            have := (gx_ok_0 hok (Nat.le_refl t) (Or.inr ⟨by omega, h4⟩)).2
            omega
      · rintro _ rfl
        rw [nI_1]
        refine hkk _ hiK ⟨rfl, fun k hk => ?_⟩
        by_cases e9 : k = i
        · rw [e9]; exact gx_bt hb
        · exact hgd k (by omega)
    have eiK : i = K := by omega
    subst eiK
    unfold wb_X7_readItem_8_103
    refine gx_beM hm3 h20 0 0 (fun M4 hfr4 hm4 => ?_)
    have r0 : ∀ p, p < 10 → gx_nr0 0 0 p = fx_tFI p := by decide
    have f522 : M4.1 522 = nI i := by rw [hfr4.1 522 (by decide)]; exact g522
    have fpc : ∀ k, k < i → gx_pc c t k M4 := by
      intro k hk
      obtain ⟨a1, a2, a3, a4⟩ := gpc k hk
      exact ⟨a1, by rw [hfr4.2.1 33 (by decide)]; exact a2, by rw [hfr4.2.1 34 (by decide)]; exact a3, by rw [hfr4.2.1 35 (by decide)]; exact a4⟩
    refine gx_cnt i (fun k s => ∃ M5, s = (nI D.2.2, nI k, M5) ∧ gx_fr [] [31] [] M4 M5 ∧ (∀ q, q < 10 * D.2.2 → M5.2.1 31 q = M4.2.1 31 q) ∧ (∀ p, p < 10 → M5.2.1 31 (10 * D.2.2 + p) = gx_rw c t k p)) ?_ (nI D.2.2, 0, M4) ⟨M4, rfl, gx_fr_rfl _ _ _ _, fun _ _ => rfl, fun p hp => ?_⟩
    rotate_left
    · have h5 := hm4.2.2 D.2.2 (by show D.2.2 < D.2.2 + 1; omega) p hp
      rw [h5]
      show (if D.2.2 = D.2.2 then gx_nr0 0 0 p else D.1 D.2.2 p) = fx_tFI p
      rw [if_pos rfl, r0 p hp]
    rintro k _ k2 hk ⟨M5, rfl, hfr5, q1, q2⟩ hk2
    show wb_X7_readItem_8_112 (fun x2 x3 M => k2 (x2, x3, M)) Q (nI D.2.2) (nI k) M5
    unfold wb_X7_readItem_8_112
    have f5 : M5.1 522 = nI i := by rw [hfr5.1 522 (by decide)]; exact f522
    rw [f5, nI_leI (by omega) (by omega), nI_clamp (n := k) (by omega)]
    refine ⟨fun e9 => ?_, fun e9 => ?_⟩
    · have ek : k = i := by omega
      subst ek
      refine hG k M5 hok hAK hgd (gx_fr_tr hfrC (gx_fr_tr (gx_fr_mo hfr4 (by decide) (by decide) (by decide)) (gx_fr_mo hfr5 (by decide) (by decide) (by decide)))) (by rw [hfr5.1 512 (by decide), hfr4.1 512 (by decide)]; exact g512) (by rw [hfr5.1 520 (by decide), hfr4.1 520 (by decide)]; exact g520) ⟨fun b hb => ?_, ?_, fun x hx p hp => ?_⟩
      · rw [hfr5.2.1 30 (by decide)]; exact hm4.1 b hb
      · rw [hfr5.1 515 (by decide)]; exact hm4.2.1
      · have hx2 : x < D.2.2 + 1 := hx
        show _ = if x = D.2.2 then gx_rw c t k p else D.1 x p
        by_cases e8 : x = D.2.2
        · rw [if_pos e8, e8]; exact q2 p hp
        · rw [if_neg e8, q1 _ (by omega), hm4.2.2 x hx p hp]
          show (if x = D.2.2 then gx_nr0 0 0 p else D.1 x p) = _
          rw [if_neg e8]
    · have hki : k < i := by omega
      obtain ⟨a1, a2, a3, a4⟩ := fpc k hki
      have b33 : M5.2.1 33 k = nI (gx_pP c t k) := by rw [hfr5.2.1 33 (by decide)]; exact a2
      have b34 : M5.2.1 34 k = gx_pV c t k := by rw [hfr5.2.1 34 (by decide)]; exact a3
      have vk : vp_in (nI k) 40 := vp_in_nI (by omega) (by omega)
      rw [b33, b34, show (10 : Int32) * nI D.2.2 + nI (gx_pP c t k) = nI (10 * D.2.2 + gx_pP c t k) from gx_ten _ _, nI_clamp (n := 10 * D.2.2 + gx_pP c t k) (by omega)]
      refine ⟨vk, vk, vp_in_nI (by omega) (by omega), ?_⟩
      rintro _ rfl _ rfl
      rw [nI_1]
      refine hk2 _ hki ⟨_, rfl, gx_fr_sa _ _ hfr5 (by decide), fun q hq => by rw [gx_ra, pk_un (by omega)]; exact q1 q hq, fun p hp => ?_⟩
      rw [gx_ra]
      show _ = upd (gx_rw c t k) (gx_pP c t k) (gx_pV c t k) p
      by_cases e8 : p = gx_pP c t k
      · rw [e8, pk_us, pk_us]
      · rw [pk_un (by omega), pk_un e8]; exact q2 p hp
theorem gx_case10 {L : Nat} {xs : Nat → Int32} {j : Nat} {M : fx_Mem} (h : gx_Inv M) : wb_law_755 L xs (gx_K j) (nI j) M := by
  obtain ⟨D, hd, hv, hm, htx, hs⟩ := h
  have hn := hd.1
  have htx2 := htx
  obtain ⟨t, t1, t2, t3, t4⟩ := htx2
  unfold wb_law_755 wp_L_readItem_0_9 wp_X6_readItem_0 wp_X6_requireRoom_0 wp_X7_thrown_8
  rw [hv.2.2.2.2.2.1, show (20 : Int32) = nI 20 from rfl, nI_ltI (by omega) (by omega)]
  refine ⟨fun h20 => ?_, fun h20 => ⟨rfl, ?_⟩⟩
  rotate_left
  · unfold wp_X7_readItem_8
    dsimp only
    rw [hm.2.1, show (20 : Int32) = nI 20 from rfl, nI_eq (by omega) (by omega)]
    refine ⟨fun _ => ?_, fun e => absurd (show D.2.2 = 20 by omega) e⟩
    unfold wp_X7_fails_8
    rintro _ rfl
    exact gx_fa hd hv hm ⟨htx, hs⟩ 1 (by decide) _
  generalize hcc : (fun k => if k < t then M.2.1 14 k else 0) = c
  have hc14 : ∀ k, k < t → M.2.1 14 k = c k := fun k hk => by rw [← hcc]; show _ = if k < t then M.2.1 14 k else 0; rw [if_pos hk]
  have hc32 : ∀ k, k < t → M.2.1 32 k = c k := fun k hk => by rw [← t4 k hk]; exact hc14 k hk
  -- the reference behind the class, whatever row the class has written
  have ref : ∀ (M1 : fx_Mem) (Q : Int32 → fx_Mem → Prop), gx_MV D M1 → M1.1 520 = nI t → M1.2.1 32 = M.2.1 32 → 
      (∀ e M', gx_er c t e → gx_fr [512, 515, 520, 521, 522] [31, 33, 34, 35] [] M1 M' → M'.1 512 = 0 → M'.1 520 = 0 → gx_MV D M' → Q ((-100) - nI e) M') →
      (∀ k M', gx_okp c t → gx_pA c t k < t → (∀ i, i < k → gx_gd c t i = true) → gx_gd c t k = false → gx_fr [512, 515, 520, 521, 522] [31, 33, 34, 35] [] M1 M' → M'.1 512 = 0 → M'.1 520 = 0 → gx_MV D M' → Q ((-100) - nI (gx_pA c t k)) M') →
      (∀ K M', gx_okp c t → gx_pA c t K = t + 1 → (∀ i, i < K → gx_gd c t i = true) → gx_fr [512, 515, 520, 521, 522] [31, 33, 34, 35] [] M1 M' → M'.1 512 = 0 → M'.1 520 = 0 → gx_MV (gx_ad D (gx_rw c t K)) M' → Q (nI D.2.2) M') → wp_X7_readItem_8 M1 Q :=
    fun M1 Q hm1 e520 e32 r1 r2 r3 => gx_rdM hm1 hd h20 t1 e520 (fun x hx => by rw [e32]; exact hc32 x hx) r1 r2 r3
  -- what remains when no item was made
  have keep : ∀ M1 : fx_Mem, gx_fr [] [57 + D.2.2] [] M M1 → ∀ (v : Int32) (M2 : fx_Mem), M2 = fx_sl (fx_si M1 193 0) 9 0 v.toInt64 → gx_MV D M2 ∧ M2.1 520 = nI t ∧ M2.2.1 32 = M.2.1 32 ∧ M2.2.2 9 0 = v.toInt64 ∧ (∀ M', gx_fr [512, 515, 520, 521, 522] [31, 33, 34, 35] [] M2 M' → M'.1 520 = 0 → gx_MV D M' → gx_Inv M') := by
    rintro M1 hfr v _ rfl
    have hfr2 : gx_fr [193] [57 + D.2.2] [9] M (fx_sl (fx_si M1 193 0) 9 0 v.toInt64) := gx_fr_sl _ _ (gx_fr_si _ (gx_fr_mo hfr (by decide) (by simp) (by decide)) (by decide)) (by decide)
    have h193 : (fx_sl (fx_si M1 193 0) 9 0 v.toInt64).1 193 = 0 := by rw [gx_rc, gx_r1]
    have h9 : (fx_sl (fx_si M1 193 0) 9 0 v.toInt64).2.2 9 0 = v.toInt64 := by rw [gx_re, pk_uLs]
    generalize fx_sl (fx_si M1 193 0) 9 0 v.toInt64 = M2 at *
    refine ⟨gx_MV_fr (by decide) (by simp; omega) hfr2 hm, by rw [hfr2.1 520 (by decide)]; exact t3, hfr2.2.1 32 (by simp; omega), h9, fun M' hfr3 e520 hm' => ?_⟩
    have hs2 : gx_SK M2 := gx_SK_fr (by decide) (by simp; omega) hfr2 hs
    have hv2 : gx_CV D M2 := by
      obtain ⟨v1, v2, v3, v4, v5, v6, v7⟩ := hv
      exact ⟨by rw [hfr2.1 64 (by decide), v1], by rw [hfr2.1 65 (by decide), v2], by rw [hfr2.1 66 (by decide), v3], by rw [hfr2.1 67 (by decide), v4], fun k hk => by rw [hfr2.2.1 10 (by simp; omega), v5 k hk], by rw [hfr2.1 70 (by decide), v6], fun i hi p hp => by rw [hfr2.2.1 (57 + i) (by simp; omega), v7 i hi p hp]⟩
    exact ⟨D, hd, gx_CV_fr hn (by decide) (by decide) hfr3 hv2, hm', ⟨0, by omega, by rw [hfr3.1 193 (by decide)]; exact h193, e520, fun k hk => absurd hk (by omega)⟩, gx_SK_fr (by decide) (by decide) hfr3 hs2⟩
  have r2f : ∀ (M1 M2 : fx_Mem) (v : Int32), M2 = fx_sl (fx_si M1 193 0) 9 0 v.toInt64 → True := fun _ _ _ _ => trivial
  refine gx_seC t1 t2 hc14 (fun e her => ⟨fun x => ?_, fun _ => ?_⟩) (fun hok => ⟨fun _ => ?_, fun x => absurd rfl x⟩)
  · have := (gx_er_none her).1
    exact absurd x (gx_nm1 (by omega))
  · have heb := (gx_er_none her).1
    unfold wb_X6_readItem_0_32
    rintro _ rfl
    refine ⟨fun x => absurd x (gx_nm1 (by omega)), fun _ => ?_⟩
    rintro M2 hM2
    obtain ⟨k1, k2, k3, k4, k5⟩ := keep M (gx_fr_rfl _ _ _ _) _ M2 hM2
    refine ref M2 _ k1 k2 k3 (fun e' M' her' hfr' e512 e520 hm' => ?_) (fun k M' hok' _ _ _ _ _ _ _ => absurd (gx_er_ok her hok') (fun x => x)) (fun K M' hok' _ _ _ _ _ _ => absurd (gx_er_ok her hok') (fun x => x))
    have ee : e' = e := gx_er_u her' her
    subst ee
    exact gx_tl e512 (fun _ => by rw [hfr'.2.2 9 (by decide)]; exact k4) (k5 M' hfr' e520 hm')
  · unfold wp_X1_freshRow_1
    have e19 : (if 19 < M.1 70 then 19 else M.1 70) = nI D.2.2 := by
      rw [hv.2.2.2.2.2.1, show (19 : Int32) = nI 19 from rfl, if_neg (by rw [nI_ltI (by omega) (by omega)]; omega)]
    dsimp only
    rw [e19, nI_clamp (by omega)]
    refine ⟨vp_in_nI (by omega) (by omega), ?_⟩
    rintro _ rfl
    generalize hM5 : fx_sA M (57 + D.2.2) (va_cpy fx_tFI (M.2.1 (57 + D.2.2)) 0 0 10) = M5
    have hfr5 : gx_fr [] [57 + D.2.2] [] M M5 := by rw [← hM5]; exact gx_fr_sA _ (gx_fr_rfl _ _ _ _) (by simp)
    have hrow : ∀ p, p < 10 → M5.2.1 (57 + D.2.2) p = fx_tFI p := fun p hp => by rw [← hM5, gx_r6, pk_cpy_in (by omega) (by omega), show 0 + (p - 0) = p by omega]
    clear hM5
    refine gx_riC t1 h20 hok (by rw [hfr5.1 193 (by decide)]; exact t2) (fun k hk => by rw [hfr5.2.1 14 (by simp; omega)]; exact hc14 k hk) hrow (fun k M6 hfr6 hAk hgd hb => ?_) (fun K M6 hfr6 hAK hgd hpp hrw => ?_)
    · unfold wb_X6_readItem_0_32
      rintro _ rfl
      refine ⟨fun x => absurd x (gx_nm1 (by omega)), fun _ => ?_⟩
      rintro M2 hM2
      obtain ⟨k1, k2, k3, k4, k5⟩ := keep M6 (gx_fr_tr hfr5 hfr6) _ M2 hM2
      refine ref M2 _ k1 k2 k3 (fun e' M' her' _ _ _ _ => absurd (gx_er_ok her' hok) (fun x => x)) (fun k' M' _ hAk' hgd' hb' hfr' e512 e520 hm' => ?_) (fun K M' _ hAK hgd' _ _ _ _ => ?_)
      · have ek : k' = k := by
          rcases Nat.lt_or_ge k k' with x | x
          · rw [hgd' k x] at hb; cases hb
          · rcases Nat.lt_or_ge k' k with y | y
            · rw [hgd k' y] at hb'; cases hb'
            · omega
        subst ek
        exact gx_tl e512 (fun _ => by rw [hfr'.2.2 9 (by decide)]; exact k4) (k5 M' hfr' e520 hm')
      · rcases Nat.lt_or_ge k K with x | x
        · rw [hgd' k x] at hb; cases hb
        · rcases Nat.lt_or_ge K k with y | y
          · have := gx_pA_mono c t y; omega
          · rw [show k = K by omega] at hAk; omega
    · unfold wb_X6_readItem_0_32 wp_X1_takeFreshRow_1
      rintro _ rfl
      refine ⟨fun _ => ?_, fun x => absurd rfl x⟩
      have hfrM : gx_fr [] [57 + D.2.2] [] M M6 := gx_fr_tr hfr5 hfr6
      have e70 : (fx_si M6 193 0).1 70 = nI D.2.2 := by rw [gx_r2 _ _ (by decide), hfrM.1 70 (by decide)]; exact hv.2.2.2.2.2.1
      rw [e70, nI_1]
      rintro _ rfl
      rw [gx_r1, gx_n5 (by omega), Nat.add_sub_cancel]
      rintro _ rfl
      generalize hM7 : fx_sl (fx_si (fx_si M6 193 0) 70 (nI (D.2.2 + 1))) 9 0 (nI D.2.2).toInt64 = M7
      have hfr7 : gx_fr [70, 193] [57 + D.2.2] [9] M M7 := by rw [← hM7]; exact gx_fr_sl _ _ (gx_fr_si _ (gx_fr_si _ (gx_fr_mo hfrM (by decide) (by simp) (by decide)) (by decide)) (by decide)) (by decide)
      have h193 : M7.1 193 = 0 := by rw [← hM7, gx_rc, gx_r2 _ _ (by decide), gx_r1]
      have h70 : M7.1 70 = nI (D.2.2 + 1) := by rw [← hM7, gx_rc, gx_r1]
      have h9 : M7.2.2 9 0 = (nI D.2.2).toInt64 := by rw [← hM7, gx_re, pk_uLs]
      have h57 : ∀ p, p < 10 → M7.2.1 (57 + D.2.2) p = gx_rw c t K p := fun p hp => by rw [← hM7, gx_rd, gx_r3, gx_r3]; exact hrw p hp
      clear hM7
      have hm7 := gx_MV_fr (D := D) (by decide) (by simp; omega) hfr7 hm
      have hs7 : gx_SK M7 := gx_SK_fr (by decide) (by simp; omega) hfr7 hs
      have hd' : gx_ok (gx_ad D (gx_rw c t K)) := gx_ad_ok hd h20 (gx_rw_b K hgd)
      have hv7 : gx_CV (gx_ad D (gx_rw c t K)) M7 := by
        obtain ⟨v1, v2, v3, v4, v5, v6, v7⟩ := hv
        refine ⟨by rw [hfr7.1 64 (by decide)]; exact v1, by rw [hfr7.1 65 (by decide)]; exact v2, by rw [hfr7.1 66 (by decide)]; exact v3, by rw [hfr7.1 67 (by decide)]; exact v4, fun k hk => by rw [hfr7.2.1 10 (by simp; omega)]; exact v5 k hk, h70, fun i hi p hp => ?_⟩
        have hi2 : i < D.2.2 + 1 := hi
        show _ = if i = D.2.2 then gx_rw c t K p else D.1 i p
        by_cases e8 : i = D.2.2
        · rw [if_pos e8, e8]; exact h57 p hp
        · rw [if_neg e8, hfr7.2.1 (57 + i) (by simp; omega)]; exact v7 i (by omega) p hp
      refine ref M7 _ hm7 (by rw [hfr7.1 520 (by decide)]; exact t3) (hfr7.2.1 32 (by simp; omega)) (fun e' M' her' _ _ _ _ => absurd (gx_er_ok her' hok) (fun x => x)) (fun k' M' _ hAk' hgd' hb' _ _ _ _ => ?_) (fun K' M' _ hAK' hgd' hfr' e512 e520 hm' => ?_)
      · rcases Nat.lt_or_ge k' K with x | x
        · rw [hgd k' x] at hb'; cases hb'
        · rcases Nat.lt_or_ge K k' with y | y
          · have := gx_pA_mono c t y; omega
          · rw [show k' = K by omega] at hAk'; omega
      · have eK : K' = K := by
          rcases Nat.lt_or_ge K K' with x | x
          · have := gx_pA_mono c t x; omega
          · rcases Nat.lt_or_ge K' K with y | y
            · have := gx_pA_mono c t y; omega
            · omega
        subst eK
        exact gx_tl e512 (fun _ => by rw [hfr'.2.2 9 (by decide)]; exact h9) ⟨_, hd', gx_CV_fr hd'.1 (by decide) (by decide) hfr' hv7, hm', ⟨0, by omega, by rw [hfr'.1 193 (by decide)]; exact h193, e520, fun k hk => absurd hk (by omega)⟩, gx_SK_fr (by decide) (by decide) hfr' hs7⟩
