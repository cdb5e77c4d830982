/-! the reference's cross sizes -/
theorem gx_nc {n : Nat} (h : n < 2 ^ 31) : (nI n = 1) ↔ n = 1 := by
  rw [show (1 : Int32) = nI 1 from rfl, nI_eq h (by decide)]
theorem gx_nt_y {D : gx_D} {a t : Nat} (h : gx_al D (gx_it D (a + t)) = 4) : gx_nt D a (t + 1) = ((gx_nt D a t).1, gx_mx (gx_nt D a t).2.1 (gx_P D (a + t) 6), (if (gx_nt D a t).2.2.2 then gx_mx (gx_nt D a t).2.2.1 (gx_P D (a + t) 5 - gx_P D (a + t) 6) else gx_P D (a + t) 5 - gx_P D (a + t) 6), true) := if_pos h
theorem gx_nt_n {D : gx_D} {a t : Nat} (h : ¬ gx_al D (gx_it D (a + t)) = 4) : gx_nt D a (t + 1) = (gx_mx (gx_nt D a t).1 (gx_P D (a + t) 5), (gx_nt D a t).2) := if_neg h
theorem gx_ntM {D : gx_D} {M : fx_Mem} (hv : gx_MV D M) (hd : gx_ok D) (ha : gx_AM D M) {l a m : Nat} (hl : gx_ln D l a m) {Q : fx_Mem → Prop}
    (h : ∀ M', gx_fr [] [52, 53] [] M M' → M'.2.1 53 l = gx_ns D l → M'.2.1 52 l = gx_as D l → (∀ j, j ≠ l → M'.2.1 52 j = M.2.1 52 j) → Q M') : wp_X7_findNatural_8 (nI l) M Q := by
  obtain ⟨m1, m2, m3, m4, m5⟩ := gx_ln_b hd hl
  obtain ⟨e1, e2, e3⟩ := gx_lnM hd ha hl
  obtain ⟨q1, q2⟩ := gx_ln_eq hl
  unfold wp_X7_findNatural_8
  rw [nI_clamp (n := l) (by omega)]
  refine ⟨vp_in_nI (by omega) (by omega), ?_⟩
  rintro _ rfl
  rw [gx_rb _ _ _ (by decide), e1]
  refine ⟨vp_in_nI (by omega) (by omega), ?_⟩
  rintro _ rfl
  refine gx_cnt m (fun t s => ∃ M1, s = (nI l, gx_b (gx_nt D a t).2.2.2, (gx_nt D a t).2.2.1, (gx_nt D a t).1, nI (a + t), M1) ∧ gx_fr [] [52, 53] [] M M1 ∧ M1.2.1 52 l = (gx_nt D a t).2.1 ∧ (∀ j, j ≠ l → M1.2.1 52 j = M.2.1 52 j)) ?_ (nI l, 0, 0, 0, nI a, fx_sa M 52 l 0) ⟨_, rfl, gx_fr_sa _ _ (gx_fr_rfl _ _ _ _) (by decide), by rw [gx_ra, pk_us]; rfl, fun j hj => by rw [gx_ra, pk_un hj]⟩
  rintro t _ k ht ⟨M1, rfl, hfr, h52, hoj⟩ hk
  have hv1 := gx_MV_fr (by decide) (by decide) hfr hv
  have ha1 := gx_AM_fr (by decide) (by decide) hfr ha
  obtain ⟨e1, e2, e3⟩ := gx_lnM hd ha1 hl
  show wb_X7_findNatural_8_22 (fun x1 x2 x3 x4 x5 M => k (x1, x2, x3, x4, x5, M)) (wb_X7_findNatural_8_171 Q) Q (nI l) (gx_b (gx_nt D a t).2.2.2) (gx_nt D a t).2.2.1 (gx_nt D a t).1 (nI (a + t)) M1
  unfold wb_X7_findNatural_8_22
  rw [nI_clamp (n := l) (by omega), e1, e2, nI_add, nI_leI (by omega) (by omega), nI_clamp (n := a + t) (by omega)]
  refine ⟨vp_in_nI (by omega) (by omega), vp_in_nI (by omega) (by omega), fun hc => ?_, fun hc => ⟨vp_in_nI (by omega) (by omega), ?_⟩⟩
  · have e : t = m := by omega
    subst e
    unfold wb_X7_findNatural_8_171 wb_X7_findNatural_8_202
    rw [nI_clamp (n := l) (by omega), h52]
    have fin : ∀ v : Int32, v = gx_ns D l → Q (fx_sa M1 53 l v) := by
      rintro _ rfl
      refine h _ (gx_fr_sa _ _ hfr (by decide)) (by rw [gx_ra, pk_us]) ?_ (fun j hj => by rw [gx_rb _ _ _ (by decide)]; exact hoj j hj)
      rw [gx_rb _ _ _ (by decide), h52]; unfold gx_as; rw [q2, q1]
    have en : gx_ns D l = if (gx_nt D a t).2.1 + (gx_nt D a t).2.2.1 ≤ (gx_nt D a t).1 then (gx_nt D a t).1 else (gx_nt D a t).2.1 + (gx_nt D a t).2.2.1 := by
      rw [gx_mx_le]; unfold gx_ns; rw [q2, q1]
    refine ⟨vp_in_nI (by omega) (by omega), fun e => ⟨vp_in_nI (by omega) (by omega), ?_⟩, fun e => ⟨vp_in_nI (by omega) (by omega), vp_in_nI (by omega) (by omega), ?_⟩⟩
    · rintro _ rfl
      exact fin _ (by rw [en, if_pos e])
    · rintro _ rfl
      exact fin _ (by rw [en, if_neg e])
  · have htm : t < m := by omega
    obtain ⟨f1, f2⟩ := e3 t htm
    obtain ⟨o0, o1, o2, o3, o4, o5, o6, _⟩ := gx_of hv1 hd f2
    rw [f1]
    rintro _ rfl
    rw [gx_alM hv1 hd f2]
    simp only [o5, o6]
    rw [h52]
    refine ⟨fun h4 => ?_, fun h4 => ?_⟩
    · rintro _ rfl
      have st : ∀ v : Int32, v = gx_mx (gx_nt D a t).2.1 (gx_P D (a + t) 6) → wb_X7_findNatural_8_145 (fun x1 x2 x3 x4 x5 M => k (x1, x2, x3, x4, x5, M)) (wb_X7_findNatural_8_171 Q) Q (nI l) (gx_b (gx_nt D a t).2.2.2) (gx_nt D a t).2.2.1 (gx_nt D a t).1 (nI (a + t)) (D.1 (gx_it D (a + t)) 5 - D.1 (gx_it D (a + t)) 6) v (nI l) M1 := by
        rintro _ rfl
        unfold wb_X7_findNatural_8_145 wb_X7_findNatural_8_156 wb_X7_findNatural_8_162 wb_X7_findNatural_8_165
        rw [nI_clamp (n := l) (by omega)]
        refine ⟨vp_in_nI (by omega) (by omega), ?_⟩
        rintro _ rfl
        have fin : ∀ v : Int32, v = (if (gx_nt D a t).2.2.2 then gx_mx (gx_nt D a t).2.2.1 (gx_P D (a + t) 5 - gx_P D (a + t) 6) else gx_P D (a + t) 5 - gx_P D (a + t) 6) → ∀ v1 : Int32, v1 = nI (a + t) + 1 → k (nI l, 1, v, (gx_nt D a t).1, v1, fx_sa M1 52 l (gx_mx (gx_nt D a t).2.1 (gx_P D (a + t) 6))) := by
          rintro _ rfl _ rfl
          rw [nI_1]
          refine hk _ htm ⟨fx_sa M1 52 l (gx_mx (gx_nt D a t).2.1 (gx_P D (a + t) 6)), ?_, gx_fr_sa _ _ hfr (by decide), ?_, fun j hj => by rw [gx_ra, pk_un hj]; exact hoj j hj⟩
          · rw [gx_nt_y h4]; rfl
          · rw [gx_nt_y h4, gx_ra, pk_us]
        rw [gx_b0]
        refine ⟨fun hb => fin _ (by rw [hb]; rfl), fun hb => ?_⟩
        have hb2 : (gx_nt D a t).2.2.2 = true := by simpa using hb
        rw [hb2, if_pos rfl, ← gx_mx_le] at fin
        refine ⟨fun e => fin _ ?_, fun e => fin _ ?_⟩
        · unfold gx_P; rw [if_pos e]
        · unfold gx_P; rw [if_neg e]
      refine ⟨vp_in_nI (by omega) (by omega), fun e => ⟨vp_in_nI (by omega) (by omega), st _ ?_⟩, fun e => st _ ?_⟩
      · rw [← gx_mx_le]; unfold gx_P; rw [if_pos e]
      · rw [← gx_mx_le]; unfold gx_P; rw [if_neg e]
    · have fin : ∀ v : Int32, v = gx_mx (gx_nt D a t).1 (gx_P D (a + t) 5) → wb_X7_findNatural_8_83 (fun x1 x2 x3 x4 x5 M => k (x1, x2, x3, x4, x5, M)) (wb_X7_findNatural_8_171 Q) Q (nI l) (gx_b (gx_nt D a t).2.2.2) (gx_nt D a t).2.2.1 (nI (a + t)) v M1 := by
        rintro _ rfl
        unfold wb_X7_findNatural_8_83 wb_X7_findNatural_8_165
        rintro _ rfl
        rw [nI_1]
        refine hk _ htm ⟨_, ?_, hfr, ?_, hoj⟩
        · rw [gx_nt_n h4]; rfl
        · rw [gx_nt_n h4]; exact h52
      refine ⟨fun e => fin _ ?_, fun e => fin _ ?_⟩
      · rw [← gx_mx_le]; unfold gx_P; rw [if_pos e]
      · rw [← gx_mx_le]; unfold gx_P; rw [if_neg e]
theorem gx_crM {D : gx_D} {M : fx_Mem} (hv : gx_MV D M) (hd : gx_ok D) (hL : M.1 542 = nI (gx_L D)) {c : Nat → Int32} (hc : ∀ l, l < gx_L D → M.2.1 51 l = c l) {Q : Int32 → fx_Mem → Prop} (h : Q (if D.2.1 1 = -1 then 0 else if gx_L D = 0 then 0 else D.2.1 1 - gx_tk D c) M) : wp_X7_crossLeft_8 M Q := by
  have hn := hd.1
  have hLn := gx_L_le D
  unfold wp_X7_crossLeft_8
  rw [hv.1 1 (by decide), hv.1 3 (by decide), hL]
  rintro _ rfl
  refine gx_cnt (gx_L D) (fun l s => s = (D.2.1 1 - D.2.1 3 * (nI (gx_L D) - 1) - gx_sm c 0 l, nI l, M)) ?_ (D.2.1 1 - D.2.1 3 * (nI (gx_L D) - 1), 0, M) (by show _ = (D.2.1 1 - D.2.1 3 * (nI (gx_L D) - 1) - 0, (0 : Int32), M); rw [Int32.sub_zero])
  rintro l _ k hl rfl hk
  show wb_X7_crossLeft_8_23 (fun x1 x2 M => k (x1, x2, M)) (wb_X7_crossLeft_8_46 Q) Q (D.2.1 1 - D.2.1 3 * (nI (gx_L D) - 1) - gx_sm c 0 l) (nI l) M
  unfold wb_X7_crossLeft_8_23
  rw [hL, nI_leI (by omega) (by omega), nI_clamp (n := l) (by omega)]
  refine ⟨fun e => ?_, fun e => ⟨vp_in_nI (by omega) (by omega), ?_⟩⟩
  · have el : l = gx_L D := by omega
    subst el
    unfold wb_X7_crossLeft_8_46 wb_X7_crossLeft_8_63
    rw [hv.1 1 (by decide), hL, gx_n4 (by omega)]
    refine ⟨fun e1 => by rw [if_pos e1] at h; exact h, fun e1 => ⟨fun e2 => by rw [if_neg e1, if_pos e2] at h; exact h, fun e2 => ?_⟩⟩
    rw [if_neg e1, if_neg e2] at h
    unfold gx_tk at h
    rw [gx_tk_eq D c _ (by omega)] at h
    have e3 : D.2.1 1 - D.2.1 3 * (nI (gx_L D) - 1) - gx_sm c 0 (gx_L D) = D.2.1 1 - (gx_sm c 0 (gx_L D) + D.2.1 3 * (nI (gx_L D) - 1)) := by grind
    rw [e3]; exact h
  · rw [hc l (by omega)]
    rintro _ rfl _ rfl
    rw [nI_1, gx_ss]
    exact hk _ (by omega) (by rw [gx_sm_succ, Nat.zero_add])
theorem gx_lcM {D : gx_D} {M : fx_Mem} (hv : gx_MV D M) (hd : gx_ok D) (ha : gx_AM D M) {Q : fx_Mem → Prop}
    (h : ∀ M', gx_fr [543] [51, 52, 53] [36, 37, 38] M M' → M'.1 543 = gx_ex D → (∀ l, l < gx_L D → M'.2.1 51 l = gx_lc D l ∧ M'.2.1 52 l = gx_as D l) → Q M') : wp_X7_findLineCrosses_8 M Q := by
  have hn := hd.1
  have hLn := gx_L_le D
  have hfb := gx_f0_b hd
  unfold wp_X7_findLineCrosses_8
  refine gx_cnt (gx_L D) (fun l s => ∃ M1, s = (nI l, M1) ∧ gx_fr [543] [51, 52, 53] [36, 37, 38] M M1 ∧ (∀ j, j < l → M1.2.1 51 j = gx_ns D j ∧ M1.2.1 52 j = gx_as D j)) ?_ (0, M) ⟨M, rfl, gx_fr_rfl _ _ _ _, fun j hj => absurd hj (by omega)⟩
  rintro l _ k hlL ⟨M1, rfl, hfr, hx⟩ hk
  have hv1 := gx_MV_fr (by decide) (by decide) hfr hv
  have ha1 := gx_AM_fr (by decide) (by decide) hfr ha
  show wb_X7_findLineCrosses_8_2 (fun x1 M => k (x1, M)) (wb_X7_findLineCrosses_8_33 Q) Q (nI l) M1
  unfold wb_X7_findLineCrosses_8_2
  have hL1 : M1.1 542 = nI (gx_L D) := ha1.2.1
  rw [hL1, nI_leI (by omega) (by omega)]
  refine ⟨fun e => ?_, fun e => ?_⟩
  rotate_left
  · have hlt : l < gx_L D := by omega
    obtain ⟨a, m, hl⟩ := gx_ln_ex hlt
    refine gx_ntM hv1 hd ha1 hl (fun M2 hfr2 p1 p2 p3 => ?_)
    rw [nI_clamp (n := l) (by omega), p1]
    refine ⟨vp_in_nI (by omega) (by omega), vp_in_nI (by omega) (by omega), ?_⟩
    rintro _ rfl _ rfl
    rw [nI_1]
    refine hk _ hlt ⟨_, rfl, gx_fr_sa _ _ (gx_fr_tr hfr (gx_fr_mo hfr2 (by decide) (by decide) (by decide))) (by decide), fun j hj => ?_⟩
    rw [gx_ra, gx_rb _ _ _ (by decide)]
    by_cases e9 : j = l
    · rw [e9, pk_us]; exact ⟨rfl, p2⟩
    · rw [pk_un e9, hfr2.2.1 51 (by decide), p3 j e9]; exact hx j (by omega)
  have el : l = gx_L D := by omega
  subst el
  clear hk e k hlL
  -- behind the cross sizes of the lines
  have k170 : ∀ M2 : fx_Mem, gx_fr [543] [51, 52, 53] [36, 37, 38] M M2 → (∀ j, j < gx_L D → M2.2.1 51 j = gx_lc D j ∧ M2.2.1 52 j = gx_as D j) → wb_X7_findLineCrosses_8_170 Q M2 := by
    intro M2 hfr2 hx2
    have hv2 := gx_MV_fr (by decide) (by decide) hfr2 hv
    have ha2 := gx_AM_fr (by decide) (by decide) hfr2 ha
    have hL2 : M2.1 542 = nI (gx_L D) := ha2.2.1
    unfold wb_X7_findLineCrosses_8_170
    rintro _ rfl
    have hfr3 : gx_fr [543] [51, 52, 53] [36, 37, 38] M (fx_si M2 543 (M2.2.1 30 1)) := gx_fr_si _ hfr2 (by decide)
    rw [gx_r3, gx_r2 _ _ (by decide), hv2.1 1 (by decide), hv2.1 3 (by decide), hL2, gx_n4 (by omega)]
    refine ⟨fun e => ?_, fun e => h _ (by rw [← hv2.1 1 (by decide)]; exact hfr3) (by rw [gx_r1]; unfold gx_ex; rw [if_neg e]) (fun l hl => by rw [gx_r3]; exact hx2 l hl)⟩
    have k216 : ∀ v : Int32, v + gx_sm (gx_lc D) 0 (gx_L D) = gx_tk D (gx_lc D) → wb_X7_findLineCrosses_8_216 Q v (fx_si M2 543 (D.2.1 1)) := by
      intro v hvv
      unfold wb_X7_findLineCrosses_8_216
      rintro _ rfl
      refine gx_cnt (gx_L D) (fun l s => ∃ M4, s = (nI l, M4) ∧ gx_fr [543] [51, 52, 53] [36, 37, 38] M M4 ∧ M4.1 543 = v + gx_sm (gx_lc D) 0 l ∧ (∀ j, j < gx_L D → M4.2.1 51 j = gx_lc D j ∧ M4.2.1 52 j = gx_as D j)) ?_ (0, fx_si (fx_si M2 543 (D.2.1 1)) 543 v) ⟨_, rfl, gx_fr_si _ (gx_fr_si _ hfr2 (by decide)) (by decide), by rw [gx_r1]; show _ = v + 0; rw [Int32.add_zero], fun j hj => by rw [gx_r3, gx_r3]; exact hx2 j hj⟩
      rintro l _ k hl ⟨M4, rfl, hfr4, h543, hx4⟩ hk
      have ha4 := gx_AM_fr (by decide) (by decide) hfr4 ha
      have hL4 : M4.1 542 = nI (gx_L D) := ha4.2.1
      show wb_X7_findLineCrosses_8_221 (fun x1 M => k (x1, M)) Q (nI l) M4
      unfold wb_X7_findLineCrosses_8_221
      rw [hL4, nI_leI (by omega) (by omega), nI_clamp (n := l) (by omega)]
      refine ⟨fun e2 => h M4 hfr4 ?_ hx4, fun e2 => ⟨vp_in_nI (by omega) (by omega), ?_⟩⟩
      · rw [h543, show l = gx_L D by omega, hvv]; unfold gx_ex; rw [if_pos e]
      · rintro _ rfl _ rfl
        rw [nI_1, h543, (hx4 l (by omega)).1]
        refine hk _ (by omega) ⟨_, rfl, gx_fr_si _ hfr4 (by decide), ?_, fun j hj => by rw [gx_r3]; exact hx4 j hj⟩
        rw [gx_r1, gx_sm_succ, Nat.zero_add]; grind
    refine ⟨fun e2 => k216 _ ?_, fun e2 => k216 _ ?_⟩
    · unfold gx_tk; rw [e2]; rfl
    · unfold gx_tk; rw [gx_tk_eq D (gx_lc D) _ (by omega)]; grind
  have k75 : ¬ (gx_L D = 1 ∧ D.2.1 5 = 0 ∧ ¬ D.2.1 1 = -1) → wb_X7_findLineCrosses_8_75 Q M1 := by
    intro hnm
    unfold wb_X7_findLineCrosses_8_75
    rw [hv1.1 1 (by decide), hv1.1 8 (by decide)]
    have same : gx_md D = 0 → ∀ j, j < gx_L D → M1.2.1 51 j = gx_lc D j ∧ M1.2.1 52 j = gx_as D j := by
      intro em j hj
      refine ⟨?_, (hx j hj).2⟩
      rw [(hx j hj).1]; unfold gx_lc; rw [em]; rfl
    refine ⟨fun e => k170 M1 hfr (same (by unfold gx_md; rw [if_pos e])), fun e => ?_⟩
    have en : ¬ (gx_L D = 1 ∧ D.2.1 5 = 0) := fun x => hnm ⟨x.1, x.2, e⟩
    refine ⟨fun e2 => ?_, fun e2 => k170 M1 hfr (same (by unfold gx_md; rw [if_neg e, if_neg en, if_neg (fun x => e2 x.1)]))⟩
    refine gx_crM hv1 hd hL1 (fun l hl => (hx l hl).1) ?_
    rw [if_neg e]
    by_cases e0 : gx_L D = 0
    · rw [if_pos e0]
      exact ⟨fun _ => k170 M1 hfr (fun j hj => absurd hj (by omega)), fun x => absurd (by decide) x⟩
    rw [if_neg e0]
    show (gx_f0 D ≤ 0 → _) ∧ (¬ gx_f0 D ≤ 0 → _)
    have z0 : (0 : Int32).toInt = 0 := rfl
    refine ⟨fun hle => k170 M1 hfr (same ?_), fun hle => ?_⟩
    · unfold gx_md; rw [if_neg e, if_neg en, if_neg (fun x => ?_)]
      rw [fa_le, z0] at hle
      have := x.2
      rw [fa_lt, z0] at this; omega
    have hp : 0 < gx_f0 D := fa_of_nle hle
    have hp2 : 0 ≤ (gx_f0 D).toInt := by rw [fa_lt, z0] at hp; omega
    have em : gx_md D = 2 := by unfold gx_md; rw [if_neg e, if_neg en, if_pos ⟨e2, hp⟩]
    refine gx_cnt (gx_L D) (fun l s => ∃ M2, s = (nI l, M2) ∧ gx_fr [543] [51, 52, 53] [36, 37, 38] M M2 ∧ M2.2.1 51 = M1.2.1 51 ∧ M2.2.1 52 = M1.2.1 52 ∧ (∀ j, j < l → M2.2.2 36 j = lN 1)) ?_ (0, M1) ⟨M1, rfl, hfr, rfl, rfl, fun j hj => absurd hj (by omega)⟩
    rintro l _ k hl ⟨M2, rfl, hfr2, h51, h52, hw⟩ hk
    have hv2 := gx_MV_fr (by decide) (by decide) hfr2 hv
    have ha2 := gx_AM_fr (by decide) (by decide) hfr2 ha
    have hL2 : M2.1 542 = nI (gx_L D) := ha2.2.1
    show wb_X7_findLineCrosses_8_104 (fun x1 M => k (x1, M)) (wb_X7_findLineCrosses_8_125 Q) Q (nI l) M2
    unfold wb_X7_findLineCrosses_8_104
    rw [hL2, nI_leI (by omega) (by omega), nI_clamp (n := l) (by omega)]
    refine ⟨fun e9 => ?_, fun e9 => ⟨vp_in_nI (by omega) (by omega), ?_⟩⟩
    rotate_left
    · rintro _ rfl _ rfl
      rw [nI_1]
      refine hk _ (by omega) ⟨_, rfl, gx_fr_sl _ _ hfr2 (by decide), h51, h52, fun j hj => ?_⟩
      rw [gx_re]
      by_cases e8 : j = l
      · rw [e8, pk_uLs]; rfl
      · rw [pk_uLn e8]; exact hw j (by omega)
    have el : l = gx_L D := by omega
    subst el
    clear hk e9 k hl
    unfold wb_X7_findLineCrosses_8_125
    refine gx_crM (c := gx_ns D) hv2 hd hL2 (fun l hl => by rw [h51]; exact (hx l hl).1) ?_
    rw [if_neg e, if_neg e0, hL2]
    have ef : (D.2.1 1 - gx_tk D (gx_ns D)).toInt64 = lN (gx_f0 D).toNatClampNeg := by
      show (gx_f0 D).toInt64 = _
      rw [fa_eq64, Int32.toInt_toInt64, gx_lT (by rw [gx_nnv]; omega), gx_nnv]; omega
    rw [ef]
    refine gx_divM (w := fun _ => 1) (by omega) (by rw [gx_nnv]; omega) (fun t _ => by omega) (by rw [fb_sm_const]; omega) hw (fun M3 hfr3 h37 => ?_)
    refine gx_cnt (gx_L D) (fun l s => ∃ M4, s = (nI l, M4) ∧ gx_fr [] [51] [] M3 M4 ∧ (∀ j, j < gx_L D → M4.2.1 51 j = if j < l then gx_ns D j + nI (gx_dv (gx_f0 D).toNatClampNeg (fun _ => 1) (gx_L D) j) else gx_ns D j)) ?_ (0, M3) ⟨M3, rfl, gx_fr_rfl _ _ _ _, fun j hj => by rw [if_neg (by omega), hfr3.2.1 51 (by decide), h51]; exact (hx j hj).1⟩
    rintro l _ k hl ⟨M4, rfl, hfr4, h4⟩ hk
    have hfrA : gx_fr [543] [51, 52, 53] [36, 37, 38] M M4 := gx_fr_tr hfr2 (gx_fr_tr (gx_fr_mo hfr3 (by decide) (by decide) (by decide)) (gx_fr_mo hfr4 (by decide) (by decide) (by decide)))
    have ha4 := gx_AM_fr (by decide) (by decide) hfrA ha
    have hL4 : M4.1 542 = nI (gx_L D) := ha4.2.1
    show wb_X7_findLineCrosses_8_140 (fun x1 M => k (x1, M)) (wb_X7_findLineCrosses_8_170 Q) Q (nI l) M4
    unfold wb_X7_findLineCrosses_8_140
    rw [hL4, nI_leI (by omega) (by omega), nI_clamp (n := l) (by omega)]
    refine ⟨fun e9 => k170 M4 hfrA (fun j hj => ⟨?_, ?_⟩), fun e9 => ⟨vp_in_nI (by omega) (by omega), vp_in_nI (by omega) (by omega), vp_in_nI (by omega) (by omega), ?_⟩⟩
    · rw [h4 j hj, if_pos (by omega)]; unfold gx_lc; rw [em]; rfl
    · rw [hfr4.2.1 52 (by decide), hfr3.2.1 52 (by decide), h52]; exact (hx j hj).2
    · have hlL : l < gx_L D := by omega
      rintro _ rfl _ rfl
      rw [nI_1, h4 l hlL, if_neg (by omega), hfr4.2.2 37 (by decide), h37 l hlL, lN_i]
      refine hk _ hlL ⟨_, rfl, gx_fr_sa _ _ hfr4 (by decide), fun j hj => ?_⟩
      rw [gx_ra]
      by_cases e8 : j = l
      · rw [e8, pk_us, if_pos (by omega)]
      · rw [pk_un e8, h4 j hj]
        by_cases e3 : j < l
        · rw [if_pos e3, if_pos (by omega)]
        · rw [if_neg e3, if_neg (by omega)]
  unfold wb_X7_findLineCrosses_8_33
  rw [hL1, gx_nc (by omega), hv1.1 5 (by decide), hv1.1 1 (by decide)]
  refine ⟨fun e1 => ⟨fun e2 => ⟨fun e3 => k75 (fun x => x.2.2 e3), fun e3 => ?_⟩, fun e2 => k75 (fun x => e2 x.2.1)⟩, fun e1 => k75 (fun x => e1 x.1)⟩
  rintro _ rfl
  have em : gx_md D = 1 := by unfold gx_md; rw [if_neg e3, if_pos ⟨e1, e2⟩]
  refine k170 _ (gx_fr_sa _ _ hfr (by decide)) (fun j hj => ?_)
  rw [gx_ra, gx_rb _ _ _ (by decide), show j = 0 by omega, pk_us]
  refine ⟨?_, (hx 0 (by omega)).2⟩
  unfold gx_lc; rw [em]; rfl
