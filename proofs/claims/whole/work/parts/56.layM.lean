/-! the reference's places and its layout -/
theorem gx_revM {D : gx_D} (hd : gx_ok D) : ((D.2.1 4) - (D.2.1 4) / 2 * 2 = 1) ↔ gx_rev D = true := by
  have h := hd.2.2.2.2.2.1 0 (by decide)
  rw [show (fx_tHS 0).toInt = 3 from by decide, Nat.add_zero] at h
  unfold gx_rev
  have e := gx_nn h.1
  have hb : (D.2.1 4).toNatClampNeg ≤ 3 := by rw [gx_nnv]; omega
  generalize (D.2.1 4).toNatClampNeg = j at e hb
  rw [e]
  have : ∀ j, j < 4 → ((nI j - nI j / 2 * 2 = 1) ↔ decide (nI j = 1 ∨ nI j = 3) = true) := by decide
  exact this j (by omega)
theorem gx_flM {M : fx_Mem} (x : Int32) {Q : Int32 → fx_Mem → Prop} (h : Q (gx_floor x) M) : wp_X7_floor x 2 M Q := by
  unfold wp_X7_floor
  unfold gx_floor at h
  refine ⟨fun e => ⟨by decide, ?_⟩, fun e => ⟨by decide, ?_⟩⟩
  · rw [if_pos e] at h; exact h
  · rw [if_neg e] at h; exact h
theorem gx_plM {D : gx_D} {M : fx_Mem} (hv : gx_MV D M) (hd : gx_ok D) (ha : gx_AM D M) {l a m : Nat} (hl : gx_ln D l a m) (h40 : ∀ t, t < m → M.2.1 40 (a + t) = (gx_xf D l).2 (a + t)) (h50 : M.2.1 50 l = gx_fs D l) (h51 : M.2.1 51 l = gx_lc D l) (h52 : M.2.1 52 l = gx_as D l) (h54 : M.2.1 54 l = gx_la D l) (hex : M.1 543 = gx_ex D) {Q : fx_Mem → Prop}
    (h : ∀ M', gx_fr [] [42, 43, 44] [] M M' → (∀ t, t < m → M'.2.1 43 (a + t) = gx_mp D l a m t ∧ M'.2.1 42 (a + t) = gx_cs D l (a + t) ∧ M'.2.1 44 (a + t) = gx_cp D l (a + t)) → (∀ k, k < a → M'.2.1 42 k = M.2.1 42 k ∧ M'.2.1 43 k = M.2.1 43 k ∧ M'.2.1 44 k = M.2.1 44 k) → Q M') : wp_X7_findPlaces_8 (nI l) M Q := by
  obtain ⟨m1, m2, m3, m4, m5⟩ := gx_ln_b hd hl
  unfold wp_X7_findPlaces_8
  refine gx_cnt m (fun t s => ∃ M1, s = (nI l, gx_sm (fun k => (gx_xf D l).2 k + D.2.1 2) a t, nI t, M1) ∧ gx_fr [] [42, 43, 44] [] M M1 ∧ (∀ s, s < t → M1.2.1 43 (a + s) = gx_mp D l a m s ∧ M1.2.1 42 (a + s) = gx_cs D l (a + s) ∧ M1.2.1 44 (a + s) = gx_cp D l (a + s)) ∧ (∀ k, k < a → M1.2.1 42 k = M.2.1 42 k ∧ M1.2.1 43 k = M.2.1 43 k ∧ M1.2.1 44 k = M.2.1 44 k)) ?_ (nI l, 0, 0, M) ⟨M, rfl, gx_fr_rfl _ _ _ _, fun s hs => absurd hs (by omega), fun k _ => ⟨rfl, rfl, rfl⟩⟩
  rintro t _ k ht ⟨M1, rfl, hfr, hp, hout⟩ hk
  have hv1 := gx_MV_fr (by decide) (by decide) hfr hv
  have ha1 := gx_AM_fr (by decide) (by decide) hfr ha
  obtain ⟨e1, e2, e3⟩ := gx_lnM hd ha1 hl
  show wb_X7_findPlaces_8_4 (fun x1 x2 x3 M => k (x1, x2, x3, M)) Q (nI l) (gx_sm (fun k => (gx_xf D l).2 k + D.2.1 2) a t) (nI t) M1
  unfold wb_X7_findPlaces_8_4
  rw [nI_clamp (n := l) (by omega), e1, e2, nI_leI (by omega) (by omega), nI_add]
  refine ⟨vp_in_nI (by omega) (by omega), fun hc => ?_, fun hc => ⟨vp_in_nI (by omega) (by omega), ?_⟩⟩
  · have e : t = m := by omega
    subst e; exact h M1 hfr hp hout
  have htm : t < m := by omega
  obtain ⟨f1, f2⟩ := e3 t htm
  rintro _ rfl
  rw [nI_clamp (n := a + t) (by omega), f1]
  refine ⟨vp_in_nI (by omega) (by omega), ?_⟩
  rintro _ rfl
  rw [gx_alM hv1 hd f2, e2, hfr.2.1 50 (by decide), h50, hv1.1 6 (by decide)]
  refine ⟨vp_in_nI (by omega) (by omega), vp_in_nI (by omega) (by omega), gx_ofM m1 (by omega) _ _ _ ?_⟩
  refine ⟨vp_in_nI (by omega) (by omega), ?_⟩
  rintro _ rfl
  generalize hM2 : fx_sa M1 43 (a + t) (gx_sm (fun k => (gx_xf D l).2 k + D.2.1 2) a t + gx_off (D.2.1 6) (gx_fs D l) (nI t) (nI m)) = M2
  have hfr2 : gx_fr [] [42, 43, 44] [] M M2 := by rw [← hM2]; exact gx_fr_sa _ _ hfr (by decide)
  have hv2 := gx_MV_fr (by decide) (by decide) hfr2 hv
  have g43 : M2.2.1 43 = upd (M1.2.1 43) (a + t) (gx_sm (fun k => (gx_xf D l).2 k + D.2.1 2) a t + gx_off (D.2.1 6) (gx_fs D l) (nI t) (nI m)) := by rw [← hM2, gx_ra]
  have g42 : M2.2.1 42 = M1.2.1 42 := by rw [← hM2, gx_rb _ _ _ (by decide)]
  have g44 : M2.2.1 44 = M1.2.1 44 := by rw [← hM2, gx_rb _ _ _ (by decide)]
  have gS : M2.2.1 40 (a + t) = (gx_xf D l).2 (a + t) := by rw [hfr2.2.1 40 (by decide)]; exact h40 t htm
  have gL : M2.2.1 51 l = gx_lc D l := by rw [hfr2.2.1 51 (by decide)]; exact h51
  have gA : M2.2.1 52 l = gx_as D l := by rw [hfr2.2.1 52 (by decide)]; exact h52
  have gP : M2.2.1 54 l = gx_la D l := by rw [hfr2.2.1 54 (by decide)]; exact h54
  have gE : M2.1 543 = gx_ex D := by rw [hfr2.1 543 (by decide)]; exact hex
  rw [gS, hv2.1 2 (by decide)]
  refine ⟨vp_in_nI (by omega) (by omega), ?_⟩
  rintro _ rfl
  -- from the cross size on
  have st : ∀ v : Int32, v = gx_cs D l (a + t) → wb_X7_findPlaces_8_129 (fun x1 x2 x3 M => k (x1, x2, x3, M)) Q (nI l) (gx_sm (fun k => (gx_xf D l).2 k + D.2.1 2) a t + ((gx_xf D l).2 (a + t) + D.2.1 2)) (nI t) (nI (a + t)) (nI (gx_it D (a + t))) (gx_al D (gx_it D (a + t))) v (nI (a + t)) M2 := by
    rintro _ rfl
    unfold wb_X7_findPlaces_8_129
    rw [nI_clamp (n := a + t) (by omega), nI_clamp (n := l) (by omega)]
    refine ⟨vp_in_nI (by omega) (by omega), ?_⟩
    rintro _ rfl
    have hfr3 : gx_fr [] [42, 43, 44] [] M (fx_sa M2 42 (a + t) (gx_cs D l (a + t))) := gx_fr_sa _ _ hfr2 (by decide)
    have hv3 := gx_MV_fr (by decide) (by decide) hfr3 hv
    rw [gx_rb _ _ _ (by decide), gL, gx_ra, pk_us]
    refine ⟨vp_in_nI (by omega) (by omega), vp_in_nI (by omega) (by omega), ?_⟩
    rintro _ rfl
    have st2 : ∀ v : Int32, v = gx_wi D l (a + t) → wb_X7_findPlaces_8_197 (fun x1 x2 x3 M => k (x1, x2, x3, M)) Q (nI l) (gx_sm (fun k => (gx_xf D l).2 k + D.2.1 2) a t + ((gx_xf D l).2 (a + t) + D.2.1 2)) (nI t) (nI (a + t)) v (fx_sa M2 42 (a + t) (gx_cs D l (a + t))) := by
      rintro _ rfl
      unfold wb_X7_findPlaces_8_197
      rw [nI_clamp (n := a + t) (by omega), nI_clamp (n := l) (by omega), gx_rb _ _ _ (by decide), gP]
      refine ⟨vp_in_nI (by omega) (by omega), vp_in_nI (by omega) (by omega), ?_⟩
      rintro _ rfl
      have hfr4 : gx_fr [] [42, 43, 44] [] M (fx_sa (fx_sa M2 42 (a + t) (gx_cs D l (a + t))) 44 (a + t) (gx_la D l + gx_wi D l (a + t))) := gx_fr_sa _ _ hfr3 (by decide)
      have hv4 := gx_MV_fr (by decide) (by decide) hfr4 hv
      -- the last step
      have fin : ∀ M5 : fx_Mem, gx_fr [] [42, 43, 44] [] M M5 → M5.2.1 43 = upd (M1.2.1 43) (a + t) (gx_mp D l a m t) → M5.2.1 42 = upd (M1.2.1 42) (a + t) (gx_cs D l (a + t)) → M5.2.1 44 = upd (M1.2.1 44) (a + t) (gx_la D l + gx_wi D l (a + t)) → wb_X7_findPlaces_8_256 (fun x1 x2 x3 M => k (x1, x2, x3, M)) Q (nI l) (gx_sm (fun k => (gx_xf D l).2 k + D.2.1 2) a t + ((gx_xf D l).2 (a + t) + D.2.1 2)) (nI t) (nI (a + t)) M5 := by
        intro M5 hfr5 p43 p42 p44
        have hv5 := gx_MV_fr (by decide) (by decide) hfr5 hv
        have nx : ∀ M6 : fx_Mem, gx_fr [] [42, 43, 44] [] M M6 → M6.2.1 43 = upd (M1.2.1 43) (a + t) (gx_mp D l a m t) → M6.2.1 42 = upd (M1.2.1 42) (a + t) (gx_cs D l (a + t)) → M6.2.1 44 = upd (M1.2.1 44) (a + t) (gx_cp D l (a + t)) → wb_X7_findPlaces_8_293 (fun x1 x2 x3 M => k (x1, x2, x3, M)) Q (nI l) (gx_sm (fun k => (gx_xf D l).2 k + D.2.1 2) a t + ((gx_xf D l).2 (a + t) + D.2.1 2)) (nI t) M6 := by
          intro M6 hfr6 r43 r42 r44
          unfold wb_X7_findPlaces_8_293
          rintro _ rfl
          rw [nI_1]
          refine hk _ htm ⟨M6, rfl, hfr6, fun s hs => ?_, fun j hj => ?_⟩
          · rw [r43, r42, r44]
            by_cases e : s = t
            · rw [e, pk_us, pk_us, pk_us]; exact ⟨rfl, rfl, rfl⟩
            · rw [pk_un (by omega), pk_un (by omega), pk_un (by omega)]; exact hp s (by omega)
          · rw [r43, r42, r44, pk_un (by omega), pk_un (by omega), pk_un (by omega)]; exact hout j hj
        unfold wb_X7_findPlaces_8_256
        rw [hv5.1 5 (by decide), nI_clamp (n := a + t) (by omega), hfr5.1 543 (by decide), hex, p44, p42, pk_us, pk_us]
        refine ⟨fun e => ⟨vp_in_nI (by omega) (by omega), vp_in_nI (by omega) (by omega), vp_in_nI (by omega) (by omega), ?_⟩, fun e => nx M5 hfr5 p43 p42 ?_⟩
        · rintro _ rfl
          refine nx _ (gx_fr_sa _ _ hfr5 (by decide)) (by rw [gx_rb _ _ _ (by decide)]; exact p43) (by rw [gx_rb _ _ _ (by decide)]; exact p42) ?_
          rw [gx_ra, p44, fa_upd_twice]
          unfold gx_cp; rw [if_pos e]
        · rw [p44]; unfold gx_cp; rw [if_neg e]
      have w43 : (fx_sa (fx_sa M2 42 (a + t) (gx_cs D l (a + t))) 44 (a + t) (gx_la D l + gx_wi D l (a + t))).2.1 43 = upd (M1.2.1 43) (a + t) (gx_sm (fun k => (gx_xf D l).2 k + D.2.1 2) a t + gx_off (D.2.1 6) (gx_fs D l) (nI t) (nI m)) := by
        rw [gx_rb _ _ _ (by decide), gx_rb _ _ _ (by decide)]; exact g43
      have w42 : (fx_sa (fx_sa M2 42 (a + t) (gx_cs D l (a + t))) 44 (a + t) (gx_la D l + gx_wi D l (a + t))).2.1 42 = upd (M1.2.1 42) (a + t) (gx_cs D l (a + t)) := by
        rw [gx_rb _ _ _ (by decide), gx_ra, g42]
      have w44 : (fx_sa (fx_sa M2 42 (a + t) (gx_cs D l (a + t))) 44 (a + t) (gx_la D l + gx_wi D l (a + t))).2.1 44 = upd (M1.2.1 44) (a + t) (gx_la D l + gx_wi D l (a + t)) := by
        rw [gx_ra, gx_rb _ _ _ (by decide), g44]
      have w40 : (fx_sa (fx_sa M2 42 (a + t) (gx_cs D l (a + t))) 44 (a + t) (gx_la D l + gx_wi D l (a + t))).2.1 40 (a + t) = (gx_xf D l).2 (a + t) := by
        rw [gx_rb _ _ _ (by decide), gx_rb _ _ _ (by decide)]; exact gS
      generalize fx_sa (fx_sa M2 42 (a + t) (gx_cs D l (a + t))) 44 (a + t) (gx_la D l + gx_wi D l (a + t)) = M4 at *
      rw [hv4.1 4 (by decide), gx_revM hd, hv4.1 0 (by decide), w43, pk_us, w40]
      refine ⟨fun e => ⟨vp_in_nI (by omega) (by omega), vp_in_nI (by omega) (by omega), vp_in_nI (by omega) (by omega), ?_⟩, fun e => fin M4 hfr4 ?_ w42 w44⟩
      · rintro _ rfl
        refine fin _ (gx_fr_sa _ _ hfr4 (by decide)) ?_ (by rw [gx_rb _ _ _ (by decide)]; exact w42) (by rw [gx_rb _ _ _ (by decide)]; exact w44)
        rw [gx_ra, w43, fa_upd_twice]
        unfold gx_mp; rw [if_pos e]
      · rw [w43]; unfold gx_mp; rw [if_neg e]
    have o6 := (gx_of hv3 hd f2).2.2.2.2.2.2.1
    simp only [o6]
    rw [gx_rb _ _ _ (by decide), gA]
    refine ⟨fun e => st2 _ ?_, fun e => ⟨fun e5 => gx_flM _ (st2 _ ?_), fun e5 => ⟨fun e6 => ⟨vp_in_nI (by omega) (by omega), st2 _ ?_⟩, fun e6 => st2 _ ?_⟩⟩⟩
    · unfold gx_wi; rw [if_pos e]
    · unfold gx_wi; rw [if_neg e, if_pos e5]
    · unfold gx_wi; rw [if_neg e, if_neg e5, if_pos e6]; rfl
    · unfold gx_wi; rw [if_neg e, if_neg e5, if_neg e6]
  have o5 := (gx_of hv2 hd f2).2.2.2.2.2.1
  have o9 := (gx_of hv2 hd f2).2.2.2.2.2.2.2.2.2
  unfold wb_X7_findPlaces_8_122
  simp only [o5, o9]
  rw [gL]
  refine ⟨fun e => ⟨fun e5 => ⟨vp_in_nI (by omega) (by omega), st _ ?_⟩, fun e5 => st _ ?_⟩, fun e => st _ ?_⟩
  · unfold gx_cs; rw [if_pos ⟨e, e5⟩]
  · unfold gx_cs; rw [if_neg (fun x => e5 x.2)]; rfl
  · unfold gx_cs; rw [if_neg (fun x => e x.1)]; rfl
/-- what the reference's layout holds -/
def gx_ML (D : gx_D) (M : fx_Mem) : Prop := gx_AM D M ∧ (∀ j, j < D.2.2 → M.2.1 45 (gx_it D j) = nI j) ∧ M.1 543 = gx_ex D ∧
  (∀ l, l < gx_L D → M.2.1 49 l = nI (gx_rn D l) ∧ M.2.1 50 l = gx_fs D l ∧ M.2.1 51 l = gx_lc D l ∧ M.2.1 52 l = gx_as D l) ∧
  (∀ l a m, gx_ln D l a m → ∀ t, t < m → M.2.1 40 (a + t) = (gx_xf D l).2 (a + t) ∧ M.2.1 43 (a + t) = gx_mp D l a m t ∧ M.2.1 42 (a + t) = gx_cs D l (a + t) ∧ M.2.1 44 (a + t) = gx_cp D l (a + t))
theorem gx_layM {D : gx_D} {M : fx_Mem} (hv : gx_MV D M) (hd : gx_ok D) {Q : fx_Mem → Prop}
    (h : ∀ M', gx_fr [542, 543] [39, 40, 41, 42, 43, 44, 45, 46, 47, 48, 49, 50, 51, 52, 53, 54, 55] [36, 37, 38] M M' → gx_ML D M' → Q M') : wp_X7_findLayout_8 M Q := by
  have hn := hd.1
  have hLn := gx_L_le D
  unfold wp_X7_findLayout_8
  refine gx_seqM hv hd (fun M1 hfr1 hs1 => ?_)
  have hv1 := gx_MV_fr (by decide) (by decide) hfr1 hv
  have hF1 : gx_fr [542, 543] [39, 40, 41, 42, 43, 44, 45, 46, 47, 48, 49, 50, 51, 52, 53, 54, 55] [36, 37, 38] M M1 := gx_fr_mo hfr1 (by decide) (by decide) (by decide)
  have key : ∀ x : Int32, x = gx_b (decide (¬ D.2.1 5 = 0)) → wb_X7_findLayout_8_25 Q x (D.2.1 0) M1 := by
    intro x hx
    unfold wb_X7_findLayout_8_25
    refine gx_fillM hv1 hd (fun j hj => (hs1 j hj).1) _ (decide (¬ D.2.1 5 = 0)) hx (fun M2 hfr2 hlm => ?_)
    have hv2 := gx_MV_fr (by decide) (by decide) hfr2 hv1
    have hF2 := gx_fr_tr hF1 (gx_fr_mo hfr2 (by decide) (by decide) (by decide) : gx_fr [542, 543] [39, 40, 41, 42, 43, 44, 45, 46, 47, 48, 49, 50, 51, 52, 53, 54, 55] [36, 37, 38] M1 M2)
    have ha2 : gx_AM D M2 := ⟨fun j hj => by rw [hfr2.2.1 39 (by decide)]; exact (hs1 j hj).1, hlm⟩
    have h45 : ∀ j, j < D.2.2 → M2.2.1 45 (gx_it D j) = nI j := fun j hj => by rw [hfr2.2.1 45 (by decide)]; exact (hs1 j hj).2
    clear hlm
    refine gx_cnt (gx_L D) (fun l s => ∃ M3, s = (nI l, M3) ∧ gx_fr [] [40, 46, 49, 50, 55] [36, 37, 38] M2 M3 ∧ (∀ l', l' < l → ∀ a m, gx_ln D l' a m → (∀ t, t < m → M3.2.1 40 (a + t) = (gx_xf D l').2 (a + t)) ∧ M3.2.1 49 l' = nI (gx_rn D l') ∧ M3.2.1 50 l' = gx_fs D l')) ?_ (0, M2) ⟨M2, rfl, gx_fr_rfl _ _ _ _, fun l hl => absurd hl (by omega)⟩
    rintro l _ k hlL ⟨M3, rfl, hfr3, hz3⟩ hk
    have hv3 := gx_MV_fr (by decide) (by decide) hfr3 hv2
    have ha3 := gx_AM_fr (by decide) (by decide) hfr3 ha2
    have hL3 : M3.1 542 = nI (gx_L D) := ha3.2.1
    show wb_X7_findLayout_8_30 (fun x1 M => k (x1, M)) (wb_X7_findLayout_8_49 Q) Q (nI l) M3
    unfold wb_X7_findLayout_8_30
    rw [hL3, nI_leI (by omega) (by omega)]
    refine ⟨fun e => ?_, fun e => ?_⟩
    rotate_left
    · have hlt : l < gx_L D := by omega
      obtain ⟨a, m, hl⟩ := gx_ln_ex hlt
      refine gx_szM hv3 hd ha3 hl (fun M4 hfr4 p1 p2 p3 p4 p5 => ?_)
      rintro _ rfl
      rw [nI_1]
      refine hk _ hlt ⟨M4, rfl, gx_fr_tr hfr3 hfr4, fun l' hl' a' m' hln' => ?_⟩
      by_cases e9 : l' = l
      · subst e9
        obtain ⟨ea, em⟩ := gx_ln_u hl hln'
        subst ea; subst em
        exact ⟨p1, p2, p3⟩
      · obtain ⟨q1, q2, q3⟩ := hz3 l' (by omega) a' m' hln'
        obtain ⟨m1, m2, m3, m4, m5⟩ := gx_ln_b hd hl
        rw [(p4 l' e9).1, (p4 l' e9).2]
        refine ⟨fun t ht => ?_, q2, q3⟩
        rw [p5 _ (Or.inl (gx_ln_ne hd hl hln' (by omega) (show 0 < m by omega) ht).2)]
        exact q1 t ht
    have el : l = gx_L D := by omega
    subst el
    clear hk e k hlL
    unfold wb_X7_findLayout_8_49
    refine gx_lcM hv3 hd ha3 (fun M4 hfr4 hex4 hx4 => ?_)
    have hv4 := gx_MV_fr (by decide) (by decide) hfr4 hv3
    have ha4 := gx_AM_fr (by decide) (by decide) hfr4 ha3
    have hL4 : M4.1 542 = nI (gx_L D) := ha4.2.1
    refine gx_crM hv4 hd hL4 (fun l hl => (hx4 l hl).1) ?_
    generalize hcf : (if D.2.1 1 = -1 then 0 else if gx_L D = 0 then 0 else D.2.1 1 - gx_tk D (gx_lc D)) = cf
    have hcf2 : 0 < gx_L D → cf = gx_cf D := by
      intro h0
      rw [← hcf]; unfold gx_cf gx_ex
      by_cases e : D.2.1 1 = -1
      · rw [if_pos e, if_pos e, Int32.sub_self]
      · rw [if_neg e, if_neg e, if_neg (by omega)]
    refine gx_cnt (gx_L D) (fun l s => ∃ M5, s = (cf, gx_sm (fun l => gx_lc D l + D.2.1 3) 0 l, nI l, M5) ∧ gx_fr [] [54] [] M4 M5 ∧ (∀ j, j < l → M5.2.1 54 j = gx_la D j)) ?_ (cf, 0, 0, M4) ⟨M4, rfl, gx_fr_rfl _ _ _ _, fun l hl => absurd hl (by omega)⟩
    rintro l _ k hlL ⟨M5, rfl, hfr5, h54⟩ hk
    have hv5 := gx_MV_fr (by decide) (by decide) hfr5 hv4
    have ha5 := gx_AM_fr (by decide) (by decide) hfr5 ha4
    have hL5 : M5.1 542 = nI (gx_L D) := ha5.2.1
    show wb_X7_findLayout_8_62 (fun x1 x2 x3 M => k (x1, x2, x3, M)) (wb_X7_findLayout_8_132 Q) Q cf (gx_sm (fun l => gx_lc D l + D.2.1 3) 0 l) (nI l) M5
    unfold wb_X7_findLayout_8_62
    rw [hL5, nI_leI (by omega) (by omega), hv5.1 8 (by decide)]
    refine ⟨fun e => ?_, fun e => ?_⟩
    rotate_left
    · have hlt : l < gx_L D := by omega
      have st : ∀ w : Int32, w = (if D.2.1 8 = 0 then 0 else D.2.1 8 - 1) → wb_X7_findLayout_8_99 (fun x1 x2 x3 M => k (x1, x2, x3, M)) (wb_X7_findLayout_8_132 Q) Q cf (gx_sm (fun l => gx_lc D l + D.2.1 3) 0 l) (nI l) w (gx_sm (fun l => gx_lc D l + D.2.1 3) 0 l) (nI l) M5 := by
        intro w hw
        unfold wb_X7_findLayout_8_99
        rw [hL5, nI_clamp (n := l) (by omega)]
        refine gx_ofM (by omega) (by omega) _ _ _ ?_
        refine ⟨vp_in_nI (by omega) (by omega), ?_⟩
        rintro _ rfl
        rw [gx_rb _ _ _ (by decide), gx_rb _ _ _ (by decide), hfr5.2.1 51 (by decide), (hx4 l hlt).1, hv5.1 3 (by decide)]
        refine ⟨vp_in_nI (by omega) (by omega), ?_⟩
        rintro _ rfl _ rfl
        rw [nI_1]
        refine hk _ hlt ⟨_, by rw [gx_sm_succ, Nat.zero_add], gx_fr_sa _ _ hfr5 (by decide), fun j hj => ?_⟩
        rw [gx_ra]
        by_cases e9 : j = l
        · rw [e9, pk_us, hcf2 (by omega), hw]; rfl
        · rw [pk_un e9]; exact h54 j (by omega)
      exact ⟨fun e8 => st _ (by rw [if_pos e8]), fun e8 => st _ (by rw [if_neg e8])⟩
    have el : l = gx_L D := by omega
    subst el
    clear hk e k hlL
    unfold wb_X7_findLayout_8_132
    have g40 : ∀ l', l' < gx_L D → ∀ a m, gx_ln D l' a m → (∀ t, t < m → M5.2.1 40 (a + t) = (gx_xf D l').2 (a + t)) ∧ M5.2.1 49 l' = nI (gx_rn D l') ∧ M5.2.1 50 l' = gx_fs D l' := by
      rw [hfr5.2.1 40 (by decide), hfr5.2.1 49 (by decide), hfr5.2.1 50 (by decide), hfr4.2.1 40 (by decide), hfr4.2.1 49 (by decide), hfr4.2.1 50 (by decide)]
      exact hz3
    have g51 : ∀ l, l < gx_L D → M5.2.1 51 l = gx_lc D l ∧ M5.2.1 52 l = gx_as D l := by
      rw [hfr5.2.1 51 (by decide), hfr5.2.1 52 (by decide)]; exact hx4
    have gex : M5.1 543 = gx_ex D := by rw [hfr5.1 543 (by decide)]; exact hex4
    have g45 : ∀ j, j < D.2.2 → M5.2.1 45 (gx_it D j) = nI j := by
      rw [hfr5.2.1 45 (by decide), hfr4.2.1 45 (by decide), hfr3.2.1 45 (by decide)]; exact h45
    have hF5 : gx_fr [542, 543] [39, 40, 41, 42, 43, 44, 45, 46, 47, 48, 49, 50, 51, 52, 53, 54, 55] [36, 37, 38] M M5 := gx_fr_tr hF2 (gx_fr_tr (gx_fr_mo hfr3 (by decide) (by decide) (by decide)) (gx_fr_tr (gx_fr_mo hfr4 (by decide) (by decide) (by decide)) (gx_fr_mo hfr5 (by decide) (by decide) (by decide))))
    refine gx_cnt (gx_L D) (fun l s => ∃ M6, s = (nI l, M6) ∧ gx_fr [] [42, 43, 44] [] M5 M6 ∧ (∀ l', l' < l → ∀ a m, gx_ln D l' a m → ∀ t, t < m → M6.2.1 43 (a + t) = gx_mp D l' a m t ∧ M6.2.1 42 (a + t) = gx_cs D l' (a + t) ∧ M6.2.1 44 (a + t) = gx_cp D l' (a + t))) ?_ (0, M5) ⟨M5, rfl, gx_fr_rfl _ _ _ _, fun l hl => absurd hl (by omega)⟩
    rintro l _ k hlL ⟨M6, rfl, hfr6, hp6⟩ hk
    have hv6 := gx_MV_fr (by decide) (by decide) hfr6 hv5
    have ha6 := gx_AM_fr (by decide) (by decide) hfr6 ha5
    have hL6 : M6.1 542 = nI (gx_L D) := ha6.2.1
    show wb_X7_findLayout_8_134 (fun x3 M => k (x3, M)) Q (nI l) M6
    unfold wb_X7_findLayout_8_134
    rw [hL6, nI_leI (by omega) (by omega)]
    refine ⟨fun e => ?_, fun e => ?_⟩
    · have el : l = gx_L D := by omega
      subst el
      refine h M6 (gx_fr_tr hF5 (gx_fr_mo hfr6 (by decide) (by decide) (by decide))) ⟨ha6, ?_, ?_, fun l hl => ?_, fun l a m hln t ht => ?_⟩
      · rw [hfr6.2.1 45 (by decide)]; exact g45
      · rw [hfr6.1 543 (by decide)]; exact gex
      · obtain ⟨a, m, hln⟩ := gx_ln_ex hl
        obtain ⟨q1, q2, q3⟩ := g40 l hl a m hln
        rw [hfr6.2.1 49 (by decide), hfr6.2.1 50 (by decide), hfr6.2.1 51 (by decide), hfr6.2.1 52 (by decide)]
        exact ⟨q2, q3, (g51 l hl).1, (g51 l hl).2⟩
      · refine ⟨?_, hp6 l hln.1 a m hln t ht⟩
        rw [hfr6.2.1 40 (by decide)]; exact (g40 l hln.1 a m hln).1 t ht
    · have hlt : l < gx_L D := by omega
      obtain ⟨a, m, hl⟩ := gx_ln_ex hlt
      obtain ⟨q1, q2, q3⟩ := g40 l hlt a m hl
      refine gx_plM hv6 hd ha6 hl (by rw [hfr6.2.1 40 (by decide)]; exact q1) (by rw [hfr6.2.1 50 (by decide)]; exact q3) (by rw [hfr6.2.1 51 (by decide)]; exact (g51 l hlt).1) (by rw [hfr6.2.1 52 (by decide)]; exact (g51 l hlt).2) (by rw [hfr6.2.1 54 (by decide)]; exact h54 l hlt) (by rw [hfr6.1 543 (by decide)]; exact gex) (fun M7 hfr7 p1 p2 => ?_)
      rintro _ rfl
      rw [nI_1]
      refine hk _ hlt ⟨M7, rfl, gx_fr_tr hfr6 hfr7, fun l' hl' a' m' hln' t ht => ?_⟩
      by_cases e9 : l' = l
      · subst e9
        obtain ⟨ea, em⟩ := gx_ln_u hl hln'
        subst ea; subst em
        exact p1 t ht
      · obtain ⟨m1, m2, m3, m4, m5⟩ := gx_ln_b hd hl
        have hlt2 := (gx_ln_ne hd hl hln' (by omega) (show 0 < m by omega) ht).2
        rw [(p2 _ hlt2).1, (p2 _ hlt2).2.1, (p2 _ hlt2).2.2]
        exact hp6 l' (by omega) a' m' hln' t ht
  have h5 := hd.2.2.2.2.2.1 1 (by decide)
  rw [hv1.1 5 (by decide), hv1.1 0 (by decide)]
  have z0 : (0 : Int32).toInt = 0 := rfl
  refine ⟨fun e => key _ ?_, fun e => key _ ?_⟩
  · have e2 : D.2.1 5 = 0 := by rw [fa_le, z0] at e; rw [fa_eq, z0]; have := h5.1; simp only [Nat.reduceAdd] at this; omega
    simp [e2, gx_b]
  · have e2 : ¬ D.2.1 5 = 0 := fun x => e (by rw [x]; decide)
    simp [e2, gx_b]
