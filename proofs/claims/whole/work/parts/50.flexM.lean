/-! the reference's flexible sizes -/
def gx_AM (D : gx_D) (M : fx_Mem) : Prop := (∀ j, j < D.2.2 → M.2.1 39 j = nI (gx_it D j)) ∧ gx_LM D.2.2 (gx_R D) M
theorem gx_AM_fr {D : gx_D} {F A L : List Nat} {M M' : fx_Mem} (hF : F.all (fun k => k ≠ 542) = true) (hA : A.all (fun k => k ≠ 39 && k ≠ 41 && k ≠ 47 && k ≠ 48) = true) (h : gx_fr F A L M M') (v : gx_AM D M) : gx_AM D M' := by
  have f1 : M'.1 542 = M.1 542 := h.1 542 (fun hm => by
    have := List.all_eq_true.mp hF 542 hm; simp at this)
  have f2 : ∀ k, (k = 39 ∨ k = 41 ∨ k = 47 ∨ k = 48) → M'.2.1 k = M.2.1 k := fun k hk => h.2.1 k (fun hm => by
    have := List.all_eq_true.mp hA k hm; simp at this; omega)
  obtain ⟨v1, v2, v3, v4, v5⟩ := v
  exact ⟨fun j hj => by rw [f2 39 (by omega), v1 j hj], by rw [f1, v2], fun j hj => by rw [f2 47 (by omega), v3 j hj], fun j hj => by rw [f2 48 (by omega), v4 j hj], fun t ht => by rw [f2 41 (by omega)]; exact v5 t ht⟩
theorem gx_lnM {D : gx_D} {M : fx_Mem} (hd : gx_ok D) (ha : gx_AM D M) {l a m : Nat} (hl : gx_ln D l a m) : M.2.1 47 l = nI a ∧ M.2.1 48 l = nI m ∧ (∀ t, t < m → M.2.1 39 (a + t) = nI (gx_it D (a + t)) ∧ gx_it D (a + t) < D.2.2) := by
  obtain ⟨m1, m2, m3, m4, m5⟩ := gx_ln_b hd hl
  obtain ⟨l1, l2, l3⟩ := hl
  have e1 := ha.2.2.1 l l1
  have e2 := ha.2.2.2.1 l l1
  refine ⟨by rw [e1, l2]; rfl, ?_, fun t ht => ⟨ha.1 _ (by omega), gx_it_lt (by omega)⟩⟩
  rw [e2]
  show nI (gx_s D (l + 1) - gx_s D l) = nI m
  congr 1; omega
theorem gx_avM {D : gx_D} {M : fx_Mem} (hv : gx_MV D M) (hd : gx_ok D) (ha : gx_AM D M) {l a m : Nat} (hl : gx_ln D l a m) (Q : Int32 → fx_Mem → Prop) : wp_X7_available_8 (nI l) M Q ↔ Q (gx_av D m) M := by
  obtain ⟨m1, m2, m3, m4, m5⟩ := gx_ln_b hd hl
  obtain ⟨e1, e2, e3⟩ := gx_lnM hd ha hl
  unfold wp_X7_available_8
  rw [nI_clamp (n := l) (by omega), e2, hv.1 0 (by decide), hv.1 2 (by decide)]
  exact ⟨fun h => h.2, fun h => ⟨vp_in_nI (by omega) (by omega), h⟩⟩
theorem gx_arfM {D : gx_D} {M : fx_Mem} (hd : gx_ok D) (ha : gx_AM D M) {l a m : Nat} (hl : gx_ln D l a m) {F : Nat → Bool} (hF : ∀ t, t < m → M.2.1 46 (a + t) = gx_b (F (a + t))) {Q : Int32 → fx_Mem → Prop} (h : Q (gx_b (gx_all F a m)) M) : wp_X7_areFrozen_8 (nI l) M Q := by
  obtain ⟨m1, m2, m3, m4, m5⟩ := gx_ln_b hd hl
  obtain ⟨e1, e2, e3⟩ := gx_lnM hd ha hl
  unfold wp_X7_areFrozen_8
  rw [nI_clamp (by omega), e1]
  refine ⟨vp_in_nI (by omega) (by omega), ?_⟩
  rintro _ rfl
  refine gx_cnt m (fun t s => s = (nI l, gx_b (gx_all F a t), nI (a + t), M)) ?_ (nI l, 1, nI a, M) rfl
  rintro t _ k ht rfl hk
  show wb_X7_areFrozen_8_9 (fun x1 x2 x3 M => k (x1, x2, x3, M)) Q (nI l) (gx_b (gx_all F a t)) (nI (a + t)) M
  unfold wb_X7_areFrozen_8_9 wb_X7_areFrozen_8_43 wb_X7_areFrozen_8_44
  rw [nI_clamp (n := l) (by omega), e1, e2, nI_add, nI_leI (by omega) (by omega), nI_clamp (n := a + t) (by omega), gx_b0]
  refine ⟨vp_in_nI (by omega) (by omega), vp_in_nI (by omega) (by omega), fun hc => ⟨by rw [← gx_b0]; exact gx_bx _, ?_⟩, fun hc => ⟨fun hb => ?_, fun hb => ⟨vp_in_nI (by omega) (by omega), ?_⟩⟩⟩
  · have e : t = m := by omega
    subst e; exact h
  · rintro _ rfl
    rw [nI_1]
    refine hk _ (by omega) ?_
    unfold gx_all; rw [hb]; rfl
  · rw [hF t (by omega), gx_b0]
    have hb1 : gx_all F a t = true := by simpa using hb
    refine ⟨fun h1 => ?_, fun h1 => ?_⟩
    · rintro _ rfl
      rw [nI_1]
      refine hk _ (by omega) ?_
      unfold gx_all; rw [h1, Bool.and_false]; rfl
    · rintro _ rfl
      rw [nI_1]
      have h2 : F (a + t) = true := by simpa using h1
      refine hk _ (by omega) ?_
      unfold gx_all; rw [h2, hb1]; rfl
theorem gx_lfM {D : gx_D} {M : fx_Mem} (hv : gx_MV D M) (hd : gx_ok D) (ha : gx_AM D M) {l a m : Nat} (hl : gx_ln D l a m) {x : gx_FS} (hF : ∀ t, t < m → M.2.1 46 (a + t) = gx_b (x.1 (a + t))) (hS : ∀ t, t < m → M.2.1 40 (a + t) = x.2 (a + t)) {Q : Int32 → fx_Mem → Prop} (h : Q (gx_lf D a m x) M) : wp_X7_leftOf_8 (nI l) M Q := by
  obtain ⟨m1, m2, m3, m4, m5⟩ := gx_ln_b hd hl
  obtain ⟨e1, e2, e3⟩ := gx_lnM hd ha hl
  unfold wp_X7_leftOf_8
  rw [gx_avM hv hd ha hl, nI_clamp (by omega), e1]
  refine ⟨vp_in_nI (by omega) (by omega), ?_⟩
  rintro _ rfl
  refine gx_cnt m (fun t s => s = (nI l, gx_av D m - gx_sm (fun k => if x.1 k then x.2 k else gx_P D k 0) a t, nI (a + t), M)) ?_ (nI l, gx_av D m, nI a, M) (by rw [show gx_sm (fun k => if x.1 k then x.2 k else gx_P D k 0) a 0 = 0 from rfl, Int32.sub_zero]; rfl)
  rintro t _ k ht rfl hk
  show wb_X7_leftOf_8_13 (fun x1 x2 x3 M => k (x1, x2, x3, M)) Q (nI l) (gx_av D m - gx_sm (fun k => if x.1 k then x.2 k else gx_P D k 0) a t) (nI (a + t)) M
  unfold wb_X7_leftOf_8_13 wb_X7_leftOf_8_60
  rw [nI_clamp (n := l) (by omega), e1, e2, nI_add, nI_leI (by omega) (by omega), nI_clamp (n := a + t) (by omega)]
  refine ⟨vp_in_nI (by omega) (by omega), vp_in_nI (by omega) (by omega), fun hc => ?_, fun hc => ⟨vp_in_nI (by omega) (by omega), ?_⟩⟩
  · have e : t = m := by omega
    subst e; exact h
  · have htm : t < m := by omega
    obtain ⟨f1, f2⟩ := e3 t htm
    have o0 := (gx_of hv hd f2).1
    rw [hF t htm, gx_b0, f1, hS t htm, o0]
    refine ⟨fun hb => ⟨vp_in_nI (by omega) (by omega), ?_⟩, fun hb => ⟨vp_in_nI (by omega) (by omega), ?_⟩⟩
    · rintro _ rfl _ rfl
      rw [nI_1, gx_ss]
      exact hk _ htm (by rw [gx_sm_succ, hb]; rfl)
    · rintro _ rfl _ rfl
      rw [nI_1, gx_ss]
      have hb2 : x.1 (a + t) = true := by simpa using hb
      exact hk _ htm (by rw [gx_sm_succ, hb2]; rfl)
theorem gx_hasM {D : gx_D} {M : fx_Mem} (hv : gx_MV D M) (hd : gx_ok D) (ha : gx_AM D M) {l a m : Nat} (hl : gx_ln D l a m) {x : gx_FS} (hx : gx_xb a m x) (hF : ∀ t, t < m → M.2.1 46 (a + t) = gx_b (x.1 (a + t))) (g : Bool) {Q : Int32 → fx_Mem → Prop}
    (h : ∀ M' b, gx_fr [] [] [36, 37, 38] M M' → (∀ t, t < m → gx_sh D g a m x t = if b then gx_dv (gx_lf D a m x).toInt.natAbs (gx_w D g x.1 a) m t else 0) → (b = true → ∀ t, t < m → M'.2.2 37 t = lN (gx_dv (gx_lf D a m x).toInt.natAbs (gx_w D g x.1 a) m t)) → Q (gx_b b) M') : wp_X7_hasShares_8 (nI l) (gx_lf D a m x) (gx_b g) M Q := by
  obtain ⟨m1, m2, m3, m4, m5⟩ := gx_ln_b hd hl
  have hlb := gx_lf_b hd hl hx
  unfold wp_X7_hasShares_8
  have hwb : ∀ k, k < m → gx_w D g x.1 a k ≤ 1000000 := fun k hk => gx_w_le hd hl g x.1 hk
  have hsb : fb_sm (gx_w D g x.1 a) m ≤ m * 1000000 := fb_sm_bound hwb
  have hsb2 : m * 1000000 ≤ 20 * 1000000 := Nat.mul_le_mul_right _ (by omega)
  refine gx_cnt m (fun t s => ∃ M1, s = (nI l, gx_lf D a m x, gx_b g, lN (fb_sm (gx_w D g x.1 a) t), nI t, M1) ∧ gx_fr [] [] [36, 37, 38] M M1 ∧ (∀ s, s < t → M1.2.2 36 s = lN (gx_w D g x.1 a s))) ?_ (nI l, gx_lf D a m x, gx_b g, 0, 0, M) ⟨M, rfl, gx_fr_rfl _ _ _ _, fun s hs => absurd hs (by omega)⟩
  rintro t _ k ht ⟨M1, rfl, hfr, hw⟩ hk
  have hv1 := gx_MV_fr (by decide) (by decide) hfr hv
  have ha1 := gx_AM_fr (by decide) (by decide) hfr ha
  obtain ⟨e1, e2, e3⟩ := gx_lnM hd ha1 hl
  show wb_X7_hasShares_8_6 (fun x1 x2 x3 y4 x6 M => k (x1, x2, x3, y4, x6, M)) (wb_X7_hasShares_8_111 Q) Q (nI l) (gx_lf D a m x) (gx_b g) (lN (fb_sm (gx_w D g x.1 a) t)) (nI t) M1
  unfold wb_X7_hasShares_8_6
  rw [nI_clamp (n := l) (by omega), e1, e2, nI_leI (by omega) (by omega), nI_add, nI_clamp (n := a + t) (by omega)]
  refine ⟨vp_in_nI (by omega) (by omega), fun hc => ?_, fun hc => ⟨vp_in_nI (by omega) (by omega), vp_in_nI (by omega) (by omega), ?_⟩⟩
  · have e : t = m := by omega
    subst e
    have hno : ∀ b, b = false → gx_fx g (gx_lf D a t x) = false ∨ fb_sm (gx_w D g x.1 a) t = 0 → ∀ s, s < t → gx_sh D g a t x s = if b then gx_dv (gx_lf D a t x).toInt.natAbs (gx_w D g x.1 a) t s else 0 := by
      rintro _ rfl hc2 s hs
      unfold gx_sh
      rw [if_neg (by decide : ¬ (false = true))]
      rcases hc2 with e | e
      · rw [e, if_neg (by decide)]
      · split
        · unfold gx_dv; rw [if_pos e]
        · rfl
    have hdo : ∀ v : Int64, v = lN (gx_lf D a t x).toInt.natAbs → gx_fx g (gx_lf D a t x) = true → ¬ fb_sm (gx_w D g x.1 a) t = 0 → wb_X7_hasShares_8_148 Q (nI l) v M1 := by
      rintro _ rfl hfx hs0
      unfold wb_X7_hasShares_8_148
      rw [nI_clamp (n := l) (by omega), e2]
      refine ⟨vp_in_nI (by omega) (by omega), ?_⟩
      refine gx_divM (by omega) (by omega) hwb (by omega) hw (fun M2 hfr2 h37 => ?_)
      refine h M2 true (gx_fr_tr hfr (gx_fr_mo hfr2 (by decide) (by decide) (by decide))) (fun s hs => ?_) (fun _ => h37)
      unfold gx_sh; rw [hfx]
    have z0 : (0 : Int32).toInt = 0 := rfl
    unfold wb_X7_hasShares_8_111 wb_X7_hasShares_8_135
    rw [lg_cmp_eq, gx_l0e (by omega), gx_b0]
    refine ⟨fun hs0 => h M1 false hfr (hno false rfl (Or.inr hs0)) (fun e => absurd e (by decide)), fun hs0 => ⟨fun hg => ⟨fun h1 => ⟨fun _ => hdo _ ?_ ?_ hs0, fun e => absurd hg e⟩, fun h1 => h M1 false hfr (hno false rfl (Or.inl ?_)) (fun e => absurd e (by decide))⟩, fun hg => ⟨fun h1 => ⟨fun e => absurd e hg, fun _ => hdo _ ?_ ?_ hs0⟩, fun h1 => h M1 false hfr (hno false rfl (Or.inl ?_)) (fun e => absurd e (by decide))⟩⟩⟩
    · rw [fa_lt, z0] at h1
      rw [fa_eq64, Int32.toInt_toInt64, gx_tn (by omega), gx_lT (by omega)]; omega
    · rw [fa_lt, z0] at h1
      unfold gx_fx; rw [hg, if_neg (by decide), decide_eq_true_iff, fa_le, z0]; omega
    · rw [fa_lt, z0] at h1
      unfold gx_fx; rw [hg, if_neg (by decide), decide_eq_false_iff_not, fa_le, z0]; omega
    · rw [fa_lt, z0] at h1
      rw [fa_eq64, Int32.toInt_toInt64, gx_lT (by omega)]; omega
    · rw [fa_lt, z0] at h1
      have hg1 : g = true := by simpa using hg
      unfold gx_fx; rw [hg1, if_pos rfl, decide_eq_true_iff, fa_le, z0]; omega
    · rw [fa_lt, z0] at h1
      have hg1 : g = true := by simpa using hg
      unfold gx_fx; rw [hg1, if_pos rfl, decide_eq_false_iff_not, fa_le, z0]; omega
  · have htm : t < m := by omega
    obtain ⟨f1, f2⟩ := e3 t htm
    have hb := gx_w_b hd (show a + t < D.2.2 by omega)
    have hF1 : M1.2.1 46 (a + t) = gx_b (x.1 (a + t)) := by rw [hfr.2.1 46 (by decide)]; exact hF t htm
    have st : ∀ (v : Int64), v = lN (gx_w D g x.1 a t) → wb_X7_hasShares_8_92 (fun x1 x2 x3 y4 x6 M => k (x1, x2, x3, y4, x6, M)) (wb_X7_hasShares_8_111 Q) Q (nI l) (gx_lf D a m x) (gx_b g) (lN (fb_sm (gx_w D g x.1 a) t)) (nI t) v (nI t) M1 := by
      rintro _ rfl
      unfold wb_X7_hasShares_8_92
      rw [nI_clamp (n := t) (by omega)]
      refine ⟨vp_in_nI (by omega) (by omega), ?_⟩
      rintro _ rfl
      refine ⟨vp_in_nI (by omega) (by omega), ?_⟩
      rintro _ rfl _ rfl
      rw [nI_1, gx_re, pk_uLs, lN_add]
      refine hk _ htm ⟨_, rfl, gx_fr_sl _ _ hfr (by decide), fun s hs => ?_⟩
      rw [gx_re]
      by_cases e : s = t
      · rw [e, pk_uLs]
      · rw [pk_uLn e]; exact hw s (by omega)
    obtain ⟨o0, o1, o2, _⟩ := gx_of hv1 hd f2
    rw [f1]
    rintro _ rfl
    rw [hF1, gx_b0, gx_b0]
    simp only [o0, o1, o2]
    refine ⟨vp_in_nI (by omega) (by omega), vp_in_nI (by omega) (by omega), fun h1 => ⟨fun hg => st _ ?_, fun hg => st _ ?_⟩, fun h1 => st _ ?_⟩
    · show (gx_P D (a + t) 2).toInt64 * (gx_P D (a + t) 0).toInt64 = _
      rw [hb.2.2.1, hb.2.2.2.2.1, nI_l (by omega), nI_l (by omega), lN_mul]
      unfold gx_w; rw [h1, hg]; rfl
    · have hg2 : g = true := by simpa using hg
      show (gx_P D (a + t) 1).toInt64 = _
      rw [hb.1, nI_l (by omega)]
      unfold gx_w; rw [h1, hg2]; rfl
    · have h2 : x.1 (a + t) = true := by simpa using h1
      unfold gx_w; rw [h2]; rfl
