/-! the class's flexible sizes -/
theorem gx_ss (A s x : Int32) : A - s - x = A - (s + x) := by grind
theorem gx_bx (b : Bool) : gx_b b = 0 ∨ gx_b b = 1 := by cases b <;> decide
theorem gx_lnC {D : gx_D} {M : fx_Mem} (hd : gx_ok D) (ha : gx_AC D M) {l a m : Nat} (hl : gx_ln D l a m) : M.2.1 19 l = nI a ∧ M.2.1 19 (l + 1) = nI (a + m) ∧ (∀ t, t < m → M.2.1 18 (a + t) = nI (gx_it D (a + t)) ∧ gx_it D (a + t) < D.2.2) := by
  obtain ⟨m1, m2, m3, m4, m5⟩ := gx_ln_b hd hl
  obtain ⟨l1, l2, l3⟩ := hl
  exact ⟨by rw [ha.2.2 l (by omega), l2], by rw [ha.2.2 (l + 1) (by omega), l3], fun t ht => ⟨ha.2.1 _ (by omega), gx_it_lt (by omega)⟩⟩
theorem gx_avC {D : gx_D} {M : fx_Mem} (hv : gx_CV D M) (hd : gx_ok D) (ha : gx_AC D M) {l a m : Nat} (hl : gx_ln D l a m) (Q : Int32 → fx_Mem → Prop) : wp_X0_available_5_1 (nI l) M Q ↔ Q (gx_av D m) M := by
  obtain ⟨m1, m2, m3, m4, m5⟩ := gx_ln_b hd hl
  obtain ⟨e1, e2, e3⟩ := gx_lnC hd ha hl
  unfold wp_X0_available_5_1
  rw [nI_1 l, nI_clamp (n := l + 1) (by omega), nI_clamp (n := l) (by omega), e1, e2, pk_sub (by omega), hv.1, hv.2.2.1, show a + m - a = m by omega]
  exact ⟨fun h => h.2.2, fun h => ⟨vp_in_nI (by omega) (by omega), vp_in_nI (by omega) (by omega), h⟩⟩
theorem gx_isfC {D : gx_D} {M : fx_Mem} (hd : gx_ok D) (ha : gx_AC D M) {l a m : Nat} (hl : gx_ln D l a m) {F : Nat → Bool} (hF : ∀ t, t < m → M.2.1 25 (gx_it D (a + t)) = gx_b (F (a + t))) {Q : Int32 → fx_Mem → Prop} (h : Q (gx_b (gx_all F a m)) M) : wp_X5_isFrozen_6_5 (nI l) M Q := by
  obtain ⟨m1, m2, m3, m4, m5⟩ := gx_ln_b hd hl
  obtain ⟨e1, e2, e3⟩ := gx_lnC hd ha hl
  unfold wp_X5_isFrozen_6_5
  rw [nI_clamp (by omega), e1]
  refine ⟨vp_in_nI (by omega) (by omega), ?_⟩
  rintro _ rfl
  refine gx_cnt m (fun t s => s = (nI l, nI (a + t), M) ∧ gx_all F a t = true) ?_ (nI l, nI a, M) ⟨rfl, rfl⟩
  rintro t _ k ht ⟨rfl, hall⟩ hk
  show wb_X5_isFrozen_6_5_7 (fun x2 x3 M => k (x2, x3, M)) Q (nI l) (nI (a + t)) M
  unfold wb_X5_isFrozen_6_5_7
  rw [nI_1 l, nI_clamp (n := l + 1) (by omega), e2, nI_leI (by omega) (by omega), nI_clamp (n := a + t) (by omega)]
  refine ⟨vp_in_nI (by omega) (by omega), fun hc => ?_, fun hc => ?_⟩
  · have e : t = m := by omega
    subst e; rw [hall] at h; exact h
  · have htm : t < m := by omega
    obtain ⟨f1, f2⟩ := e3 t htm
    rw [f1, nI_clamp (by omega), hF t htm, gx_b0]
    refine ⟨vp_in_nI (by omega) (by omega), vp_in_nI (by omega) (by omega), fun hb => ?_, fun hb => ?_⟩
    · have e : gx_all F a m = false := by
        cases hc2 : gx_all F a m with
        | false => rfl
        | true => rw [gx_all_iff.mp hc2 t htm] at hb; exact absurd hb (by decide)
      rw [e] at h; exact h
    · rintro _ rfl
      rw [nI_1]
      exact hk _ htm ⟨rfl, by unfold gx_all; rw [hall]; simpa using hb⟩
theorem gx_splC {D : gx_D} {M : fx_Mem} (hv : gx_CV D M) (hd : gx_ok D) (ha : gx_AC D M) {l a m : Nat} (hl : gx_ln D l a m) {x : gx_FS} (hF : ∀ t, t < m → M.2.1 25 (gx_it D (a + t)) = gx_b (x.1 (a + t))) (hS : ∀ t, t < m → M.2.1 20 (gx_it D (a + t)) = x.2 (a + t)) {Q : Int32 → fx_Mem → Prop} (h : Q (gx_lf D a m x) M) : wp_X5_spaceLeft_6_1_5 (nI l) M Q := by
  obtain ⟨m1, m2, m3, m4, m5⟩ := gx_ln_b hd hl
  obtain ⟨e1, e2, e3⟩ := gx_lnC hd ha hl
  unfold wp_X5_spaceLeft_6_1_5
  rw [gx_avC hv hd ha hl, nI_clamp (by omega), e1]
  refine ⟨vp_in_nI (by omega) (by omega), ?_⟩
  rintro _ rfl
  refine gx_cnt m (fun t s => s = (nI l, gx_av D m - gx_sm (fun k => if x.1 k then x.2 k else gx_P D k 0) a t, nI (a + t), M)) ?_ (nI l, gx_av D m, nI a, M) (by rw [show gx_sm (fun k => if x.1 k then x.2 k else gx_P D k 0) a 0 = 0 from rfl, Int32.sub_zero]; rfl)
  rintro t _ k ht rfl hk
  show wb_X5_spaceLeft_6_1_5_16 (fun x3 x4 x5 M => k (x3, x4, x5, M)) Q (nI l) (gx_av D m - gx_sm (fun k => if x.1 k then x.2 k else gx_P D k 0) a t) (nI (a + t)) M
  unfold wb_X5_spaceLeft_6_1_5_16 wb_X5_spaceLeft_6_1_5_69
  rw [nI_1 l, nI_clamp (n := l + 1) (by omega), e2, nI_leI (by omega) (by omega), nI_clamp (n := a + t) (by omega)]
  refine ⟨vp_in_nI (by omega) (by omega), fun hc => ?_, fun hc => ⟨vp_in_nI (by omega) (by omega), ?_⟩⟩
  · have e : t = m := by omega
    subst e; exact h
  · have htm : t < m := by omega
    obtain ⟨f1, f2⟩ := e3 t htm
    rw [f1]
    rintro _ rfl
    rw [nI_clamp (by omega), hF t htm, hS t htm, hv.2.2.2.2.2.2 _ f2 0 (by decide), gx_b0]
    refine ⟨vp_in_nI (by omega) (by omega), fun hb => ⟨vp_in_nI (by omega) (by omega), ?_⟩, fun hb => ⟨vp_in_nI (by omega) (by omega), ?_⟩⟩
    · rintro _ rfl _ rfl
      rw [nI_1, gx_ss]
      exact hk _ htm (by rw [gx_sm_succ, hb]; rfl)
    · rintro _ rfl _ rfl
      rw [nI_1, gx_ss]
      have hb2 : x.1 (a + t) = true := by simpa using hb
      exact hk _ htm (by rw [gx_sm_succ, hb2]; rfl)
theorem gx_w_b {D : gx_D} (hd : gx_ok D) {k : Nat} (hk : k < D.2.2) : gx_P D k 1 = nI (gx_P D k 1).toNatClampNeg ∧ (gx_P D k 1).toNatClampNeg ≤ 99 ∧ gx_P D k 2 = nI (gx_P D k 2).toNatClampNeg ∧ (gx_P D k 2).toNatClampNeg ≤ 99 ∧ gx_P D k 0 = nI (gx_P D k 0).toNatClampNeg ∧ (gx_P D k 0).toNatClampNeg ≤ 9999 ∧ (gx_P D k 2).toNatClampNeg * (gx_P D k 0).toNatClampNeg ≤ 1000000 := by
  have b0 := gx_prb hd hk (p := 0) (by decide)
  have b1 := gx_prb hd hk (p := 1) (by decide)
  have b2 := gx_prb hd hk (p := 2) (by decide)
  rw [show (fx_tLO 0).toInt = 0 from by decide, show (fx_tHI 0).toInt = 9999 from by decide] at b0
  rw [show (fx_tLO 1).toInt = 0 from by decide, show (fx_tHI 1).toInt = 99 from by decide] at b1
  rw [show (fx_tLO 2).toInt = 0 from by decide, show (fx_tHI 2).toInt = 99 from by decide] at b2
  have c0 : (gx_P D k 0).toNatClampNeg ≤ 9999 := by rw [gx_nnv]; omega
  have c2 : (gx_P D k 2).toNatClampNeg ≤ 99 := by rw [gx_nnv]; omega
  have c3 := Nat.mul_le_mul c2 c0
  exact ⟨gx_nn b1.1, by rw [gx_nnv]; omega, gx_nn b2.1, c2, gx_nn b0.1, c0, by omega⟩
theorem gx_w_le {D : gx_D} (hd : gx_ok D) {l a m : Nat} (hl : gx_ln D l a m) (g : Bool) (F : Nat → Bool) {t : Nat} (ht : t < m) : gx_w D g F a t ≤ 1000000 := by
  obtain ⟨m1, m2, m3, m4, m5⟩ := gx_ln_b hd hl
  have b := gx_w_b hd (show a + t < D.2.2 by omega)
  unfold gx_w
  split
  · omega
  · split <;> omega
theorem gx_weiC {D : gx_D} {M : fx_Mem} (hv : gx_CV D M) (hd : gx_ok D) (ha : gx_AC D M) {l a m : Nat} (hl : gx_ln D l a m) {F : Nat → Bool} (hF : ∀ t, t < m → M.2.1 25 (gx_it D (a + t)) = gx_b (F (a + t))) (g : Bool) (sp : Int32) {Q : fx_Mem → Prop}
    (h : ∀ M', gx_fr [] [] [15] M M' → (∀ t, t < m → M'.2.2 15 t = lN (if gx_fx g sp then gx_w D g F a t else 0)) → Q M') : wp_X5_weigh_6_1_5_4 (nI l) (gx_b g) sp M Q := by
  obtain ⟨m1, m2, m3, m4, m5⟩ := gx_ln_b hd hl
  have key : ∀ s0 : Int32, s0 = gx_b (gx_fx g sp) → wb_X5_weigh_6_1_5_4_28 Q (nI l) (gx_b g) s0 M := by
    rintro _ rfl
    obtain ⟨e1, e2, e3⟩ := gx_lnC hd ha hl
    unfold wb_X5_weigh_6_1_5_4_28
    rw [nI_clamp (by omega), e1]
    refine ⟨vp_in_nI (by omega) (by omega), ?_⟩
    rintro _ rfl
    refine gx_cnt m (fun t s => ∃ M1, s = (nI l, gx_b g, gx_b (gx_fx g sp), nI a, nI (a + t), M1) ∧ gx_fr [] [] [15] M M1 ∧ (∀ s, s < t → M1.2.2 15 s = lN (if gx_fx g sp then gx_w D g F a s else 0))) ?_ (nI l, gx_b g, gx_b (gx_fx g sp), nI a, nI a, M) ⟨M, rfl, gx_fr_rfl _ _ _ _, fun s hs => absurd hs (by omega)⟩
    rintro t _ k ht ⟨M1, rfl, hfr, hw⟩ hk
    have hv1 := gx_CV_fr hd.1 (by decide) (by decide) hfr hv
    obtain ⟨e1, e2, e3⟩ := gx_lnC hd (gx_AC_fr (by decide) (by decide) hfr ha) hl
    show wb_X5_weigh_6_1_5_4_43 (fun x4 x5 x7 x8 x9 M => k (x4, x5, x7, x8, x9, M)) Q (nI l) (gx_b g) (gx_b (gx_fx g sp)) (nI a) (nI (a + t)) M1
    unfold wb_X5_weigh_6_1_5_4_43
    rw [nI_1 l, nI_clamp (n := l + 1) (by omega), e2, nI_leI (by omega) (by omega), nI_clamp (n := a + t) (by omega)]
    refine ⟨vp_in_nI (by omega) (by omega), fun hc => ?_, fun hc => ⟨vp_in_nI (by omega) (by omega), ?_⟩⟩
    · have e : t = m := by omega
      subst e; exact h M1 hfr hw
    · have htm : t < m := by omega
      obtain ⟨f1, f2⟩ := e3 t htm
      have hb := gx_w_b hd (show a + t < D.2.2 by omega)
      have hF1 : M1.2.1 25 (gx_it D (a + t)) = gx_b (F (a + t)) := by rw [hfr.2.1 25 (by decide)]; exact hF t htm
      have st : ∀ (v : Int64), v = lN (if gx_fx g sp then gx_w D g F a t else 0) → wb_X5_weigh_6_1_5_4_129 (fun x4 x5 x7 x8 x9 M => k (x4, x5, x7, x8, x9, M)) Q (nI l) (gx_b g) (gx_b (gx_fx g sp)) (nI a) (nI (a + t)) v (nI (a + t) - nI a) M1 := by
        rintro _ rfl
        unfold wb_X5_weigh_6_1_5_4_129
        rw [pk_sub (by omega), show a + t - a = t by omega, nI_clamp (by omega)]
        refine ⟨vp_in_nI (by omega) (by omega), ?_⟩
        rintro _ rfl _ rfl
        rw [nI_1]
        refine hk _ htm ⟨_, rfl, gx_fr_sl _ _ hfr (by decide), fun s hs => ?_⟩
        rw [gx_re]
        by_cases e : s = t
        · rw [e, pk_uLs]
        · rw [pk_uLn e]; exact hw s (by omega)
      have st2 : ∀ v : Int32, (F (a + t) = false → v.toInt64 = lN (gx_w D g F a t)) → wb_X5_weigh_6_1_5_4_96 (fun x4 x5 x7 x8 x9 M => k (x4, x5, x7, x8, x9, M)) Q (nI l) (gx_b g) (gx_b (gx_fx g sp)) (nI a) (nI (a + t)) (nI (gx_it D (a + t))) v M1 := by
        intro v hvv
        unfold wb_X5_weigh_6_1_5_4_96 wb_X5_weigh_6_1_5_4_128
        rw [nI_clamp (by omega), hF1, gx_b0, gx_b0]
        refine ⟨fun hb => st _ (by rw [hb]; rfl), fun hb => ⟨vp_in_nI (by omega) (by omega), fun hb2 => st _ ?_, fun hb2 => st _ ?_⟩⟩
        · have hb3 : gx_fx g sp = true := by simpa using hb
          rw [hvv hb2, hb3]; rfl
        · have hb3 : F (a + t) = true := by simpa using hb2
          unfold gx_w; rw [hb3]; split <;> rfl
      rw [f1]
      rintro _ rfl
      rw [nI_clamp (by omega), hv1.2.2.2.2.2.2 _ f2 0 (by decide), hv1.2.2.2.2.2.2 _ f2 1 (by decide), hv1.2.2.2.2.2.2 _ f2 2 (by decide), gx_b0]
      refine ⟨vp_in_nI (by omega) (by omega), fun hg => st2 _ (fun hb2 => ?_), fun hg => st2 _ (fun hb2 => ?_)⟩
      · show (gx_P D (a + t) 2 * gx_P D (a + t) 0).toInt64 = _
        rw [hb.2.2.1, hb.2.2.2.2.1, pk_mul, nI_l (by omega)]
        unfold gx_w; rw [hb2, hg]; rfl
      · have hg2 : g = true := by simpa using hg
        show (gx_P D (a + t) 1).toInt64 = _
        rw [hb.1, nI_l (by omega)]
        unfold gx_w; rw [hb2, hg2]; rfl
  unfold wp_X5_weigh_6_1_5_4
  rw [gx_b0]
  refine ⟨fun hg => ⟨fun e => key _ ?_, fun e => key _ ?_⟩, fun hg => ⟨fun e => key _ ?_, fun e => key _ ?_⟩⟩
  · unfold gx_fx; rw [hg]; simp [e, gx_b]
  · unfold gx_fx; rw [hg]; simp [e, gx_b]
  · have hg2 : g = true := by simpa using hg
    unfold gx_fx; rw [hg2]; simp [e, gx_b]
  · have hg2 : g = true := by simpa using hg
    unfold gx_fx; rw [hg2]; simp [e, gx_b]
theorem gx_rszC {D : gx_D} {M : fx_Mem} (hv : gx_CV D M) (hd : gx_ok D) (ha : gx_AC D M) {l a m : Nat} (hl : gx_ln D l a m) {x : gx_FS} (hF : ∀ t, t < m → M.2.1 25 (gx_it D (a + t)) = gx_b (x.1 (a + t))) (hS : ∀ t, t < m → M.2.1 20 (gx_it D (a + t)) = x.2 (a + t)) (g : Bool) (hsh : ∀ t, t < m → M.2.1 16 t = nI (gx_sh D g a m x t)) {Q : Int32 → fx_Mem → Prop}
    (h : ∀ M', gx_fr [] [20, 24] [] M M' → (∀ t, t < m → M'.2.1 20 (gx_it D (a + t)) = (gx_rnd D g a m x).2 (a + t)) → (∀ t, t < m → x.1 (a + t) = false → M'.2.1 24 (gx_it D (a + t)) = gx_V D g a m x (a + t)) → (∀ i, (∀ t, t < m → i ≠ gx_it D (a + t)) → M'.2.1 20 i = M.2.1 20 i) → Q (gx_vi D g a m x) M') : wp_X5_resize_6_1_5_4 (nI l) (gx_b g) M Q := by
  obtain ⟨m1, m2, m3, m4, m5⟩ := gx_ln_b hd hl
  obtain ⟨e1, e2, e3⟩ := gx_lnC hd ha hl
  unfold wp_X5_resize_6_1_5_4
  rw [nI_clamp (by omega), e1]
  refine ⟨vp_in_nI (by omega) (by omega), ?_⟩
  rintro _ rfl
  refine gx_cnt m (fun t s => ∃ M1, s = (nI l, gx_b g, nI a, gx_sm (fun k => if x.1 k then 0 else gx_V D g a m x k) a t, nI (a + t), M1) ∧ gx_fr [] [20, 24] [] M M1 ∧ (∀ s, s < m → M1.2.1 20 (gx_it D (a + s)) = if s < t then (gx_rnd D g a m x).2 (a + s) else x.2 (a + s)) ∧ (∀ s, s < t → x.1 (a + s) = false → M1.2.1 24 (gx_it D (a + s)) = gx_V D g a m x (a + s)) ∧ (∀ i, (∀ s, s < m → i ≠ gx_it D (a + s)) → M1.2.1 20 i = M.2.1 20 i)) ?_ (nI l, gx_b g, nI a, 0, nI a, M) ⟨M, rfl, gx_fr_rfl _ _ _ _, fun s hs => by rw [if_neg (by omega)]; exact hS s hs, fun s hs => absurd hs (by omega), fun i _ => rfl⟩
  rintro t _ k ht ⟨M1, rfl, hfr, h20, h24, hout⟩ hk
  have hv1 := gx_CV_fr hd.1 (by decide) (by decide) hfr hv
  obtain ⟨e1, e2, e3⟩ := gx_lnC hd (gx_AC_fr (by decide) (by decide) hfr ha) hl
  show wb_X5_resize_6_1_5_4_16 (fun x4 x5 x6 x7 x8 M => k (x4, x5, x6, x7, x8, M)) Q (nI l) (gx_b g) (nI a) (gx_sm (fun k => if x.1 k then 0 else gx_V D g a m x k) a t) (nI (a + t)) M1
  unfold wb_X5_resize_6_1_5_4_16
  rw [nI_1 l, nI_clamp (n := l + 1) (by omega), e2, nI_leI (by omega) (by omega), nI_clamp (n := a + t) (by omega)]
  refine ⟨vp_in_nI (by omega) (by omega), fun hc => ?_, fun hc => ⟨vp_in_nI (by omega) (by omega), ?_⟩⟩
  · have e : t = m := by omega
    subst e
    exact h M1 hfr (fun s hs => by rw [h20 s hs, if_pos hs]) h24 hout
  · have htm : t < m := by omega
    obtain ⟨f1, f2⟩ := e3 t htm
    have hF1 : M1.2.1 25 (gx_it D (a + t)) = gx_b (x.1 (a + t)) := by rw [hfr.2.1 25 (by decide)]; exact hF t htm
    have h16 : M1.2.1 16 t = nI (gx_sh D g a m x t) := by rw [hfr.2.1 16 (by decide)]; exact hsh t htm
    rw [f1]
    rintro _ rfl
    rw [nI_clamp (by omega), hF1, gx_b0, pk_sub (by omega), show a + t - a = t by omega, nI_clamp (n := t) (by omega), h16, hv1.2.2.2.2.2.2 _ f2 0 (by decide)]
    refine ⟨vp_in_nI (by omega) (by omega), fun hb => ⟨vp_in_nI (by omega) (by omega), ?_⟩, fun hb => ?_⟩
    · rintro _ rfl
      have key : ∀ v : Int32, gx_P D (a + t) 0 + v = gx_bf D g a m x (a + t) → wb_X5_resize_6_1_5_4_83 (fun x4 x5 x6 x7 x8 M => k (x4, x5, x6, x7, x8, M)) Q (nI l) (gx_b g) (nI a) (gx_sm (fun k => if x.1 k then 0 else gx_V D g a m x k) a t) (nI (a + t)) (nI (gx_it D (a + t))) v (gx_P D (a + t) 0) M1 := by
        intro v hvv
        unfold wb_X5_resize_6_1_5_4_83 wb_X5_resize_6_1_5_4_130
        rw [hvv]
        rintro _ rfl
        simp only [gx_clC hv1 hd f2]
        rw [nI_clamp (by omega)]
        refine ⟨vp_in_nI (by omega) (by omega), ?_⟩
        rintro _ rfl
        refine ⟨vp_in_nI (by omega) (by omega), vp_in_nI (by omega) (by omega), ?_⟩
        rintro _ rfl
        refine ⟨vp_in_nI (by omega) (by omega), ?_⟩
        rintro _ rfl _ rfl
        rw [nI_1, gx_ra, pk_us, gx_ra, pk_us]
        refine hk _ htm ⟨_, by rw [gx_sm_succ, hb]; rfl, gx_fr_sa _ _ (gx_fr_sa _ _ hfr (by decide)) (by decide), fun s hs => ?_, fun s hs hb2 => ?_, fun i hi => ?_⟩
        · rw [gx_rb _ _ _ (by decide), gx_ra]
          by_cases e : s = t
          · rw [e, pk_us, if_pos (by omega)]; unfold gx_rnd; simp only; rw [hb]; rfl
          · rw [pk_un (fun e4 => e (by have := gx_it_inj (by omega) (by omega) e4; omega)), h20 s hs]
            by_cases e5 : s < t
            · rw [if_pos e5, if_pos (by omega)]
            · rw [if_neg e5, if_neg (by omega)]
        · rw [gx_ra]
          by_cases e : s = t
          · rw [e, pk_us]; rfl
          · rw [pk_un (fun e4 => e (by have := gx_it_inj (by omega) (by omega) e4; omega)), gx_rb _ _ _ (by decide)]
            exact h24 s (by omega) hb2
        · rw [gx_rb _ _ _ (by decide), gx_ra, pk_un (hi t htm)]; exact hout i hi
      rw [gx_b0]
      refine ⟨vp_in_nI (by omega) (by omega), fun hg => key _ ?_, fun hg => key _ ?_⟩
      · unfold gx_bf; rw [hg, show a + t - a = t by omega]; rfl
      · have hg2 : g = true := by simpa using hg
        unfold gx_bf; rw [hg2, show a + t - a = t by omega]; rfl
    · have hb2 : x.1 (a + t) = true := by simpa using hb
      unfold wb_X5_resize_6_1_5_4_130
      rintro _ rfl
      rw [nI_1]
      refine hk _ htm ⟨M1, by simp only [gx_sm_succ, hb2, if_true, Int32.add_zero]; rfl, hfr, fun s hs => ?_, fun s hs hb3 => ?_, hout⟩
      · rw [h20 s hs]
        by_cases e : s = t
        · rw [e, if_neg (by omega), if_pos (by omega)]; unfold gx_rnd; simp only; rw [hb2]; rfl
        · by_cases e5 : s < t
          · rw [if_pos e5, if_pos (by omega)]
          · rw [if_neg e5, if_neg (by omega)]
      · by_cases e : s = t
        · rw [e, hb2] at hb3; exact absurd hb3 (by decide)
        · exact h24 s (by omega) hb3
theorem gx_frzC {D : gx_D} {M : fx_Mem} (hd : gx_ok D) (ha : gx_AC D M) {l a m : Nat} (hl : gx_ln D l a m) {x : gx_FS} (hF : ∀ t, t < m → M.2.1 25 (gx_it D (a + t)) = gx_b (x.1 (a + t))) (g : Bool) (hV : ∀ t, t < m → x.1 (a + t) = false → M.2.1 24 (gx_it D (a + t)) = gx_V D g a m x (a + t)) {Q : fx_Mem → Prop}
    (h : ∀ M', gx_fr [] [25] [] M M' → (∀ t, t < m → M'.2.1 25 (gx_it D (a + t)) = gx_b ((gx_rnd D g a m x).1 (a + t))) → Q M') : wp_X5_freeze_6_5 (nI l) (gx_vi D g a m x) M Q := by
  obtain ⟨m1, m2, m3, m4, m5⟩ := gx_ln_b hd hl
  obtain ⟨e1, e2, e3⟩ := gx_lnC hd ha hl
  unfold wp_X5_freeze_6_5
  rw [nI_clamp (by omega), e1]
  refine ⟨vp_in_nI (by omega) (by omega), ?_⟩
  rintro _ rfl
  refine gx_cnt m (fun t s => ∃ M1, s = (nI l, gx_vi D g a m x, nI (a + t), M1) ∧ gx_fr [] [25] [] M M1 ∧ (∀ s, s < m → M1.2.1 25 (gx_it D (a + s)) = gx_b (if s < t then (gx_rnd D g a m x).1 (a + s) else x.1 (a + s)))) ?_ (nI l, gx_vi D g a m x, nI a, M) ⟨M, rfl, gx_fr_rfl _ _ _ _, fun s hs => by rw [if_neg (by omega)]; exact hF s hs⟩
  rintro t _ k ht ⟨M1, rfl, hfr, h25⟩ hk
  obtain ⟨e1, e2, e3⟩ := gx_lnC hd (gx_AC_fr (by decide) (by decide) hfr ha) hl
  show wb_X5_freeze_6_5_8 (fun x2 x3 x4 M => k (x2, x3, x4, M)) Q (nI l) (gx_vi D g a m x) (nI (a + t)) M1
  unfold wb_X5_freeze_6_5_8
  rw [nI_1 l, nI_clamp (n := l + 1) (by omega), e2, nI_leI (by omega) (by omega), nI_clamp (n := a + t) (by omega)]
  refine ⟨vp_in_nI (by omega) (by omega), fun hc => ?_, fun hc => ⟨vp_in_nI (by omega) (by omega), ?_⟩⟩
  · have e : t = m := by omega
    subst e
    exact h M1 hfr (fun s hs => by rw [h25 s hs, if_pos hs])
  · have htm : t < m := by omega
    obtain ⟨f1, f2⟩ := e3 t htm
    have hF1 : M1.2.1 25 (gx_it D (a + t)) = gx_b (x.1 (a + t)) := by rw [h25 t htm, if_neg (by omega)]
    have st : ∀ b : Bool, b = (gx_rnd D g a m x).1 (a + t) → ∀ v : Int32, v = gx_b b → wb_X5_freeze_6_5_99 (fun x2 x3 x4 M => k (x2, x3, x4, M)) Q (nI l) (gx_vi D g a m x) (nI (a + t)) v (nI (gx_it D (a + t))) M1 := by
      rintro _ rfl _ rfl
      unfold wb_X5_freeze_6_5_99
      rw [nI_clamp (by omega), gx_b1]
      refine ⟨vp_in_nI (by omega) (by omega), ?_⟩
      rintro _ rfl _ rfl
      rw [nI_1]
      refine hk _ htm ⟨_, rfl, gx_fr_sa _ _ hfr (by decide), fun s hs => ?_⟩
      rw [gx_ra]
      by_cases e : s = t
      · rw [e, pk_us, if_pos (by omega)]
      · rw [pk_un (fun e4 => e (by have := gx_it_inj (by omega) (by omega) e4; omega)), h25 s hs]
        by_cases e5 : s < t
        · rw [if_pos e5, if_pos (by omega)]
        · rw [if_neg e5, if_neg (by omega)]
    have st2 : ∀ (v : Int32) (b : Bool), v = gx_b b → (x.1 (a + t) = false → b = gx_ag (gx_vi D g a m x) (gx_V D g a m x (a + t))) → wb_X5_freeze_6_5_67 (fun x2 x3 x4 M => k (x2, x3, x4, M)) Q (nI l) (gx_vi D g a m x) (nI (a + t)) (nI (gx_it D (a + t))) v M1 := by
      rintro _ b rfl hb
      unfold wb_X5_freeze_6_5_67 wb_X5_freeze_6_5_94
      rw [nI_clamp (by omega), hF1, gx_b0, gx_b0]
      refine ⟨vp_in_nI (by omega) (by omega), fun h1 => ⟨fun h2 => st true ?_ _ rfl, fun h2 => ⟨fun h3 => st false ?_ _ rfl, fun h3 => st true ?_ _ rfl⟩⟩, fun h1 => st true ?_ _ rfl⟩
      · unfold gx_rnd; simp only; rw [h1, h2]; simp
      · unfold gx_rnd; simp only; rw [h1, ← hb h1, h3]; simp [h2]
      · have h4 : b = true := by simpa using h3
        unfold gx_rnd; simp only; rw [h1, ← hb h1, h4]; simp
      · have h4 : x.1 (a + t) = true := by simpa using h1
        unfold gx_rnd; simp only; rw [h4]; simp
    rw [f1]
    rintro _ rfl
    rw [nI_clamp (by omega)]
    have hV1 : x.1 (a + t) = false → M1.2.1 24 (gx_it D (a + t)) = gx_V D g a m x (a + t) := fun hb => by rw [hfr.2.1 24 (by decide)]; exact hV t htm hb
    refine ⟨fun h1 => ⟨vp_in_nI (by omega) (by omega), fun h2 => st2 0 false rfl (fun hb => ?_), fun h2 => st2 1 true rfl (fun hb => ?_)⟩, fun h1 => ⟨vp_in_nI (by omega) (by omega), fun h2 => st2 0 false rfl (fun hb => ?_), fun h2 => st2 1 true rfl (fun hb => ?_)⟩⟩
    · rw [hV1 hb] at h2; unfold gx_ag; rw [if_pos h1]; simp [h2]
    · rw [hV1 hb] at h2; unfold gx_ag; rw [if_pos h1]; simp [h2]
    · rw [hV1 hb] at h2; unfold gx_ag; rw [if_neg h1]; simp [h2]
    · rw [hV1 hb] at h2; unfold gx_ag; rw [if_neg h1]; simp [h2]
