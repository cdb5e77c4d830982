theorem gx_ln_eq {D : gx_D} {l a m : Nat} (hl : gx_ln D l a m) : gx_s D l = a ∧ gx_s D (l + 1) - gx_s D l = m := by
  obtain ⟨l1, l2, l3⟩ := hl
  omega
theorem gx_xf_eq {D : gx_D} {l a m : Nat} (hl : gx_ln D l a m) : gx_xf D l = gx_rs D (gx_gr D a m) a m (gx_nr D (gx_gr D a m) a m) ∧ gx_rn D l = gx_nr D (gx_gr D a m) a m ∧ gx_fs D l = gx_av D m - gx_sm (gx_rs D (gx_gr D a m) a m (gx_nr D (gx_gr D a m) a m)).2 a m := by
  obtain ⟨h1, h2⟩ := gx_ln_eq hl
  unfold gx_fs gx_xf gx_rn
  rw [h2, h1]
  exact ⟨rfl, rfl, rfl⟩
theorem gx_faoC {D : gx_D} {M : fx_Mem} (hv : gx_CV D M) (hd : gx_ok D) (ha : gx_AC D M) {l a m : Nat} (hl : gx_ln D l a m) {Q : Int32 → fx_Mem → Prop}
    (h : ∀ M', gx_fr [] [20, 25] [] M M' → (∀ t, t < m → M'.2.1 20 (gx_it D (a + t)) = gx_h D (a + t)) → (∀ t, t < m → M'.2.1 25 (gx_it D (a + t)) = gx_b (gx_F0 D (gx_gr D a m) (a + t))) → (∀ i, (∀ t, t < m → i ≠ gx_it D (a + t)) → M'.2.1 20 i = M.2.1 20 i) → Q (gx_b (gx_gr D a m)) M') : wp_X5_freezeAtOnce_6_1_5 (nI l) M Q := by
  obtain ⟨m1, m2, m3, m4, m5⟩ := gx_ln_b hd hl
  obtain ⟨e1, e2, e3⟩ := gx_lnC hd ha hl
  unfold wp_X5_freezeAtOnce_6_1_5
  rw [nI_1 l, nI_clamp (n := l) (by omega), nI_clamp (n := l + 1) (by omega), e1, e2]
  refine ⟨vp_in_nI (by omega) (by omega), ?_⟩
  rintro _ rfl
  refine ⟨vp_in_nI (by omega) (by omega), ?_⟩
  rintro _ rfl
  refine gx_cnt m (fun t s => s = (nI l, nI a, nI (a + m), gx_sm (gx_h D) a t, nI (a + t), M)) ?_ (nI l, nI a, nI (a + m), 0, nI a, M) rfl
  rintro t _ k ht rfl hk
  show wb_X5_freezeAtOnce_6_1_5_25 (fun x3 x4 x5 x6 x7 M => k (x3, x4, x5, x6, x7, M)) (wb_X5_freezeAtOnce_6_1_5_54 Q) Q (nI l) (nI a) (nI (a + m)) (gx_sm (gx_h D) a t) (nI (a + t)) M
  unfold wb_X5_freezeAtOnce_6_1_5_25
  rw [nI_leI (by omega) (by omega), nI_clamp (n := a + t) (by omega)]
  refine ⟨fun hc => ?_, fun hc => ⟨vp_in_nI (by omega) (by omega), ?_⟩⟩
  rotate_left
  · have htm : t < m := by omega
    obtain ⟨f1, f2⟩ := e3 t htm
    rw [f1, gx_hyC hv hd f2]
    rintro _ rfl _ rfl
    rw [nI_1]
    exact hk _ htm rfl
  have e : t = m := by omega
  subst e
  unfold wb_X5_freezeAtOnce_6_1_5_54
  rw [gx_avC hv hd ha hl]
  have key : ∀ s0 : Int32, s0 = gx_b (gx_gr D a t) → wb_X5_freezeAtOnce_6_1_5_70 Q (nI a) (nI (a + t)) s0 M := by
    rintro _ rfl
    generalize hg : gx_gr D a t = g at *
    unfold wb_X5_freezeAtOnce_6_1_5_70
    refine gx_cnt t (fun u s => ∃ M1, s = (nI (a + t), gx_b g, nI (a + u), M1) ∧ gx_fr [] [20, 25] [] M M1 ∧ (∀ s, s < u → M1.2.1 20 (gx_it D (a + s)) = gx_h D (a + s) ∧ M1.2.1 25 (gx_it D (a + s)) = gx_b (gx_F0 D g (a + s))) ∧ (∀ i, (∀ s, s < t → i ≠ gx_it D (a + s)) → M1.2.1 20 i = M.2.1 20 i)) ?_ (nI (a + t), gx_b g, nI a, M) ⟨M, rfl, gx_fr_rfl _ _ _ _, fun s hs => absurd hs (by omega), fun i _ => rfl⟩
    rintro u _ k2 hu ⟨M1, rfl, hfr, hh, hout⟩ hk2
    have hv1 := gx_CV_fr hd.1 (by decide) (by decide) hfr hv
    obtain ⟨e1, e2, e3⟩ := gx_lnC hd (gx_AC_fr (by decide) (by decide) hfr ha) hl
    show wb_X5_freezeAtOnce_6_1_5_76 (fun x5 x7 x8 M => k2 (x5, x7, x8, M)) Q (nI (a + t)) (gx_b g) (nI (a + u)) M1
    unfold wb_X5_freezeAtOnce_6_1_5_76
    rw [nI_leI (by omega) (by omega), nI_clamp (n := a + u) (by omega)]
    refine ⟨fun hc2 => ⟨gx_bx g, ?_⟩, fun hc2 => ⟨vp_in_nI (by omega) (by omega), ?_⟩⟩
    · have e9 : u = t := by omega
      subst e9
      exact h M1 hfr (fun s hs => (hh s hs).1) (fun s hs => (hh s hs).2) hout
    · have hut : u < t := by omega
      obtain ⟨f1, f2⟩ := e3 u hut
      rw [f1]
      rintro _ rfl
      rw [gx_hyC hv1 hd f2, nI_clamp (by omega)]
      refine ⟨vp_in_nI (by omega) (by omega), vp_in_nI (by omega) (by omega), ?_⟩
      rintro _ rfl
      have st : ∀ b : Bool, b = gx_F0 D g (a + u) → ∀ v : Int32, v = gx_b b → wb_X5_freezeAtOnce_6_1_5_180 (fun x5 x7 x8 M => k2 (x5, x7, x8, M)) Q (nI (a + t)) (gx_b g) (nI (a + u)) v (nI (gx_it D (a + u))) (fx_sa M1 20 (gx_it D (a + u)) (gx_hyp (D.1 (gx_it D (a + u))))) := by
        rintro _ rfl _ rfl
        unfold wb_X5_freezeAtOnce_6_1_5_180
        rw [nI_clamp (by omega), gx_b1]
        refine ⟨vp_in_nI (by omega) (by omega), ?_⟩
        rintro _ rfl _ rfl
        rw [nI_1]
        refine hk2 _ hut ⟨_, rfl, gx_fr_sa _ _ (gx_fr_sa _ _ hfr (by decide)) (by decide), fun s hs => ?_, fun i hi => ?_⟩
        · rw [gx_ra, gx_rb _ _ _ (by decide), gx_ra, gx_rb _ _ _ (by decide)]
          by_cases e9 : s = u
          · rw [e9, pk_us, pk_us]; exact ⟨rfl, rfl⟩
          · have e8 : gx_it D (a + s) ≠ gx_it D (a + u) := fun e4 => e9 (by have := gx_it_inj (by omega) (by omega) e4; omega)
            rw [pk_un e8, pk_un e8]; exact hh s (by omega)
        · rw [gx_rb _ _ _ (by decide), gx_ra, pk_un (hi u hut)]; exact hout i hi
      have r0 := hv1.2.2.2.2.2.2 _ f2 0 (by decide)
      have r1 := hv1.2.2.2.2.2.2 _ f2 1 (by decide)
      have r2 := hv1.2.2.2.2.2.2 _ f2 2 (by decide)
      rw [gx_rb _ _ _ (by omega), gx_ra, pk_us, r0, r1, r2, gx_b0]
      unfold wb_X5_freezeAtOnce_6_1_5_175 wb_X5_freezeAtOnce_6_1_5_146
      refine ⟨fun hg0 => ⟨fun h1 => st true ?_ _ rfl, fun h1 => ⟨vp_in_nI (by omega) (by omega), fun h2 => st false ?_ _ rfl, fun h2 => st true ?_ _ rfl⟩⟩, fun hg0 => ⟨fun h1 => st true ?_ _ rfl, fun h1 => ⟨vp_in_nI (by omega) (by omega), fun h2 => st false ?_ _ rfl, fun h2 => st true ?_ _ rfl⟩⟩⟩
      · unfold gx_F0 gx_P gx_h; rw [hg0]; simp [h1]
      · unfold gx_F0 gx_P gx_h; rw [hg0]; simp [h1, h2]
      · unfold gx_F0 gx_P gx_h; rw [hg0]; simp [h2]
      · have hg1 : g = true := by simpa using hg0
        unfold gx_F0 gx_P gx_h; rw [hg1]; simp [h1]
      · have hg1 : g = true := by simpa using hg0
        unfold gx_F0 gx_P gx_h; rw [hg1]; simp [h1, h2]
      · have hg1 : g = true := by simpa using hg0
        unfold gx_F0 gx_P gx_h; rw [hg1]; simp [h2]
  refine ⟨fun h1 => key 0 ?_, fun h1 => key 1 ?_⟩
  · unfold gx_gr; simp [h1, gx_b]
  · unfold gx_gr; simp [h1, gx_b]
theorem gx_abs {x : Int32} (h : -2147483648 < x.toInt) : (if 0 ≤ x then x else 0 - x) = nI x.toInt.natAbs := by
  have hr := gx_rg x
  have hz : (0 : Int32).toInt = 0 := rfl
  rw [fa_eq, nI_toInt (by omega)]
  split
  · rename_i h1; rw [fa_le, hz] at h1; omega
  · rename_i h1; rw [fa_le, hz] at h1
    rw [gx_ts (by rw [hz]; omega) (by rw [hz]; omega), hz]; omega
theorem gx_dv_0 {p m : Nat} (t : Nat) : gx_dv p (fun _ => 0) m t = 0 := by
  unfold gx_dv
  rw [fb_sm_const, Nat.mul_zero, if_pos rfl]
theorem gx_szC {D : gx_D} {M : fx_Mem} (hv : gx_CV D M) (hd : gx_ok D) (ha : gx_AC D M) {l a m : Nat} (hl : gx_ln D l a m) {Q : fx_Mem → Prop}
    (h : ∀ M', gx_fr [] [16, 20, 22, 23, 24, 25] [15, 17] M M' → (∀ t, t < m → M'.2.1 20 (gx_it D (a + t)) = (gx_xf D l).2 (a + t)) → M'.2.1 22 l = nI (gx_rn D l) → M'.2.1 23 l = gx_fs D l → (∀ j, j ≠ l → M'.2.1 22 j = M.2.1 22 j ∧ M'.2.1 23 j = M.2.1 23 j) → (∀ i, (∀ t, t < m → i ≠ gx_it D (a + t)) → M'.2.1 20 i = M.2.1 20 i) → Q M') : wp_X5_findSizes_6_1_5_4 (nI l) M Q := by
  obtain ⟨m1, m2, m3, m4, m5⟩ := gx_ln_b hd hl
  obtain ⟨x1, x2, x3⟩ := gx_xf_eq hl
  rw [x1, x2, x3] at h
  generalize hg : gx_gr D a m = g at h
  unfold wp_X5_findSizes_6_1_5_4
  refine gx_faoC hv hd ha hl (fun M1 hfr1 hz1 hf1 ho1 => ?_)
  rw [hg] at hf1 ⊢
  rw [nI_clamp (by omega)]
  refine ⟨vp_in_nI (by omega) (by omega), ?_⟩
  rintro _ rfl
  have hfr2 : gx_fr [] [16, 20, 22, 23, 24, 25] [15, 17] M (fx_sa M1 22 l 0) := gx_fr_sa _ _ (gx_fr_mo hfr1 (by decide) (by decide) (by decide)) (by decide)
  refine gx_cnt (gx_nr D g a m) (fun r s => ∃ M2, s = (nI l, gx_b g, nI (r + 1), M2) ∧ gx_fr [] [16, 20, 22, 23, 24, 25] [15, 17] M M2 ∧ (∀ t, t < m → M2.2.1 20 (gx_it D (a + t)) = (gx_rs D g a m r).2 (a + t)) ∧ (∀ t, t < m → M2.2.1 25 (gx_it D (a + t)) = gx_b ((gx_rs D g a m r).1 (a + t))) ∧ M2.2.1 22 l = nI r ∧ (∀ j, j ≠ l → M2.2.1 22 j = M.2.1 22 j ∧ M2.2.1 23 j = M.2.1 23 j) ∧ (∀ i, (∀ t, t < m → i ≠ gx_it D (a + t)) → M2.2.1 20 i = M.2.1 20 i)) ?_ (nI l, gx_b g, 1, fx_sa M1 22 l 0) ⟨_, rfl, hfr2, fun t ht => by rw [gx_rb _ _ _ (by decide)]; exact hz1 t ht, fun t ht => by rw [gx_rb _ _ _ (by decide)]; exact hf1 t ht, by rw [gx_ra, pk_us]; rfl, fun j hj => by rw [gx_ra, pk_un hj, gx_rb _ _ _ (by decide), hfr1.2.1 22 (by decide), hfr1.2.1 23 (by decide)]; exact ⟨rfl, rfl⟩, fun i hi => by rw [gx_rb _ _ _ (by decide)]; exact ho1 i hi⟩
  rintro r _ k hr ⟨M2, rfl, hfr, hz, hf, h22, hoj, hout⟩ hk
  have hnr := gx_nr_le D g a m
  have hv2 := gx_CV_fr hd.1 (by decide) (by decide) hfr hv
  have ha2 := gx_AC_fr (by decide) (by decide) hfr ha
  have hyes := gx_nr_yes hd hl g
  have exit : r = gx_nr D g a m → wb_X5_findSizes_6_1_5_4_120 Q (nI l) M2 := by
    intro er
    unfold wb_X5_findSizes_6_1_5_4_120
    refine gx_splC hv2 hd ha2 hl hf hz ?_
    rw [nI_clamp (by omega)]
    refine ⟨vp_in_nI (by omega) (by omega), ?_⟩
    rintro _ rfl
    rw [← er] at hyes h
    refine h _ (gx_fr_sa _ _ hfr (by decide)) (fun t ht => by rw [gx_rb _ _ _ (by decide)]; exact hz t ht) (by rw [gx_rb _ _ _ (by decide)]; exact h22) ?_ (fun j hj => by rw [gx_ra, pk_un hj, gx_rb _ _ _ (by decide)]; exact hoj j hj) (fun i hi => by rw [gx_rb _ _ _ (by decide)]; exact hout i hi)
    rw [gx_ra, pk_us]
    unfold gx_lf
    rw [gx_sm_cong (g := (gx_rs D g a m r).2) (fun t ht => by rw [gx_all_iff.mp hyes t ht]; rfl)]
  show wb_X5_findSizes_6_1_5_4_21 (fun x4 x5 x6 M => k (x4, x5, x6, M)) (wb_X5_findSizes_6_1_5_4_120 Q) Q (nI l) (gx_b g) (nI (r + 1)) M2
  unfold wb_X5_findSizes_6_1_5_4_21
  rw [show (20 : Int32) = nI 20 from rfl, nI_ltI (by omega) (by omega)]
  refine ⟨fun hc => exit (by omega), fun hc => ?_⟩
  refine gx_isfC hd ha2 hl hf ?_
  rw [gx_b0]
  refine ⟨fun hnf => ?_, fun hnf => exit ?_⟩
  rotate_left
  · rcases Nat.lt_or_ge r (gx_nr D g a m) with e | e
    · exact absurd (gx_nr_no e) hnf
    · omega
  have hrn : r < gx_nr D g a m := by
    rcases Nat.lt_or_ge r (gx_nr D g a m) with e | e
    · exact e
    · rw [show r = gx_nr D g a m by omega] at hnf; rw [hyes] at hnf; exact absurd hnf (by decide)
  have hxb := gx_rs_b hd hl g r
  have hlb := gx_lf_b hd hl hxb
  generalize hx : gx_rs D g a m r = x at hz hf hxb hlb hnf
  refine gx_splC hv2 hd ha2 hl hf hz ?_
  refine gx_weiC hv2 hd ha2 hl hf g _ (fun M3 hfr3 hw3 => ?_)
  have ha3 := gx_AC_fr (by decide) (by decide) hfr3 ha2
  have hv3 := gx_CV_fr hd.1 (by decide) (by decide) hfr3 hv2
  obtain ⟨e1, e2, e3⟩ := gx_lnC hd ha3 hl
  rw [nI_1 l, nI_clamp (n := l + 1) (by omega), nI_clamp (n := l) (by omega), e1, e2, pk_sub (by omega), show a + m - a = m by omega, gx_abs (by omega)]
  refine ⟨vp_in_nI (by omega) (by omega), vp_in_nI (by omega) (by omega), ?_⟩
  refine gx_divC (w := fun t => if gx_fx g (gx_lf D a m x) then gx_w D g x.1 a t else 0) (by omega) (by omega) (fun t ht => by
    have := gx_w_le hd hl g x.1 ht
    split <;> omega) hw3 (fun M4 hfr4 h16 => ?_)
  have ha4 := gx_AC_fr (by decide) (by decide) hfr4 ha3
  have hv4 := gx_CV_fr hd.1 (by decide) (by decide) hfr4 hv3
  have hf4 : ∀ t, t < m → M4.2.1 25 (gx_it D (a + t)) = gx_b (x.1 (a + t)) := fun t ht => by rw [hfr4.2.1 25 (by decide), hfr3.2.1 25 (by decide)]; exact hf t ht
  have hz4 : ∀ t, t < m → M4.2.1 20 (gx_it D (a + t)) = x.2 (a + t) := fun t ht => by rw [hfr4.2.1 20 (by decide), hfr3.2.1 20 (by decide)]; exact hz t ht
  have hsh : ∀ t, t < m → M4.2.1 16 t = nI (gx_sh D g a m x t) := by
    intro t ht
    rw [h16 t ht]
    unfold gx_sh
    by_cases hb : gx_fx g (gx_lf D a m x) = true
    · simp only [hb, if_true]
    · simp only [hb, Bool.false_eq_true, if_false, gx_dv_0]
  refine gx_rszC hv4 hd ha4 hl hf4 hz4 g hsh (fun M5 hfr5 hz5 hV5 ho5 => ?_)
  have ha5 := gx_AC_fr (by decide) (by decide) hfr5 ha4
  have hf5 : ∀ t, t < m → M5.2.1 25 (gx_it D (a + t)) = gx_b (x.1 (a + t)) := fun t ht => by rw [hfr5.2.1 25 (by decide)]; exact hf4 t ht
  refine gx_frzC hd ha5 hl hf5 g hV5 (fun M6 hfr6 hf6 => ?_)
  refine ⟨vp_in_nI (by omega) (by omega), ?_⟩
  rintro _ rfl _ rfl
  have hfrA : gx_fr [] [16, 20, 22, 23, 24, 25] [15, 17] M2 M6 := gx_fr_tr (gx_fr_tr (gx_fr_tr (gx_fr_mo hfr3 (by decide) (by decide) (by decide)) (gx_fr_mo hfr4 (by decide) (by decide) (by decide))) (gx_fr_mo hfr5 (by decide) (by decide) (by decide))) (gx_fr_mo hfr6 (by decide) (by decide) (by decide))
  have e22 : M6.2.1 22 = M2.2.1 22 := by rw [hfr6.2.1 22 (by decide), hfr5.2.1 22 (by decide), hfr4.2.1 22 (by decide), hfr3.2.1 22 (by decide)]
  have e23 : M6.2.1 23 = M2.2.1 23 := by rw [hfr6.2.1 23 (by decide), hfr5.2.1 23 (by decide), hfr4.2.1 23 (by decide), hfr3.2.1 23 (by decide)]
  have ers : gx_rs D g a m (r + 1) = gx_rnd D g a m x := by rw [← hx]; rfl
  rw [nI_1]
  refine hk _ hrn ⟨_, rfl, gx_fr_sa _ _ (gx_fr_tr hfr hfrA) (by decide), fun t ht => ?_, fun t ht => ?_, by rw [gx_ra, pk_us], fun j hj => ?_, fun i hi => ?_⟩
  · rw [gx_rb _ _ _ (by decide), hfr6.2.1 20 (by decide), ers]; exact hz5 t ht
  · rw [gx_rb _ _ _ (by decide), ers]; exact hf6 t ht
  · rw [gx_ra, pk_un hj, gx_rb _ _ _ (by decide), e22, e23]; exact hoj j hj
  · rw [gx_rb _ _ _ (by decide), hfr6.2.1 20 (by decide), ho5 i hi, hfr4.2.1 20 (by decide), hfr3.2.1 20 (by decide)]; exact hout i hi
