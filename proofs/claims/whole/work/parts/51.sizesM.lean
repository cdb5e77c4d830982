theorem gx_rndM {D : gx_D} {M : fx_Mem} (hv : gx_MV D M) (hd : gx_ok D) (ha : gx_AM D M) {l a m : Nat} (hl : gx_ln D l a m) {x : gx_FS} (hx : gx_xb a m x) (hF : ∀ t, t < m → M.2.1 46 (a + t) = gx_b (x.1 (a + t))) (hS : ∀ t, t < m → M.2.1 40 (a + t) = x.2 (a + t)) (g : Bool) {Q : fx_Mem → Prop}
    (h : ∀ M', gx_fr [] [40, 46, 55] [36, 37, 38] M M' → (∀ t, t < m → M'.2.1 40 (a + t) = (gx_rnd D g a m x).2 (a + t)) → (∀ t, t < m → M'.2.1 46 (a + t) = gx_b ((gx_rnd D g a m x).1 (a + t))) → (∀ k, k < a ∨ a + m ≤ k → M'.2.1 40 k = M.2.1 40 k) → Q M') : wp_X7_round_8 (nI l) (gx_b g) M Q := by
  obtain ⟨m1, m2, m3, m4, m5⟩ := gx_ln_b hd hl
  unfold wp_X7_round_8
  refine gx_lfM hv hd ha hl hF hS ?_
  refine gx_hasM hv hd ha hl hx hF g (fun M1 b hfr1 hsh1 h37 => ?_)
  have hv1 := gx_MV_fr (by decide) (by decide) hfr1 hv
  have ha1 := gx_AM_fr (by decide) (by decide) hfr1 ha
  obtain ⟨e1, e2, e3⟩ := gx_lnM hd ha1 hl
  rw [nI_clamp (n := l) (by omega), e1]
  refine ⟨vp_in_nI (by omega) (by omega), ?_⟩
  rintro _ rfl
  have hfr1' : gx_fr [] [40, 46, 55] [36, 37, 38] M M1 := gx_fr_mo hfr1 (by decide) (by decide) (by decide)
  refine gx_cnt m (fun t s => ∃ M2, s = (nI l, gx_b g, gx_b b, gx_sm (fun k => if x.1 k then 0 else gx_V D g a m x k) a t, nI (a + t), M2) ∧ gx_fr [] [40, 55] [] M1 M2 ∧ (∀ s, s < m → M2.2.1 40 (a + s) = if s < t then (gx_rnd D g a m x).2 (a + s) else x.2 (a + s)) ∧ (∀ s, s < t → x.1 (a + s) = false → M2.2.1 55 (a + s) = gx_V D g a m x (a + s)) ∧ (∀ k, k < a ∨ a + m ≤ k → M2.2.1 40 k = M.2.1 40 k)) ?_ (nI l, gx_b g, gx_b b, 0, nI a, M1) ⟨M1, rfl, gx_fr_rfl _ _ _ _, fun s hs => by rw [if_neg (by omega), hfr1.2.1 40 (by decide)]; exact hS s hs, fun s hs => absurd hs (by omega), fun k _ => by rw [hfr1.2.1 40 (by decide)]⟩
  rintro t _ k ht ⟨M2, rfl, hfr, h40, h55, hout⟩ hk
  have hv2 := gx_MV_fr (by decide) (by decide) hfr hv1
  have ha2 := gx_AM_fr (by decide) (by decide) hfr ha1
  obtain ⟨e1, e2, e3⟩ := gx_lnM hd ha2 hl
  show wb_X7_round_8_23 (fun x1 x2 x3 x4 x5 M => k (x1, x2, x3, x4, x5, M)) (wb_X7_round_8_161 Q) Q (nI l) (gx_b g) (gx_b b) (gx_sm (fun k => if x.1 k then 0 else gx_V D g a m x k) a t) (nI (a + t)) M2
  unfold wb_X7_round_8_23
  rw [nI_clamp (n := l) (by omega), e1, e2, nI_add, nI_leI (by omega) (by omega), nI_clamp (n := a + t) (by omega)]
  have hFt : ∀ t, t < m → M2.2.1 46 (a + t) = gx_b (x.1 (a + t)) := fun t ht => by rw [hfr.2.1 46 (by decide), hfr1.2.1 46 (by decide)]; exact hF t ht
  refine ⟨vp_in_nI (by omega) (by omega), vp_in_nI (by omega) (by omega), fun hc => ?_, fun hc => ⟨vp_in_nI (by omega) (by omega), ?_⟩⟩
  · have e : t = m := by omega
    subst e
    unfold wb_X7_round_8_161
    rw [nI_clamp (n := l) (by omega), e1]
    refine ⟨vp_in_nI (by omega) (by omega), ?_⟩
    rintro _ rfl
    refine gx_cnt t (fun u s => ∃ M3, s = (nI l, gx_vi D g a t x, nI (a + u), M3) ∧ gx_fr [] [46] [] M2 M3 ∧ (∀ s, s < t → M3.2.1 46 (a + s) = gx_b (if s < u then (gx_rnd D g a t x).1 (a + s) else x.1 (a + s)))) ?_ (nI l, gx_vi D g a t x, nI a, M2) ⟨M2, rfl, gx_fr_rfl _ _ _ _, fun s hs => by rw [if_neg (by omega)]; exact hFt s hs⟩
    rintro u _ k2 hu ⟨M3, rfl, hfr3, h46⟩ hk2
    have ha3 := gx_AM_fr (by decide) (by decide) hfr3 ha2
    obtain ⟨e1, e2, e3⟩ := gx_lnM hd ha3 hl
    show wb_X7_round_8_169 (fun x1 x4 x5 M => k2 (x1, x4, x5, M)) Q (nI l) (gx_vi D g a t x) (nI (a + u)) M3
    unfold wb_X7_round_8_169
    rw [nI_clamp (n := l) (by omega), e1, e2, nI_add, nI_leI (by omega) (by omega), nI_clamp (n := a + u) (by omega)]
    refine ⟨vp_in_nI (by omega) (by omega), vp_in_nI (by omega) (by omega), fun hc2 => ?_, fun hc2 => ⟨vp_in_nI (by omega) (by omega), ?_⟩⟩
    · have e9 : u = t := by omega
      subst e9
      refine h M3 (gx_fr_tr hfr1' (gx_fr_tr (gx_fr_mo hfr (by decide) (by decide) (by decide)) (gx_fr_mo hfr3 (by decide) (by decide) (by decide)))) (fun s hs => by rw [hfr3.2.1 40 (by decide), h40 s hs, if_pos hs]) (fun s hs => by rw [h46 s hs, if_pos hs]) (fun k hk => by rw [hfr3.2.1 40 (by decide)]; exact hout k hk)
    · have hut : u < t := by omega
      have hF3 : M3.2.1 46 (a + u) = gx_b (x.1 (a + u)) := by rw [h46 u hut, if_neg (by omega)]
      have nxt : ∀ M4, gx_fr [] [46] [] M2 M4 → (∀ s, s < t → M4.2.1 46 (a + s) = gx_b (if s < u + 1 then (gx_rnd D g a t x).1 (a + s) else x.1 (a + s))) → wb_X7_round_8_242 (fun x1 x4 x5 M => k2 (x1, x4, x5, M)) Q (nI l) (gx_vi D g a t x) (nI (a + u)) M4 := by
        intro M4 hfr4 h4
        unfold wb_X7_round_8_242
        rintro _ rfl
        rw [nI_1]
        exact hk2 _ hut ⟨M4, rfl, hfr4, h4⟩
      have st : ∀ bb : Bool, bb = (gx_rnd D g a t x).1 (a + u) → ∀ v : Int32, v = gx_b bb → wb_X7_round_8_241 (fun x1 x4 x5 M => k2 (x1, x4, x5, M)) Q (nI l) (gx_vi D g a t x) (nI (a + u)) v (nI (a + u)) M3 := by
        rintro _ rfl _ rfl
        unfold wb_X7_round_8_241
        rw [nI_clamp (by omega), gx_b1]
        refine ⟨vp_in_nI (by omega) (by omega), ?_⟩
        rintro _ rfl
        refine nxt _ (gx_fr_sa _ _ hfr3 (by decide)) (fun s hs => ?_)
        rw [gx_ra]
        by_cases e : s = u
        · rw [e, pk_us, if_pos (by omega)]
        · rw [pk_un (by omega), h46 s hs]
          by_cases e5 : s < u
          · rw [if_pos e5, if_pos (by omega)]
          · rw [if_neg e5, if_neg (by omega)]
      rw [hF3, gx_b0]
      unfold wb_X7_round_8_236 wb_X7_round_8_240
      have h55u : x.1 (a + u) = false → M3.2.1 55 (a + u) = gx_V D g a t x (a + u) := fun hb => by rw [hfr3.2.1 55 (by decide)]; exact h55 u hut hb
      refine ⟨fun h1 => ?_, fun h1 => ?_⟩
      · rw [h55u h1]
        refine ⟨fun h2 => st true ?_ _ rfl, fun h2 => ⟨fun h3 => ⟨vp_in_nI (by omega) (by omega), fun h4 => st false ?_ _ rfl, fun h4 => st true ?_ _ rfl⟩, fun h3 => ⟨vp_in_nI (by omega) (by omega), fun h4 => st false ?_ _ rfl, fun h4 => st true ?_ _ rfl⟩⟩⟩
        · unfold gx_rnd; simp only; rw [h1]; simp [h2]
        · unfold gx_rnd gx_ag; simp only; rw [h1, if_pos h3]; simp [h2, h4]
        · unfold gx_rnd gx_ag; simp only; rw [h1, if_pos h3]; simp [h4]
        · unfold gx_rnd gx_ag; simp only; rw [h1, if_neg h3]; simp [h2, h4]
        · unfold gx_rnd gx_ag; simp only; rw [h1, if_neg h3]; simp [h4]
      · have h2 : x.1 (a + u) = true := by simpa using h1
        refine nxt _ hfr3 (fun s hs => ?_)
        rw [h46 s hs]
        by_cases e : s = u
        · rw [e, if_neg (by omega), if_pos (by omega)]; unfold gx_rnd; simp only; rw [h2]; rfl
        · by_cases e5 : s < u
          · rw [if_pos e5, if_pos (by omega)]
          · rw [if_neg e5, if_neg (by omega)]
  · have htm : t < m := by omega
    obtain ⟨f1, f2⟩ := e3 t htm
    rw [hFt t htm, gx_b0]
    refine ⟨fun hb => ?_, fun hb => ?_⟩
    · have key : ∀ v : Int32, gx_P D (a + t) 0 + v = gx_bf D g a m x (a + t) → wb_X7_round_8_103 (fun x1 x2 x3 x4 x5 M => k (x1, x2, x3, x4, x5, M)) (wb_X7_round_8_161 Q) Q (nI l) (gx_b g) (gx_b b) (gx_sm (fun k => if x.1 k then 0 else gx_V D g a m x k) a t) (nI (a + t)) v (gx_P D (a + t) 0) M2 := by
        intro v hvv
        unfold wb_X7_round_8_103 wb_X7_round_8_155
        rw [hvv]
        rintro _ rfl
        rw [nI_clamp (n := a + t) (by omega), f1, gx_clM hv2 hd f2]
        refine ⟨vp_in_nI (by omega) (by omega), vp_in_nI (by omega) (by omega), ?_⟩
        rintro _ rfl
        refine ⟨vp_in_nI (by omega) (by omega), vp_in_nI (by omega) (by omega), ?_⟩
        rintro _ rfl
        refine ⟨vp_in_nI (by omega) (by omega), ?_⟩
        rintro _ rfl _ rfl
        rw [nI_1, gx_ra, pk_us, gx_ra, pk_us]
        refine hk _ htm ⟨_, by rw [gx_sm_succ, hb]; rfl, gx_fr_sa _ _ (gx_fr_sa _ _ hfr (by decide)) (by decide), fun s hs => ?_, fun s hs hb2 => ?_, fun i hi => ?_⟩
        · rw [gx_rb _ _ _ (by decide), gx_ra]
          by_cases e : s = t
          · rw [e, pk_us, if_pos (by omega)]; unfold gx_rnd; simp only; rw [hb]; rfl
          · rw [pk_un (by omega), h40 s hs]
            by_cases e5 : s < t
            · rw [if_pos e5, if_pos (by omega)]
            · rw [if_neg e5, if_neg (by omega)]
        · rw [gx_ra]
          by_cases e : s = t
          · rw [e, pk_us]; rfl
          · rw [pk_un (by omega), gx_rb _ _ _ (by decide)]
            exact h55 s (by omega) hb2
        · rw [gx_rb _ _ _ (by decide), gx_ra, pk_un (by omega)]; exact hout i hi
      have st : ∀ v : Int32, v = nI (gx_sh D g a m x t) → wb_X7_round_8_77 (fun x1 x2 x3 x4 x5 M => k (x1, x2, x3, x4, x5, M)) (wb_X7_round_8_161 Q) Q (nI l) (gx_b g) (gx_b b) (gx_sm (fun k => if x.1 k then 0 else gx_V D g a m x k) a t) (nI (a + t)) v M2 := by
        rintro _ rfl
        unfold wb_X7_round_8_77
        rw [nI_clamp (n := a + t) (by omega), f1, (gx_of hv2 hd f2).1, gx_b0]
        refine ⟨vp_in_nI (by omega) (by omega), fun hg => key _ ?_, fun hg => key _ ?_⟩
        · unfold gx_bf; rw [hg, show a + t - a = t by omega]; rfl
        · have hg2 : g = true := by simpa using hg
          unfold gx_bf; rw [hg2, show a + t - a = t by omega]; rfl
      have hsh := hsh1 t htm
      rw [gx_b0, pk_sub (by omega), show a + t - a = t by omega, nI_clamp (n := t) (by omega)]
      refine ⟨fun hbb => st _ ?_, fun hbb => ⟨vp_in_nI (by omega) (by omega), vp_in_nI (by omega) (by omega), st _ ?_⟩⟩
      · rw [hsh, hbb]; rfl
      · have hb2 : b = true := by simpa using hbb
        rw [hsh, hb2, hfr.2.2 37 (by decide), h37 hb2 t htm, lN_i]; rfl
    · have hb2 : x.1 (a + t) = true := by simpa using hb
      unfold wb_X7_round_8_155
      rintro _ rfl
      rw [nI_1]
      refine hk _ htm ⟨M2, by simp only [gx_sm_succ, hb2, if_true, Int32.add_zero]; rfl, hfr, fun s hs => ?_, fun s hs hb3 => ?_, hout⟩
      · rw [h40 s hs]
        by_cases e : s = t
        · rw [e, if_neg (by omega), if_pos (by omega)]; unfold gx_rnd; simp only; rw [hb2]; rfl
        · by_cases e5 : s < t
          · rw [if_pos e5, if_pos (by omega)]
          · rw [if_neg e5, if_neg (by omega)]
      · by_cases e : s = t
        · rw [e, hb2] at hb3; exact absurd hb3 (by decide)
        · exact h55 s (by omega) hb3
theorem gx_szM {D : gx_D} {M : fx_Mem} (hv : gx_MV D M) (hd : gx_ok D) (ha : gx_AM D M) {l a m : Nat} (hl : gx_ln D l a m) {Q : fx_Mem → Prop}
    (h : ∀ M', gx_fr [] [40, 46, 49, 50, 55] [36, 37, 38] M M' → (∀ t, t < m → M'.2.1 40 (a + t) = (gx_xf D l).2 (a + t)) → M'.2.1 49 l = nI (gx_rn D l) → M'.2.1 50 l = gx_fs D l → (∀ j, j ≠ l → M'.2.1 49 j = M.2.1 49 j ∧ M'.2.1 50 j = M.2.1 50 j) → (∀ k, k < a ∨ a + m ≤ k → M'.2.1 40 k = M.2.1 40 k) → Q M') : wp_X7_findSizes_8 (nI l) M Q := by
  obtain ⟨m1, m2, m3, m4, m5⟩ := gx_ln_b hd hl
  obtain ⟨x1, x2, x3⟩ := gx_xf_eq hl
  rw [x1, x2, x3] at h
  obtain ⟨e1, e2, e3⟩ := gx_lnM hd ha hl
  unfold wp_X7_findSizes_8
  rw [nI_clamp (n := l) (by omega), e1]
  refine ⟨vp_in_nI (by omega) (by omega), ?_⟩
  rintro _ rfl
  refine gx_cnt m (fun t s => s = (nI l, gx_sm (gx_h D) a t, nI (a + t), M)) ?_ (nI l, 0, nI a, M) rfl
  rintro t _ k ht rfl hk
  show wb_X7_findSizes_8_9 (fun x1 x2 x3 M => k (x1, x2, x3, M)) (wb_X7_findSizes_8_45 Q) Q (nI l) (gx_sm (gx_h D) a t) (nI (a + t)) M
  unfold wb_X7_findSizes_8_9
  rw [nI_clamp (n := l) (by omega), e1, e2, nI_add, nI_leI (by omega) (by omega), nI_clamp (n := a + t) (by omega)]
  refine ⟨vp_in_nI (by omega) (by omega), vp_in_nI (by omega) (by omega), fun hc => ?_, fun hc => ⟨vp_in_nI (by omega) (by omega), ?_⟩⟩
  rotate_left
  · have htm : t < m := by omega
    obtain ⟨f1, f2⟩ := e3 t htm
    rw [f1, gx_hyM hv hd f2]
    rintro _ rfl _ rfl
    rw [nI_1]
    exact hk _ htm rfl
  have e : t = m := by omega
  subst e
  clear hk ht hc k
  unfold wb_X7_findSizes_8_45
  rw [gx_avM hv hd ha hl]
  have key : ∀ s0 : Int32, s0 = gx_b (gx_gr D a t) → wb_X7_findSizes_8_59 Q (nI l) s0 M := by
    rintro _ rfl
    generalize hg : gx_gr D a t = g at *
    unfold wb_X7_findSizes_8_59
    rw [nI_clamp (n := l) (by omega), e1]
    refine ⟨vp_in_nI (by omega) (by omega), ?_⟩
    rintro _ rfl
    refine gx_cnt t (fun u s => ∃ M1, s = (nI l, gx_b g, nI (a + u), M1) ∧ gx_fr [] [40, 46] [] M M1 ∧ (∀ s, s < u → M1.2.1 40 (a + s) = gx_h D (a + s) ∧ M1.2.1 46 (a + s) = gx_b (gx_F0 D g (a + s))) ∧ (∀ k, k < a ∨ a + t ≤ k → M1.2.1 40 k = M.2.1 40 k)) ?_ (nI l, gx_b g, nI a, M) ⟨M, rfl, gx_fr_rfl _ _ _ _, fun s hs => absurd hs (by omega), fun i _ => rfl⟩
    rintro u _ k2 hu ⟨M1, rfl, hfr, hh, hout⟩ hk2
    have hv1 := gx_MV_fr (by decide) (by decide) hfr hv
    have ha1 := gx_AM_fr (by decide) (by decide) hfr ha
    obtain ⟨e1, e2, e3⟩ := gx_lnM hd ha1 hl
    show wb_X7_findSizes_8_68 (fun x1 x3 x4 M => k2 (x1, x3, x4, M)) (wb_X7_findSizes_8_185 Q) Q (nI l) (gx_b g) (nI (a + u)) M1
    unfold wb_X7_findSizes_8_68
    rw [nI_clamp (n := l) (by omega), e1, e2, nI_add, nI_leI (by omega) (by omega), nI_clamp (n := a + u) (by omega)]
    refine ⟨vp_in_nI (by omega) (by omega), vp_in_nI (by omega) (by omega), fun hc2 => ?_, fun hc2 => ⟨vp_in_nI (by omega) (by omega), ?_⟩⟩
    · have e9 : u = t := by omega
      subst e9
      clear hk2 hu hc2 k2
      unfold wb_X7_findSizes_8_185
      rw [nI_clamp (n := l) (by omega)]
      refine ⟨vp_in_nI (by omega) (by omega), ?_⟩
      rintro _ rfl
      have hfr2 : gx_fr [] [40, 46, 49, 50, 55] [36, 37, 38] M (fx_sa M1 49 l 0) := gx_fr_sa _ _ (gx_fr_mo hfr (by decide) (by decide) (by decide)) (by decide)
      refine gx_cnt (gx_nr D g a u) (fun r s => ∃ M2, s = (nI l, gx_b g, M2) ∧ gx_fr [] [40, 46, 49, 50, 55] [36, 37, 38] M M2 ∧ (∀ t, t < u → M2.2.1 40 (a + t) = (gx_rs D g a u r).2 (a + t)) ∧ (∀ t, t < u → M2.2.1 46 (a + t) = gx_b ((gx_rs D g a u r).1 (a + t))) ∧ M2.2.1 49 l = nI r ∧ (∀ j, j ≠ l → M2.2.1 49 j = M.2.1 49 j ∧ M2.2.1 50 j = M.2.1 50 j) ∧ (∀ k, k < a ∨ a + u ≤ k → M2.2.1 40 k = M.2.1 40 k)) ?_ (nI l, gx_b g, fx_sa M1 49 l 0) ⟨_, rfl, hfr2, fun t ht => by rw [gx_rb _ _ _ (by decide)]; exact (hh t ht).1, fun t ht => by rw [gx_rb _ _ _ (by decide)]; exact (hh t ht).2, by rw [gx_ra, pk_us]; rfl, fun j hj => by rw [gx_ra, pk_un hj, gx_rb _ _ _ (by decide), hfr.2.1 49 (by decide), hfr.2.1 50 (by decide)]; exact ⟨rfl, rfl⟩, fun i hi => by rw [gx_rb _ _ _ (by decide)]; exact hout i hi⟩
      rintro r _ k hr ⟨M2, rfl, hfr3, hz, hf, h49, hoj, hout2⟩ hk
      have hv2 := gx_MV_fr (by decide) (by decide) hfr3 hv
      have ha2 := gx_AM_fr (by decide) (by decide) hfr3 ha
      have hyes := gx_nr_yes hd hl g
      have hnr := gx_nr_le D g a u
      show wb_X7_findSizes_8_192 (fun x1 x3 M => k (x1, x3, M)) (wb_X7_findSizes_8_219 Q) Q (nI l) (gx_b g) M2
      unfold wb_X7_findSizes_8_192
      refine gx_arfM hd ha2 hl hf ?_
      rw [gx_b0]
      refine ⟨fun hnf => ?_, fun hnf => ?_⟩
      · have hrn : r < gx_nr D g a u := by
          rcases Nat.lt_or_ge r (gx_nr D g a u) with e | e
          · exact e
          · rw [show r = gx_nr D g a u by omega] at hnf; rw [hyes] at hnf; exact absurd hnf (by decide)
        refine gx_rndM hv2 hd ha2 hl (gx_rs_b hd hl g r) hf hz g (fun M3 hfr4 hz3 hf3 ho3 => ?_)
        rw [nI_clamp (n := l) (by omega)]
        refine ⟨vp_in_nI (by omega) (by omega), vp_in_nI (by omega) (by omega), ?_⟩
        rintro _ rfl
        refine hk _ hrn ⟨_, rfl, gx_fr_sa _ _ (gx_fr_tr hfr3 (gx_fr_mo hfr4 (by decide) (by decide) (by decide))) (by decide), fun t ht => ?_, fun t ht => ?_, ?_, fun j hj => ?_, fun i hi => ?_⟩
        · rw [gx_rb _ _ _ (by decide)]; exact hz3 t ht
        · rw [gx_rb _ _ _ (by decide)]; exact hf3 t ht
        · rw [gx_ra, pk_us, hfr4.2.1 49 (by decide), h49, nI_1]
        · rw [gx_ra, pk_un hj, gx_rb _ _ _ (by decide), hfr4.2.1 49 (by decide), hfr4.2.1 50 (by decide)]; exact hoj j hj
        · rw [gx_rb _ _ _ (by decide), ho3 i hi]; exact hout2 i hi
      · have er : r = gx_nr D g a u := by
          rcases Nat.lt_or_ge r (gx_nr D g a u) with e | e
          · exact absurd (gx_nr_no e) hnf
          · omega
        rw [← er] at hyes h
        unfold wb_X7_findSizes_8_219
        rw [gx_avM hv2 hd ha2 hl, nI_clamp (n := l) (by omega)]
        refine ⟨vp_in_nI (by omega) (by omega), ?_⟩
        rintro _ rfl
        obtain ⟨e1, e2, e3⟩ := gx_lnM hd ha2 hl
        rw [gx_rb _ _ _ (by decide), e1]
        refine ⟨vp_in_nI (by omega) (by omega), ?_⟩
        rintro _ rfl
        refine gx_cnt u (fun v s => ∃ M3, s = (nI l, nI (a + v), M3) ∧ gx_fr [] [50] [] M2 M3 ∧ M3.2.1 50 l = gx_av D u - gx_sm (gx_rs D g a u r).2 a v ∧ (∀ j, j ≠ l → M3.2.1 50 j = M2.2.1 50 j)) ?_ (nI l, nI a, fx_sa M2 50 l (gx_av D u)) ⟨_, rfl, gx_fr_sa _ _ (gx_fr_rfl _ _ _ _) (by decide), by rw [gx_ra, pk_us]; show _ = gx_av D u - 0; rw [Int32.sub_zero], fun j hj => by rw [gx_ra, pk_un hj]⟩
        rintro v _ k3 hv3 ⟨M3, rfl, hfr5, h50, hoj3⟩ hk3
        have ha3 := gx_AM_fr (by decide) (by decide) hfr5 ha2
        obtain ⟨e1, e2, e3⟩ := gx_lnM hd ha3 hl
        show wb_X7_findSizes_8_238 (fun x1 x4 M => k3 (x1, x4, M)) Q (nI l) (nI (a + v)) M3
        unfold wb_X7_findSizes_8_238
        rw [nI_clamp (n := l) (by omega), e1, e2, nI_add, nI_leI (by omega) (by omega), nI_clamp (n := a + v) (by omega)]
        refine ⟨vp_in_nI (by omega) (by omega), vp_in_nI (by omega) (by omega), fun hc3 => ?_, fun hc3 => ⟨vp_in_nI (by omega) (by omega), vp_in_nI (by omega) (by omega), vp_in_nI (by omega) (by omega), ?_⟩⟩
        · have e9 : v = u := by omega
          subst e9
          refine h M3 (gx_fr_tr hfr3 (gx_fr_mo hfr5 (by decide) (by decide) (by decide))) (fun t ht => by rw [hfr5.2.1 40 (by decide)]; exact hz t ht) (by rw [hfr5.2.1 49 (by decide)]; exact h49) h50 (fun j hj => by rw [hfr5.2.1 49 (by decide), hoj3 j hj]; exact hoj j hj) (fun i hi => by rw [hfr5.2.1 40 (by decide)]; exact hout2 i hi)
        · have hvu : v < u := by omega
          rintro _ rfl _ rfl
          rw [nI_1, h50, hfr5.2.1 40 (by decide), hz v hvu, gx_ss]
          refine hk3 _ hvu ⟨_, rfl, gx_fr_sa _ _ hfr5 (by decide), by rw [gx_ra, pk_us]; rfl, fun j hj => by rw [gx_ra, pk_un hj]; exact hoj3 j hj⟩
    · have hut : u < t := by omega
      obtain ⟨f1, f2⟩ := e3 u hut
      rw [f1]
      rintro _ rfl
      rw [gx_hyM hv1 hd f2]
      refine ⟨vp_in_nI (by omega) (by omega), ?_⟩
      rintro _ rfl
      have hfrS : gx_fr [] [40, 46] [] M (fx_sa M1 40 (a + u) (gx_hyp (D.1 (gx_it D (a + u))))) := gx_fr_sa _ _ hfr (by decide)
      have hvS := gx_MV_fr (by decide) (by decide) hfrS hv
      have st : ∀ b : Bool, b = gx_F0 D g (a + u) → ∀ v : Int32, v = gx_b b → wb_X7_findSizes_8_178 (fun x1 x3 x4 M => k2 (x1, x3, x4, M)) (wb_X7_findSizes_8_185 Q) Q (nI l) (gx_b g) (nI (a + u)) v (nI (a + u)) (fx_sa M1 40 (a + u) (gx_hyp (D.1 (gx_it D (a + u))))) := by
        rintro _ rfl _ rfl
        unfold wb_X7_findSizes_8_178
        rw [nI_clamp (by omega), gx_b1]
        refine ⟨vp_in_nI (by omega) (by omega), ?_⟩
        rintro _ rfl _ rfl
        rw [nI_1]
        refine hk2 _ hut ⟨_, rfl, gx_fr_sa _ _ hfrS (by decide), fun s hs => ?_, fun i hi => ?_⟩
        · rw [gx_ra, gx_rb _ _ _ (by decide), gx_ra, gx_rb _ _ _ (by decide)]
          by_cases e9 : s = u
          · rw [e9, pk_us, pk_us]; exact ⟨rfl, rfl⟩
          · have e8 : a + s ≠ a + u := by omega
            rw [pk_un e8, pk_un e8]; exact hh s (by omega)
        · rw [gx_rb _ _ _ (by decide), gx_ra, pk_un (by omega)]; exact hout i hi
      obtain ⟨o0, o1, o2, _⟩ := gx_of hvS hd f2
      unfold wb_X7_findSizes_8_126
      rw [nI_clamp (n := a + u) (by omega)]
      simp only [o0, o1, o2]
      rw [gx_ra, pk_us, gx_b0]
      unfold wb_X7_findSizes_8_173 wb_X7_findSizes_8_177
      refine ⟨fun hg0 => ⟨fun h1 => st true ?_ _ rfl, fun h1 => ⟨fun _ => ⟨vp_in_nI (by omega) (by omega), fun h2 => st false ?_ _ rfl, fun h2 => st true ?_ _ rfl⟩, fun e => absurd hg0 e⟩⟩, fun hg0 => ⟨fun h1 => st true ?_ _ rfl, fun h1 => ⟨fun e => absurd e hg0, fun _ => ⟨vp_in_nI (by omega) (by omega), fun h2 => st false ?_ _ rfl, fun h2 => st true ?_ _ rfl⟩⟩⟩⟩
      · unfold gx_F0 gx_P gx_h; rw [hg0]; simp [h1]
      · unfold gx_F0 gx_P gx_h; rw [hg0]; simp [h1, h2]
      · unfold gx_F0 gx_P gx_h; rw [hg0]; simp [h2]
      · have hg1 : g = true := by simpa using hg0
        unfold gx_F0 gx_P gx_h; rw [hg1]; simp [h1]
      · have hg1 : g = true := by simpa using hg0
        unfold gx_F0 gx_P gx_h; rw [hg1]; simp [h1, h2]
      · have hg1 : g = true := by simpa using hg0
        unfold gx_F0 gx_P gx_h; rw [hg1]; simp [h2]
  refine ⟨fun h1 => key 0 ?_, fun h1 => key 1 ?_⟩
  · unfold gx_gr; simp [h1, gx_b]
  · unfold gx_gr; simp [h1, gx_b]
