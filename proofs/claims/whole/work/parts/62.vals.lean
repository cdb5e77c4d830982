/-! the layout by places -/
def gx_lo (D : gx_D) (k : Nat) : Nat := fa_first (fun l => decide (k < gx_s D (l + 1))) (gx_L D)
theorem gx_lo_eq {D : gx_D} {l a m t : Nat} (hl : gx_ln D l a m) (ht : t < m) : gx_lo D (a + t) = l := by
  obtain ⟨x1, x2, x3⟩ := hl
  unfold gx_lo
  have h1 : ¬ fa_first (fun l => decide (a + t < gx_s D (l + 1))) (gx_L D) < l := by
    intro h
    have h2 := fa_first_yes (fun l => decide (a + t < gx_s D (l + 1))) (gx_L D) (by omega)
    have h3 : a + t < gx_s D (fa_first (fun l => decide (a + t < gx_s D (l + 1))) (gx_L D) + 1) := of_decide_eq_true h2
    have h4 := gx_s_mono (D := D) (show fa_first (fun l => decide (a + t < gx_s D (l + 1))) (gx_L D) + 1 ≤ l by omega)
    omega
  have h5 : ¬ l < fa_first (fun l => decide (a + t < gx_s D (l + 1))) (gx_L D) := by
    intro h
    have h2 := fa_first_no (fun l => decide (a + t < gx_s D (l + 1))) (gx_L D) l h
    have h3 : ¬ a + t < gx_s D (l + 1) := of_decide_eq_false h2
    omega
  omega
theorem gx_plc {D : gx_D} {k : Nat} (hk : k < D.2.2) : ∃ l a m t, gx_ln D l a m ∧ t < m ∧ k = a + t := by
  have key : ∀ j, j ≤ gx_L D → k < gx_s D j → ∃ l, l < j ∧ gx_s D l ≤ k ∧ k < gx_s D (l + 1) := by
    intro j
    induction j with
    | zero => intro _ h; rw [gx_s_0] at h; exact absurd h (by omega)
    | succ j ih =>
      intro hj h
      rcases Nat.lt_or_ge k (gx_s D j) with e | e
      · obtain ⟨l, l1, l2, l3⟩ := ih (by omega) e
        exact ⟨l, by omega, l2, l3⟩
      · exact ⟨j, by omega, e, h⟩
  obtain ⟨l, l1, l2, l3⟩ := key (gx_L D) (Nat.le_refl _) (by rw [gx_s_end (Nat.le_refl _)]; exact hk)
  exact ⟨l, gx_s D l, gx_s D (l + 1) - gx_s D l, k - gx_s D l, ⟨l1, rfl, by omega⟩, by omega, by omega⟩
def gx_v0 (D : gx_D) (k : Nat) : Int32 := (gx_xf D (gx_lo D k)).2 k
def gx_v1 (D : gx_D) (k : Nat) : Int32 := gx_mp D (gx_lo D k) (gx_s D (gx_lo D k)) (gx_s D (gx_lo D k + 1) - gx_s D (gx_lo D k)) (k - gx_s D (gx_lo D k))
def gx_v2 (D : gx_D) (k : Nat) : Int32 := gx_cs D (gx_lo D k) k
def gx_v3 (D : gx_D) (k : Nat) : Int32 := gx_cp D (gx_lo D k) k
theorem gx_v_eq {D : gx_D} {l a m t : Nat} (hl : gx_ln D l a m) (ht : t < m) : gx_v0 D (a + t) = (gx_xf D l).2 (a + t) ∧ gx_v1 D (a + t) = gx_mp D l a m t ∧ gx_v2 D (a + t) = gx_cs D l (a + t) ∧ gx_v3 D (a + t) = gx_cp D l (a + t) := by
  obtain ⟨e1, e2⟩ := gx_ln_eq hl
  unfold gx_v0 gx_v1 gx_v2 gx_v3
  rw [gx_lo_eq hl ht, e2, e1, show a + t - a = t by omega]
  exact ⟨rfl, rfl, rfl, rfl⟩
/-- the class's layout -/
def gx_CL (D : gx_D) (M : fx_Mem) : Prop := gx_AC D M ∧ gx_MC D (gx_L D) M ∧ gx_XC D (gx_L D) M ∧ M.1 452 = gx_ex D ∧ (∀ l, l < gx_L D → M.2.1 26 l = gx_lc D l ∧ M.2.1 27 l = gx_as D l)
theorem gx_layC {D : gx_D} {M : fx_Mem} (hv : gx_CV D M) (hd : gx_ok D) {Q : fx_Mem → Prop} (h : ∀ M', gx_fr [322, 452, 512, 542, 543] [16, 18, 19, 20, 21, 22, 23, 24, 25, 26, 27, 28, 29, 39, 40, 41, 42, 43, 44, 45, 46, 47, 48, 49, 50, 51, 52, 53, 54, 55] [9, 15, 17, 36, 37, 38] M M' → gx_CL D M' → Q M') : wp_X6_layOut_0 M Q := by
  have hn := hd.1
  unfold wp_X6_layOut_0
  refine gx_arrC hv hd (fun M1 hfr1 ha1 => ?_)
  have hv1 := gx_CV_fr hn (by decide) (by decide) hfr1 hv
  refine gx_mlC hv1 hd ha1 (fun M2 hfr2 hmc => ?_)
  have hv2 := gx_CV_fr hn (by decide) (by decide) hfr2 hv1
  have ha2 := gx_AC_fr (by decide) (by decide) hfr2 ha1
  refine gx_xlC hv2 hd ha2 (fun M3 hfr3 hex h26 hxc => ?_)
  refine h M3 (gx_fr_tr (gx_fr_mo hfr1 (by decide) (by decide) (by decide)) (gx_fr_tr (gx_fr_mo hfr2 (by decide) (by decide) (by decide)) (gx_fr_mo hfr3 (by decide) (by decide) (by decide)))) ⟨gx_AC_fr (by decide) (by decide) hfr3 ha2, ?_, hxc, hex, h26⟩
  intro l hl a m hln
  rw [hfr3.2.1 20 (by decide), hfr3.2.1 21 (by decide), hfr3.2.1 22 (by decide), hfr3.2.1 23 (by decide)]
  exact hmc l hl a m hln
theorem gx_clv {D : gx_D} {M : fx_Mem} (h : gx_CL D M) {k : Nat} (hk : k < D.2.2) : M.2.1 20 (gx_it D k) = gx_v0 D k ∧ M.2.1 21 (gx_it D k) = gx_v1 D k ∧ M.2.1 28 (gx_it D k) = gx_v2 D k ∧ M.2.1 29 (gx_it D k) = gx_v3 D k := by
  obtain ⟨l, a, m, t, hl, ht, rfl⟩ := gx_plc hk
  obtain ⟨e0, e1, e2, e3⟩ := gx_v_eq hl ht
  rw [e0, e1, e2, e3]
  have h1 := (h.2.1 l hl.1 a m hl).1 t ht
  have h2 := h.2.2.1 l hl.1 a m hl t ht
  exact ⟨h1.1, h1.2, h2.1, h2.2⟩
theorem gx_mlv {D : gx_D} {M : fx_Mem} (hd : gx_ok D) (h : gx_ML D M) {k : Nat} (hk : k < D.2.2) : M.2.1 40 k = gx_v0 D k ∧ M.2.1 43 k = gx_v1 D k ∧ M.2.1 42 k = gx_v2 D k ∧ M.2.1 44 k = gx_v3 D k ∧ M.2.1 41 k = nI (gx_lo D k) ∧ M.2.1 39 k = nI (gx_it D k) ∧ M.2.1 45 (gx_it D k) = nI k := by
  obtain ⟨p1, p2, p3⟩ : (∃ l, l < gx_L D ∧ M.2.1 41 k = nI l ∧ gx_s D l ≤ k ∧ k < gx_s D (l + 1)) ∧ M.2.1 39 k = nI (gx_it D k) ∧ M.2.1 45 (gx_it D k) = nI k := ⟨h.1.2.2.2.2 k hk, h.1.1 k hk, h.2.1 k hk⟩
  obtain ⟨l', l1, l2, l3, l4⟩ := p1
  have hl' : gx_ln D l' (gx_s D l') (gx_s D (l' + 1) - gx_s D l') := ⟨l1, rfl, by omega⟩
  have e41 := gx_lo_eq hl' (show k - gx_s D l' < gx_s D (l' + 1) - gx_s D l' by omega)
  rw [show gx_s D l' + (k - gx_s D l') = k by omega] at e41
  obtain ⟨l, a, m, t, hl, ht, rfl⟩ := gx_plc hk
  obtain ⟨e0, e1, e2, e3⟩ := gx_v_eq hl ht
  obtain ⟨q0, q1, q2, q3⟩ := h.2.2.2.2 l a m hl t ht
  refine ⟨by rw [e0, q0], by rw [e1, q1], by rw [e2, q2], by rw [e3, q3], by rw [l2, e41], p2, p3⟩
/-- behind a call that only looks -/
theorem gx_lookI {D : gx_D} {M M' : fx_Mem} (hd : gx_ok D) (hv : gx_CV D M) (hm : gx_MV D M) (ht : gx_TX M) (hs : gx_SK M) (hfr : gx_fr [322, 452, 512, 542, 543] [16, 18, 19, 20, 21, 22, 23, 24, 25, 26, 27, 28, 29, 39, 40, 41, 42, 43, 44, 45, 46, 47, 48, 49, 50, 51, 52, 53, 54, 55] [9, 15, 17, 36, 37, 38] M M') : gx_Inv M' := by
  have hr := gx_rest (by decide) (by decide) hfr ⟨ht, hs⟩
  exact ⟨D, hd, gx_CV_fr hd.1 (by decide) (by decide) hfr hv, gx_MV_fr (by decide) (by decide) hfr hm, hr.1, hr.2⟩
theorem gx_layM2 {D : gx_D} {M : fx_Mem} (hv : gx_MV D M) (hd : gx_ok D) {Q : fx_Mem → Prop} (h : ∀ M', gx_fr [322, 452, 512, 542, 543] [16, 18, 19, 20, 21, 22, 23, 24, 25, 26, 27, 28, 29, 39, 40, 41, 42, 43, 44, 45, 46, 47, 48, 49, 50, 51, 52, 53, 54, 55] [9, 15, 17, 36, 37, 38] M M' → M'.1 512 = M.1 512 → M'.2.2 9 = M.2.2 9 → gx_MV D M' → gx_ML D M' → Q M') : wp_X7_findLayout_8 M Q :=
  gx_layM hv hd (fun M' hfr hml => h M' (gx_fr_mo hfr (by decide) (by decide) (by decide)) (hfr.1 512 (by decide)) (hfr.2.2 9 (by decide)) (gx_MV_fr (by decide) (by decide) hfr hv) hml)
def gx_co (D : gx_D) (k w : Nat) : Int32 := if w < 2 then (if (decide (¬ 2 ≤ D.2.1 4)) = decide (w % 2 = 0) then gx_v1 D k else gx_v3 D k) else (if (decide (¬ 2 ≤ D.2.1 4)) = decide (w % 2 = 0) then gx_v0 D k else gx_v2 D k)
theorem gx_coM {D : gx_D} {M : fx_Mem} (hv : gx_MV D M) (hd : gx_ok D) (hml : gx_ML D M) {k w : Nat} (hk : k < D.2.2) (hw : w < 4) {x : Int32} (hx : x = nI w) (Q : Int32 → fx_Mem → Prop) : wp_X7_coordinate_8 (nI k) x M Q ↔ Q (gx_co D k w) M := by
  have hn := hd.1
  obtain ⟨q0, q1, q2, q3, _⟩ := gx_mlv hd hml hk
  subst hx
  unfold wp_X7_coordinate_8 wb_X7_coordinate_8_15 wb_X7_coordinate_8_26 wb_X7_coordinate_8_34
  have hi : vp_in (nI k) 20 := vp_in_nI (by omega) (by omega)
  rw [hv.1 4 (by decide), nI_clamp (n := k) (by omega), q0, q1, q2, q3]
  have z : ((0 : Int32) = 1) = False ∧ ((1 : Int32) = 0) = False := by decide
  have w4 : w = 0 ∨ w = 1 ∨ w = 2 ∨ w = 3 := by omega
  unfold gx_co
  by_cases h4 : 2 ≤ D.2.1 4
  · rcases w4 with e | e | e | e <;> subst e
    · have a1 : ((nI 0 - nI 0 / 2 * 2 : Int32) = 0) = True := by decide
      have a2 : ((2 : Int32) ≤ nI 0) = False := by decide
      simp [h4, hi, a1, a2, z.1, z.2]
    · have a1 : ((nI 1 - nI 1 / 2 * 2 : Int32) = 0) = False := by decide
      have a2 : ((2 : Int32) ≤ nI 1) = False := by decide
      simp [h4, hi, a1, a2, z.1, z.2]
    · have a1 : ((nI 2 - nI 2 / 2 * 2 : Int32) = 0) = True := by decide
      have a2 : ((2 : Int32) ≤ nI 2) = True := by decide
      simp [h4, hi, a1, a2, z.1, z.2]
    · have a1 : ((nI 3 - nI 3 / 2 * 2 : Int32) = 0) = False := by decide
      have a2 : ((2 : Int32) ≤ nI 3) = True := by decide
      simp [h4, hi, a1, a2, z.1, z.2]
  · rcases w4 with e | e | e | e <;> subst e
    · have a1 : ((nI 0 - nI 0 / 2 * 2 : Int32) = 0) = True := by decide
      have a2 : ((2 : Int32) ≤ nI 0) = False := by decide
      simp [h4, hi, a1, a2, z.1, z.2]
    · have a1 : ((nI 1 - nI 1 / 2 * 2 : Int32) = 0) = False := by decide
      have a2 : ((2 : Int32) ≤ nI 1) = False := by decide
      simp [h4, hi, a1, a2, z.1, z.2]
    · have a1 : ((nI 2 - nI 2 / 2 * 2 : Int32) = 0) = True := by decide
      have a2 : ((2 : Int32) ≤ nI 2) = True := by decide
      simp [h4, hi, a1, a2, z.1, z.2]
    · have a1 : ((nI 3 - nI 3 / 2 * 2 : Int32) = 0) = False := by decide
      have a2 : ((2 : Int32) ≤ nI 3) = True := by decide
      simp [h4, hi, a1, a2, z.1, z.2]
