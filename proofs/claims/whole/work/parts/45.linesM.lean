/-- what the reference's lines hold -/
def gx_LM (n : Nat) (r : Nat × Int32 × (Nat → Nat)) (M : fx_Mem) : Prop := M.1 542 = nI r.1 ∧ (∀ j, j < r.1 → M.2.1 47 j = nI (gx_st n r j)) ∧ (∀ j, j < r.1 → M.2.1 48 j = nI (gx_st n r (j + 1) - gx_st n r j)) ∧ (∀ t, t < n → ∃ l, l < r.1 ∧ M.2.1 41 t = nI l ∧ gx_st n r l ≤ t ∧ t < gx_st n r (l + 1))
theorem gx_fillM {D : gx_D} {M : fx_Mem} (hv : gx_MV D M) (hd : gx_ok D) (hs : ∀ j, j < D.2.2 → M.2.1 39 j = nI (gx_it D j)) (w : Int32) (wr : Bool) {x2 : Int32} (hx : x2 = gx_b wr) {Q : fx_Mem → Prop}
    (h : ∀ M', gx_fr [542] [41, 47, 48] [] M M' → gx_LM D.2.2 (gx_fl (gx_h D) (D.2.1 2) w wr D.2.2) M' → Q M') : wp_X7_findLines_8 w x2 M Q := by
  have hn := hd.1
  subst hx
  unfold wp_X7_findLines_8
  rintro _ rfl
  refine gx_cnt D.2.2 (fun k s => ∃ M1, s = (w, gx_b wr, (gx_fl (gx_h D) (D.2.1 2) w wr k).2.1, nI k, M1) ∧ gx_fr [542] [41, 47, 48] [] M M1 ∧ gx_LM k (gx_fl (gx_h D) (D.2.1 2) w wr k) M1) ?_ (w, gx_b wr, 0, 0, fx_si M 542 0) ⟨_, rfl, gx_fr_si _ (gx_fr_rfl _ _ _ _) (by decide), gx_r1 _ _ _, fun j hj => absurd hj (by simp [gx_fl]), fun j hj => absurd hj (by simp [gx_fl]), fun j hj => absurd hj (by omega)⟩
  rintro i _ k hi ⟨M1, rfl, hfr, ha⟩ hk
  have hv1 := gx_MV_fr (by decide) (by decide) hfr hv
  have hn1 := hv1.2.1
  have inv := gx_fl_inv (gx_h D) (D.2.1 2) w wr i
  show wb_X7_findLines_8_10 (fun x1 x2 x3 x4 M => k (x1, x2, x3, x4, M)) Q w (gx_b wr) (gx_fl (gx_h D) (D.2.1 2) w wr i).2.1 (nI i) M1
  unfold wb_X7_findLines_8_10
  rw [hn1, nI_leI (by omega) (by omega)]
  refine ⟨fun hc => ?_, fun hc => ⟨vp_in_nI (by omega) (by omega), ?_⟩⟩
  · have e : D.2.2 = i := by omega
    subst e
    exact h M1 hfr ha
  · have hi2 : i < D.2.2 := by omega
    have hlt := gx_it_lt hi2
    have h39 : M1.2.1 39 i = nI (gx_it D i) := by rw [hfr.2.1 39 (by decide)]; exact hs i hi2
    have h30 := hv1.1 2 (by decide)
    obtain ⟨a1, a2, a3, a4⟩ := ha
    rw [nI_clamp (by omega), h39]
    simp only [gx_hyM hv1 hd hlt]
    rw [a1, h30, gx_n4 (by omega), gx_b0]
    have hnew : ((gx_fl (gx_h D) (D.2.1 2) w wr i).1 = 0 ∨ (wr = true ∧ ¬ ((gx_fl (gx_h D) (D.2.1 2) w wr i).2.1 + D.2.1 2) + gx_h D i ≤ w)) → wb_X7_findLines_8_58 (fun x1 x2 x3 x4 M => k (x1, x2, x3, x4, M)) Q w (gx_b wr) (gx_fl (gx_h D) (D.2.1 2) w wr i).2.1 (nI i) (gx_h D i) M1 := by
      intro hc
      unfold wb_X7_findLines_8_58 wb_X7_findLines_8_63 wb_X7_findLines_8_101 wb_X7_findLines_8_122
      refine ⟨fun e => absurd e (by decide), fun _ => ?_⟩
      rw [a1, nI_clamp (by omega)]
      refine ⟨vp_in_nI (by omega) (by omega), ?_⟩
      rintro _ rfl
      rw [gx_r8, a1, nI_clamp (by omega)]
      refine ⟨vp_in_nI (by omega) (by omega), ?_⟩
      rintro _ rfl _ rfl
      refine ⟨fun e => absurd e (by decide), fun _ => ?_⟩
      rw [gx_r1, gx_r8, gx_r8, a1, nI_1, gx_n5 (by omega), nI_clamp (by omega)]
      refine ⟨vp_in_nI (by omega) (by omega), vp_in_nI (by omega) (by omega), ?_⟩
      rintro _ rfl
      refine ⟨vp_in_nI (by omega) (by omega), ?_⟩
      rintro _ rfl _ rfl
      rw [nI_1, gx_r8, gx_r1, gx_n5 (by omega), nI_clamp (by omega)]
      simp only [Nat.add_sub_cancel]
      refine hk _ hi2 ⟨_, by rw [gx_fl_new hc], ?_, ?_, ?_, ?_, ?_⟩
      · exact gx_fr_sa _ _ (gx_fr_sa _ _ (gx_fr_si _ (gx_fr_sa _ _ (gx_fr_sa _ _ hfr (by decide)) (by decide)) (by decide)) (by decide)) (by decide)
      · rw [gx_fl_new hc]; rw [gx_r8, gx_r8, gx_r1]
      · intro j hj
        rw [gx_fl_new hc] at hj ⊢
        unfold gx_st
        simp only at hj ⊢
        rw [if_pos hj, gx_rb _ _ _ (by decide), gx_rb _ _ _ (by decide), gx_r3, gx_rb _ _ _ (by decide), gx_ra]
        by_cases hj2 : j = (gx_fl (gx_h D) (D.2.1 2) w wr i).1
        · rw [if_pos hj2, hj2, pk_us]
        · rw [if_neg hj2, pk_un hj2, a2 j (by omega)]; unfold gx_st; rw [if_pos (by omega)]
      · intro j hj
        rw [gx_fl_new hc] at hj ⊢
        unfold gx_st
        simp only at hj ⊢
        rw [if_pos hj, gx_rb _ _ _ (by decide), gx_ra, gx_r3, gx_ra, pk_us]
        by_cases hj2 : j = (gx_fl (gx_h D) (D.2.1 2) w wr i).1
        · rw [if_pos hj2, hj2, pk_us, if_neg (by omega), show i + 1 - i = 1 by omega]; rfl
        · rw [if_neg hj2, pk_un hj2, pk_un hj2, gx_rb _ _ _ (by decide), a3 j (by omega)]; unfold gx_st; rw [if_pos (by omega : j < _), if_pos (by omega : j + 1 < _ + 1)]
          by_cases hj3 : j + 1 = (gx_fl (gx_h D) (D.2.1 2) w wr i).1
          · rw [if_pos hj3, if_neg (by omega)]
          · rw [if_neg hj3, if_pos (by omega)]
      · intro t ht
        rw [gx_fl_new hc]
        unfold gx_st
        simp only
        rw [gx_ra]
        by_cases ht2 : t = i
        · refine ⟨(gx_fl (gx_h D) (D.2.1 2) w wr i).1, by omega, by rw [ht2, pk_us], ?_, ?_⟩
          · rw [if_pos (by omega), if_pos rfl]; omega
          · rw [if_neg (by omega)]; omega
        · obtain ⟨l, l1, l2, l3, l4⟩ := a4 t (by omega)
          refine ⟨l, by omega, ?_, ?_, ?_⟩
          · rw [pk_un ht2, gx_rb _ _ _ (by decide), gx_r3, gx_rb _ _ _ (by decide), gx_rb _ _ _ (by decide)]; exact l2
          · unfold gx_st at l3; rw [if_pos l1] at l3
            rw [if_pos (by omega), if_neg (by omega)]; exact l3
          · unfold gx_st at l4
            rw [if_pos (by omega)]
            by_cases hl : l + 1 = (gx_fl (gx_h D) (D.2.1 2) w wr i).1
            · rw [if_pos hl]; rw [if_neg (by omega)] at l4; exact l4
            · rw [if_neg hl]; rw [if_pos (by omega)] at l4; exact l4
    have hold : ¬ ((gx_fl (gx_h D) (D.2.1 2) w wr i).1 = 0 ∨ (wr = true ∧ ¬ ((gx_fl (gx_h D) (D.2.1 2) w wr i).2.1 + D.2.1 2) + gx_h D i ≤ w)) → wb_X7_findLines_8_62 (fun x1 x2 x3 x4 M => k (x1, x2, x3, x4, M)) Q w (gx_b wr) (gx_fl (gx_h D) (D.2.1 2) w wr i).2.1 (nI i) (gx_h D i) M1 := by
      intro hc
      have h0 : 1 ≤ (gx_fl (gx_h D) (D.2.1 2) w wr i).1 := by have := not_or.mp hc; omega
      unfold wb_X7_findLines_8_62 wb_X7_findLines_8_63 wb_X7_findLines_8_101 wb_X7_findLines_8_122
      refine ⟨fun _ => ⟨fun _ => ?_, fun e => absurd rfl e⟩, fun e => absurd rfl e⟩
      rw [a1, gx_n5 h0, nI_clamp (by omega), a3 _ (by omega), h30]
      refine ⟨vp_in_nI (by omega) (by omega), vp_in_nI (by omega) (by omega), ?_⟩
      rintro _ rfl
      refine ⟨vp_in_nI (by omega) (by omega), ?_⟩
      rintro _ rfl _ rfl
      rw [nI_1, gx_r8, a1, gx_n5 h0, nI_clamp (by omega)]
      have e1 : gx_st i (gx_fl (gx_h D) (D.2.1 2) w wr i) ((gx_fl (gx_h D) (D.2.1 2) w wr i).1 - 1 + 1) = i := by
        unfold gx_st; rw [if_neg (by omega)]
      have e2 := inv.2.2.2.1 ((gx_fl (gx_h D) (D.2.1 2) w wr i).1 - 1) (by omega)
      refine hk _ hi2 ⟨_, by rw [gx_fl_old hc], ?_, ?_, ?_, ?_, ?_⟩
      · exact gx_fr_sa _ _ (gx_fr_sa _ _ hfr (by decide)) (by decide)
      · rw [gx_fl_old hc]; rw [gx_r8, gx_r8, a1]
      · intro j hj
        rw [gx_fl_old hc] at hj ⊢
        simp only at hj
        unfold gx_st
        simp only
        rw [if_pos hj, gx_rb _ _ _ (by decide), gx_rb _ _ _ (by decide), a2 j hj]
        unfold gx_st; rw [if_pos hj]
      · intro j hj
        rw [gx_fl_old hc] at hj ⊢
        simp only at hj
        rw [gx_rb _ _ _ (by decide), gx_ra]
        by_cases hj2 : j = (gx_fl (gx_h D) (D.2.1 2) w wr i).1 - 1
        · rw [← hj2] at e1 e2 ⊢
          rw [pk_us, e1, nI_1]
          unfold gx_st
          simp only
          rw [if_pos hj, if_neg (by omega), if_pos hj]
          congr 1; omega
        · rw [pk_un hj2, a3 j hj]
          unfold gx_st
          simp only
          have hj3 : j + 1 < (gx_fl (gx_h D) (D.2.1 2) w wr i).1 := by omega
          rw [if_pos hj, if_pos hj3, if_pos hj3, if_pos hj]
      · intro t ht
        rw [gx_fl_old hc]
        rw [gx_ra]
        unfold gx_st
        simp only
        by_cases ht2 : t = i
        · refine ⟨(gx_fl (gx_h D) (D.2.1 2) w wr i).1 - 1, by omega, by rw [ht2, pk_us], ?_, ?_⟩
          · rw [if_pos (by omega)]; omega
          · rw [if_neg (by omega)]; omega
        · obtain ⟨l, l1, l2, l3, l4⟩ := a4 t (by omega)
          refine ⟨l, by omega, ?_, ?_, ?_⟩
          · rw [pk_un ht2, gx_rb _ _ _ (by decide)]; exact l2
          · unfold gx_st at l3; rw [if_pos l1] at l3 ⊢; exact l3
          · unfold gx_st at l4
            by_cases hl : l + 1 < (gx_fl (gx_h D) (D.2.1 2) w wr i).1
            · rw [if_pos hl] at l4 ⊢; exact l4
            · rw [if_neg hl] at l4 ⊢; omega
    refine ⟨fun h0 => hnew (Or.inl h0), fun h0 => ⟨fun hw => hold ?_, fun hw => ⟨fun hle => hold ?_, fun hle => hnew (Or.inr ⟨by simpa using hw, hle⟩)⟩⟩⟩
    · rintro (e | ⟨e, _⟩)
      · exact h0 e
      · rw [hw] at e; exact absurd e (by decide)
    · rintro (e | ⟨_, e⟩)
      · exact h0 e
      · exact e hle
