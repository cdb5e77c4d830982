/-! the lines -/
def gx_fl (h : Nat → Int32) (g w : Int32) (wr : Bool) : Nat → Nat × Int32 × (Nat → Nat)
  | 0 => (0, 0, fun _ => 0)
  | k + 1 => if (gx_fl h g w wr k).1 = 0 ∨ (wr = true ∧ ¬ ((gx_fl h g w wr k).2.1 + g) + h k ≤ w) then ((gx_fl h g w wr k).1 + 1, h k, fun j => if j = (gx_fl h g w wr k).1 then k else (gx_fl h g w wr k).2.2 j)
    else ((gx_fl h g w wr k).1, ((gx_fl h g w wr k).2.1 + g) + h k, (gx_fl h g w wr k).2.2)
def gx_st (n : Nat) (r : Nat × Int32 × (Nat → Nat)) (j : Nat) : Nat := if j < r.1 then r.2.2 j else n
theorem gx_fl_inv (h : Nat → Int32) (g w : Int32) (wr : Bool) : ∀ k, (gx_fl h g w wr k).1 ≤ k ∧ (0 < k → 0 < (gx_fl h g w wr k).1) ∧ (0 < (gx_fl h g w wr k).1 → (gx_fl h g w wr k).2.2 0 = 0) ∧ (∀ j, j < (gx_fl h g w wr k).1 → (gx_fl h g w wr k).2.2 j < k) ∧ (∀ j, j + 1 < (gx_fl h g w wr k).1 → (gx_fl h g w wr k).2.2 j < (gx_fl h g w wr k).2.2 (j + 1))
  | 0 => ⟨Nat.le_refl _, fun h => absurd h (by omega), fun h => absurd h (by simp [gx_fl]), fun j hj => absurd hj (by simp [gx_fl]), fun j hj => absurd hj (by simp [gx_fl])⟩
  | k + 1 => by
    obtain ⟨h1, h2, h3, h4, h5⟩ := gx_fl_inv h g w wr k
    unfold gx_fl
    generalize hr : gx_fl h g w wr k = r at *
    split
    · refine ⟨by simp only; omega, fun _ => by simp only; omega, fun _ => ?_, fun j hj => ?_, fun j hj => ?_⟩
      · simp only
        by_cases h0 : r.1 = 0
        · have : k = 0 := by
            by_cases hk : 0 < k
            · exact absurd (h2 hk) (by omega)
            · omega
          rw [if_pos h0.symm, this]
        · rw [if_neg (fun e => h0 e.symm)]; exact h3 (by omega)
      · simp only at hj ⊢
        by_cases h0 : j = r.1
        · rw [if_pos h0]; omega
        · rw [if_neg h0]; have := h4 j (by omega); omega
      · simp only at hj ⊢
        rw [if_neg (by omega : ¬ j = r.1)]
        by_cases h0 : j + 1 = r.1
        · rw [if_pos h0]; exact h4 j (by omega)
        · rw [if_neg h0]; exact h5 j (by omega)
    · have h0 : 0 < r.1 := by
        rename_i hc; have := not_or.mp hc; omega
      exact ⟨by simp only; omega, fun _ => h0, fun _ => h3 h0, fun j hj => by have := h4 j hj; simp only; omega, h5⟩
theorem gx_st_le {h : Nat → Int32} {g w : Int32} {wr : Bool} {n j : Nat} : gx_st n (gx_fl h g w wr n) j ≤ n := by
  obtain ⟨h1, h2, h3, h4, h5⟩ := gx_fl_inv h g w wr n
  unfold gx_st; split
  · exact Nat.le_of_lt (h4 j ‹_›)
  · exact Nat.le_refl _
theorem gx_st_lt {h : Nat → Int32} {g w : Int32} {wr : Bool} {n j : Nat} (hj : j < (gx_fl h g w wr n).1) : gx_st n (gx_fl h g w wr n) j < gx_st n (gx_fl h g w wr n) (j + 1) := by
  obtain ⟨h1, h2, h3, h4, h5⟩ := gx_fl_inv h g w wr n
  unfold gx_st; rw [if_pos hj]
  split
  · exact h5 j ‹_›
  · exact h4 j hj
theorem gx_st_0 {h : Nat → Int32} {g w : Int32} {wr : Bool} {n : Nat} : gx_st n (gx_fl h g w wr n) 0 = 0 := by
  obtain ⟨h1, h2, h3, h4, h5⟩ := gx_fl_inv h g w wr n
  unfold gx_st; split
  · exact h3 ‹_›
  · by_cases hk : 0 < n
    · exact absurd (h2 hk) ‹_›
    · omega
theorem gx_fl_f (h : Nat → Int32) (g w : Int32) : ∀ n, (gx_fl h g w false n).1 = if n = 0 then 0 else 1
  | 0 => rfl
  | n + 1 => by
    have ih := gx_fl_f h g w n
    have h2 := (gx_fl_inv h g w false n).2.1
    unfold gx_fl
    by_cases h0 : n = 0
    · rw [h0] at ih ⊢; simp at ih; simp [ih]
    · rw [if_neg h0] at ih; simp [ih]
theorem gx_fl_new {h : Nat → Int32} {g w : Int32} {wr : Bool} {k : Nat} (hc : (gx_fl h g w wr k).1 = 0 ∨ (wr = true ∧ ¬ ((gx_fl h g w wr k).2.1 + g) + h k ≤ w)) : gx_fl h g w wr (k + 1) = ((gx_fl h g w wr k).1 + 1, h k, fun j => if j = (gx_fl h g w wr k).1 then k else (gx_fl h g w wr k).2.2 j) := if_pos hc
theorem gx_fl_old {h : Nat → Int32} {g w : Int32} {wr : Bool} {k : Nat} (hc : ¬ ((gx_fl h g w wr k).1 = 0 ∨ (wr = true ∧ ¬ ((gx_fl h g w wr k).2.1 + g) + h k ≤ w))) : gx_fl h g w wr (k + 1) = ((gx_fl h g w wr k).1, ((gx_fl h g w wr k).2.1 + g) + h k, (gx_fl h g w wr k).2.2) := if_neg hc
/-- the hypothetical size at a place -/
def gx_h (D : gx_D) (k : Nat) : Int32 := gx_hyp (D.1 (gx_it D k))
theorem gx_fillC {D : gx_D} {M : fx_Mem} (hv : gx_CV D M) (hd : gx_ok D) (hs : ∀ j, j < D.2.2 → M.2.1 18 j = nI (gx_it D j)) (w : Int32) {Q : Int32 → fx_Mem → Prop}
    (h : ∀ M', gx_fr [] [19] [] M M' → (∀ j, j ≤ (gx_fl (gx_h D) (D.2.1 2) w true D.2.2).1 → M'.2.1 19 j = nI (gx_st D.2.2 (gx_fl (gx_h D) (D.2.1 2) w true D.2.2) j)) → Q (nI (gx_fl (gx_h D) (D.2.1 2) w true D.2.2).1) M') : wp_X0_fillLines_5_1 w M Q := by
  have hn := hd.1
  unfold wp_X0_fillLines_5_1
  refine gx_cnt D.2.2 (fun k s => ∃ M1, s = (w, nI (gx_fl (gx_h D) (D.2.1 2) w true k).1, (gx_fl (gx_h D) (D.2.1 2) w true k).2.1, nI k, M1) ∧ gx_fr [] [19] [] M M1 ∧ ∀ j, j < (gx_fl (gx_h D) (D.2.1 2) w true k).1 → M1.2.1 19 j = nI ((gx_fl (gx_h D) (D.2.1 2) w true k).2.2 j)) ?_ (w, 0, 0, 0, M) ⟨M, rfl, gx_fr_rfl _ _ _ _, fun j hj => absurd hj (by simp [gx_fl])⟩
  rintro i _ k hi ⟨M1, rfl, hfr, ha⟩ hk
  have hv1 := gx_CV_fr hn (by decide) (by decide) hfr hv
  have hn1 := hv1.2.2.2.2.2.1
  have inv := gx_fl_inv (gx_h D) (D.2.1 2) w true i
  show wb_X0_fillLines_5_1_8 (fun x2 x3 x4 x5 M => k (x2, x3, x4, x5, M)) (wb_X0_fillLines_5_1_81 Q) Q w (nI (gx_fl (gx_h D) (D.2.1 2) w true i).1) (gx_fl (gx_h D) (D.2.1 2) w true i).2.1 (nI i) M1
  unfold wb_X0_fillLines_5_1_8
  rw [hn1, nI_leI (by omega) (by omega)]
  refine ⟨fun hc => ?_, fun hc => ⟨vp_in_nI (by omega) (by omega), ?_⟩⟩
  · have e : D.2.2 = i := by omega
    unfold wb_X0_fillLines_5_1_81
    refine ⟨vp_in_nI (by omega) (by omega), ?_⟩
    rintro _ rfl
    subst e
    rw [nI_clamp (by omega), hn1]
    refine h _ (gx_fr_sa _ _ hfr (by decide)) (fun j hj => ?_)
    rw [gx_ra]
    unfold gx_st
    by_cases hj2 : j = (gx_fl (gx_h D) (D.2.1 2) w true D.2.2).1
    · rw [← hj2, pk_us, if_neg (by omega)]
    · rw [pk_un hj2, if_pos (by omega)]; exact ha j (by omega)
  · have hi2 : i < D.2.2 := by omega
    have hlt := gx_it_lt hi2
    have h18 : M1.2.1 18 i = nI (gx_it D i) := by rw [hfr.2.1 18 (by decide)]; exact hs i hi2
    rw [nI_clamp (by omega), h18]
    simp only [gx_hyC hv1 hd hlt]
    rw [hv1.2.2.1]
    rintro _ rfl
    have hnew : ((gx_fl (gx_h D) (D.2.1 2) w true i).1 = 0 ∨ (true = true ∧ ¬ ((gx_fl (gx_h D) (D.2.1 2) w true i).2.1 + D.2.1 2) + gx_h D i ≤ w)) → wb_X0_fillLines_5_1_53 (fun x2 x3 x4 x5 M => k (x2, x3, x4, x5, M)) (wb_X0_fillLines_5_1_81 Q) Q w (nI (gx_fl (gx_h D) (D.2.1 2) w true i).1) (nI i) (gx_h D i) M1 := by
      intro hc
      unfold wb_X0_fillLines_5_1_53 wb_X0_fillLines_5_1_75
      refine ⟨vp_in_nI (by omega) (by omega), ?_⟩
      rintro _ rfl _ rfl _ rfl
      rw [nI_1, nI_1, nI_clamp (by omega)]
      refine hk _ hi2 ⟨_, by rw [gx_fl_new hc], gx_fr_sa _ _ hfr (by decide), fun j hj => ?_⟩
      rw [gx_fl_new hc] at hj ⊢
      rw [gx_ra]
      simp only at hj ⊢
      by_cases hj2 : j = (gx_fl (gx_h D) (D.2.1 2) w true i).1
      · rw [if_pos hj2, hj2, pk_us]
      · rw [if_neg hj2, pk_un hj2]; exact ha j (by omega)
    refine ⟨fun h0 => hnew (Or.inl ?_), fun h0 => ⟨fun hle => ?_, fun hle => hnew (Or.inr ⟨rfl, hle⟩)⟩⟩
    · rw [gx_n4 (by omega)] at h0; omega
    · unfold wb_X0_fillLines_5_1_75
      rintro _ rfl
      rw [nI_1]
      have h0' : ¬ i = 0 := fun e => h0 (by rw [e]; rfl)
      have hc : ¬ ((gx_fl (gx_h D) (D.2.1 2) w true i).1 = 0 ∨ (true = true ∧ ¬ ((gx_fl (gx_h D) (D.2.1 2) w true i).2.1 + D.2.1 2) + gx_h D i ≤ w)) := by
        have := inv.2.1 (by omega)
        rintro (e | ⟨_, e⟩)
        · omega
        · exact e hle
      refine hk _ hi2 ⟨_, by rw [gx_fl_old hc]; rfl, hfr, fun j hj => ?_⟩
      rw [gx_fl_old hc] at hj ⊢
      exact ha j hj
/-- the lines of the layout -/
def gx_R (D : gx_D) : Nat × Int32 × (Nat → Nat) := gx_fl (gx_h D) (D.2.1 2) (D.2.1 0) (decide (¬ D.2.1 5 = 0)) D.2.2
def gx_L (D : gx_D) : Nat := (gx_R D).1
def gx_s (D : gx_D) (j : Nat) : Nat := gx_st D.2.2 (gx_R D) j
theorem gx_L_le (D : gx_D) : gx_L D ≤ D.2.2 := (gx_fl_inv _ _ _ _ _).1
theorem gx_s_le (D : gx_D) (j : Nat) : gx_s D j ≤ D.2.2 := gx_st_le
theorem gx_s_lt {D : gx_D} {j : Nat} (h : j < gx_L D) : gx_s D j < gx_s D (j + 1) := gx_st_lt h
theorem gx_s_0 (D : gx_D) : gx_s D 0 = 0 := gx_st_0
theorem gx_s_end {D : gx_D} {j : Nat} (h : gx_L D ≤ j) : gx_s D j = D.2.2 := if_neg (by unfold gx_L at h; omega)
/-- what the class's arrangement holds -/
def gx_AC (D : gx_D) (M : fx_Mem) : Prop := M.1 322 = nI (gx_L D) ∧ (∀ j, j < D.2.2 → M.2.1 18 j = nI (gx_it D j)) ∧ (∀ j, j ≤ gx_L D → M.2.1 19 j = nI (gx_s D j))
theorem gx_AC_fr {D : gx_D} {F A L : List Nat} {M M' : fx_Mem} (hF : F.all (fun k => k ≠ 322) = true) (hA : A.all (fun k => k ≠ 18 && k ≠ 19) = true) (h : gx_fr F A L M M') (v : gx_AC D M) : gx_AC D M' := by
  have f1 : M'.1 322 = M.1 322 := h.1 322 (fun hm => by
    have := List.all_eq_true.mp hF 322 hm; simp at this)
  have f2 : ∀ k, (k = 18 ∨ k = 19) → M'.2.1 k = M.2.1 k := fun k hk => h.2.1 k (fun hm => by
    have := List.all_eq_true.mp hA k hm; simp at this; omega)
  obtain ⟨v1, v2, v3⟩ := v
  exact ⟨by rw [f1, v1], fun j hj => by rw [f2 18 (by omega), v2 j hj], fun j hj => by rw [f2 19 (by omega), v3 j hj]⟩
theorem gx_arrC {D : gx_D} {M : fx_Mem} (hv : gx_CV D M) (hd : gx_ok D) {Q : fx_Mem → Prop} (h : ∀ M', gx_fr [322] [18, 19] [] M M' → gx_AC D M' → Q M') : wp_X0_arrange_5_1 M Q := by
  have hn := hd.1
  unfold wp_X0_arrange_5_1
  refine gx_seqC hv hd (fun M1 hfr hs => ?_)
  have hfr0 : gx_fr [322] [18, 19] [] M M1 := gx_fr_mo hfr (by decide) (by decide) (by decide)
  have hv1 := gx_CV_fr hn (by decide) (by decide) hfr hv
  simp only [gx_wrC hv1, gx_b0]
  refine ⟨fun hw => ?_, fun hw => ?_⟩
  · have hL : gx_L D = if D.2.2 = 0 then 0 else 1 := by unfold gx_L gx_R; rw [hw, gx_fl_f]
    have hn1 := hv1.2.2.2.2.2.1
    have key : ∀ s0 : Int32, s0 = nI (gx_L D) → wb_X0_arrange_5_1_41 Q s0 M1 := by
      rintro _ rfl
      unfold wb_X0_arrange_5_1_41
      rintro _ rfl _ rfl
      have hb : gx_L D ≤ 1 := by rw [hL]; split <;> omega
      rw [gx_r8, gx_r1, nI_clamp (by omega)]
      refine ⟨vp_in_nI (by omega) (by omega), ?_⟩
      rintro _ rfl
      rw [gx_r2 _ _ (by decide), hn1]
      refine h _ (gx_fr_sa _ _ (gx_fr_sa _ _ (gx_fr_si _ hfr0 (by decide)) (by decide)) (by decide)) ⟨?_, fun j hj => ?_, fun j hj => ?_⟩
      · rw [gx_r8, gx_r8, gx_r1]
      · rw [gx_rb _ _ _ (by decide), gx_rb _ _ _ (by decide), gx_r3]; exact hs j hj
      · rw [gx_ra, gx_ra]
        by_cases hj2 : j = gx_L D
        · rw [hj2, pk_us, gx_s_end (Nat.le_refl _)]
        · have : j = 0 := by omega
          rw [pk_un hj2, this, pk_us, gx_s_0]; rfl
    rw [hn1, gx_n3 (by omega)]
    exact ⟨fun e => key 0 (by rw [hL, if_pos e]; rfl), fun e => key 1 (by rw [hL, if_neg e]; rfl)⟩
  · rw [hv1.1]
    have hw' : decide (¬ D.2.1 5 = 0) = true := by simpa using hw
    refine gx_fillC hv1 hd hs _ (fun M2 hfr2 h19 => ?_)
    rintro _ rfl
    have hfr3 : gx_fr [322] [18, 19] [] M M2 := gx_fr_tr hfr0 (gx_fr_mo hfr2 (by decide) (by decide) (by decide))
    refine h _ (gx_fr_si _ hfr3 (by decide)) ⟨?_, fun j hj => ?_, fun j hj => ?_⟩
    · rw [gx_r1]; unfold gx_L gx_R; rw [hw']
    · rw [gx_r3, hfr2.2.1 18 (by decide)]; exact hs j hj
    · rw [gx_r3]
      unfold gx_s gx_R
      unfold gx_L gx_R at hj
      rw [hw'] at hj ⊢
      exact h19 j hj
