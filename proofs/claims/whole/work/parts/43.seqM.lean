theorem gx_seqM {D : gx_D} {M : fx_Mem} (hv : gx_MV D M) (hd : gx_ok D) {Q : fx_Mem → Prop} (h : ∀ M', gx_fr [] [39, 45] [] M M' → (∀ j, j < D.2.2 → M'.2.1 39 j = nI (gx_it D j) ∧ M'.2.1 45 (gx_it D j) = nI j) → Q M') : wp_X7_findSequence_8 M Q := by
  have hn := hd.1
  have ho : ∀ i, i < D.2.2 → D.1 i 8 = (fun i => D.1 i 8) i := fun _ _ => rfl
  have hin : ∀ j k, j < D.2.2 → k < D.2.2 → gx_it D j = gx_it D k → j = k := fun j k hj hk he => gx_it_inj hj hk he
  have hlt : ∀ j, j < D.2.2 → gx_it D j < D.2.2 := fun j hj => gx_it_lt hj
  unfold gx_it at h hin hlt
  generalize ho2 : (fun i => D.1 i 8) = o at h ho hin hlt
  unfold wp_X7_findSequence_8
  refine gx_cnt D.2.2 (fun i s => ∃ M1, s = (nI i, M1) ∧ gx_fr [] [39, 45] [] M M1 ∧ ∀ j, j < i → M1.2.1 39 j = nI (gx_sq o i j)) ?_ (0, M) ⟨M, rfl, gx_fr_rfl _ _ _ _, fun j hj => absurd hj (by omega)⟩
  rintro i _ k hi ⟨M1, rfl, hfr, ha⟩ hk
  have hv1 := gx_MV_fr (by decide) (by decide) hfr hv
  have hn1 := hv1.2.1
  show wb_X7_findSequence_8_2 (fun x1 M => k (x1, M)) (wb_X7_findSequence_8_73 Q) Q (nI i) M1
  unfold wb_X7_findSequence_8_2
  rw [hn1, nI_leI (by omega) (by omega)]
  refine ⟨fun hc => ?_, fun hc => ?_⟩
  · have hin2 : i = D.2.2 := by omega
    subst hin2
    unfold wb_X7_findSequence_8_73
    refine gx_cnt D.2.2 (fun i s => ∃ M2, s = (nI i, M2) ∧ gx_fr [] [39, 45] [] M M2 ∧ (∀ j, j < D.2.2 → M2.2.1 39 j = nI (gx_sq o D.2.2 j)) ∧ (∀ j, j < i → M2.2.1 45 (gx_sq o D.2.2 j) = nI j)) ?_ (0, M1) ⟨M1, rfl, hfr, ha, fun j hj => absurd hj (by omega)⟩
    rintro i _ k2 hi ⟨M2, rfl, hfr2, h39, h45⟩ hk2
    have hv2 := gx_MV_fr (by decide) (by decide) hfr2 hv
    have hn2 := hv2.2.1
    show wb_X7_findSequence_8_75 (fun x1 M => k2 (x1, M)) Q (nI i) M2
    unfold wb_X7_findSequence_8_75
    rw [hn2, nI_leI (by omega) (by omega)]
    refine ⟨fun hc => h M2 hfr2 (fun j hj => ⟨h39 j hj, h45 j (by omega)⟩), fun hc => ?_⟩
    have hi2 : i < D.2.2 := by omega
    have hlt2 := hlt i hi2
    rw [nI_clamp (by omega), h39 i hi2, nI_clamp (by omega)]
    refine ⟨vp_in_nI (by omega) (by omega), vp_in_nI (by omega) (by omega), ?_⟩
    rintro _ rfl _ rfl
    rw [nI_1]
    refine hk2 _ hi2 ⟨_, rfl, gx_fr_sa _ _ hfr2 (by decide), fun j hj => by rw [gx_rb _ _ _ (by decide)]; exact h39 j hj, fun j hj => ?_⟩
    rw [gx_ra]
    by_cases hj2 : j = i
    · rw [hj2, pk_us]
    · rw [pk_un (fun e => hj2 (hin j i (by omega) hi2 e))]; exact h45 j (by omega)
  have hi2 : i < D.2.2 := by omega
  have hexit : ∀ (p : Nat) (f : Nat → Nat) (M2 : fx_Mem), p ≤ i → (gx_sq o (i + 1) = fun j => if j = p then i else f j) → (∀ j, j ≤ i → j ≠ p → M2.2.1 39 j = nI (f j)) → gx_fr [] [39, 45] [] M M2 → wb_X7_findSequence_8_60 (fun x1 M => k (x1, M)) (wb_X7_findSequence_8_73 Q) Q (nI i) (nI p) M2 := by
    intro p f M2 hp he hf hfr2
    unfold wb_X7_findSequence_8_60
    refine ⟨vp_in_nI (by omega) (by omega), ?_⟩
    rintro _ rfl _ rfl
    rw [nI_1, nI_clamp (by omega)]
    refine hk _ hi2 ⟨_, rfl, gx_fr_sa _ _ hfr2 (by decide), fun j hj => ?_⟩
    rw [gx_ra, he]
    by_cases hjp : j = p
    · rw [hjp, pk_us]; simp
    · rw [pk_un hjp, hf j (by omega) hjp]; simp [hjp]
  refine gx_cnt i (fun t s => ∃ f M2, s = (nI i, nI (i - t), M2) ∧ gx_ins o i (i - t) f = gx_sq o (i + 1) ∧ (∀ j, j ≤ i → j ≠ i - t → f j < i ∧ M2.2.1 39 j = nI (f j)) ∧ gx_fr [] [39, 45] [] M M2) ?_ (nI i, nI i, M1) ⟨gx_sq o i, M1, rfl, rfl, fun j hj hne => ⟨(gx_sq_perm o i).1 j (by omega), ha j (by omega)⟩, hfr⟩
  rintro t _ k2 ht ⟨f, M2, rfl, hins, hf, hfr2⟩ hk2
  have hv2 := gx_MV_fr (by decide) (by decide) hfr2 hv
  show wb_X7_findSequence_8_12 (fun x1 x2 M => k2 (x1, x2, M)) (wb_X7_findSequence_8_60 (fun x1 M => k (x1, M)) (wb_X7_findSequence_8_73 Q) Q) Q (nI i) (nI (i - t)) M2
  unfold wb_X7_findSequence_8_12
  rw [gx_n3 (by omega)]
  refine ⟨fun hc => ?_, fun hc => ?_⟩
  · refine hexit (i - t) f M2 (by omega) ?_ (fun j hj hne => (hf j hj hne).2) hfr2
    rw [← hins, hc]; rfl
  · have hft := hf (i - t - 1) (by omega) (by omega)
    have oa := (gx_of hv2 hd (show f (i - t - 1) < D.2.2 by omega)).2.2.2.2.2.2.2.2.1
    have ob := (gx_of hv2 hd hi2).2.2.2.2.2.2.2.2.1
    rw [gx_n5 (by omega), nI_clamp (by omega), nI_clamp (n := i - t) (by omega), hft.2]
    simp only [oa, ob]
    rw [ho _ (by omega : f (i - t - 1) < D.2.2), ho i hi2]
    refine ⟨vp_in_nI (by omega) (by omega), fun hle => ?_, fun hle => ⟨vp_in_nI (by omega) (by omega), vp_in_nI (by omega) (by omega), ?_⟩⟩
    · refine hexit (i - t) f M2 (by omega) ?_ (fun j hj hne => (hf j hj hne).2) hfr2
      rw [← hins]
      obtain ⟨p, hp⟩ : ∃ p, i - t = p + 1 := ⟨i - t - 1, by omega⟩
      rw [hp] at hle ⊢
      exact if_pos hle
    · rintro _ rfl _ rfl
      rw [gx_n6 (by omega)]
      refine hk2 _ (by omega) ⟨fun j => if j = i - t then f (i - t - 1) else f j, _, rfl, ?_, fun j hj hne => ?_, gx_fr_sa _ _ hfr2 (by decide)⟩
      · rw [← hins]
        obtain ⟨p, hp⟩ : ∃ p, i - t = p + 1 := ⟨i - t - 1, by omega⟩
        have hle2 : ¬ o (f p) ≤ o i := by have e9 : i - t - 1 = p := by omega
                                          rwa [e9] at hle
        rw [show i - (t + 1) = p by omega, hp]
        exact (if_neg hle2).symm
      · rw [gx_ra]
        by_cases hj2 : j = i - t
        · rw [hj2, pk_us]; simp only [if_true]
          exact hft
        · rw [pk_un hj2]; simp only [hj2, if_false]; exact hf j hj hj2
