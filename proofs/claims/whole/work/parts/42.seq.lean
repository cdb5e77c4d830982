/-! the layout sequence -/
def gx_ins (o : Nat → Int32) (i : Nat) : Nat → (Nat → Nat) → (Nat → Nat)
  | 0, f => fun j => if j = 0 then i else f j
  | k + 1, f => if o (f k) ≤ o i then (fun j => if j = k + 1 then i else f j) else gx_ins o i k (fun j => if j = k + 1 then f k else f j)
def gx_sq (o : Nat → Int32) : Nat → (Nat → Nat)
  | 0 => fun j => j
  | i + 1 => gx_ins o i i (gx_sq o i)
theorem gx_ins_perm (o : Nat → Int32) (i : Nat) : ∀ (k : Nat) (f : Nat → Nat), k ≤ i → (∀ j, j ≤ i → j ≠ k → f j < i) → (∀ j l, j ≤ i → l ≤ i → j ≠ k → l ≠ k → f j = f l → j = l) →
    (∀ j, j ≤ i → gx_ins o i k f j ≤ i) ∧ (∀ j l, j ≤ i → l ≤ i → gx_ins o i k f j = gx_ins o i k f l → j = l) := by
  have base : ∀ (k : Nat) (f : Nat → Nat), k ≤ i → (∀ j, j ≤ i → j ≠ k → f j < i) → (∀ j l, j ≤ i → l ≤ i → j ≠ k → l ≠ k → f j = f l → j = l) →
      (∀ j, j ≤ i → (if j = k then i else f j) ≤ i) ∧ (∀ j l, j ≤ i → l ≤ i → (if j = k then i else f j) = (if l = k then i else f l) → j = l) := by
    intro k f hk hf hj
    refine ⟨fun j hj2 => ?_, fun j l hj2 hl2 he => ?_⟩
    · split
      · exact Nat.le_refl _
      · exact Nat.le_of_lt (hf j hj2 ‹_›)
    · by_cases h1 : j = k <;> by_cases h2 : l = k
      · omega
      · rw [if_pos h1, if_neg h2] at he; have := hf l hl2 h2; omega
      · rw [if_neg h1, if_pos h2] at he; have := hf j hj2 h1; omega
      · rw [if_neg h1, if_neg h2] at he; exact hj j l hj2 hl2 h1 h2 he
  intro k
  induction k with
  | zero => intro f hk hf hj; exact base 0 f hk hf hj
  | succ k ih =>
    intro f hk hf hj
    unfold gx_ins
    split
    · exact base (k + 1) f hk hf hj
    · apply ih
      · omega
      · intro j h1 h2
        split
        · exact hf k (by omega) (by omega)
        · exact hf j h1 (by omega)
      · intro j l h1 h2 h3 h4 he
        by_cases e1 : j = k + 1 <;> by_cases e2 : l = k + 1
        · omega
        · rw [if_pos e1, if_neg e2] at he; have := hj k l (by omega) h2 (by omega) e2 he; omega
        · rw [if_neg e1, if_pos e2] at he; have := hj j k h1 (by omega) e1 (by omega) he; omega
        · rw [if_neg e1, if_neg e2] at he; exact hj j l h1 h2 e1 e2 he
theorem gx_sq_perm (o : Nat → Int32) : ∀ n, (∀ j, j < n → gx_sq o n j < n) ∧ (∀ j l, j < n → l < n → gx_sq o n j = gx_sq o n l → j = l)
  | 0 => ⟨fun j hj => absurd hj (by omega), fun j l hj => absurd hj (by omega)⟩
  | n + 1 => by
    obtain ⟨h1, h2⟩ := gx_sq_perm o n
    obtain ⟨h3, h4⟩ := gx_ins_perm o n n (gx_sq o n) (Nat.le_refl _) (fun j hj hne => h1 j (by omega)) (fun j l hj hl hj2 hl2 he => h2 j l (by omega) (by omega) he)
    exact ⟨fun j hj => Nat.lt_succ_of_le (h3 j (by omega)), fun j l hj hl he => h4 j l (by omega) (by omega) he⟩
/-- the item at a place -/
def gx_it (D : gx_D) (k : Nat) : Nat := gx_sq (fun i => D.1 i 8) D.2.2 k
theorem gx_it_lt {D : gx_D} {k : Nat} (h : k < D.2.2) : gx_it D k < D.2.2 := (gx_sq_perm _ _).1 k h
theorem gx_it_inj {D : gx_D} {j k : Nat} (hj : j < D.2.2) (hk : k < D.2.2) (h : gx_it D j = gx_it D k) : j = k := (gx_sq_perm _ _).2 j k hj hk h
theorem gx_it_onto {D : gx_D} {i : Nat} (hi : i < D.2.2) : ∃ k, k < D.2.2 ∧ gx_it D k = i :=
  fb_onto (fun j hj => gx_it_lt hj) (fun j k hjk hk he => by have := gx_it_inj (by omega) hk he; omega) hi
theorem gx_seqC {D : gx_D} {M : fx_Mem} (hv : gx_CV D M) (hd : gx_ok D) {Q : fx_Mem → Prop} (h : ∀ M', gx_fr [] [18] [] M M' → (∀ j, j < D.2.2 → M'.2.1 18 j = nI (gx_it D j)) → Q M') : wp_X0_putInSequence_5_1 M Q := by
  have hn := hd.1
  have ho : ∀ i, i < D.2.2 → D.1 i 8 = (fun i => D.1 i 8) i := fun _ _ => rfl
  unfold gx_it at h
  generalize ho2 : (fun i => D.1 i 8) = o at h ho
  unfold wp_X0_putInSequence_5_1
  refine gx_cnt D.2.2 (fun i s => ∃ M1, s = (nI i, M1) ∧ gx_fr [] [18] [] M M1 ∧ ∀ j, j < i → M1.2.1 18 j = nI (gx_sq o i j)) ?_ (0, M) ⟨M, rfl, gx_fr_rfl _ _ _ _, fun j hj => absurd hj (by omega)⟩
  rintro i _ k hi ⟨M1, rfl, hfr, ha⟩ hk
  have hv1 := gx_CV_fr hn (by decide) (by decide) hfr hv
  have hn1 := hv1.2.2.2.2.2.1
  show wb_X0_putInSequence_5_1_2 (fun x2 M => k (x2, M)) Q (nI i) M1
  unfold wb_X0_putInSequence_5_1_2
  rw [hn1, nI_leI (by omega) (by omega)]
  refine ⟨fun hc => h M1 hfr (fun j hj => by rw [show D.2.2 = i by omega]; exact ha j (by omega)), fun hc => ⟨vp_in_nI (by omega) (by omega), ?_⟩⟩
  have hi2 : i < D.2.2 := by omega
  rw [nI_clamp (by omega), hv1.2.2.2.2.2.2 i hi2 8 (by decide), ho i hi2]
  rintro _ rfl
  have hexit : ∀ (p : Nat) (f : Nat → Nat) (M2 : fx_Mem), p ≤ i → (gx_sq o (i + 1) = fun j => if j = p then i else f j) → (∀ j, j ≤ i → j ≠ p → M2.2.1 18 j = nI (f j)) → gx_fr [] [18] [] M M2 → wb_X0_putInSequence_5_1_71 (fun x2 M => k (x2, M)) Q (nI i) (nI p) M2 := by
    intro p f M2 hp he hf hfr2
    unfold wb_X0_putInSequence_5_1_71
    refine ⟨vp_in_nI (by omega) (by omega), ?_⟩
    rintro _ rfl _ rfl
    rw [nI_1, nI_clamp (by omega)]
    refine hk _ hi2 ⟨_, rfl, gx_fr_sa _ _ hfr2 (by decide), fun j hj => ?_⟩
    rw [gx_ra, he]
    by_cases hjp : j = p
    · rw [hjp, pk_us]; simp
    · rw [pk_un hjp, hf j (by omega) hjp]; simp [hjp]
  refine gx_cnt i (fun t s => ∃ f M2, s = (nI i, o i, nI (i - t), M2) ∧ gx_ins o i (i - t) f = gx_sq o (i + 1) ∧ (∀ j, j ≤ i → j ≠ i - t → f j < i ∧ M2.2.1 18 j = nI (f j)) ∧ gx_fr [] [18] [] M M2) ?_ (nI i, o i, nI i, M1) ⟨gx_sq o i, M1, rfl, rfl, fun j hj hne => ⟨(gx_sq_perm o i).1 j (by omega), ha j (by omega)⟩, hfr⟩
  rintro t _ k2 ht ⟨f, M2, rfl, hins, hf, hfr2⟩ hk2
  have hv2 := gx_CV_fr hn (by decide) (by decide) hfr2 hv
  show wb_X0_putInSequence_5_1_23 (fun x2 x3 x4 M => k2 (x2, x3, x4, M)) (wb_X0_putInSequence_5_1_71 (fun x2 M => k (x2, M)) Q) Q (nI i) (o i) (nI (i - t)) M2
  unfold wb_X0_putInSequence_5_1_23
  rw [gx_n3 (by omega)]
  refine ⟨fun hc => ?_, fun hc => ?_⟩
  · refine hexit (i - t) f M2 (by omega) ?_ (fun j hj hne => (hf j hj hne).2) hfr2
    rw [← hins, hc]; rfl
  · have hft := hf (i - t - 1) (by omega) (by omega)
    rw [gx_n5 (by omega), nI_clamp (by omega), nI_clamp (n := i - t) (by omega), hft.2, nI_clamp (by omega), hv2.2.2.2.2.2.2 (f (i - t - 1)) (by omega) 8 (by decide), ho _ (by omega : f (i - t - 1) < D.2.2)]
    refine ⟨vp_in_nI (by omega) (by omega), vp_in_nI (by omega) (by omega), fun hle => ?_, fun hle => ⟨vp_in_nI (by omega) (by omega), vp_in_nI (by omega) (by omega), ?_⟩⟩
    · refine hexit (i - t) f M2 (by omega) ?_ (fun j hj hne => (hf j hj hne).2) hfr2
      rw [← hins]
      obtain ⟨p, hp⟩ : ∃ p, i - t = p + 1 := ⟨i - t - 1, by omega⟩
      rw [hp] at hle ⊢
      exact if_pos hle
    · rintro _ rfl _ rfl
      rw [gx_n6 (by omega)]
      refine hk2 _ (by omega) ⟨fun j => if j = i - t then f (i - t - 1) else f j, _, rfl, ?_, fun j hj hne => ?_, gx_fr_sa _ _ hfr2 (by decide)⟩
      · rw [← hins]
        obtain ⟨p, hp⟩ : ∃ p, i - t = p + 1 := ⟨i - t - 1, by omega⟩
        have hle2 : ¬ o (f p) ≤ o i := by have e9 : i - t - 1 = p := by omega
                                          rwa [e9] at hle
        rw [show i - (t + 1) = p by omega, hp]
        exact (if_neg hle2).symm
      · rw [gx_ra]
        by_cases hj2 : j = i - t
        · rw [hj2, pk_us]; simp only [if_true]; exact ⟨hft.1, trivial⟩
        · rw [pk_un hj2]; simp only [hj2, if_false]; exact hf j hj hj2
