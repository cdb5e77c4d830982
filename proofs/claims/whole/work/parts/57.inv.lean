/-! what holds between the calls -/
def gx_SV (D : gx_D) (M : fx_Mem) : Prop :=
  M.1 546 = nI D.2.2 ∧ (∀ k, k < 9 → M.2.1 56 (200 + k) = D.2.1 k) ∧ (∀ i, i < D.2.2 → ∀ p, p < 10 → M.2.1 56 (10 * i + p) = D.1 i p)
def gx_TX (M : fx_Mem) : Prop := ∃ t, t ≤ 80 ∧ M.1 193 = nI t ∧ M.1 520 = nI t ∧ ∀ k, k < t → M.2.1 14 k = M.2.1 32 k
def gx_SK (M : fx_Mem) : Prop := (M.1 2 = 0 ∧ M.1 546 = -1) ∨ (M.1 2 = 1 ∧ ∃ D, gx_ok D ∧ gx_KV D M ∧ gx_SV D M)
theorem gx_TX_fr {F A L : List Nat} {M M' : fx_Mem} (hF : F.all (fun k => k ≠ 193 && k ≠ 520) = true) (hA : A.all (fun k => k ≠ 14 && k ≠ 32) = true) (h : gx_fr F A L M M') (v : gx_TX M) : gx_TX M' := by
  have f1 : ∀ k, (k = 193 ∨ k = 520) → M'.1 k = M.1 k := fun k hk => h.1 k (fun hm => by
    have := List.all_eq_true.mp hF k hm; simp at this; omega)
  have f2 : ∀ k, (k = 14 ∨ k = 32) → M'.2.1 k = M.2.1 k := fun k hk => h.2.1 k (fun hm => by
    have := List.all_eq_true.mp hA k hm; simp at this; omega)
  obtain ⟨t, h1, h2, h3, h4⟩ := v
  exact ⟨t, h1, by rw [f1 193 (by omega), h2], by rw [f1 520 (by omega), h3], fun k hk => by rw [f2 14 (by omega), f2 32 (by omega)]; exact h4 k hk⟩
theorem gx_SK_fr {F A L : List Nat} {M M' : fx_Mem} (hF : F.all (fun k => k ≠ 2 && k ≠ 546 && k ≠ 128 && k ≠ 129 && k ≠ 130 && k ≠ 131 && k ≠ 134) = true) (hA : A.all (fun k => k ≠ 12 && k ≠ 56 && k < 77) = true) (h : gx_fr F A L M M') (v : gx_SK M) : gx_SK M' := by
  have f1 : ∀ k, (k = 2 ∨ k = 546 ∨ k = 128 ∨ k = 129 ∨ k = 130 ∨ k = 131 ∨ k = 134) → M'.1 k = M.1 k := fun k hk => h.1 k (fun hm => by
    have := List.all_eq_true.mp hF k hm; simp at this; omega)
  have f2 : ∀ k, (k = 12 ∨ k = 56 ∨ 77 ≤ k) → M'.2.1 k = M.2.1 k := fun k hk => h.2.1 k (fun hm => by
    have := List.all_eq_true.mp hA k hm; simp at this; omega)
  rcases v with ⟨h1, h2⟩ | ⟨h1, D, hd, ⟨v1, v2, v3, v4, v5, v6, v7⟩, ⟨w1, w2, w3⟩⟩
  · exact Or.inl ⟨by rw [f1 2 (by omega), h1], by rw [f1 546 (by omega), h2]⟩
  · refine Or.inr ⟨by rw [f1 2 (by omega), h1], D, hd, ⟨by rw [f1 128 (by omega), v1], by rw [f1 129 (by omega), v2], by rw [f1 130 (by omega), v3], by rw [f1 131 (by omega), v4], fun k hk => by rw [f2 12 (by omega), v5 k hk], by rw [f1 134 (by omega), v6], fun i hi p hp => by rw [f2 (77 + i) (by omega), v7 i hi p hp]⟩, ⟨by rw [f1 546 (by omega), w1], fun k hk => by rw [f2 56 (by omega), w2 k hk], fun i hi p hp => by rw [f2 56 (by omega), w3 i hi p hp]⟩⟩
def gx_Inv (M : fx_Mem) : Prop := ∃ D, gx_ok D ∧ gx_CV D M ∧ gx_MV D M ∧ gx_TX M ∧ gx_SK M
/-- the law's comparison at the end of a case -/
def gx_T (L : Nat) (xs : Nat → Int32) (K : Int32 → fx_Mem → Prop) (x4 r3 : Int32) (b : Int64) (M : fx_Mem) : Prop :=
  ((M.1 512 = r3 → ((r3 = 0 → ((lg_cmp (M.2.2 9 0) b = 0 → wb_law_1622 L xs K x4 M) ∧ (¬ lg_cmp (M.2.2 9 0) b = 0 → False))) ∧ (¬ r3 = 0 → wb_law_1622 L xs K x4 M))) ∧ (¬ M.1 512 = r3 → False))
abbrev gx_K (j : Nat) : Int32 → fx_Mem → Prop := fun x4 M' => x4 = nI (j + 4) ∧ gx_Inv M'
theorem gx_nx {L : Nat} {xs : Nat → Int32} {j : Nat} {M : fx_Mem} (h : gx_Inv M) : wb_law_1622 L xs (gx_K j) (nI j) M := by
  unfold wb_law_1622
  rintro _ rfl
  exact ⟨by rw [show (4 : Int32) = nI 4 from rfl, nI_add], h⟩
theorem gx_tl {L : Nat} {xs : Nat → Int32} {j : Nat} {r3 : Int32} {b : Int64} {M : fx_Mem} (h1 : M.1 512 = r3) (h2 : r3 = 0 → M.2.2 9 0 = b) (h3 : gx_Inv M) : gx_T L xs (gx_K j) (nI j) r3 b M := by
  refine ⟨fun _ => ⟨fun e => ⟨fun _ => gx_nx h3, fun e2 => e2 ((lg_cmp_eq _ _).mpr (h2 e))⟩, fun _ => gx_nx h3⟩, fun e => e h1⟩
/-- arguments of the script -/
theorem gx_ar {L j : Nat} (h : j + 4 ≤ L) (hL : L ≤ 2048) (c : Nat) (hc : c < 4) : nI j + nI c = nI (j + c) ∧ vp_in (nI (j + c)) L := ⟨nI_add _ _, vp_in_nI (by omega) (by omega)⟩
/-! ranges -/
def gx_in (a b c : Int32) : Bool := decide (¬ a < b ∧ ¬ c < a)
theorem gx_iwC (a b c : Int32) (M : fx_Mem) (Q : Int32 → fx_Mem → Prop) : wp_X6_isWithin a b c M Q ↔ Q (gx_b (gx_in a b c)) M := by
  unfold wp_X6_isWithin gx_in gx_b
  by_cases h1 : a < b
  · simp [h1]
  · by_cases h2 : c < a
    · simp [h1, h2]
    · simp [h1, h2]
theorem gx_iwM (a b c : Int32) (M : fx_Mem) (Q : Int32 → fx_Mem → Prop) : wp_X7_isBetween a.toInt64 b.toInt64 c.toInt64 M Q ↔ Q (gx_b (gx_in a b c)) M := by
  unfold wp_X7_isBetween gx_in gx_b
  rw [lg_cmp_lt, lg_cmp_gt, fa_wide_lt, fa_wide_lt]
  by_cases h1 : a < b
  · simp [h1]
  · by_cases h2 : c < a
    · simp [h1, h2]
    · simp [h1, h2]
theorem gx_in_t {a b c : Int32} (h : gx_in a b c = true) : b.toInt ≤ a.toInt ∧ a.toInt ≤ c.toInt := by
  unfold gx_in at h
  have := of_decide_eq_true h
  rw [fa_lt, fa_lt] at this; omega
theorem gx_in_i {a b c : Int32} : gx_in a b c = true ↔ (b.toInt ≤ a.toInt ∧ a.toInt ≤ c.toInt) := by
  unfold gx_in
  rw [decide_eq_true_iff, fa_lt, fa_lt]; omega
theorem gx_itM {D : gx_D} {M : fx_Mem} (hv : gx_MV D M) (hd : gx_ok D) (a : Int32) (Q : Int32 → fx_Mem → Prop) : wp_X7_isItem_8 a M Q ↔ Q (gx_b (gx_in a 0 (nI D.2.2 - 1))) M := by
  unfold wp_X7_isItem_8
  rw [hv.2.1]
  have hn := hd.1
  have e : (nI D.2.2 ≤ a) ↔ (nI D.2.2 - 1 < a) := by
    have e1 : (nI D.2.2).toInt = (D.2.2 : Int) := nI_toInt (by omega)
    have z1 : (1 : Int32).toInt = 1 := rfl
    rw [fa_le, fa_lt, gx_ts (by rw [e1, z1]; omega) (by rw [e1, z1]; omega), e1, z1]; omega
  rw [e]
  unfold gx_in gx_b
  by_cases h1 : a < 0
  · simp [h1]
  · by_cases h2 : nI D.2.2 - 1 < a
    · simp [h1, h2]
    · simp [h1, h2]
theorem gx_it_ex {D : gx_D} (hd : gx_ok D) {a : Int32} (h : gx_in a 0 (nI D.2.2 - 1) = true) : ∃ i, i < D.2.2 ∧ a = nI i := by
  have hn := hd.1
  have h1 := gx_in_t h
  have e1 : (nI D.2.2).toInt = (D.2.2 : Int) := nI_toInt (by omega)
  have z1 : (1 : Int32).toInt = 1 := rfl
  have z0 : (0 : Int32).toInt = 0 := rfl
  rw [gx_ts (by rw [e1, z1]; omega) (by rw [e1, z1]; omega), e1, z1, z0] at h1
  refine ⟨a.toNatClampNeg, by rw [gx_nnv]; omega, gx_nn h1.1⟩
theorem gx_bt {b : Bool} (h : ¬ b = false) : b = true := by simpa using h
theorem gx_row_ex {a : Int32} {c : Int32} (h : gx_in a 0 c = true) {N : Nat} (hc : c.toInt < N) : ∃ p, p < N ∧ a = nI p := by
  have h1 := gx_in_t h
  have z0 : (0 : Int32).toInt = 0 := rfl
  rw [z0] at h1
  exact ⟨a.toNatClampNeg, by rw [gx_nnv]; omega, gx_nn h1.1⟩
/-! the box -/
def gx_ub (D : gx_D) (k : Nat) (v : Int32) : gx_D := (D.1, fun j => if j = k then v else D.2.1 j, D.2.2)
theorem gx_MV_u {D : gx_D} {M : fx_Mem} (hv : gx_MV D M) {k : Nat} (v : Int32) : gx_MV (gx_ub D k v) (fx_sa M 30 k v) := by
  obtain ⟨h1, h2, h3⟩ := hv
  refine ⟨fun j hj => ?_, h2, fun i hi p hp => by rw [gx_rb _ _ _ (by decide)]; exact h3 i hi p hp⟩
  rw [gx_ra]
  show _ = if j = k then v else D.2.1 j
  by_cases e : j = k
  · rw [e, pk_us, if_pos rfl]
  · rw [pk_un e, if_neg e]; exact h1 j hj
theorem gx_MV_512 {D : gx_D} {M : fx_Mem} (hv : gx_MV D M) (v : Int32) : gx_MV D (fx_si M 512 v) := gx_MV_fr (F := [512]) (A := []) (L := []) (by decide) (by decide) (gx_fr_si _ (gx_fr_rfl _ _ _ _) (by decide)) hv
theorem gx_reM {D : gx_D} {M : fx_Mem} (hv : gx_MV D M) {k : Nat} (hk : k < 9) {x : Int32} (hx : x = nI k) (v : Int32) {Q : Int32 → fx_Mem → Prop} (h : Q (D.2.1 k) (fx_sa (fx_si M 512 0) 30 k v)) : wp_X7_replaces_8 x v M Q := by
  subst hx
  unfold wp_X7_replaces_8
  rintro _ rfl
  rw [nI_clamp (by omega), gx_r3, hv.1 k hk]
  refine ⟨vp_in_nI (by omega) (by omega), ?_⟩
  rintro _ rfl
  refine ⟨vp_in_nI (by omega) (by omega), ?_⟩
  rintro _ rfl
  exact h
theorem gx_CV_9 {D : gx_D} {M : fx_Mem} (hd : gx_ok D) (hv : gx_CV D M) (v : Int64) : gx_CV D (fx_sl M 9 0 v) := gx_CV_fr hd.1 (F := []) (A := []) (L := [9]) (by decide) (by decide) (gx_fr_sl _ _ (gx_fr_rfl _ _ _ _) (by decide)) hv
/-- a frame for all but the views of the items -/
theorem gx_rest {F A L : List Nat} {M M' : fx_Mem} (hF : F.all (fun k => k ≠ 193 && k ≠ 520 && k ≠ 2 && k ≠ 546 && k ≠ 128 && k ≠ 129 && k ≠ 130 && k ≠ 131 && k ≠ 134) = true) (hA : A.all (fun k => k ≠ 14 && k ≠ 32 && k ≠ 12 && k ≠ 56 && k < 77) = true) (h : gx_fr F A L M M') (v : gx_TX M ∧ gx_SK M) : gx_TX M' ∧ gx_SK M' := by
  refine ⟨gx_TX_fr ?_ ?_ h v.1, gx_SK_fr ?_ ?_ h v.2⟩
  · rw [List.all_eq_true] at hF ⊢; intro k hk; have := hF k hk; simp at this ⊢; omega
  · rw [List.all_eq_true] at hA ⊢; intro k hk; have := hA k hk; simp at this ⊢; omega
  · rw [List.all_eq_true] at hF ⊢; intro k hk; have := hF k hk; simp at this ⊢; omega
  · rw [List.all_eq_true] at hA ⊢; intro k hk; have := hA k hk; simp at this ⊢; omega
/-- the reference refuses: what remains -/
theorem gx_fa {D : gx_D} {M : fx_Mem} (hd : gx_ok D) (hv : gx_CV D M) (hm : gx_MV D M) (hr : gx_TX M ∧ gx_SK M) {L : Nat} {xs : Nat → Int32} {j : Nat} (c : Int32) (hc : ¬ c = 0) (b : Int64) : gx_T L xs (gx_K j) (nI j) c b (fx_si M 512 c) := by
  have hfr : gx_fr [512] [] [] M (fx_si M 512 c) := gx_fr_si _ (gx_fr_rfl _ _ _ _) (by decide)
  have h2 := gx_rest (by decide) (by decide) hfr hr
  exact gx_tl (gx_r1 _ _ _) (fun e => absurd e hc) ⟨D, hd, gx_CV_fr hd.1 (by decide) (by decide) hfr hv, gx_MV_fr (by decide) (by decide) hfr hm, h2.1, h2.2⟩
