/-! reading an item: the reference -/
theorem gx_poM (ch : Int32) (M : fx_Mem) {Q : Int32 → fx_Mem → Prop} (h1 : gx_pf ch < 10 → Q (nI (gx_pf ch)) M) (h0 : ¬ gx_pf ch < 10 → Q (-1) M) : wp_X7_propertyOf ch M Q := by
  have no : ∀ x : Int32, ch = x → gx_pf x = 10 → Q (-1) M := fun x e hx => h0 (by rw [e, hx]; omega)
  have yes : ∀ (x : Int32) (n : Nat), ch = x → gx_pf x = n → n < 10 → Q (nI n) M := fun x n e hx hn => by
    have := h1 (by rw [e, hx]; exact hn)
    rw [e, hx] at this; exact this
  unfold wp_X7_propertyOf
  refine ⟨fun e => yes _ 6 e (by decide) (by decide), fun e => yes _ 0 e (by decide) (by decide), fun e => yes _ 5 e (by decide) (by decide), fun e => no _ e (by decide), fun e => no _ e (by decide), fun e => no _ e (by decide), fun e => yes _ 1 e (by decide) (by decide), fun e => no _ e (by decide), fun e => no _ e (by decide), fun e => no _ e (by decide), fun e => no _ e (by decide), fun e => yes _ 7 e (by decide) (by decide), fun e => yes _ 3 e (by decide) (by decide), fun e => no _ e (by decide), fun e => yes _ 8 e (by decide) (by decide), fun e => no _ e (by decide), fun e => no _ e (by decide), fun e => no _ e (by decide), fun e => yes _ 2 e (by decide) (by decide), fun e => yes _ 9 e (by decide) (by decide), fun e => no _ e (by decide), fun e => no _ e (by decide), fun e => no _ e (by decide), fun e => yes _ 4 e (by decide) (by decide), ?_⟩
  intro n97 n98 n99 n100 n101 n102 n103 n104 n105 n106 n107 n108 n109 n110 n111 n112 n113 n114 n115 n116 n117 n118 n119 n120
  apply h0
  intro hlt
  have hy := gx_pf_y hlt
  have key : ∀ i, i < 10 → fx_tLE i = 98 ∨ fx_tLE i = 103 ∨ fx_tLE i = 115 ∨ fx_tLE i = 109 ∨ fx_tLE i = 120 ∨ fx_tLE i = 99 ∨ fx_tLE i = 97 ∨ fx_tLE i = 108 ∨ fx_tLE i = 111 ∨ fx_tLE i = 116 := by decide
  have := key _ hlt
  rw [hy] at this
  rcases this with e | e | e | e | e | e | e | e | e | e
  · exact n98 e
  · exact n103 e
  · exact n115 e
  · exact n109 e
  · exact n120 e
  · exact n99 e
  · exact n97 e
  · exact n108 e
  · exact n111 e
  · exact n116 e
def gx_dg (c : Nat → Int32) (t a : Nat) : Bool := decide (a < t) && gx_in (c a) 48 57
theorem gx_idM {M : fx_Mem} {c : Nat → Int32} {t a : Nat} (ht : t ≤ 80) (h520 : M.1 520 = nI t) (h521 : M.1 521 = nI a) (ha : a ≤ t) (hc : ∀ k, k < t → M.2.1 32 k = c k) (Q : Int32 → fx_Mem → Prop) : wp_X7_isDigit_8 M Q ↔ Q (gx_b (gx_dg c t a)) M := by
  unfold wp_X7_isDigit_8
  rw [h520, h521, nI_leI (by omega) (by omega), nI_clamp (by omega)]
  unfold gx_dg
  by_cases e : t ≤ a
  · have e2 : ¬ a < t := by omega
    simp [e, e2, gx_b]
  · have e2 : a < t := by omega
    have hvp : vp_in (nI a) 80 := vp_in_nI (by omega) (by omega)
    rw [hc a e2, show (48 : Int64) = (48 : Int32).toInt64 from by decide, show (57 : Int64) = (57 : Int32).toInt64 from by decide, gx_iwM]
    cases hb : gx_in (c a) 48 57 with
    | true => simp [e, e2, hvp, gx_b]
    | false => simp [e, e2, hvp, gx_b]
theorem gx_in_45 : gx_in 45 48 57 = false := by decide
theorem gx_in_32 : gx_in 32 48 57 = false := by decide
/-- no digit, no space, no minus behind a letter: an error -/
theorem gx_nx_no {s : Nat} {ch : Int32} (h0 : ¬ s = 0) (hd : gx_in ch 48 57 = false ∨ 6 ≤ s) (h1 : s = 1 → ¬ ch = 45) (h3 : 3 ≤ s → ¬ ch = 32) : gx_nxs s ch = none := by
  have k63 : gx_nx63 s ch = none := by
    unfold gx_nx63
    split
    · rename_i e
      rw [if_pos]
      rcases Nat.lt_or_ge s 3 with x | x
      · exact x
      · exact absurd e (h3 x)
    · rfl
  have k50 : gx_nx50 s ch = none := by
    unfold gx_nx50
    split
    · rename_i e
      rw [if_neg (fun x => h1 x e)]; exact k63
    · exact k63
  unfold gx_nxs
  rw [if_neg h0]
  split
  · exact k50
  · split
    · exact k50
    · split
      · exact k50
      · rename_i a1 a2 a3
        rcases hd with e | e
        · have : gx_in ch 48 57 = true := decide_eq_true ⟨a1, a2⟩
          rw [this] at e; cases e
        · omega
theorem gx_nx_d {s : Nat} {ch : Int32} (h0 : ¬ s = 0) (hd : gx_in ch 48 57 = true) (h6 : s < 6) : gx_nxs s ch = some (if 3 ≤ s then s + 1 else 3) := by
  have h := of_decide_eq_true hd
  unfold gx_nxs
  rw [if_neg h0, if_neg h.1, if_neg h.2, if_neg (by omega)]
  split <;> rfl
/-- a piece that the reference has read -/
def gx_pc (c : Nat → Int32) (t k : Nat) (M : fx_Mem) : Prop := gx_pP c t k < 10 ∧ M.2.1 33 k = nI (gx_pP c t k) ∧ M.2.1 34 k = gx_pV c t k ∧ M.2.1 35 k = nI (gx_pA c t k)
theorem gx_tsM {M : fx_Mem} {c : Nat → Int32} {t a k : Nat} (ht : t ≤ 80) (h520 : M.1 520 = nI t) (h521 : M.1 521 = nI a) (h522 : M.1 522 = nI k) (ha : a ≤ t) (hk : k < 40) (hc : ∀ x, x < t → M.2.1 32 x = c x) (h0 : gx_dr c a = some 0) {Q : Int32 → fx_Mem → Prop}
    (hF : ∀ M' e, gx_fr [521, 522] [33, 34, 35] [] M M' → M'.1 521 = nI e → gx_er c t e → Q 0 M')
    (hS : ∀ M' b s, gx_fr [521, 522] [33, 34, 35] [] M M' → M'.1 521 = nI b → M'.1 522 = nI (k + 1) → a + 2 ≤ b → b ≤ t → 3 ≤ s → s ≤ 6 → gx_dr c b = some s → (b < t → ¬ c b = 32 → gx_nxs s (c b) = none) → (∀ x, a ≤ x → x < b → ¬ c x = 32) → gx_pf (c a) < 10 → M'.2.1 33 k = nI (gx_pf (c a)) → M'.2.1 34 k = gx_val c (a + 1) b → M'.2.1 35 k = nI a → (∀ i, i < k → M'.2.1 33 i = M.2.1 33 i ∧ M'.2.1 34 i = M.2.1 34 i ∧ M'.2.1 35 i = M.2.1 35 i) → Q 1 M') : wp_X7_takesSetting_8 M Q := by
  unfold wp_X7_takesSetting_8
  rw [h520, h521, nI_eq (by omega) (by omega), nI_clamp (by omega)]
  refine ⟨fun e => hF M a (gx_fr_rfl _ _ _ _) h521 (Or.inr ⟨e, 0, by omega, by rw [← e]; exact h0⟩), fun e => ⟨vp_in_nI (by omega) (by omega), ?_⟩⟩
  have hat : a < t := by omega
  rw [hc a hat]
  refine gx_poM _ M (fun hpf => ⟨fun _ => ?_, fun x => absurd (nI_pos' (by omega)) x⟩) (fun hpf => ⟨fun x => absurd x (by decide), fun _ => hF M a (gx_fr_rfl _ _ _ _) h521 (Or.inl ⟨hat, 0, h0, ?_⟩)⟩)
  rotate_left
  · unfold gx_nxs; rw [if_pos rfl, if_pos (by omega)]
  rw [h521, nI_clamp (by omega), hc a hat]
  refine ⟨vp_in_nI (by omega) (by omega), gx_poM _ M (fun _ => ?_) (fun x => absurd hpf x)⟩
  rw [h522, nI_clamp (by omega)]
  refine ⟨vp_in_nI (by omega) (by omega), ?_⟩
  rintro _ rfl
  rw [gx_r8, h522, h521, nI_clamp (by omega)]
  refine ⟨vp_in_nI (by omega) (by omega), ?_⟩
  rintro _ rfl
  rw [gx_r8, gx_r8, h521, nI_1]
  rintro _ rfl
  generalize hM3 : fx_si (fx_sa (fx_sa M 33 k (nI (gx_pf (c a)))) 35 k (nI a)) 521 (nI (a + 1)) = M3
  have hfr3 : gx_fr [521, 522] [33, 34, 35] [] M M3 := by rw [← hM3]; exact gx_fr_si _ (gx_fr_sa _ _ (gx_fr_sa _ _ (gx_fr_rfl _ _ _ _) (by decide)) (by decide)) (by decide)
  have g521 : M3.1 521 = nI (a + 1) := by rw [← hM3, gx_r1]
  have g522 : M3.1 522 = nI k := by rw [← hM3, gx_r2 _ _ (by decide), gx_r8, gx_r8]; exact h522
  have g520 : M3.1 520 = nI t := by rw [hfr3.1 520 (by decide)]; exact h520
  have g33 : M3.2.1 33 = upd (M.2.1 33) k (nI (gx_pf (c a))) := by rw [← hM3, gx_r3, gx_rb _ _ _ (by decide), gx_ra]
  have g35 : M3.2.1 35 = upd (M.2.1 35) k (nI a) := by rw [← hM3, gx_r3, gx_ra, gx_rb _ _ _ (by decide)]
  have g34 : M3.2.1 34 = M.2.1 34 := by rw [← hM3, gx_r3, gx_rb _ _ _ (by decide), gx_rb _ _ _ (by decide)]
  have gc : ∀ x, x < t → M3.2.1 32 x = c x := fun x hx => by rw [hfr3.2.1 32 (by decide)]; exact hc x hx
  clear hM3
  have hd1 : gx_dr c (a + 1) = some 1 := by
    rw [gx_dr_s h0]; unfold gx_nxs; rw [if_pos rfl, if_neg (by omega)]
  have hca : ¬ c a = 32 := gx_32 hpf
  -- with or without a minus
  have main : ∀ mi : Bool, (mi = true → a + 1 < t ∧ c (a + 1) = 45) → (mi = false → a + 1 < t → ¬ c (a + 1) = 45) → wb_X7_takesSetting_8_102 Q (gx_b mi) M3 := by
    intro mi hmt hmf
    have hle : a + 1 + gx_i1 mi ≤ t := by
      cases mi with
      | true => have := (hmt rfl).1; show a + 1 + 1 ≤ t; omega
      | false => show a + 1 + 0 ≤ t; omega
    have hdm : gx_dr c (a + 1 + gx_i1 mi) = some (1 + gx_i1 mi) := by
      cases mi with
      | true =>
        show gx_dr c (a + 1 + 1) = some 2
        rw [gx_dr_s hd1, (hmt rfl).2]; decide
      | false => exact hd1
    have hnf : gx_nf c (a + 1) (gx_i1 mi) = (0, mi) := by
      cases mi with
      | true => exact if_pos (hmt rfl).2
      | false => rfl
    have hsp : ∀ x, a ≤ x → x < a + 1 + gx_i1 mi → ¬ c x = 32 := by
      intro x x1 x2
      by_cases e9 : x = a
      · rw [e9]; exact hca
      · cases mi with
        | true =>
          have x3 : x < a + 1 + 1 := x2
          rw [show x = a + 1 by omega, (hmt rfl).2]; decide
        | false => have x3 : x < a + 1 + 0 := x2; omega
    have hi1 : gx_i1 mi ≤ 1 := by cases mi <;> decide
    have w117 : ∀ (s0 : Int32), s0 = nI (gx_i1 mi) → wb_X7_takesSetting_8_117 Q (gx_b mi) s0 (nI (a + 1)) M3 := by
      rintro _ rfl
      unfold wb_X7_takesSetting_8_117
      rw [nI_add]
      rintro _ rfl
      generalize hM4 : fx_si M3 521 (nI (a + 1 + gx_i1 mi)) = M4
      have hfr4 : gx_fr [521, 522] [33, 34, 35] [] M M4 := by rw [← hM4]; exact gx_fr_si _ hfr3 (by decide)
      have k521 : M4.1 521 = nI (a + 1 + gx_i1 mi) := by rw [← hM4, gx_r1]
      have k522 : M4.1 522 = nI k := by rw [← hM4, gx_r2 _ _ (by decide)]; exact g522
      have k520 : M4.1 520 = nI t := by rw [← hM4, gx_r2 _ _ (by decide)]; exact g520
      have kA : M4.2 = M3.2 := by rw [← hM4, gx_r3]
      have kc : ∀ x, x < t → M4.2.1 32 x = c x := fun x hx => by rw [kA]; exact gc x hx
      clear hM4
      rw [gx_idM ht k520 k521 hle kc, gx_b0]
      refine ⟨fun e1 => hF M4 _ hfr4 k521 ?_, fun e1 => ?_⟩
      · unfold gx_dg at e1
        rcases Nat.lt_or_ge (a + 1 + gx_i1 mi) t with e2 | e2
        · refine Or.inl ⟨e2, _, hdm, gx_nx_no (by omega) (Or.inl ?_) (fun e3 => ?_) (fun e3 => absurd e3 (by omega))⟩
          · simpa [e2] using e1
          · have : mi = false := by cases mi with
              | true => exact absurd e3 (by decide)
              | false => rfl
            subst this
            exact hmf rfl e2
        · exact Or.inr ⟨by omega, 1 + gx_i1 mi, by omega, by rw [show t = a + 1 + gx_i1 mi by omega]; exact hdm⟩
      · have hdg0 := gx_bt e1
        refine gx_cnt 4 (fun d s => ∃ M5, s = (gx_b mi, (gx_nf c (a + 1) (gx_i1 mi + d)).1, nI d, M5) ∧ gx_fr [521] [] [] M4 M5 ∧ M5.1 521 = nI (a + 1 + gx_i1 mi + d) ∧ a + 1 + gx_i1 mi + d ≤ t ∧ (gx_nf c (a + 1) (gx_i1 mi + d)).2 = mi ∧ (d = 0 → gx_dg c t (a + 1 + gx_i1 mi) = true) ∧ (0 < d → gx_dr c (a + 1 + gx_i1 mi + d) = some (2 + d)) ∧ (∀ x, a ≤ x → x < a + 1 + gx_i1 mi + d → ¬ c x = 32)) ?_ (gx_b mi, 0, 0, M4) ⟨M4, by show (gx_b mi, (0 : Int32), (0 : Int32), M4) = (gx_b mi, (gx_nf c (a + 1) (gx_i1 mi)).1, nI 0, M4); rw [hnf]; rfl, gx_fr_rfl _ _ _ _, k521, hle, by show (gx_nf c (a + 1) (gx_i1 mi)).2 = mi; rw [hnf], fun _ => hdg0, fun x => absurd x (by omega), hsp⟩
        rintro d _ kk hd4 ⟨M5, rfl, hfr5, r1, r2, r3, r4, r5, r6⟩ hkk
        have m520 : M5.1 520 = nI t := by rw [hfr5.1 520 (by decide)]; exact k520
        have m522 : M5.1 522 = nI k := by rw [hfr5.1 522 (by decide)]; exact k522
        have mc : ∀ x, x < t → M5.2.1 32 x = c x := fun x hx => by rw [hfr5.2.1 32 (by decide)]; exact kc x hx
        have hfrA : gx_fr [521, 522] [33, 34, 35] [] M M5 := gx_fr_tr hfr4 (gx_fr_mo hfr5 (by decide) (by decide) (by decide))
        -- the digits end here
        have done : 0 < d → (d = 4 ∨ gx_dg c t (a + 1 + gx_i1 mi + d) = false) → wb_X7_takesSetting_8_180 Q (gx_b mi) (gx_nf c (a + 1) (gx_i1 mi + d)).1 M5 := by
          intro hd0 hend
          have st : ∀ v : Int32, v = gx_val c (a + 1) (a + 1 + gx_i1 mi + d) → wb_X7_takesSetting_8_198 Q v (nI k) M5 := by
            rintro _ rfl
            unfold wb_X7_takesSetting_8_198
            rw [nI_clamp (by omega)]
            refine ⟨vp_in_nI (by omega) (by omega), ?_⟩
            rintro _ rfl
            rw [gx_r8, m522, nI_1]
            rintro _ rfl
            refine hS _ (a + 1 + gx_i1 mi + d) (2 + d) (gx_fr_si _ (gx_fr_sa _ _ hfrA (by decide)) (by decide)) (by rw [gx_r2 _ _ (by decide), gx_r8]; exact r1) (gx_r1 _ _ _) (by omega) r2 (by omega) (by omega) (r5 hd0) (fun hbt hb32 => ?_) r6 hpf ?_ ?_ ?_ (fun i hi => ?_)
            · refine gx_nx_no (by omega) ?_ (fun x => absurd x (by omega)) (fun _ => hb32)
              rcases hend with e9 | e9
              · exact Or.inr (by omega)
              · unfold gx_dg at e9
                exact Or.inl (by simpa [hbt] using e9)
            · rw [gx_r3, gx_rb _ _ _ (by decide), hfr5.2.1 33 (by decide), kA, g33, pk_us]
            · rw [gx_r3, gx_ra, pk_us]
            · rw [gx_r3, gx_rb _ _ _ (by decide), hfr5.2.1 35 (by decide), kA, g35, pk_us]
            · rw [gx_r3, gx_rb _ _ _ (by decide), gx_ra, gx_rb _ _ _ (by decide), hfr5.2.1 33 (by decide), hfr5.2.1 35 (by decide), hfr5.2.1 34 (by decide), kA, g33, g35, g34, pk_un (by omega), pk_un (by omega), pk_un (by omega)]
              exact ⟨rfl, rfl, rfl⟩
          unfold wb_X7_takesSetting_8_180
          rw [m522, gx_b0]
          have ev : a + 1 + gx_i1 mi + d - (a + 1) = gx_i1 mi + d := by omega
          refine ⟨fun e9 => st _ ?_, fun e9 => st _ ?_⟩
          · unfold gx_val; rw [ev, r3, e9]; rfl
          · unfold gx_val; rw [ev, r3, gx_bt e9]; rfl
        show wb_X7_takesSetting_8_134 (fun x1 x2 x3 M => kk (x1, x2, x3, M)) (wb_X7_takesSetting_8_180 Q) Q (gx_b mi) (gx_nf c (a + 1) (gx_i1 mi + d)).1 (nI d) M5
        unfold wb_X7_takesSetting_8_134
        rw [show (4 : Int32) = nI 4 from rfl, nI_leI (by omega) (by omega), gx_idM ht m520 r1 r2 mc, gx_b0]
        refine ⟨fun e9 => done (by omega) (Or.inl (by omega)), fun e9 => ⟨fun e8 => done ?_ (Or.inr e8), fun e8 => ?_⟩⟩
        · rcases Nat.eq_zero_or_pos d with e7 | e7
          · rw [e7, Nat.add_zero, r4 e7] at e8; cases e8
          · exact e7
        · have hdg := gx_bt e8
          unfold gx_dg at hdg
          rw [Bool.and_eq_true] at hdg
          have hlt : a + 1 + gx_i1 mi + d < t := of_decide_eq_true hdg.1
          have hin := hdg.2
          rw [r1, nI_clamp (by omega), mc _ hlt, nI_1]
          refine ⟨vp_in_nI (by omega) (by omega), ?_⟩
          rintro _ rfl _ rfl _ rfl
          have n45 : ¬ c (a + 1 + (gx_i1 mi + d)) = 45 := fun x => by
            rw [show a + 1 + gx_i1 mi + d = a + 1 + (gx_i1 mi + d) by omega, x, gx_in_45] at hin; cases hin
          have enf : gx_nf c (a + 1) (gx_i1 mi + (d + 1)) = (10 * (gx_nf c (a + 1) (gx_i1 mi + d)).1 + (c (a + 1 + (gx_i1 mi + d)) - 48), (gx_nf c (a + 1) (gx_i1 mi + d)).2) := if_neg n45
          have ear : (10 * (gx_nf c (a + 1) (gx_i1 mi + d)).1) + (c (a + 1 + gx_i1 mi + d)) - 48 = 10 * (gx_nf c (a + 1) (gx_i1 mi + d)).1 + (c (a + 1 + (gx_i1 mi + d)) - 48) := by
            rw [show a + 1 + gx_i1 mi + d = a + 1 + (gx_i1 mi + d) by omega]; grind
          rw [nI_1, ear]
          refine hkk _ (by omega) ⟨_, by rw [enf]; rfl, gx_fr_si _ hfr5 (by decide), gx_r1 _ _ _, by omega, by rw [enf]; exact r3, fun x => absurd x (by omega), fun _ => ?_, fun x x1 x2 => ?_⟩
          · show gx_dr c (a + 1 + gx_i1 mi + d + 1) = _
            rcases Nat.eq_zero_or_pos d with e7 | e7
            · subst e7
              rw [Nat.add_zero] at hin ⊢
              rw [gx_dr_s hdm, gx_nx_d (by omega) hin (by omega), if_neg (by omega)]
            · rw [gx_dr_s (r5 e7), gx_nx_d (by omega) hin (by omega), if_pos (by omega)]
              rfl
          · by_cases e7 : x = a + 1 + gx_i1 mi + d
            · rw [e7]
              intro x3
              rw [x3, gx_in_32] at hin; cases hin
            · exact r6 x x1 (by omega)
    unfold wb_X7_takesSetting_8_102
    rw [g521, gx_b0]
    refine ⟨fun e1 => w117 _ ?_, fun e1 => w117 _ ?_⟩
    · rw [e1]; rfl
    · rw [gx_bt e1]; rfl
  rw [g520, g521, nI_leI (by omega) (by omega), nI_clamp (by omega)]
  unfold wb_X7_takesSetting_8_101
  refine ⟨fun e1 => main false (fun x => absurd x (by decide)) (fun _ x => absurd x (by omega)), fun e1 => ⟨vp_in_nI (by omega) (by omega), fun e2 => ?_, fun e2 => ?_⟩⟩
  · rw [gc _ (by omega)] at e2
    exact main true (fun _ => ⟨by omega, e2⟩) (fun x => absurd x (by decide))
  · rw [gc _ (by omega)] at e2
    exact main false (fun x => absurd x (by decide)) (fun _ _ => e2)
theorem gx_taM {M : fx_Mem} {c : Nat → Int32} {t : Nat} (ht : t ≤ 80) (h520 : M.1 520 = nI t) (hc : ∀ x, x < t → M.2.1 32 x = c x) {Q : Int32 → fx_Mem → Prop}
    (hF : ∀ M' e, gx_fr [521, 522] [33, 34, 35] [] M M' → M'.1 521 = nI e → gx_er c t e → Q 0 M')
    (hS : ∀ M' K, gx_fr [521, 522] [33, 34, 35] [] M M' → K ≤ 30 → M'.1 522 = nI K → gx_pA c t K = t + 1 → gx_okp c t → (∀ i, i < K → gx_pc c t i M') → Q 1 M') : wp_X7_takesAll_8 M Q := by
  unfold wp_X7_takesAll_8
  rintro _ rfl _ rfl
  refine gx_cnt 30 (fun k s => ∃ M1, gx_fr [521, 522] [33, 34, 35] [] M M1 ∧ M1.1 522 = nI k ∧ ((s = (1, M1) ∧ (∀ i, i < k → gx_pc c t i M1) ∧ M1.1 521 = nI (gx_pA c t k) ∧ gx_pA c t k ≤ t ∧ 3 * k ≤ gx_pA c t k ∧ gx_dr c (gx_pA c t k) = some 0) ∨ (s = (0, M1) ∧ k ≤ 28 ∧ ∃ b s', M1.1 521 = nI b ∧ b ≤ t ∧ 3 ≤ s' ∧ s' ≤ 6 ∧ gx_dr c b = some s' ∧ (b = t → gx_pA c t k = t + 1 ∧ ∀ i, i < k → gx_pc c t i M1) ∧ (b < t → gx_nxs s' (c b) = none)))) ?_ (1, fx_si (fx_si M 521 0) 522 0) ⟨_, gx_fr_si _ (gx_fr_si _ (gx_fr_rfl _ _ _ _) (by decide)) (by decide), gx_r1 _ _ _, Or.inl ⟨rfl, fun i hi => absurd hi (by omega), by rw [gx_r2 _ _ (by decide), gx_r1]; rfl, by show 0 ≤ t; omega, by show 3 * 0 ≤ 0; omega, rfl⟩⟩
  rintro k s kk hk30 ⟨M1, hfr, h522, hst⟩ hkk
  rcases hst with ⟨rfl, hpc, h521, p1, p2, p3⟩ | ⟨rfl, p0, b, s', h521, p1, p2, p3, p4, p5, p6⟩
  · have g520 : M1.1 520 = nI t := by rw [hfr.1 520 (by decide)]; exact h520
    have gc : ∀ x, x < t → M1.2.1 32 x = c x := fun x hx => by rw [hfr.2.1 32 (by decide)]; exact hc x hx
    show wb_X7_takesAll_8_12 (fun x1 M => kk (x1, M)) (wb_X7_takesAll_8_77 Q) Q 1 M1
    unfold wb_X7_takesAll_8_12
    refine ⟨fun x => absurd x (by decide), fun _ => gx_tsM ht g520 h521 h522 p1 (by omega) gc p3 (fun M2 e hfr2 he her => ⟨fun _ => hF M2 e (gx_fr_tr hfr hfr2) he her, fun x => absurd rfl x⟩) (fun M2 b s hfr2 q1 q2 q3 q4 q5 q6 q7 q8 q9 q10 q11 q12 q13 q14 => ⟨fun x => absurd x (by decide), fun _ => ?_⟩)⟩
    have m520 : M2.1 520 = nI t := by rw [hfr2.1 520 (by decide)]; exact g520
    have mc : ∀ x, x < t → M2.2.1 32 x = c x := fun x hx => by rw [hfr2.2.1 32 (by decide)]; exact gc x hx
    have hfrA := gx_fr_tr hfr hfr2
    -- the pieces so far
    have hpc2 : (b = t ∨ c b = 32) → ∀ i, i < k + 1 → gx_pc c t i M2 := by
      intro hb i hi
      by_cases e : i = k
      · subst e
        have hen : gx_en c t (gx_pA c t i) = b := gx_en_eq (by omega) q4 q9 hb
        refine ⟨q10, q11, ?_, q13⟩
        rw [q12]; unfold gx_pV; rw [hen]
      · obtain ⟨a1, a2, a3, a4⟩ := hpc i (by omega)
        obtain ⟨b1, b2, b3⟩ := q14 i (by omega)
        exact ⟨a1, by rw [b1]; exact a2, by rw [b2]; exact a3, by rw [b3]; exact a4⟩
    rw [m520, q1, nI_leI (by omega) (by omega), nI_clamp (by omega)]
    -- without a space: the text ends here, or there is an error
    have stop : (b < t → ¬ c b = 32) → wb_X7_takesAll_8_54 (fun x1 M => kk (x1, M)) (wb_X7_takesAll_8_77 Q) Q M2 := by
      intro hns
      unfold wb_X7_takesAll_8_54 wb_X7_takesAll_8_55 wb_X7_takesAll_8_70
      refine ⟨fun _ => ?_, fun x => absurd rfl x⟩
      rw [q1, Int32.add_zero]
      rintro _ rfl
      have hfrB : gx_fr [521, 522] [33, 34, 35] [] M (fx_si M2 521 (nI b)) := gx_fr_si _ hfrA (by decide)
      rcases Nat.lt_or_ge b t with hbt | hbt
      · refine hkk _ (by omega) ⟨_, hfrB, by rw [gx_r2 _ _ (by decide)]; exact q2, Or.inr ⟨rfl, by omega, b, s, gx_r1 _ _ _, q4, q5, q6, q7, fun x => absurd x (by omega), fun _ => q8 hbt (hns hbt)⟩⟩
      · have ebt : b = t := by omega
        have hen : gx_pA c t (k + 1) = t + 1 := by
          show gx_en c t (gx_pA c t k) + 1 = _
          rw [gx_en_eq (by omega) q4 q9 (Or.inl ebt), ebt]
        refine hkk _ (by omega) ⟨_, hfrB, by rw [gx_r2 _ _ (by decide)]; exact q2, Or.inr ⟨rfl, by omega, b, s, gx_r1 _ _ _, q4, q5, q6, q7, fun _ => ⟨hen, fun i hi => ?_⟩, fun x => absurd x (by omega)⟩⟩
        obtain ⟨a1, a2, a3, a4⟩ := hpc2 (Or.inl ebt) i hi
        exact ⟨a1, by rw [gx_r3]; exact a2, by rw [gx_r3]; exact a3, by rw [gx_r3]; exact a4⟩
    refine ⟨fun e => stop (fun x => absurd x (by omega)), fun e => ⟨vp_in_nI (by omega) (by omega), fun e2 => ?_, fun e2 => stop (fun _ => by rw [mc b (by omega)] at e2; exact e2)⟩⟩
    rw [mc b (by omega)] at e2
    have hbt : b < t := by omega
    have hen : gx_pA c t (k + 1) = b + 1 := by
      show gx_en c t (gx_pA c t k) + 1 = _
      rw [gx_en_eq (by omega) q4 q9 (Or.inr e2)]
    unfold wb_X7_takesAll_8_55 wb_X7_takesAll_8_70
    refine ⟨fun x => absurd x (by decide), fun _ => ?_⟩
    rw [q1, nI_1]
    rintro _ rfl
    refine hkk _ (by omega) ⟨_, gx_fr_si _ hfrA (by decide), by rw [gx_r2 _ _ (by decide)]; exact q2, Or.inl ⟨rfl, fun i hi => ?_, by rw [gx_r1, hen], by omega, by omega, ?_⟩⟩
    · obtain ⟨a1, a2, a3, a4⟩ := hpc2 (Or.inr e2) i hi
      exact ⟨a1, by rw [gx_r3]; exact a2, by rw [gx_r3]; exact a3, by rw [gx_r3]; exact a4⟩
    · rw [hen, gx_dr_s q7, e2]
      unfold gx_nxs gx_nx50 gx_nx63
      have a2 : ((32 : Int32) < 48) = True := by decide
      have a3 : ((32 : Int32) = 45) = False := by decide
      have a4 : ¬ s = 0 := by omega
      have a5 : ¬ s < 3 := by omega
      simp only [a2, a3, a4, a5, if_true, if_false]
  · show wb_X7_takesAll_8_12 (fun x1 M => kk (x1, M)) (wb_X7_takesAll_8_77 Q) Q 0 M1
    unfold wb_X7_takesAll_8_12 wb_X7_takesAll_8_77
    refine ⟨fun _ => ?_, fun x => absurd rfl x⟩
    have g520 : M1.1 520 = nI t := by rw [hfr.1 520 (by decide)]; exact h520
    rw [h521, g520, nI_eq (by omega) (by omega)]
    refine ⟨fun e => hS M1 k hfr (by omega) h522 (p5 e).1 ⟨s', p2, p3, by rw [← e]; exact p4⟩ (p5 e).2, fun e => hF M1 b hfr h521 (Or.inl ⟨by omega, s', p4, p6 (by omega)⟩)⟩
