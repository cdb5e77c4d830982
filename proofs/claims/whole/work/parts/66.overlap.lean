/-! pairs that overlap -/
theorem gx_psum (f : Nat → Nat) : ∀ (n : Nat) (σ : Nat → Nat), (∀ i, i < n → σ i < n) → (∀ i j, i < n → j < n → σ i = σ j → i = j) → fb_sm (fun i => f (σ i)) n = fb_sm f n
  | 0, _, _, _ => rfl
  | n + 1, σ, h1, h2 => by
    obtain ⟨j, hj, ej⟩ := fb_onto (n := n + 1) (f := σ) h1 (fun i k hik hk e => by have := h2 i k (by omega) hk e; omega) (y := n) (by omega)
    rw [fb_sm_succ, fb_sm_succ]
    by_cases e : j = n
    · rw [e] at ej
      rw [ej, gx_psum f n σ (fun i hi => by
        have a := h1 i (by omega)
        have b : σ i ≠ n := fun x => by have := h2 i n (by omega) (by omega) (by rw [x, ej]); omega
        omega) (fun i k hi hk x => h2 i k (by omega) (by omega) x)]
    · have hjn : j < n := by omega
      have ih := gx_psum f n (fun i => if i = j then σ n else σ i) (fun i hi => by
        have a := h1 i (by omega)
        have b := h1 n (by omega)
        split
        · have c : σ n ≠ n := fun x => by have := h2 n j (by omega) (by omega) (by rw [x, ej]); omega
          omega
        · have c : σ i ≠ n := fun x => by have := h2 i j (by omega) (by omega) (by rw [x, ej]); omega
          omega) (fun i k hi hk x => by
        by_cases e1 : i = j <;> by_cases e2 : k = j
        · omega
        · rw [if_pos e1, if_neg e2] at x; have := h2 n k (by omega) (by omega) x; omega
        · rw [if_neg e1, if_pos e2] at x; have := h2 i n (by omega) (by omega) x; omega
        · rw [if_neg e1, if_neg e2] at x; exact h2 i k (by omega) (by omega) x)
      have e3 : fb_sm (fun i => f (if i = j then σ n else σ i)) n = fb_sm (fun i => if i = j then f (σ n) else f (σ i)) n := fb_sm_cong (fun i _ => by split <;> rfl)
      rw [e3] at ih
      have hu := fb_sm_upd (fun i => f (σ i)) (f (σ n)) hjn
      rw [ej] at hu
      omega
def gx_i1 (b : Bool) : Nat := if b then 1 else 0
def gx_c2 (R : Nat → Nat → Bool) (n : Nat) : Nat := fb_sm (fun s => fb_sm (fun f => gx_i1 (R f s)) s) n
def gx_ff (R : Nat → Nat → Bool) (n : Nat) : Nat := fb_sm (fun s => fb_sm (fun f => gx_i1 (R f s)) n) n
theorem gx_ff_c2 (R : Nat → Nat → Bool) (hs : ∀ a b, R a b = R b a) : ∀ n, gx_ff R n = 2 * gx_c2 R n + fb_sm (fun s => gx_i1 (R s s)) n
  | 0 => rfl
  | n + 1 => by
    have ih := gx_ff_c2 R hs n
    have e1 : gx_ff R (n + 1) = fb_sm (fun s => fb_sm (fun f => gx_i1 (R f s)) n + gx_i1 (R n s)) n + (fb_sm (fun f => gx_i1 (R f n)) n + gx_i1 (R n n)) := rfl
    have e2 : fb_sm (fun s => gx_i1 (R n s)) n = fb_sm (fun f => gx_i1 (R f n)) n := fb_sm_cong (fun k _ => by rw [hs n k])
    have e3 : gx_c2 R (n + 1) = gx_c2 R n + fb_sm (fun f => gx_i1 (R f n)) n := rfl
    rw [e1, fb_sm_add, e2, e3, fb_sm_succ (fun s => gx_i1 (R s s))]
    unfold gx_ff at ih
    omega
theorem gx_c2_perm (R : Nat → Nat → Bool) (hs : ∀ a b, R a b = R b a) {n : Nat} {σ : Nat → Nat} (h1 : ∀ i, i < n → σ i < n) (h2 : ∀ i j, i < n → j < n → σ i = σ j → i = j) : gx_c2 (fun a b => R (σ a) (σ b)) n = gx_c2 R n := by
  have a1 := gx_ff_c2 R hs n
  have a2 := gx_ff_c2 (fun a b => R (σ a) (σ b)) (fun a b => hs _ _) n
  have a3 : gx_ff (fun a b => R (σ a) (σ b)) n = gx_ff R n := by
    unfold gx_ff
    have b1 : fb_sm (fun s => fb_sm (fun f => gx_i1 (R (σ f) (σ s))) n) n = fb_sm (fun s => fb_sm (fun f => gx_i1 (R f (σ s))) n) n :=
      fb_sm_cong (fun s _ => gx_psum (fun f => gx_i1 (R f (σ s))) n σ h1 h2)
    rw [b1]
    exact gx_psum (fun s => fb_sm (fun f => gx_i1 (R f s)) n) n σ h1 h2
  have a4 : fb_sm (fun s => gx_i1 (R (σ s) (σ s))) n = fb_sm (fun s => gx_i1 (R s s)) n := gx_psum (fun s => gx_i1 (R s s)) n σ h1 h2
  omega
def gx_mt (p s q r : Int32) : Bool := decide (¬ (p + s) ≤ gx_mx p q ∧ ¬ (q + r) ≤ gx_mx p q)
theorem gx_mx_c (p q : Int32) : gx_mx p q = gx_mx q p := by
  unfold gx_mx
  by_cases h1 : p < q <;> by_cases h2 : q < p
  · rw [fa_lt] at h1 h2; omega
  · rw [if_pos h1, if_neg h2]
  · rw [if_neg h1, if_pos h2]
  · rw [if_neg h1, if_neg h2, fa_eq]
    rw [fa_lt] at h1 h2; omega
theorem gx_mt_c (p s q r : Int32) : gx_mt p s q r = gx_mt q r p s := by
  unfold gx_mt
  rw [gx_mx_c q p]
  by_cases h1 : (p + s) ≤ gx_mx p q <;> by_cases h2 : (q + r) ≤ gx_mx p q <;> simp [h1, h2]
def gx_rp (D : gx_D) (a b : Nat) : Bool := gx_mt (gx_v1 D a) (gx_v0 D a) (gx_v1 D b) (gx_v0 D b) && gx_mt (gx_v3 D a) (gx_v2 D a) (gx_v3 D b) (gx_v2 D b)
theorem gx_rp_c (D : gx_D) (a b : Nat) : gx_rp D a b = gx_rp D b a := by
  unfold gx_rp; rw [gx_mt_c, gx_mt_c (gx_v3 D a)]
theorem gx_mtC (p s q r : Int32) : ((if q + r < p + s then q + r else p + s) ≤ (if p < q then q else p)) ↔ gx_mt p s q r = false := by
  unfold gx_mt gx_mx
  rw [decide_eq_false_iff_not]
  by_cases h : q + r < p + s
  · rw [if_pos h]
    have h' := h
    rw [fa_lt] at h'
    constructor
    · intro x z; exact z.2 x
    · intro x
      apply Classical.byContradiction
      intro y
      refine x ⟨fun w => y ?_, y⟩
      rw [fa_le] at w ⊢; omega
  · rw [if_neg h]
    have h' := h
    rw [fa_lt] at h'
    constructor
    · intro x z; exact z.1 x
    · intro x
      apply Classical.byContradiction
      intro y
      refine x ⟨y, fun w => y ?_⟩
      rw [fa_le] at w ⊢; omega
theorem gx_hcC {D : gx_D} {M : fx_Mem} (hd : gx_ok D) (hcl : gx_CL D M) {a b : Nat} (ha : a < D.2.2) (hb : b < D.2.2) (Q : Int32 → fx_Mem → Prop) : wp_X6_haveCommonPoint_0 (nI (gx_it D a)) (nI (gx_it D b)) M Q ↔ Q (gx_b (gx_rp D a b)) M := by
  have hn := hd.1
  have ia := gx_it_lt ha
  have ib := gx_it_lt hb
  obtain ⟨c0, c1, c2, c3⟩ := gx_clv hcl ha
  obtain ⟨d0, d1, d2, d3⟩ := gx_clv hcl hb
  have va : vp_in (nI (gx_it D a)) 20 := vp_in_nI (by omega) (by omega)
  have vb : vp_in (nI (gx_it D b)) 20 := vp_in_nI (by omega) (by omega)
  unfold wp_X6_haveCommonPoint_0 wp_X6_meet_21_20 wp_X6_meet_29_28
  dsimp only
  rw [nI_clamp (n := gx_it D a) (by omega), nI_clamp (n := gx_it D b) (by omega), c0, c1, c2, c3, d0, d1, d2, d3]
  simp only [va, vb, true_and, forall_eq]
  rw [gx_mtC, gx_mtC]
  unfold gx_rp gx_b
  cases h1 : gx_mt (gx_v1 D a) (gx_v0 D a) (gx_v1 D b) (gx_v0 D b) <;> cases h2 : gx_mt (gx_v3 D a) (gx_v2 D a) (gx_v3 D b) (gx_v2 D b) <;> simp
theorem gx_meM {D : gx_D} {M : fx_Mem} (hv : gx_MV D M) (hd : gx_ok D) (hml : gx_ML D M) {a b : Nat} (ha : a < D.2.2) (hb : b < D.2.2) {w : Nat} (hw : w < 2) {x : Int32} (hx : x = nI w) (Q : Int32 → fx_Mem → Prop) : wp_X7_meet_8 (nI a) (nI b) x M Q ↔ Q (gx_b (gx_mt (gx_co D a w) (gx_co D a (2 + w)) (gx_co D b w) (gx_co D b (2 + w)))) M := by
  subst hx
  have e2 : 2 + nI w = nI (2 + w) := nI_add 2 w
  have k1 : ∀ Q, wp_X7_coordinate_8 (nI a) (nI w) M Q ↔ Q (gx_co D a w) M := fun Q => gx_coM hv hd hml ha (by omega) rfl Q
  have k2 : ∀ Q, wp_X7_coordinate_8 (nI b) (nI w) M Q ↔ Q (gx_co D b w) M := fun Q => gx_coM hv hd hml hb (by omega) rfl Q
  have k3 : ∀ Q, wp_X7_coordinate_8 (nI a) (nI (2 + w)) M Q ↔ Q (gx_co D a (2 + w)) M := fun Q => gx_coM hv hd hml ha (by omega) rfl Q
  have k4 : ∀ Q, wp_X7_coordinate_8 (nI b) (nI (2 + w)) M Q ↔ Q (gx_co D b (2 + w)) M := fun Q => gx_coM hv hd hml hb (by omega) rfl Q
  unfold wp_X7_meet_8 wb_X7_meet_8_30
  rw [e2]
  simp only [k1, k2, k3, k4, forall_eq]
  generalize gx_co D a w = p
  generalize gx_co D a (2 + w) = s
  generalize gx_co D b w = q
  generalize gx_co D b (2 + w) = r
  have em : gx_mx p q = if p ≤ q then q else p := by rw [gx_mx_c, gx_mx_le]
  unfold gx_mt gx_b
  rw [em]
  by_cases h : p ≤ q
  · simp only [h, if_true]
    by_cases h1 : p + s ≤ q <;> by_cases h2 : q + r ≤ q <;> simp [h1, h2]
  · simp only [h, if_false]
    by_cases h1 : p + s ≤ p <;> by_cases h2 : q + r ≤ p <;> simp [h1, h2]
theorem gx_rpM (D : gx_D) (a b : Nat) : (gx_mt (gx_co D a 0) (gx_co D a 2) (gx_co D b 0) (gx_co D b 2) && gx_mt (gx_co D a 1) (gx_co D a 3) (gx_co D b 1) (gx_co D b 3)) = gx_rp D a b := by
  unfold gx_rp gx_co
  by_cases h4 : 2 ≤ D.2.1 4
  · simp [h4, Bool.and_comm]
  · simp [h4]
def gx_pl (D : gx_D) (i : Nat) : Nat := fa_first (fun k => decide (gx_it D k = i)) D.2.2
theorem gx_pl_ok {D : gx_D} {i : Nat} (hi : i < D.2.2) : gx_pl D i < D.2.2 ∧ gx_it D (gx_pl D i) = i := by
  obtain ⟨k, hk, ek⟩ := gx_it_onto hi
  have h1 : gx_pl D i < D.2.2 := by
    rcases Nat.lt_or_ge (gx_pl D i) D.2.2 with e | e
    · exact e
    · have := fa_first_no (fun k => decide (gx_it D k = i)) D.2.2 k (by unfold gx_pl at e; omega)
      simp [ek] at this
  exact ⟨h1, of_decide_eq_true (fa_first_yes (fun k => decide (gx_it D k = i)) D.2.2 h1)⟩
theorem gx_case23 {L : Nat} {xs : Nat → Int32} {j : Nat} {M : fx_Mem} (h : gx_Inv M) : wb_law_1416 L xs (gx_K j) (nI j) M := by
  obtain ⟨D, hd, hv, hm, ht, hs⟩ := h
  have hn := hd.1
  unfold wb_law_1416 wp_X6_overlaps_0 wp_X7_overlaps_8
  refine gx_layC hv hd (fun M1 hF1 hcl => ?_)
  have hv1 : gx_CV D M1 := gx_CV_fr hn (by decide) (by decide) hF1 hv
  generalize hR : (fun f s => gx_rp D (gx_pl D f) (gx_pl D s)) = R
  have hRe : ∀ f s, R f s = gx_rp D (gx_pl D f) (gx_pl D s) := fun f s => by rw [← hR]
  refine gx_cnt (D.2.2 - 1) (fun t s => s = (nI (gx_c2 R (t + 1)), nI (t + 1), M1)) ?_ (0, 1, M1) rfl
  rintro t _ kk htt rfl hkk
  show wb_X6_overlaps_0_8 (fun x1 x2 M => kk (x1, x2, M)) _ (nI (gx_c2 R (t + 1))) (nI (t + 1)) M1
  unfold wb_X6_overlaps_0_8
  rw [hv1.2.2.2.2.2.1, nI_leI (by omega) (by omega)]
  refine ⟨fun e => ?_, fun e => ?_⟩
  rotate_left
  · refine gx_cnt (t + 1) (fun f s => s = (nI (gx_c2 R (t + 1) + fb_sm (fun f => gx_i1 (R f (t + 1))) f), nI (t + 1), nI f, M1)) ?_ (nI (gx_c2 R (t + 1)), nI (t + 1), 0, M1) rfl
    rintro f _ k2 hf rfl hk2
    show wb_X6_overlaps_0_21 (fun x1 x2 x3 M => k2 (x1, x2, x3, M)) (wb_X6_overlaps_0_44 (fun x1 x2 M => kk (x1, x2, M)) _) _ (nI (gx_c2 R (t + 1) + fb_sm (fun f => gx_i1 (R f (t + 1))) f)) (nI (t + 1)) (nI f) M1
    unfold wb_X6_overlaps_0_21 wb_X6_overlaps_0_38 wb_X6_overlaps_0_44
    rw [nI_leI (by omega) (by omega)]
    refine ⟨fun e2 => ?_, fun e2 => ?_⟩
    · have ef : f = t + 1 := by omega
      subst ef
      rintro _ rfl
      rw [nI_1]
      exact hkk _ (by omega) rfl
    · obtain ⟨p1, p2⟩ := gx_pl_ok (D := D) (i := f) (by omega)
      obtain ⟨p3, p4⟩ := gx_pl_ok (D := D) (i := t + 1) (by omega)
      have hc := gx_hcC hd hcl p1 p3
      rw [p2, p4] at hc
      rw [hc, gx_b0, ← hRe]
      refine ⟨fun e3 => ?_, fun e3 => ?_⟩
      · rintro _ rfl
        rw [nI_1]
        refine hk2 _ (by omega) ?_
        rw [fb_sm_succ, e3]; rfl
      · rintro _ rfl _ rfl
        rw [nI_1, nI_1]
        refine hk2 _ (by omega) ?_
        rw [fb_sm_succ, gx_bt e3]; rfl
  have ec : gx_c2 R (t + 1) = gx_c2 R D.2.2 := by
    rcases Nat.eq_zero_or_pos D.2.2 with e0 | e0
    · rw [e0, show t = 0 by omega]; rfl
    · rw [show t + 1 = D.2.2 by omega]
  have ep : gx_c2 R D.2.2 = gx_c2 (gx_rp D) D.2.2 := by
    rw [← hR]
    exact gx_c2_perm (gx_rp D) (gx_rp_c D) (fun i hi => (gx_pl_ok hi).1) (fun i k hi hk e3 => by rw [← (gx_pl_ok hi).2, e3, (gx_pl_ok hk).2])
  rw [ec, ep]
  rintro _ rfl
  have hF2 := gx_F2 hF1 0
  refine gx_layM2 (gx_MVF hm hF2) hd (fun M2 hfr2 e512 e9 hv2 hml => ?_)
  have hI := gx_lookI hd hv hm ht hs (gx_fr_tr hF2 hfr2)
  refine gx_cnt D.2.2 (fun t s => s = (nI (gx_c2 (gx_rp D) t), nI t, M2)) ?_ (0, 0, M2) rfl
  rintro t _ kk htt rfl hkk
  show wb_X7_overlaps_8_13 (fun x1 x2 M => kk (x1, x2, M)) _ (nI (gx_c2 (gx_rp D) t)) (nI t) M2
  unfold wb_X7_overlaps_8_13
  rw [hv2.2.1, nI_leI (by omega) (by omega)]
  refine ⟨fun e => ?_, fun e => ?_⟩
  · rw [show t = D.2.2 by omega]
    exact ⟨fun _ => gx_nx hI, fun x => x rfl⟩
  refine gx_cnt t (fun f s => s = (nI (gx_c2 (gx_rp D) t + fb_sm (fun f => gx_i1 (gx_rp D f t)) f), nI t, nI f, M2)) ?_ (nI (gx_c2 (gx_rp D) t), nI t, 0, M2) rfl
  rintro f _ k2 hf rfl hk2
  show wb_X7_overlaps_8_23 (fun x1 x2 x3 M => k2 (x1, x2, x3, M)) (wb_X7_overlaps_8_62 (fun x1 x2 M => kk (x1, x2, M)) _) _ (nI (gx_c2 (gx_rp D) t + fb_sm (fun f => gx_i1 (gx_rp D f t)) f)) (nI t) (nI f) M2
  unfold wb_X7_overlaps_8_23 wb_X7_overlaps_8_53 wb_X7_overlaps_8_54 wb_X7_overlaps_8_62
  rw [nI_leI (by omega) (by omega)]
  refine ⟨fun e2 => ?_, fun e2 => ?_⟩
  · have ef : f = t := by omega
    subst ef
    rintro _ rfl
    rw [nI_1]
    exact hkk _ (by omega) rfl
  · have hr := gx_rpM D t f
    rw [gx_rp_c D t f] at hr
    rw [gx_meM hv2 hd hml (show t < D.2.2 by omega) (show f < D.2.2 by omega) (w := 0) (by decide) (x := (0 : Int32)) rfl, gx_meM hv2 hd hml (show t < D.2.2 by omega) (show f < D.2.2 by omega) (w := 1) (by decide) (x := (1 : Int32)) rfl, gx_b0, gx_b0]
    have fin : ∀ b : Bool, b = gx_rp D f t → ∀ v1 : Int32, v1 = nI (gx_c2 (gx_rp D) t + fb_sm (fun f => gx_i1 (gx_rp D f t)) f) + gx_b b → ∀ v2 : Int32, v2 = nI f + 1 → k2 (v1, nI t, v2, M2) := by
      rintro _ rfl _ rfl _ rfl
      rw [nI_1]
      refine hk2 _ (by omega) ?_
      rw [fb_sm_succ]
      cases gx_rp D f t with
      | false => show (_ + (0 : Int32), _) = _; rw [Int32.add_zero]; rfl
      | true => show (_ + (1 : Int32), _) = _; rw [nI_1]; rfl
    refine ⟨fun d1 => fin false ?_, fun d1 => ⟨fun d2 => fin false ?_, fun d2 => fin true ?_⟩⟩
    · rw [← hr, d1]; rfl
    · rw [← hr, d2, Bool.and_false]
    · rw [← hr, gx_bt d1, gx_bt d2]; rfl
