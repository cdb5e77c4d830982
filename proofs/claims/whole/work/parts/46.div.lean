/-! the division of pixels -/
theorem gx_lT {n : Nat} (h : n < 2 ^ 63) : (lN n).toInt = (n : Int) := lg_ofNat_toInt (by omega)
theorem gx_lle {a b : Nat} (ha : a < 2 ^ 63) (hb : b < 2 ^ 63) : lN a ≤ lN b ↔ a ≤ b := by
  rw [fa_le64, gx_lT ha, gx_lT hb]; omega
theorem gx_leq {a b : Nat} (ha : a < 2 ^ 63) (hb : b < 2 ^ 63) : lN a = lN b ↔ a = b := by
  rw [fa_eq64, gx_lT ha, gx_lT hb]; omega
theorem gx_ldiv {a d : Nat} (ha : a < 2 ^ 63) (hd : d < 2 ^ 63) : lN a / lN d = lN (a / d) := by
  have h1 : a / d ≤ a := Nat.div_le_self a d
  have e : ((a / d : Nat) : Int) = (a : Int) / (d : Int) := Int.natCast_ediv a d
  rw [fa_eq64, Int64.toInt_div, gx_lT ha, gx_lT hd, gx_lT (by omega), Int.tdiv_eq_ediv_of_nonneg (by omega), ← e]
  have h0 : (0 : Int) ≤ ((a / d : Nat) : Int) := Int.natCast_nonneg _
  exact gx_bmL (by omega) (by omega)
theorem gx_lrem {a d : Nat} (ha : a < 2 ^ 63) (hd : d < 2 ^ 63) : lN a - lN a / lN d * lN d = lN (a % d) := by
  rw [gx_ldiv ha hd, lN_mul, lN_sub (Nat.div_mul_le_self a d)]
  congr 1
  have := Nat.div_add_mod a d
  rw [Nat.mul_comm] at this
  omega
theorem gx_l0 {n : Nat} (h : n < 2 ^ 63) : (lg_cmp (lN n) 0 ≤ 0) ↔ n = 0 := by
  rw [lg_cmp_le, show (0 : Int64) = lN 0 from rfl, gx_lle h (by decide)]; omega
theorem gx_l0e {n : Nat} (h : n < 2 ^ 63) : (lN n = 0) ↔ n = 0 := by
  rw [show (0 : Int64) = lN 0 from rfl, gx_leq h (by decide)]
theorem gx_qA (p s : Nat) (w : Nat → Nat) : ∀ j, fb_sm (fun k => p * w k / s) j * s ≤ p * fb_sm w j
  | 0 => by simp [fb_sm]
  | j + 1 => by
    have ih := gx_qA p s w j
    have h := Nat.div_mul_le_self (p * w j) s
    rw [fb_sm_succ, fb_sm_succ, Nat.add_mul, Nat.mul_add]; omega
theorem gx_qB (p s : Nat) (hs : 0 < s) (w : Nat → Nat) : ∀ j, p * fb_sm w j ≤ fb_sm (fun k => p * w k / s) j * s + j * s
  | 0 => by simp [fb_sm]
  | j + 1 => by
    have ih := gx_qB p s hs w j
    have h := Nat.div_add_mod (p * w j) s
    have h2 := Nat.mod_lt (p * w j) hs
    rw [Nat.mul_comm] at h
    rw [fb_sm_succ, fb_sm_succ, Nat.add_mul, Nat.mul_add, Nat.add_mul]; omega
theorem gx_q_le {p m j : Nat} {w : Nat → Nat} (hs : 0 < fb_sm w m) (hj : j ≤ m) : fb_sm (fun k => p * w k / fb_sm w m) j ≤ p := by
  have h1 := gx_qA p (fb_sm w m) w j
  have h2 : fb_sm w j ≤ fb_sm w m := by
    have := fb_sm_mono w j (m - j); rwa [show j + (m - j) = m by omega] at this
  have h3 := Nat.mul_le_mul_left p h2
  exact Nat.le_of_mul_le_mul_right (Nat.le_trans h1 h3) hs
theorem gx_q_left {p m : Nat} {w : Nat → Nat} (hs : 0 < fb_sm w m) : p - fb_sm (fun k => p * w k / fb_sm w m) m ≤ m := by
  have h1 := gx_qB p (fb_sm w m) hs w m
  rw [← Nat.add_mul] at h1
  have := Nat.le_of_mul_le_mul_right h1 hs
  omega
def gx_best (R : Nat → Int64) : Nat → Nat
  | 0 => 0
  | j + 1 => if R (j + 1) ≤ R (gx_best R j) then gx_best R j else j + 1
theorem gx_best_le (R : Nat → Int64) : ∀ j, gx_best R j ≤ j
  | 0 => Nat.le_refl _
  | j + 1 => by
    have := gx_best_le R j
    unfold gx_best; split <;> omega
theorem gx_best_cong {R T : Nat → Int64} : ∀ {j : Nat}, (∀ k, k ≤ j → R k = T k) → gx_best R j = gx_best T j
  | 0, _ => rfl
  | j + 1, h => by
    have ih := gx_best_cong (R := R) (T := T) (j := j) (fun k hk => h k (by omega))
    have hb := gx_best_le T j
    unfold gx_best
    rw [ih, h (j + 1) (by omega), h (gx_best T j) (by omega)]
def gx_gv (m : Nat) (sh : Nat → Nat) (R : Nat → Int64) : Nat → (Nat → Nat) × (Nat → Int64)
  | 0 => (sh, R)
  | t + 1 => (fun k => if k = gx_best (gx_gv m sh R t).2 (m - 1) then (gx_gv m sh R t).1 k + 1 else (gx_gv m sh R t).1 k, vp_updL (gx_gv m sh R t).2 (gx_best (gx_gv m sh R t).2 (m - 1)) (-1))
theorem gx_gv_succ (m : Nat) (sh : Nat → Nat) (R : Nat → Int64) (t : Nat) : gx_gv m sh R (t + 1) = (fun k => if k = gx_best (gx_gv m sh R t).2 (m - 1) then (gx_gv m sh R t).1 k + 1 else (gx_gv m sh R t).1 k, vp_updL (gx_gv m sh R t).2 (gx_best (gx_gv m sh R t).2 (m - 1)) (-1)) := rfl
theorem gx_gv_le (m : Nat) (sh : Nat → Nat) (R : Nat → Int64) (k : Nat) : ∀ t, (gx_gv m sh R t).1 k ≤ sh k + t
  | 0 => Nat.le_refl _
  | t + 1 => by
    have := gx_gv_le m sh R k t
    unfold gx_gv; simp only; split <;> omega
def gx_q0 (p : Nat) (w : Nat → Nat) (m : Nat) (k : Nat) : Nat := p * w k / fb_sm w m
def gx_r0 (p : Nat) (w : Nat → Nat) (m : Nat) (k : Nat) : Int64 := lN (p * w k % fb_sm w m)
def gx_left (p : Nat) (w : Nat → Nat) (m : Nat) : Nat := p - fb_sm (gx_q0 p w m) m
def gx_dv (p : Nat) (w : Nat → Nat) (m : Nat) (k : Nat) : Nat := if fb_sm w m = 0 then 0 else (gx_gv m (gx_q0 p w m) (gx_r0 p w m) (gx_left p w m)).1 k
theorem gx_q0_le {p m k : Nat} {w : Nat → Nat} (hk : k < m) : gx_q0 p w m k ≤ p := by
  unfold gx_q0
  have h1 : w k ≤ fb_sm w m := by have := fb_sm_part w hk; omega
  by_cases hs : fb_sm w m = 0
  · rw [hs]; simp
  · exact Nat.div_le_of_le_mul (by rw [Nat.mul_comm]; exact Nat.mul_le_mul_right p h1)
theorem gx_dv_le {p m k : Nat} {w : Nat → Nat} (hk : k < m) : gx_dv p w m k ≤ p + m := by
  unfold gx_dv
  split
  · omega
  · rename_i hs
    have h1 := gx_gv_le m (gx_q0 p w m) (gx_r0 p w m) k (gx_left p w m)
    have h2 : gx_left p w m ≤ m := gx_q_left (by omega)
    have h3 : gx_q0 p w m k ≤ p := gx_q0_le hk
    omega
/-! the class's division -/
theorem gx_wsC {M : fx_Mem} {w : Nat → Nat} {m : Nat} (hm : m ≤ 20) (hw : ∀ k, k < m → M.2.2 15 k = lN (w k)) {Q : Int64 → fx_Mem → Prop} (h : Q (lN (fb_sm w m)) M) : wp_X3_weightSum_4 (nI m) M Q := by
  unfold wp_X3_weightSum_4
  refine gx_cnt m (fun i s => s = (nI m, lN (fb_sm w i), nI i, M)) ?_ (nI m, 0, 0, M) rfl
  rintro i _ k hi rfl hk
  show wb_X3_weightSum_4_5 (fun x1 y2 x4 M => k (x1, y2, x4, M)) (wb_X3_weightSum_4_27 Q) Q (nI m) (lN (fb_sm w i)) (nI i) M
  unfold wb_X3_weightSum_4_5 wb_X3_weightSum_4_27
  rw [nI_leI (by omega) (by omega)]
  refine ⟨fun hc => by rw [show i = m by omega]; exact h, fun hc => ⟨vp_in_nI (by omega) (by omega), ?_⟩⟩
  rw [nI_clamp (by omega), hw i (by omega)]
  rintro _ rfl _ rfl
  rw [nI_1, lN_add]
  exact hk _ (by omega) rfl
theorem gx_goC {M : fx_Mem} {m c : Nat} (hm : m ≤ 20) (hc : c ≤ m) {sh : Nat → Nat} {R : Nat → Int64} (h16 : ∀ k, k < m → M.2.1 16 k = nI (sh k)) (h17 : ∀ k, k < m → M.2.2 17 k = R k) {Q : fx_Mem → Prop}
    (h : ∀ M', gx_fr [] [16] [17] M M' → (∀ k, k < m → M'.2.1 16 k = nI ((gx_gv m sh R c).1 k)) → Q M') : wp_X3_giveOut_4 (nI c) (nI m) M Q := by
  unfold wp_X3_giveOut_4
  refine gx_cnt c (fun t s => ∃ M1, s = (nI c, nI m, nI t, M1) ∧ gx_fr [] [16] [17] M M1 ∧ (∀ k, k < m → M1.2.1 16 k = nI ((gx_gv m sh R t).1 k)) ∧ (∀ k, k < m → M1.2.2 17 k = (gx_gv m sh R t).2 k)) ?_ (nI c, nI m, 0, M) ⟨M, rfl, gx_fr_rfl _ _ _ _, h16, h17⟩
  rintro t _ k ht ⟨M1, rfl, hfr, g16, g17⟩ hk
  show wb_X3_giveOut_4_2 (fun x1 x2 x3 M => k (x1, x2, x3, M)) Q (nI c) (nI m) (nI t) M1
  unfold wb_X3_giveOut_4_2
  rw [nI_leI (by omega) (by omega), nI_leI (by omega) (by omega)]
  refine ⟨fun e => h M1 hfr (fun k hk => by rw [show c = t by omega]; exact g16 k hk), fun e => ⟨fun e1 => absurd e1 (by omega), fun e1 => ?_⟩⟩
  refine gx_cnt (m - 1) (fun j s => s = (nI c, nI m, nI t, nI (gx_best (gx_gv m sh R t).2 j), nI (j + 1), M1)) ?_ (nI c, nI m, nI t, 0, 1, M1) rfl
  rintro j _ k2 hj rfl hk2
  show wb_X3_giveOut_4_18 (fun x1 x2 x3 x4 x5 M => k2 (x1, x2, x3, x4, x5, M)) (wb_X3_giveOut_4_52 (fun x1 x2 x3 M => k (x1, x2, x3, M)) Q) Q (nI c) (nI m) (nI t) (nI (gx_best (gx_gv m sh R t).2 j)) (nI (j + 1)) M1
  unfold wb_X3_giveOut_4_18 wb_X3_giveOut_4_46 wb_X3_giveOut_4_52
  have hb := gx_best_le (gx_gv m sh R t).2 j
  rw [nI_leI (by omega) (by omega), nI_clamp (by omega), nI_clamp (by omega)]
  refine ⟨fun e2 => ?_, fun e2 => ⟨vp_in_nI (by omega) (by omega), vp_in_nI (by omega) (by omega), ?_⟩⟩
  · have ej : j = m - 1 := by omega
    refine ⟨vp_in_nI (by omega) (by omega), vp_in_nI (by omega) (by omega), ?_⟩
    rintro _ rfl
    refine ⟨vp_in_nI (by omega) (by omega), ?_⟩
    rintro _ rfl _ rfl
    rw [nI_1]
    refine hk _ (by omega) ⟨_, rfl, gx_fr_sl _ _ (gx_fr_sa _ _ hfr (by decide)) (by decide), fun i hi => ?_, fun i hi => ?_⟩
    · rw [gx_rd, gx_ra]
      rw [gx_gv_succ]
      simp only
      rw [← ej]
      by_cases hi2 : i = gx_best (gx_gv m sh R t).2 j
      · rw [if_pos hi2, ← hi2, pk_us, g16 i hi, nI_1]
      · rw [if_neg hi2, pk_un hi2, g16 i hi]
    · rw [gx_re, gx_r9]
      rw [gx_gv_succ]
      simp only
      rw [← ej]
      by_cases hi2 : i = gx_best (gx_gv m sh R t).2 j
      · rw [← hi2, pk_uLs, pk_uLs]
      · rw [pk_uLn hi2, pk_uLn hi2, g17 i hi]
  · rw [g17 _ (by omega), g17 _ (by omega), lg_cmp_le]
    refine ⟨fun e3 => ?_, fun e3 => ?_⟩
    · rintro _ rfl
      rw [nI_1]
      refine hk2 _ (by omega) ?_
      rw [show gx_best (gx_gv m sh R t).2 (j + 1) = gx_best (gx_gv m sh R t).2 j from if_pos e3]
    · rintro _ rfl
      rw [nI_1]
      refine hk2 _ (by omega) ?_
      rw [show gx_best (gx_gv m sh R t).2 (j + 1) = j + 1 from if_neg e3]
theorem gx_divC {M : fx_Mem} {w : Nat → Nat} {m p : Nat} (hm : m ≤ 20) (hp : p ≤ 1000000) (hwb : ∀ k, k < m → w k ≤ 1000000) (hw : ∀ k, k < m → M.2.2 15 k = lN (w k)) {Q : fx_Mem → Prop}
    (h : ∀ M', gx_fr [] [16] [17] M M' → (∀ k, k < m → M'.2.1 16 k = nI (gx_dv p w m k)) → Q M') : wp_X3_divide_4 (nI p) (nI m) M Q := by
  have hsb : fb_sm w m ≤ m * 1000000 := fb_sm_bound hwb
  have hsb2 : m * 1000000 ≤ 20 * 1000000 := Nat.mul_le_mul_right _ hm
  have hpw : ∀ k, k < m → p * w k ≤ 1000000 * 1000000 := fun k hk => Nat.mul_le_mul hp (hwb k hk)
  unfold wp_X3_divide_4
  refine gx_wsC hm hw ?_
  rw [gx_l0 (by omega)]
  refine ⟨fun e => ?_, fun e => ?_⟩
  · unfold wb_X3_divide_4_17
    refine gx_cnt m (fun i s => ∃ M1, s = (nI p, nI m, lN (fb_sm w m), 0, nI i, M1) ∧ gx_fr [] [16] [17] M M1 ∧ (∀ k, k < i → M1.2.1 16 k = nI 0)) ?_ (nI p, nI m, lN (fb_sm w m), 0, 0, M) ⟨M, rfl, gx_fr_rfl _ _ _ _, fun k hk => absurd hk (by omega)⟩
    rintro i _ k hi ⟨M1, rfl, hfr, g16⟩ hk
    show wb_X3_divide_4_22 (fun x1 x2 y3 x5 x6 M => k (x1, x2, y3, x5, x6, M)) (wb_X3_divide_4_101 Q) Q (nI p) (nI m) (lN (fb_sm w m)) 0 (nI i) M1
    unfold wb_X3_divide_4_22 wb_X3_divide_4_61 wb_X3_divide_4_82 wb_X3_divide_4_101
    rw [nI_leI (by omega) (by omega), nI_clamp (by omega), gx_l0 (by omega)]
    refine ⟨fun e2 => ?_, fun e2 => ⟨vp_in_nI (by omega) (by omega), ?_⟩⟩
    · unfold wp_X3_giveOut_4
      refine ⟨1, ?_⟩
      show wb_X3_giveOut_4_2 _ Q 0 (nI m) 0 M1
      unfold wb_X3_giveOut_4_2
      refine ⟨fun _ => h M1 hfr (fun k hk => ?_), fun e3 => absurd (by decide) e3⟩
      rw [g16 k (by omega)]; unfold gx_dv; rw [if_pos e]
    · rintro _ rfl
      refine ⟨fun _ => ⟨vp_in_nI (by omega) (by omega), ?_⟩, fun e3 => absurd e e3⟩
      rintro _ rfl
      refine ⟨fun _ => ⟨vp_in_nI (by omega) (by omega), ?_⟩, fun e3 => absurd e e3⟩
      rintro _ rfl
      refine ⟨vp_in_nI (by omega) (by omega), ?_⟩
      rintro _ rfl _ rfl
      rw [nI_1, gx_rd, gx_ra, pk_us]
      refine hk _ (by omega) ⟨_, rfl, gx_fr_sl _ _ (gx_fr_sa _ _ hfr (by decide)) (by decide), fun j hj => ?_⟩
      rw [gx_rd, gx_ra]
      by_cases hj2 : j = i
      · rw [hj2, pk_us]; rfl
      · rw [pk_un hj2]; exact g16 j (by omega)
  · unfold wb_X3_divide_4_17
    have hs : 0 < fb_sm w m := by omega
    refine gx_cnt m (fun i s => ∃ M1, s = (nI p, nI m, lN (fb_sm w m), nI (p - fb_sm (gx_q0 p w m) i), nI i, M1) ∧ gx_fr [] [16] [17] M M1 ∧ (∀ k, k < i → M1.2.1 16 k = nI (gx_q0 p w m k)) ∧ (∀ k, k < i → M1.2.2 17 k = gx_r0 p w m k)) ?_ (nI p, nI m, lN (fb_sm w m), nI p, 0, M) ⟨M, rfl, gx_fr_rfl _ _ _ _, fun k hk => absurd hk (by omega), fun k hk => absurd hk (by omega)⟩
    rintro i _ k hi ⟨M1, rfl, hfr, g16, g17⟩ hk
    show wb_X3_divide_4_22 (fun x1 x2 y3 x5 x6 M => k (x1, x2, y3, x5, x6, M)) (wb_X3_divide_4_101 Q) Q (nI p) (nI m) (lN (fb_sm w m)) (nI (p - fb_sm (gx_q0 p w m) i)) (nI i) M1
    unfold wb_X3_divide_4_22 wb_X3_divide_4_61 wb_X3_divide_4_82 wb_X3_divide_4_101
    rw [nI_leI (by omega) (by omega), nI_clamp (by omega), gx_l0 (by omega)]
    refine ⟨fun e2 => ?_, fun e2 => ⟨vp_in_nI (by omega) (by omega), ?_⟩⟩
    · have ei : i = m := by omega
      subst ei
      refine gx_goC hm (gx_q_left hs) g16 g17 (fun M2 hfr2 g => h M2 (gx_fr_tr hfr hfr2) (fun k hk => ?_))
      rw [g k hk]; unfold gx_dv; rw [if_neg e]; rfl
    · have him : i < m := by omega
      have hpwi := hpw i him
      rw [hfr.2.2 15 (by decide), hw i him, nI_l (by omega), lN_mul]
      rintro _ rfl
      rw [gx_lrem (by omega) (by omega), gx_ldiv (by omega) (by omega), lN_i]
      refine ⟨fun e3 => absurd e3 e, fun _ => ⟨fun e3 => e ((gx_l0e (by omega)).mp e3), vp_in_nI (by omega) (by omega), ?_⟩⟩
      rintro _ rfl
      refine ⟨fun e3 => absurd e3 e, fun _ => ⟨fun e3 => e ((gx_l0e (by omega)).mp e3), vp_in_nI (by omega) (by omega), ?_⟩⟩
      rintro _ rfl
      refine ⟨vp_in_nI (by omega) (by omega), ?_⟩
      rintro _ rfl _ rfl
      have hq := gx_q_le (p := p) (w := w) hs (show i + 1 ≤ m by omega)
      rw [fb_sm_succ] at hq
      have hq2 : fb_sm (gx_q0 p w m) i + p * w i / fb_sm w m ≤ p := hq
      have e5 : p - fb_sm (gx_q0 p w m) i - p * w i / fb_sm w m = p - fb_sm (gx_q0 p w m) (i + 1) := by rw [fb_sm_succ, Nat.sub_sub]; rfl
      rw [nI_1, gx_rd, gx_ra, pk_us, pk_sub (by omega), e5]
      refine hk _ him ⟨_, rfl, gx_fr_sl _ _ (gx_fr_sa _ _ hfr (by decide)) (by decide), fun j hj => ?_, fun j hj => ?_⟩
      · rw [gx_rd, gx_ra]
        by_cases hj2 : j = i
        · rw [hj2, pk_us]; rfl
        · rw [pk_un hj2]; exact g16 j (by omega)
      · rw [gx_re, gx_r9]
        by_cases hj2 : j = i
        · rw [hj2, pk_uLs]; rfl
        · rw [pk_uLn hj2]; exact g17 j (by omega)
/-! the reference's division -/
theorem gx_divM {M : fx_Mem} {w : Nat → Nat} {m p : Nat} (hm : m ≤ 20) (hp : p ≤ 1000000) (hwb : ∀ k, k < m → w k ≤ 1000000) (hs : 0 < fb_sm w m) (hw : ∀ k, k < m → M.2.2 36 k = lN (w k)) {Q : fx_Mem → Prop}
    (h : ∀ M', gx_fr [] [] [37, 38] M M' → (∀ k, k < m → M'.2.2 37 k = lN (gx_dv p w m k)) → Q M') : wp_X7_divides_8 (lN p) (nI m) M Q := by
  have hsb : fb_sm w m ≤ m * 1000000 := fb_sm_bound hwb
  have hsb2 : m * 1000000 ≤ 20 * 1000000 := Nat.mul_le_mul_right _ hm
  have hpw : ∀ k, k < m → p * w k ≤ 1000000 * 1000000 := fun k hk => Nat.mul_le_mul hp (hwb k hk)
  have hm0 : 0 < m := by
    rcases Nat.eq_zero_or_pos m with e | e
    · rw [e] at hs; exact absurd hs (by simp [fb_sm])
    · exact e
  unfold wp_X7_divides_8
  refine gx_cnt m (fun i s => s = (lN p, nI m, lN (fb_sm w i), nI i, M)) ?_ (lN p, nI m, 0, 0, M) rfl
  rintro i _ k hi rfl hk
  show wb_X7_divides_8_6 (fun y1 x3 y4 x6 M => k (y1, x3, y4, x6, M)) (wb_X7_divides_8_30 Q) Q (lN p) (nI m) (lN (fb_sm w i)) (nI i) M
  unfold wb_X7_divides_8_6
  rw [nI_leI (by omega) (by omega), nI_clamp (by omega)]
  refine ⟨fun hc => ?_, fun hc => ⟨vp_in_nI (by omega) (by omega), ?_⟩⟩
  rotate_left
  · rw [hw i (by omega)]
    rintro _ rfl _ rfl
    rw [nI_1, lN_add]
    exact hk _ (by omega) rfl
  have ei : i = m := by omega
  subst ei
  unfold wb_X7_divides_8_30
  refine gx_cnt i (fun j s => ∃ M1, s = (lN p, nI i, lN (fb_sm w i), lN (p - fb_sm (gx_q0 p w i) j), nI j, M1) ∧ gx_fr [] [] [37, 38] M M1 ∧ (∀ k, k < j → M1.2.2 37 k = lN (gx_q0 p w i k)) ∧ (∀ k, k < j → M1.2.2 38 k = gx_r0 p w i k)) ?_ (lN p, nI i, lN (fb_sm w i), lN p, 0, M) ⟨M, rfl, gx_fr_rfl _ _ _ _, fun k hk => absurd hk (by omega), fun k hk => absurd hk (by omega)⟩
  rintro j _ k2 hj ⟨M1, rfl, hfr, g37, g38⟩ hk2
  show wb_X7_divides_8_36 (fun y1 x3 y4 y6 x8 M => k2 (y1, x3, y4, y6, x8, M)) (fun x3 y6 M => ∃ n : Nat, wl_X7_divides_8_98 Q n x3 y6 M) Q (lN p) (nI i) (lN (fb_sm w i)) (lN (p - fb_sm (gx_q0 p w i) j)) (nI j) M1
  unfold wb_X7_divides_8_36
  rw [nI_leI (by omega) (by omega), nI_clamp (by omega)]
  have hne : ¬ lN (fb_sm w i) = 0 := fun e3 => by have := (gx_l0e (by omega)).mp e3; omega
  refine ⟨fun e2 => ?_, fun e2 => ⟨vp_in_nI (by omega) (by omega), hne, vp_in_nI (by omega) (by omega), ?_⟩⟩
  rotate_left
  · have hji : j < i := by omega
    have hpwi := hpw j hji
    rintro _ rfl
    refine ⟨vp_in_nI (by omega) (by omega), hne, vp_in_nI (by omega) (by omega), ?_⟩
    rintro _ rfl
    refine ⟨vp_in_nI (by omega) (by omega), ?_⟩
    rintro _ rfl _ rfl
    have hq := gx_q_le (p := p) (w := w) hs (show j + 1 ≤ i by omega)
    rw [fb_sm_succ] at hq
    have hq2 : fb_sm (gx_q0 p w i) j + p * w j / fb_sm w i ≤ p := hq
    have e5 : p - fb_sm (gx_q0 p w i) j - p * w j / fb_sm w i = p - fb_sm (gx_q0 p w i) (j + 1) := by rw [fb_sm_succ, Nat.sub_sub]; rfl
    rw [nI_1, gx_rf (k := 38) (c := 37) _ _ _ (by decide), gx_re, pk_uLs, gx_rf (k := 37) (c := 36) _ _ _ (by decide), hfr.2.2 36 (by decide), hw j hji, lN_mul, gx_lrem (by omega) (by omega), gx_ldiv (by omega) (by omega), lN_sub (by omega), e5]
    refine hk2 _ hji ⟨_, rfl, gx_fr_sl _ _ (gx_fr_sl _ _ hfr (by decide)) (by decide), fun l hl => ?_, fun l hl => ?_⟩
    · rw [gx_rf _ _ _ (by decide), gx_re]
      by_cases hj2 : l = j
      · rw [hj2, pk_uLs]; rfl
      · rw [pk_uLn hj2]; exact g37 l (by omega)
    · rw [gx_re, gx_rf _ _ _ (by decide)]
      by_cases hj2 : l = j
      · rw [hj2, pk_uLs]; rfl
      · rw [pk_uLn hj2]; exact g38 l (by omega)
  have ej : j = i := by omega
  subst ej
  have hlp : p - fb_sm (gx_q0 p w j) j = gx_left p w j := rfl
  have hlm : gx_left p w j ≤ j := gx_q_left hs
  rw [hlp]
  refine gx_cnt (gx_left p w j) (fun t s => ∃ M2, s = (nI j, lN (gx_left p w j - t), M2) ∧ gx_fr [] [] [37, 38] M M2 ∧ (∀ k, k < j → M2.2.2 37 k = lN ((gx_gv j (gx_q0 p w j) (gx_r0 p w j) t).1 k)) ∧ (∀ k, k < j → M2.2.2 38 k = (gx_gv j (gx_q0 p w j) (gx_r0 p w j) t).2 k)) ?_ (nI j, lN (gx_left p w j), M1) ⟨M1, rfl, hfr, g37, g38⟩
  rintro t _ k3 ht ⟨M2, rfl, hfr2, h37, h38⟩ hk3
  show wb_X7_divides_8_98 (fun x3 y6 M => k3 (x3, y6, M)) Q (nI j) (lN (gx_left p w j - t)) M2
  unfold wb_X7_divides_8_98
  rw [gx_l0 (by omega)]
  refine ⟨fun e3 => h M2 hfr2 (fun k hk => ?_), fun e3 => ?_⟩
  · rw [h37 k hk]; unfold gx_dv; rw [if_neg (by omega), show t = gx_left p w j by omega]
  generalize hG : gx_gv j (gx_q0 p w j) (gx_r0 p w j) t = G at *
  refine gx_cnt (j - 1) (fun l s => s = (nI j, lN (gx_left p w j - t), nI (gx_best G.2 l), nI (l + 1), M2)) ?_ (nI j, lN (gx_left p w j - t), 0, 1, M2) rfl
  rintro l _ k4 hl rfl hk4
  show wb_X7_divides_8_111 (fun x3 y6 x8 x9 M => k4 (x3, y6, x8, x9, M)) (wb_X7_divides_8_150 (fun x3 y6 M => k3 (x3, y6, M)) Q) Q (nI j) (lN (gx_left p w j - t)) (nI (gx_best G.2 l)) (nI (l + 1)) M2
  unfold wb_X7_divides_8_111 wb_X7_divides_8_142 wb_X7_divides_8_150
  have hb := gx_best_le G.2 l
  rw [nI_leI (by omega) (by omega), nI_clamp (by omega), nI_clamp (by omega)]
  refine ⟨fun e4 => ?_, fun e4 => ⟨vp_in_nI (by omega) (by omega), vp_in_nI (by omega) (by omega), ?_⟩⟩
  · have el : l = j - 1 := by omega
    refine ⟨vp_in_nI (by omega) (by omega), vp_in_nI (by omega) (by omega), ?_⟩
    rintro _ rfl
    refine ⟨vp_in_nI (by omega) (by omega), ?_⟩
    rintro _ rfl _ rfl
    rw [show (1 : Int64) = lN 1 from rfl, lN_sub (by omega), h37 _ (by omega), lN_add]
    refine hk3 _ (by omega) ⟨_, by rw [Nat.sub_sub], gx_fr_sl _ _ (gx_fr_sl _ _ hfr2 (by decide)) (by decide), fun i hi => ?_, fun i hi => ?_⟩
    · rw [gx_rf _ _ _ (by decide), gx_re]
      rw [gx_gv_succ]
      simp only
      rw [hG, ← el]
      by_cases hi2 : i = gx_best G.2 l
      · rw [if_pos hi2, hi2, pk_uLs]
      · rw [if_neg hi2, pk_uLn hi2, h37 i hi]
    · rw [gx_re, gx_rf _ _ _ (by decide)]
      rw [gx_gv_succ]
      simp only
      rw [hG, ← el]
      by_cases hi2 : i = gx_best G.2 l
      · rw [hi2, pk_uLs, pk_uLs]; rfl
      · rw [pk_uLn hi2, pk_uLn hi2, h38 i hi]
  · rw [h38 _ (by omega), h38 _ (by omega), lg_cmp_le]
    refine ⟨fun e3 => ?_, fun e3 => ?_⟩
    · rintro _ rfl
      rw [nI_1]
      refine hk4 _ (by omega) ?_
      rw [show gx_best G.2 (l + 1) = gx_best G.2 l from if_pos e3]
    · rintro _ rfl
      rw [nI_1]
      refine hk4 _ (by omega) ?_
      rw [show gx_best G.2 (l + 1) = l + 1 from if_neg e3]
