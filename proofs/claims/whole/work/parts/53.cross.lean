/-! cross sizes: what they are -/
def gx_mx (x y : Int32) : Int32 := if x < y then y else x
theorem gx_mx_le (x y : Int32) : (if y ≤ x then x else y) = gx_mx x y := by
  unfold gx_mx
  by_cases h : y ≤ x
  · rw [if_pos h, if_neg (by rw [fa_lt]; rw [fa_le] at h; omega)]
  · rw [if_neg h, if_pos (fa_of_nle h)]
def gx_nt (D : gx_D) (a : Nat) : Nat → Int32 × Int32 × Int32 × Bool
  | 0 => (0, 0, 0, false)
  | t + 1 => if gx_al D (gx_it D (a + t)) = 4 then
      ((gx_nt D a t).1, gx_mx (gx_nt D a t).2.1 (gx_P D (a + t) 6), (if (gx_nt D a t).2.2.2 then gx_mx (gx_nt D a t).2.2.1 (gx_P D (a + t) 5 - gx_P D (a + t) 6) else gx_P D (a + t) 5 - gx_P D (a + t) 6), true)
    else (gx_mx (gx_nt D a t).1 (gx_P D (a + t) 5), (gx_nt D a t).2)
def gx_as (D : gx_D) (l : Nat) : Int32 := (gx_nt D (gx_s D l) (gx_s D (l + 1) - gx_s D l)).2.1
def gx_ns (D : gx_D) (l : Nat) : Int32 := gx_mx (gx_nt D (gx_s D l) (gx_s D (l + 1) - gx_s D l)).1 ((gx_nt D (gx_s D l) (gx_s D (l + 1) - gx_s D l)).2.1 + (gx_nt D (gx_s D l) (gx_s D (l + 1) - gx_s D l)).2.2.1)
def gx_tk (D : gx_D) (c : Nat → Int32) : Int32 := gx_sm (fun l => c l + (if l = 0 then 0 else D.2.1 3)) 0 (gx_L D)
def gx_f0 (D : gx_D) : Int32 := D.2.1 1 - gx_tk D (gx_ns D)
/-- 0: as they are; 1: the one line takes all; 2: stretched -/
def gx_md (D : gx_D) : Nat := if D.2.1 1 = -1 then 0 else if gx_L D = 1 ∧ D.2.1 5 = 0 then 1 else if D.2.1 8 = 0 ∧ 0 < gx_f0 D then 2 else 0
def gx_lc (D : gx_D) (l : Nat) : Int32 := if gx_md D = 1 then D.2.1 1 else if gx_md D = 2 then gx_ns D l + nI (gx_dv (gx_f0 D).toNatClampNeg (fun _ => 1) (gx_L D) l) else gx_ns D l
def gx_ex (D : gx_D) : Int32 := if D.2.1 1 = -1 then gx_tk D (gx_lc D) else D.2.1 1
def gx_cf (D : gx_D) : Int32 := gx_ex D - gx_tk D (gx_lc D)
def gx_la (D : gx_D) (l : Nat) : Int32 := gx_sm (fun l => gx_lc D l + D.2.1 3) 0 l + gx_off (if D.2.1 8 = 0 then 0 else D.2.1 8 - 1) (gx_cf D) (nI l) (nI (gx_L D))
def gx_cs (D : gx_D) (l k : Nat) : Int32 := if gx_al D (gx_it D k) = 0 ∧ gx_P D k 9 = 1 then gx_lc D l else gx_P D k 5
def gx_wi (D : gx_D) (l k : Nat) : Int32 := if gx_al D (gx_it D k) = 2 then gx_lc D l - gx_cs D l k else if gx_al D (gx_it D k) = 3 then gx_floor (gx_lc D l - gx_cs D l k) else if gx_al D (gx_it D k) = 4 then gx_as D l - gx_P D k 6 else 0
def gx_cp (D : gx_D) (l k : Nat) : Int32 := if D.2.1 5 = 2 then (gx_ex D - (gx_la D l + gx_wi D l k)) - gx_cs D l k else gx_la D l + gx_wi D l k
/-! bounds -/
theorem gx_mx_b {x y : Int32} {lo hi : Int} (h1 : lo ≤ x.toInt ∧ x.toInt ≤ hi) (h2 : lo ≤ y.toInt ∧ y.toInt ≤ hi) : lo ≤ (gx_mx x y).toInt ∧ (gx_mx x y).toInt ≤ hi := by
  unfold gx_mx; split
  · exact h2
  · exact h1
theorem gx_mx_l {x y : Int32} : x.toInt ≤ (gx_mx x y).toInt ∧ y.toInt ≤ (gx_mx x y).toInt := by
  unfold gx_mx; split
  · rename_i h; rw [fa_lt] at h; omega
  · rename_i h; rw [fa_lt] at h; omega
theorem gx_p56 {D : gx_D} (hd : gx_ok D) {k : Nat} (hk : k < D.2.2) : (0 ≤ (gx_P D k 5).toInt ∧ (gx_P D k 5).toInt ≤ 9999) ∧ (0 ≤ (gx_P D k 6).toInt ∧ (gx_P D k 6).toInt ≤ 9999) := by
  have b5 := gx_prb hd hk (p := 5) (by decide)
  have b6 := gx_prb hd hk (p := 6) (by decide)
  rw [show (fx_tLO 5).toInt = 0 from by decide, show (fx_tHI 5).toInt = 9999 from by decide] at b5
  rw [show (fx_tLO 6).toInt = 0 from by decide, show (fx_tHI 6).toInt = 9999 from by decide] at b6
  exact ⟨b5, b6⟩
theorem gx_nt_b {D : gx_D} (hd : gx_ok D) {l a m : Nat} (hl : gx_ln D l a m) : ∀ {t : Nat}, t ≤ m → (0 ≤ (gx_nt D a t).1.toInt ∧ (gx_nt D a t).1.toInt ≤ 9999) ∧ (0 ≤ (gx_nt D a t).2.1.toInt ∧ (gx_nt D a t).2.1.toInt ≤ 9999) ∧ (-9999 ≤ (gx_nt D a t).2.2.1.toInt ∧ (gx_nt D a t).2.2.1.toInt ≤ 9999)
  | 0, _ => by
    show (0 ≤ (0 : Int32).toInt ∧ (0 : Int32).toInt ≤ 9999) ∧ (0 ≤ (0 : Int32).toInt ∧ (0 : Int32).toInt ≤ 9999) ∧ (-9999 ≤ (0 : Int32).toInt ∧ (0 : Int32).toInt ≤ 9999)
    decide
  | t + 1, ht => by
    obtain ⟨m1, m2, m3, m4, m5⟩ := gx_ln_b hd hl
    obtain ⟨h1, h2, h3⟩ := gx_nt_b hd hl (t := t) (by omega)
    obtain ⟨b5, b6⟩ := gx_p56 hd (show a + t < D.2.2 by omega)
    have e : (gx_P D (a + t) 5 - gx_P D (a + t) 6).toInt = (gx_P D (a + t) 5).toInt - (gx_P D (a + t) 6).toInt := gx_ts (by omega) (by omega)
    have b7 : -9999 ≤ (gx_P D (a + t) 5 - gx_P D (a + t) 6).toInt ∧ (gx_P D (a + t) 5 - gx_P D (a + t) 6).toInt ≤ 9999 := by rw [e]; omega
    unfold gx_nt
    split
    · refine ⟨h1, gx_mx_b h2 b6, ?_⟩
      simp only
      split
      · exact gx_mx_b h3 b7
      · exact b7
    · exact ⟨gx_mx_b h1 b5, h2, h3⟩
theorem gx_ns_b {D : gx_D} (hd : gx_ok D) {l : Nat} (h : l < gx_L D) : (0 ≤ (gx_ns D l).toInt ∧ (gx_ns D l).toInt ≤ 20000) ∧ (0 ≤ (gx_as D l).toInt ∧ (gx_as D l).toInt ≤ 9999) := by
  obtain ⟨a, m, hl⟩ := gx_ln_ex h
  obtain ⟨e1, e2⟩ := gx_ln_eq hl
  obtain ⟨h1, h2, h3⟩ := gx_nt_b hd hl (Nat.le_refl m)
  unfold gx_ns gx_as
  rw [e2, e1]
  have e : ((gx_nt D a m).2.1 + (gx_nt D a m).2.2.1).toInt = (gx_nt D a m).2.1.toInt + (gx_nt D a m).2.2.1.toInt := gx_ta (by omega) (by omega)
  have x1 := gx_mx_l (x := (gx_nt D a m).1) (y := (gx_nt D a m).2.1 + (gx_nt D a m).2.2.1)
  have x2 := gx_mx_b (x := (gx_nt D a m).1) (y := (gx_nt D a m).2.1 + (gx_nt D a m).2.2.1) (lo := -20000) (hi := 20000) (by omega) (by rw [e]; omega)
  exact ⟨⟨by omega, by omega⟩, h2⟩
theorem gx_tk_b {D : gx_D} (hd : gx_ok D) {c : Nat → Int32} (hc : ∀ l, l < gx_L D → 0 ≤ (c l).toInt ∧ (c l).toInt ≤ 40000) : 0 ≤ (gx_tk D c).toInt ∧ (gx_tk D c).toInt ≤ 1000000 := by
  have hn := hd.1
  have hLn := gx_L_le D
  have b3 := hd.2.2.2.2.1
  have hs := gx_sm_b (f := fun l => c l + (if l = 0 then 0 else D.2.1 3)) (a := 0) (lo := 0) (hi := 50000) (by omega) (by omega) (by omega) (by omega) (m := gx_L D) (by omega) (fun t ht => by
    have hb := hc t ht
    have hz : (0 : Int32).toInt = 0 := rfl
    simp only [Nat.zero_add]
    split
    · rw [gx_ta (by rw [hz]; omega) (by rw [hz]; omega), hz]; omega
    · rw [gx_ta (by omega) (by omega)]; omega)
  unfold gx_tk
  have : (50000 : Int) * (gx_L D : Int) ≤ 50000 * 20 := Int.mul_le_mul_of_nonneg_left (by omega) (by omega)
  omega
theorem gx_f0_b {D : gx_D} (hd : gx_ok D) : -1100000 ≤ (gx_f0 D).toInt ∧ (gx_f0 D).toInt ≤ 9999 := by
  have h1 := gx_tk_b hd (c := gx_ns D) (fun l hl => by have := (gx_ns_b hd hl).1; omega)
  have b1 := hd.2.2.1
  unfold gx_f0
  rw [gx_ts (by omega) (by omega)]; omega
theorem gx_lc_b {D : gx_D} (hd : gx_ok D) {l : Nat} (h : l < gx_L D) : 0 ≤ (gx_lc D l).toInt ∧ (gx_lc D l).toInt ≤ 40000 := by
  have hn := hd.1
  have hLn := gx_L_le D
  have h1 := (gx_ns_b hd h).1
  have b1 := hd.2.2.1
  have hf := gx_f0_b hd
  unfold gx_lc
  split
  · rename_i hm
    unfold gx_md at hm
    by_cases e : D.2.1 1 = -1
    · rw [if_pos e] at hm; exact absurd hm (by decide)
    · rw [fa_eq, show (-1 : Int32).toInt = -1 from by decide] at e; omega
  · split
    · have hd2 := gx_dv_le (p := (gx_f0 D).toNatClampNeg) (w := fun _ => 1) h
      rw [gx_nnv] at hd2
      have e1 : (nI (gx_dv (gx_f0 D).toNatClampNeg (fun _ => 1) (gx_L D) l)).toInt = (gx_dv (gx_f0 D).toNatClampNeg (fun _ => 1) (gx_L D) l : Int) := nI_toInt (by rw [gx_nnv]; omega)
      rw [gx_nnv] at e1 ⊢
      rw [gx_ta (by rw [e1]; omega) (by rw [e1]; omega), e1]; omega
    · omega
theorem gx_ex_b {D : gx_D} (hd : gx_ok D) : -1000001 ≤ (gx_cf D).toInt ∧ (gx_cf D).toInt ≤ 1000000 ∧ 0 ≤ (gx_ex D).toInt ∧ (gx_ex D).toInt ≤ 1000000 := by
  have h1 := gx_tk_b hd (c := gx_lc D) (fun l hl => gx_lc_b hd hl)
  have b1 := hd.2.2.1
  have h2 : 0 ≤ (gx_ex D).toInt ∧ (gx_ex D).toInt ≤ 1000000 := by
    unfold gx_ex; split
    · exact h1
    · rename_i e; rw [fa_eq, show (-1 : Int32).toInt = -1 from by decide] at e; omega
  unfold gx_cf
  rw [gx_ts (by omega) (by omega)]; omega
theorem gx_cs_b {D : gx_D} (hd : gx_ok D) {l k : Nat} (h : l < gx_L D) (hk : k < D.2.2) : 0 ≤ (gx_cs D l k).toInt ∧ (gx_cs D l k).toInt ≤ 40000 := by
  unfold gx_cs; split
  · exact gx_lc_b hd h
  · have := (gx_p56 hd hk).1; omega
/-- the length of all lines, two ways -/
theorem gx_tk_eq (D : gx_D) (c : Nat → Int32) : ∀ n, 1 ≤ n → gx_sm (fun l => c l + (if l = 0 then 0 else D.2.1 3)) 0 n = gx_sm c 0 n + D.2.1 3 * (nI n - 1)
  | 0, h => absurd h (by omega)
  | 1, _ => by
    show 0 + (c (0 + 0) + (if 0 + 0 = 0 then 0 else D.2.1 3)) = 0 + c (0 + 0) + D.2.1 3 * (nI 1 - 1)
    have e : nI 1 = 1 := rfl
    rw [e]; simp only [Nat.add_zero, if_true]; grind
  | n + 2, _ => by
    have ih := gx_tk_eq D c (n + 1) (by omega)
    have e : nI (n + 2) = nI (n + 1) + 1 := nI_succ (n + 1)
    rw [gx_sm_succ, ih, gx_sm_succ c 0 (n + 1), e]
    have e2 : ¬ (0 + (n + 1) = 0) := by omega
    simp only [e2, if_false]
    grind
