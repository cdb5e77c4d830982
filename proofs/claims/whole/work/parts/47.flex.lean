/-! the flexible sizes of a line: what they are -/
def gx_P (D : gx_D) (k p : Nat) : Int32 := D.1 (gx_it D k) p
def gx_sm (f : Nat → Int32) (a : Nat) : Nat → Int32
  | 0 => 0
  | i + 1 => gx_sm f a i + f (a + i)
theorem gx_sm_succ (f : Nat → Int32) (a i : Nat) : gx_sm f a (i + 1) = gx_sm f a i + f (a + i) := rfl
theorem gx_sm_cong {f g : Nat → Int32} {a : Nat} : ∀ {m : Nat}, (∀ t, t < m → f (a + t) = g (a + t)) → gx_sm f a m = gx_sm g a m
  | 0, _ => rfl
  | m + 1, h => by rw [gx_sm_succ, gx_sm_succ, gx_sm_cong (m := m) (fun t ht => h t (by omega)), h m (by omega)]
def gx_av (D : gx_D) (m : Nat) : Int32 := D.2.1 0 - D.2.1 2 * (nI m - 1)
def gx_gr (D : gx_D) (a m : Nat) : Bool := decide (¬ gx_av D m ≤ gx_sm (gx_h D) a m)
abbrev gx_FS : Type := (Nat → Bool) × (Nat → Int32)
def gx_F0 (D : gx_D) (g : Bool) (k : Nat) : Bool := if g then decide (gx_P D k 1 = 0 ∨ ¬ gx_P D k 0 ≤ gx_h D k) else decide (gx_P D k 2 = 0 ∨ ¬ gx_h D k ≤ gx_P D k 0)
def gx_lf (D : gx_D) (a m : Nat) (x : gx_FS) : Int32 := gx_av D m - gx_sm (fun k => if x.1 k then x.2 k else gx_P D k 0) a m
def gx_fx (g : Bool) (sp : Int32) : Bool := if g then decide (¬ sp ≤ 0) else decide (¬ 0 ≤ sp)
def gx_w (D : gx_D) (g : Bool) (F : Nat → Bool) (a t : Nat) : Nat := if F (a + t) then 0 else if g then (gx_P D (a + t) 1).toNatClampNeg else (gx_P D (a + t) 2).toNatClampNeg * (gx_P D (a + t) 0).toNatClampNeg
def gx_sh (D : gx_D) (g : Bool) (a m : Nat) (x : gx_FS) (t : Nat) : Nat := if gx_fx g (gx_lf D a m x) then gx_dv (gx_lf D a m x).toInt.natAbs (gx_w D g x.1 a) m t else 0
def gx_bf (D : gx_D) (g : Bool) (a m : Nat) (x : gx_FS) (k : Nat) : Int32 := gx_P D k 0 + (if g then nI (gx_sh D g a m x (k - a)) else -nI (gx_sh D g a m x (k - a)))
def gx_cl (D : gx_D) (g : Bool) (a m : Nat) (x : gx_FS) (k : Nat) : Int32 := gx_clamp (D.1 (gx_it D k)) (gx_bf D g a m x k)
def gx_V (D : gx_D) (g : Bool) (a m : Nat) (x : gx_FS) (k : Nat) : Int32 := gx_cl D g a m x k - gx_bf D g a m x k
def gx_vi (D : gx_D) (g : Bool) (a m : Nat) (x : gx_FS) : Int32 := gx_sm (fun k => if x.1 k then 0 else gx_V D g a m x k) a m
def gx_ag (vi v : Int32) : Bool := if vi ≤ 0 then decide (¬ 0 ≤ v) else decide (¬ v ≤ 0)
def gx_rnd (D : gx_D) (g : Bool) (a m : Nat) (x : gx_FS) : gx_FS :=
  (fun k => x.1 k || (decide (gx_vi D g a m x = 0) || gx_ag (gx_vi D g a m x) (gx_V D g a m x k)), fun k => if x.1 k then x.2 k else gx_cl D g a m x k)
def gx_all (F : Nat → Bool) (a : Nat) : Nat → Bool
  | 0 => true
  | i + 1 => gx_all F a i && F (a + i)
theorem gx_all_iff {F : Nat → Bool} {a : Nat} : ∀ {m : Nat}, gx_all F a m = true ↔ ∀ t, t < m → F (a + t) = true
  | 0 => ⟨fun _ t ht => absurd ht (by omega), fun _ => rfl⟩
  | m + 1 => by
    have ih := gx_all_iff (F := F) (a := a) (m := m)
    unfold gx_all
    rw [Bool.and_eq_true, ih]
    refine ⟨fun h t ht => ?_, fun h => ⟨fun t ht => h t (by omega), h m (by omega)⟩⟩
    by_cases e : t = m
    · rw [e]; exact h.2
    · exact h.1 t (by omega)
def gx_rs (D : gx_D) (g : Bool) (a m : Nat) : Nat → gx_FS
  | 0 => (gx_F0 D g, gx_h D)
  | r + 1 => gx_rnd D g a m (gx_rs D g a m r)
/-! bounds -/
theorem gx_prb {D : gx_D} (hd : gx_ok D) {k p : Nat} (hk : k < D.2.2) (hp : p < 10) : (fx_tLO p).toInt ≤ (gx_P D k p).toInt ∧ (gx_P D k p).toInt ≤ (fx_tHI p).toInt := hd.2.2.2.2.2.2 _ (gx_it_lt hk) p hp
theorem gx_nn {x : Int32} (h : 0 ≤ x.toInt) : x = nI x.toNatClampNeg := by
  have hr := gx_rg x
  have e : x.toNatClampNeg = x.toInt.toNat := rfl
  rw [fa_eq, nI_toInt (by rw [e]; omega), e]; omega
theorem gx_nnv {x : Int32} : x.toNatClampNeg = x.toInt.toNat := rfl
theorem gx_clamp_b {D : gx_D} (hd : gx_ok D) {i : Nat} (hi : i < D.2.2) {v : Int32} (hv : v.toInt ≤ 30000) : 0 ≤ (gx_clamp (D.1 i) v).toInt ∧ (gx_clamp (D.1 i) v).toInt ≤ 30000 := by
  have b3 := hd.2.2.2.2.2.2 i hi 3 (by decide)
  have b4 := hd.2.2.2.2.2.2 i hi 4 (by decide)
  rw [show (fx_tLO 3).toInt = 0 from by decide, show (fx_tHI 3).toInt = 9999 from by decide] at b3
  rw [show (fx_tLO 4).toInt = -1 from by decide, show (fx_tHI 4).toInt = 9999 from by decide] at b4
  unfold gx_clamp
  have hl : (gx_low (D.1 i) v).toInt ≤ 30000 := by
    unfold gx_low; split
    · exact hv
    · split
      · exact hv
      · omega
  split
  · rename_i h; rw [fa_le] at h; omega
  · omega
theorem gx_sm_b {f : Nat → Int32} {a : Nat} {lo hi : Int} (hlo : -30000000 ≤ lo) (hlo0 : lo ≤ 0) (hhi : hi ≤ 30000000) (hhi0 : 0 ≤ hi) : ∀ {m : Nat}, m ≤ 20 → (∀ t, t < m → lo ≤ (f (a + t)).toInt ∧ (f (a + t)).toInt ≤ hi) → (gx_sm f a m).toInt = fb_si (fun t => (f (a + t)).toInt) m ∧ lo * m ≤ (gx_sm f a m).toInt ∧ (gx_sm f a m).toInt ≤ hi * m
  | 0, _, _ => ⟨rfl, by simp [gx_sm], by simp [gx_sm]⟩
  | m + 1, hm, h => by
    obtain ⟨h1, h2, h3⟩ := gx_sm_b hlo hlo0 hhi hhi0 (m := m) (by omega) (fun t ht => h t (by omega))
    have hb := h m (by omega)
    have e1 : lo * ((m + 1 : Nat) : Int) = lo * (m : Int) + lo := by rw [Int.natCast_add, Int.mul_add]; simp
    have e2 : hi * ((m + 1 : Nat) : Int) = hi * (m : Int) + hi := by rw [Int.natCast_add, Int.mul_add]; simp
    have b1 : -600000000 ≤ lo * (m : Int) := by
      have x1 : (-30000000) * (m : Int) ≤ lo * (m : Int) := Int.mul_le_mul_of_nonneg_right hlo (by omega)
      omega
    have b2 : hi * (m : Int) ≤ 600000000 := by
      have x1 : hi * (m : Int) ≤ 30000000 * (m : Int) := Int.mul_le_mul_of_nonneg_right hhi (by omega)
      omega
    have e : (gx_sm f a (m + 1)).toInt = (gx_sm f a m).toInt + (f (a + m)).toInt := by
      rw [gx_sm_succ, gx_ta (by omega) (by omega)]
    refine ⟨by rw [e, fb_si_succ, h1], by rw [e, e1]; omega, by rw [e, e2]; omega⟩
def gx_ln (D : gx_D) (l a m : Nat) : Prop := l < gx_L D ∧ a = gx_s D l ∧ a + m = gx_s D (l + 1)
theorem gx_ln_b {D : gx_D} (hd : gx_ok D) {l a m : Nat} (h : gx_ln D l a m) : 1 ≤ m ∧ a + m ≤ D.2.2 ∧ D.2.2 ≤ 20 ∧ l < 20 ∧ l < D.2.2 := by
  obtain ⟨h1, h2, h3⟩ := h
  have x1 := gx_s_lt h1
  have x2 := gx_s_le D (l + 1)
  have x3 := gx_L_le D
  have x4 := hd.1
  omega
theorem gx_av_b {D : gx_D} (hd : gx_ok D) {m : Nat} (h1 : 1 ≤ m) (h2 : m ≤ 20) : -2000 ≤ (gx_av D m).toInt ∧ (gx_av D m).toInt ≤ 9999 := by
  obtain ⟨b0, b1, b2, b3, b4, _⟩ := hd
  unfold gx_av
  rw [gx_n5 h1]
  have e1 : (nI (m - 1)).toInt = ((m - 1 : Nat) : Int) := nI_toInt (by omega)
  have p0 : 0 ≤ (D.2.1 2).toInt * ((m - 1 : Nat) : Int) := Int.mul_nonneg b3.1 (by omega)
  have p1 : (D.2.1 2).toInt * ((m - 1 : Nat) : Int) ≤ 99 * ((m - 1 : Nat) : Int) := Int.mul_le_mul_of_nonneg_right b3.2 (by omega)
  have e2 : (D.2.1 2 * nI (m - 1)).toInt = (D.2.1 2).toInt * ((m - 1 : Nat) : Int) := by
    rw [gx_tm (by rw [e1]; omega) (by rw [e1]; omega), e1]
  rw [gx_ts (by rw [e2]; omega) (by rw [e2]; omega), e2]
  omega
/-- the sizes of a line stay within bounds -/
def gx_xb (a m : Nat) (x : gx_FS) : Prop := ∀ t, t < m → 0 ≤ (x.2 (a + t)).toInt ∧ (x.2 (a + t)).toInt ≤ 30000
theorem gx_lf_b {D : gx_D} (hd : gx_ok D) {l a m : Nat} (hl : gx_ln D l a m) {x : gx_FS} (hx : gx_xb a m x) : -700000 ≤ (gx_lf D a m x).toInt ∧ (gx_lf D a m x).toInt ≤ 9999 := by
  obtain ⟨m1, m2, m3, m4, m5⟩ := gx_ln_b hd hl
  have ba := gx_av_b hd m1 (by omega)
  have hs := gx_sm_b (f := fun k => if x.1 k then x.2 k else gx_P D k 0) (a := a) (lo := 0) (hi := 30000) (by omega) (by omega) (by omega) (by omega) (m := m) (by omega) (fun t ht => by
    have hp := gx_prb hd (show a + t < D.2.2 by omega) (p := 0) (by decide)
    rw [show (fx_tLO 0).toInt = 0 from by decide, show (fx_tHI 0).toInt = 9999 from by decide] at hp
    split
    · exact hx t ht
    · omega)
  unfold gx_lf
  rw [gx_ts (by omega) (by omega)]
  omega
theorem gx_sh_b {D : gx_D} (hd : gx_ok D) {l a m : Nat} (hl : gx_ln D l a m) {x : gx_FS} (hx : gx_xb a m x) (g : Bool) {t : Nat} (ht : t < m) : gx_sh D g a m x t ≤ 700020 ∧ (g = true → gx_sh D g a m x t ≤ 10019) := by
  obtain ⟨m1, m2, m3, m4, m5⟩ := gx_ln_b hd hl
  have b := gx_lf_b hd hl hx
  unfold gx_sh
  split
  · rename_i hf
    have := gx_dv_le (p := (gx_lf D a m x).toInt.natAbs) (w := gx_w D g x.1 a) ht
    refine ⟨by omega, fun hg => ?_⟩
    unfold gx_fx at hf
    rw [hg, if_pos rfl] at hf
    have hf2 := of_decide_eq_true hf
    rw [fa_le, show (0 : Int32).toInt = 0 from rfl] at hf2
    omega
  · exact ⟨by omega, fun _ => by omega⟩
theorem gx_bf_b {D : gx_D} (hd : gx_ok D) {l a m : Nat} (hl : gx_ln D l a m) {x : gx_FS} (hx : gx_xb a m x) (g : Bool) {t : Nat} (ht : t < m) : -700020 ≤ (gx_bf D g a m x (a + t)).toInt ∧ (gx_bf D g a m x (a + t)).toInt ≤ 30000 := by
  obtain ⟨m1, m2, m3, m4, m5⟩ := gx_ln_b hd hl
  have hb := gx_sh_b hd hl hx g ht
  have hp := gx_prb hd (show a + t < D.2.2 by omega) (p := 0) (by decide)
  rw [show (fx_tLO 0).toInt = 0 from by decide, show (fx_tHI 0).toInt = 9999 from by decide] at hp
  unfold gx_bf
  rw [show a + t - a = t by omega]
  have e1 : (nI (gx_sh D g a m x t)).toInt = (gx_sh D g a m x t : Int) := nI_toInt (by omega)
  cases g with
  | true =>
    have := hb.2 rfl
    rw [if_pos rfl, gx_ta (by rw [e1]; omega) (by rw [e1]; omega), e1]; omega
  | false =>
    have e2 : (-nI (gx_sh D false a m x t)).toInt = -(gx_sh D false a m x t : Int) := by rw [gx_tn (by rw [e1]; omega), e1]
    rw [if_neg (by decide), gx_ta (by rw [e2]; omega) (by rw [e2]; omega), e2]; omega
theorem gx_cl_b {D : gx_D} (hd : gx_ok D) {l a m : Nat} (hl : gx_ln D l a m) {x : gx_FS} (hx : gx_xb a m x) (g : Bool) {t : Nat} (ht : t < m) : 0 ≤ (gx_cl D g a m x (a + t)).toInt ∧ (gx_cl D g a m x (a + t)).toInt ≤ 30000 := by
  obtain ⟨m1, m2, m3, m4, m5⟩ := gx_ln_b hd hl
  exact gx_clamp_b hd (gx_it_lt (by omega)) (gx_bf_b hd hl hx g ht).2
theorem gx_V_b {D : gx_D} (hd : gx_ok D) {l a m : Nat} (hl : gx_ln D l a m) {x : gx_FS} (hx : gx_xb a m x) (g : Bool) {t : Nat} (ht : t < m) : -30000 ≤ (gx_V D g a m x (a + t)).toInt ∧ (gx_V D g a m x (a + t)).toInt ≤ 800000 := by
  have h1 := gx_bf_b hd hl hx g ht
  have h2 := gx_cl_b hd hl hx g ht
  unfold gx_V
  rw [gx_ts (by omega) (by omega)]; omega
theorem gx_rnd_b {D : gx_D} (hd : gx_ok D) {l a m : Nat} (hl : gx_ln D l a m) {x : gx_FS} (hx : gx_xb a m x) (g : Bool) : gx_xb a m (gx_rnd D g a m x) := by
  intro t ht
  unfold gx_rnd; simp only
  split
  · exact hx t ht
  · exact gx_cl_b hd hl hx g ht
theorem gx_rs_b {D : gx_D} (hd : gx_ok D) {l a m : Nat} (hl : gx_ln D l a m) (g : Bool) : ∀ r, gx_xb a m (gx_rs D g a m r)
  | 0 => fun t ht => by
    obtain ⟨m1, m2, m3, m4, m5⟩ := gx_ln_b hd hl
    have hp := gx_prb hd (show a + t < D.2.2 by omega) (p := 0) (by decide)
    rw [show (fx_tLO 0).toInt = 0 from by decide, show (fx_tHI 0).toInt = 9999 from by decide] at hp
    exact gx_clamp_b hd (gx_it_lt (show a + t < D.2.2 by omega)) (v := D.1 (gx_it D (a + t)) 0) (by unfold gx_P at hp; omega)
  | r + 1 => gx_rnd_b hd hl (gx_rs_b hd hl g r) g
/-- a round freezes one at least -/
theorem gx_rnd_ct {D : gx_D} (hd : gx_ok D) {l a m : Nat} (hl : gx_ln D l a m) {x : gx_FS} (hx : gx_xb a m x) (g : Bool) (hn : gx_all x.1 a m = false) : fb_ct (fun t => !(gx_rnd D g a m x).1 (a + t)) m + 1 ≤ fb_ct (fun t => !x.1 (a + t)) m := by
  obtain ⟨m1, m2, m3, m4, m5⟩ := gx_ln_b hd hl
  have hsum := gx_sm_b (f := fun k => if x.1 k then 0 else gx_V D g a m x k) (a := a) (lo := -800000) (hi := 800000) (by omega) (by omega) (by omega) (by omega) (m := m) (by omega) (fun t ht => by
    split
    · decide
    · have := gx_V_b hd hl hx g ht; omega)
  have sgn : ∀ (f : Nat → Int) (n : Nat), (∀ t, t < n → f t ≤ 0) → fb_si f n ≤ 0 := by
    intro f n
    induction n with
    | zero => intro _; exact Int.le_refl _
    | succ n ih => intro h; rw [fb_si_succ]; have := ih (fun t ht => h t (by omega)); have := h n (by omega); omega
  have sgp : ∀ (f : Nat → Int) (n : Nat), (∀ t, t < n → 0 ≤ f t) → 0 ≤ fb_si f n := by
    intro f n
    induction n with
    | zero => intro _; exact Int.le_refl _
    | succ n ih => intro h; rw [fb_si_succ]; have := ih (fun t ht => h t (by omega)); have := h n (by omega); omega
  have hex : ∃ t, t < m ∧ x.1 (a + t) = false ∧ (gx_rnd D g a m x).1 (a + t) = true := by
    have hu : ∃ t, t < m ∧ x.1 (a + t) = false := by
      apply Classical.byContradiction
      intro hc
      have : gx_all x.1 a m = true := gx_all_iff.mpr (fun t ht => by
        cases hb : x.1 (a + t) with
        | true => rfl
        | false => exact absurd ⟨t, ht, hb⟩ hc)
      rw [this] at hn; exact absurd hn (by decide)
    unfold gx_rnd; simp only
    by_cases h0 : gx_vi D g a m x = 0
    · obtain ⟨t, ht, hb⟩ := hu
      exact ⟨t, ht, hb, by rw [hb]; simp [h0]⟩
    · apply Classical.byContradiction
      intro hc
      have hall : ∀ t, t < m → x.1 (a + t) = false → gx_ag (gx_vi D g a m x) (gx_V D g a m x (a + t)) = false := by
        intro t ht hb
        cases hb2 : gx_ag (gx_vi D g a m x) (gx_V D g a m x (a + t)) with
        | false => rfl
        | true => exact absurd ⟨t, ht, hb, by rw [hb, hb2]; simp⟩ hc
      have hvi : (gx_vi D g a m x).toInt = fb_si (fun t => ((fun k => if x.1 k then (0 : Int32) else gx_V D g a m x k) (a + t)).toInt) m := hsum.1
      rw [fa_eq, show (0 : Int32).toInt = 0 from rfl] at h0
      unfold gx_ag at hall
      by_cases h1 : gx_vi D g a m x ≤ 0
      · have h1' := h1
        rw [fa_le, show (0 : Int32).toInt = 0 from rfl] at h1'
        have := sgp (fun t => ((fun k => if x.1 k then (0 : Int32) else gx_V D g a m x k) (a + t)).toInt) m (fun t ht => by
          simp only
          cases hb : x.1 (a + t) with
          | true => simp
          | false =>
            have h2 := hall t ht hb
            rw [if_pos h1] at h2
            have h3 : 0 ≤ gx_V D g a m x (a + t) := by simpa using h2
            rw [fa_le, show (0 : Int32).toInt = 0 from rfl] at h3
            simpa using h3)
        omega
      · have h1' := h1
        rw [fa_le, show (0 : Int32).toInt = 0 from rfl] at h1'
        have := sgn (fun t => ((fun k => if x.1 k then (0 : Int32) else gx_V D g a m x k) (a + t)).toInt) m (fun t ht => by
          simp only
          cases hb : x.1 (a + t) with
          | true => simp
          | false =>
            have h2 := hall t ht hb
            rw [if_neg h1] at h2
            have h3 : gx_V D g a m x (a + t) ≤ 0 := by simpa using h2
            rw [fa_le, show (0 : Int32).toInt = 0 from rfl] at h3
            simpa using h3)
        omega
  obtain ⟨t, ht, hb, hb2⟩ := hex
  have h1 : fb_ct (fun s => !(gx_rnd D g a m x).1 (a + s)) m ≤ fb_ct (fun s => if s = t then false else !x.1 (a + s)) m := by
    apply fb_ct_sub
    intro s hs hh
    by_cases e : s = t
    · rw [e] at hh; rw [hb2] at hh; exact absurd hh (by decide)
    · rw [if_neg e]
      cases hx2 : x.1 (a + s) with
      | false => rfl
      | true =>
        have : (gx_rnd D g a m x).1 (a + s) = true := by unfold gx_rnd; simp only; rw [hx2]; rfl
        rw [this] at hh; exact absurd hh (by decide)
  have h2 := fb_ct_upd (fun s => !x.1 (a + s)) false ht
  rw [hb] at h2
  simp only [Bool.not_false, if_true] at h2
  have h3 : (if (false = true) then 1 else 0) = 0 := rfl
  rw [h3] at h2
  omega
def gx_nr (D : gx_D) (g : Bool) (a m : Nat) : Nat := fa_first (fun r => gx_all (gx_rs D g a m r).1 a m) 20
theorem gx_nr_le (D : gx_D) (g : Bool) (a m : Nat) : gx_nr D g a m ≤ 20 := fa_first_le _ _
theorem gx_nr_no {D : gx_D} {g : Bool} {a m r : Nat} (h : r < gx_nr D g a m) : gx_all (gx_rs D g a m r).1 a m = false := fa_first_no _ _ r h
theorem gx_nr_yes {D : gx_D} (hd : gx_ok D) {l a m : Nat} (hl : gx_ln D l a m) (g : Bool) : gx_all (gx_rs D g a m (gx_nr D g a m)).1 a m = true := by
  obtain ⟨m1, m2, m3, m4, m5⟩ := gx_ln_b hd hl
  rcases Nat.lt_or_ge (gx_nr D g a m) 20 with h | h
  · exact fa_first_yes (fun r => gx_all (gx_rs D g a m r).1 a m) 20 h
  · have key : ∀ r, r ≤ gx_nr D g a m → fb_ct (fun t => !(gx_rs D g a m r).1 (a + t)) m + r ≤ m := by
      intro r
      induction r with
      | zero => intro _; have := fb_ct_le (fun t => !(gx_rs D g a m 0).1 (a + t)) m; omega
      | succ r ih =>
        intro hr
        have h1 := ih (by omega)
        have h2 := gx_rnd_ct hd hl (gx_rs_b hd hl g r) g (gx_nr_no (by omega))
        have e : gx_rs D g a m (r + 1) = gx_rnd D g a m (gx_rs D g a m r) := rfl
        rw [e]; omega
    have h1 := key _ (Nat.le_refl _)
    have h2 : fb_ct (fun t => !(gx_rs D g a m (gx_nr D g a m)).1 (a + t)) m = 0 := by omega
    rw [fb_ct_zero] at h2
    exact gx_all_iff.mpr (fun t ht => by have := h2 t ht; simpa using this)
/-- the last sizes -/
def gx_xf (D : gx_D) (l : Nat) : gx_FS := gx_rs D (gx_gr D (gx_s D l) (gx_s D (l + 1) - gx_s D l)) (gx_s D l) (gx_s D (l + 1) - gx_s D l) (gx_nr D (gx_gr D (gx_s D l) (gx_s D (l + 1) - gx_s D l)) (gx_s D l) (gx_s D (l + 1) - gx_s D l))
def gx_rn (D : gx_D) (l : Nat) : Nat := gx_nr D (gx_gr D (gx_s D l) (gx_s D (l + 1) - gx_s D l)) (gx_s D l) (gx_s D (l + 1) - gx_s D l)
def gx_fs (D : gx_D) (l : Nat) : Int32 := gx_av D (gx_s D (l + 1) - gx_s D l) - gx_sm (gx_xf D l).2 (gx_s D l) (gx_s D (l + 1) - gx_s D l)
