/-! reading an item: the letters as a run of states -/
theorem gx_nm1 {n : Nat} (h : n < 2 ^ 31) : ¬ nI n = -1 := fun e => nI_pos h (by rw [e]; decide)
def gx_pf (ch : Int32) : Nat := fa_first (fun i => decide (fx_tLE i = ch)) 10
theorem gx_pf_le (ch : Int32) : gx_pf ch ≤ 10 := fa_first_le _ _
theorem gx_pf_y {ch : Int32} (h : gx_pf ch < 10) : fx_tLE (gx_pf ch) = ch := of_decide_eq_true (fa_first_yes (fun i => decide (fx_tLE i = ch)) 10 h)
theorem gx_pf_n {ch : Int32} {i : Nat} (h : i < gx_pf ch) : ¬ fx_tLE i = ch := of_decide_eq_false (fa_first_no (fun i => decide (fx_tLE i = ch)) 10 i h)
theorem gx_pfC (ch : Int32) (M : fx_Mem) {Q : Int32 → fx_Mem → Prop} (h : Q (nI (gx_pf ch)) M) : wp_X4_propertyFor ch M Q := by
  have hb := gx_pf_le ch
  unfold wp_X4_propertyFor
  refine gx_cnt (gx_pf ch) (fun i s => s = (ch, nI i, M)) ?_ (ch, 0, M) rfl
  rintro i _ k hi rfl hk
  show wb_X4_propertyFor_2 (fun x0 x1 M => k (x0, x1, M)) Q ch (nI i) M
  unfold wb_X4_propertyFor_2
  rw [show (10 : Int32) = nI 10 from rfl, nI_leI (by omega) (by omega), nI_clamp (by omega)]
  refine ⟨fun e => by rw [show i = gx_pf ch by omega]; exact h, fun e => ⟨vp_in_nI (by omega) (by omega), fun e2 => ?_, fun e2 => ?_⟩⟩
  · rcases Nat.lt_or_ge i (gx_pf ch) with e3 | e3
    · exact absurd e2 (gx_pf_n e3)
    · rw [show i = gx_pf ch by omega]; exact h
  · rintro _ rfl
    rw [nI_1]
    rcases Nat.lt_or_ge i (gx_pf ch) with e3 | e3
    · exact hk _ e3 rfl
    · have e4 : i = gx_pf ch := by omega
      exact absurd (by rw [e4]; exact gx_pf_y (by omega)) e2
def gx_nx63 (s : Nat) (ch : Int32) : Option Nat := if ch = 32 then (if s < 3 then none else some 0) else none
def gx_nx50 (s : Nat) (ch : Int32) : Option Nat := if ch = 45 then (if s = 1 then some 2 else gx_nx63 s ch) else gx_nx63 s ch
def gx_nxs (s : Nat) (ch : Int32) : Option Nat := if s = 0 then (if 10 ≤ gx_pf ch then none else some 1) else if ch < 48 then gx_nx50 s ch else if 57 < ch then gx_nx50 s ch else if 6 ≤ s then gx_nx50 s ch else if 3 ≤ s then some (s + 1) else some 3
theorem gx_nxs_b {s s' : Nat} {ch : Int32} (hs : s ≤ 6) (h : gx_nxs s ch = some s') : s' ≤ 6 := by
  unfold gx_nxs gx_nx50 gx_nx63 at h
  repeat' split at h
  all_goals first | (cases h; omega) | (cases h)
theorem gx_nxC {s : Nat} (hs : s ≤ 6) (ch : Int32) (M : fx_Mem) {Q : Int32 → fx_Mem → Prop} (h1 : ∀ s', gx_nxs s ch = some s' → Q (nI s') M) (h0 : gx_nxs s ch = none → Q (-1) M) : wp_X4_next (nI s) ch M Q := by
  have k63 : (gx_nxs s ch = gx_nx63 s ch) → wb_X4_next_63 Q (nI s) ch M := by
    intro e
    rw [e] at h1 h0
    unfold gx_nx63 at h1 h0
    unfold wb_X4_next_63
    rw [show (3 : Int32) = nI 3 from rfl, nI_ltI (by omega) (by omega)]
    refine ⟨fun c1 => ⟨fun c2 => h0 (by rw [if_pos c1, if_pos c2]), fun c2 => h1 0 (by rw [if_pos c1, if_neg c2])⟩, fun c1 => h0 (by rw [if_neg c1])⟩
  have k50 : (gx_nxs s ch = gx_nx50 s ch) → wb_X4_next_50 Q (nI s) ch M := by
    intro e
    unfold gx_nx50 at e
    unfold wb_X4_next_50
    rw [show (1 : Int32) = nI 1 from rfl, nI_eq (by omega) (by omega)]
    refine ⟨fun c1 => ⟨fun c2 => h1 2 (by rw [e, if_pos c1, if_pos c2]), fun c2 => k63 (by rw [e, if_pos c1, if_neg c2])⟩, fun c1 => k63 (by rw [e, if_neg c1])⟩
  unfold wp_X4_next
  rw [gx_n4 (by omega), show (6 : Int32) = nI 6 from rfl, show (3 : Int32) = nI 3 from rfl, nI_leI (by omega) (by omega), nI_leI (by omega) (by omega), nI_1]
  refine ⟨fun c0 => gx_pfC ch M ?_, fun c0 => ⟨fun c1 => k50 ?_, fun c1 => ⟨fun c2 => k50 ?_, fun c2 => ⟨fun c3 => k50 ?_, fun c3 => ⟨fun c4 => h1 (s + 1) ?_, fun c4 => h1 3 ?_⟩⟩⟩⟩⟩
  · have hb := gx_pf_le ch
    rw [show (10 : Int32) = nI 10 from rfl, nI_leI (by omega) (by omega)]
    refine ⟨fun c1 => h0 ?_, fun c1 => h1 1 ?_⟩
    · unfold gx_nxs; rw [if_pos c0, if_pos c1]
    · unfold gx_nxs; rw [if_pos c0, if_neg c1]
  · unfold gx_nxs; rw [if_neg c0, if_pos c1]
  · unfold gx_nxs; rw [if_neg c0, if_neg c1, if_pos c2]
  · unfold gx_nxs; rw [if_neg c0, if_neg c1, if_neg c2, if_pos c3]
  · unfold gx_nxs; rw [if_neg c0, if_neg c1, if_neg c2, if_neg c3, if_pos c4]
  · unfold gx_nxs; rw [if_neg c0, if_neg c1, if_neg c2, if_neg c3, if_neg c4]
def gx_dr (c : Nat → Int32) : Nat → Option Nat
  | 0 => some 0
  | p + 1 => match gx_dr c p with
    | none => none
    | some s => gx_nxs s (c p)
theorem gx_dr_s {c : Nat → Int32} {p s : Nat} (h : gx_dr c p = some s) : gx_dr c (p + 1) = gx_nxs s (c p) := by
  show (match gx_dr c p with | none => none | some s => gx_nxs s (c p)) = _
  rw [h]
theorem gx_dr_none {c : Nat → Int32} {p : Nat} (h : gx_dr c p = none) : ∀ d, gx_dr c (p + d) = none
  | 0 => h
  | d + 1 => by
    show (match gx_dr c (p + d) with | none => none | some s => gx_nxs s (c (p + d))) = _
    rw [gx_dr_none h d]
def gx_er (c : Nat → Int32) (t e : Nat) : Prop := (e < t ∧ ∃ s, gx_dr c e = some s ∧ gx_nxs s (c e) = none) ∨ (e = t ∧ ∃ s, s < 3 ∧ gx_dr c t = some s)
def gx_okp (c : Nat → Int32) (t : Nat) : Prop := ∃ s, 3 ≤ s ∧ s ≤ 6 ∧ gx_dr c t = some s
theorem gx_er_none {c : Nat → Int32} {t e : Nat} (h : gx_er c t e) : e ≤ t ∧ (e < t → gx_dr c t = none ∧ ∀ p, e < p → gx_dr c p = none) := by
  rcases h with ⟨h1, s, h2, h3⟩ | ⟨h1, _⟩
  · refine ⟨by omega, fun _ => ?_⟩
    have h4 : gx_dr c (e + 1) = none := by rw [gx_dr_s h2, h3]
    have h5 : ∀ p, e < p → gx_dr c p = none := fun p hp => by
      have := gx_dr_none h4 (p - (e + 1))
      rwa [show e + 1 + (p - (e + 1)) = p by omega] at this
    exact ⟨h5 t h1, h5⟩
  · exact ⟨by omega, fun x => absurd x (by omega)⟩
theorem gx_er_u {c : Nat → Int32} {t e e' : Nat} (h : gx_er c t e) (h' : gx_er c t e') : e = e' := by
  have key : ∀ {e e' : Nat}, gx_er c t e → gx_er c t e' → ¬ e < e' := by
    intro e e' h h' hlt
    have a1 := gx_er_none h
    have a2 := gx_er_none h'
    have a3 := (a1.2 (by omega)).2 e' hlt
    rcases h' with ⟨_, s, h2, _⟩ | ⟨h1, s, _, h2⟩
    · rw [h2] at a3; cases a3
    · rw [← h1] at h2; rw [h2] at a3; cases a3
  have := key h h'
  have := key h' h
  omega
theorem gx_er_ok {c : Nat → Int32} {t e : Nat} (h : gx_er c t e) (ho : gx_okp c t) : False := by
  obtain ⟨s, s1, s2, s3⟩ := ho
  have a1 := gx_er_none h
  rcases h with ⟨h1, _⟩ | ⟨h1, s', h2, h3⟩
  · rw [(a1.2 h1).1] at s3; cases s3
  · rw [h3] at s3; cases s3; omega
theorem gx_seC {M : fx_Mem} {c : Nat → Int32} {t : Nat} (ht : t ≤ 80) (h193 : M.1 193 = nI t) (hc : ∀ k, k < t → M.2.1 14 k = c k) {Q : Int32 → fx_Mem → Prop} (hE : ∀ e, gx_er c t e → Q (nI e) M) (hO : gx_okp c t → Q (-1) M) : wp_X4_syntaxError_3 M Q := by
  unfold wp_X4_syntaxError_3
  refine gx_cnt t (fun p s => ∃ q, s = (nI q, nI p, M) ∧ gx_dr c p = some q ∧ q ≤ 6) ?_ (0, 0, M) ⟨0, rfl, rfl, by omega⟩
  rintro p _ k hp ⟨q, rfl, hq, hq6⟩ hk
  show wb_X4_syntaxError_3_4 (fun x1 x2 M => k (x1, x2, M)) (wb_X4_syntaxError_3_36 Q) Q (nI q) (nI p) M
  unfold wb_X4_syntaxError_3_4 wb_X4_syntaxError_3_36
  rw [h193, nI_leI (by omega) (by omega), nI_clamp (by omega)]
  refine ⟨fun e => ?_, fun e => ⟨vp_in_nI (by omega) (by omega), ?_⟩⟩
  · have ep : p = t := by omega
    subst ep
    rw [show (3 : Int32) = nI 3 from rfl, nI_ltI (by omega) (by omega)]
    exact ⟨fun e2 => hE p (Or.inr ⟨rfl, q, e2, hq⟩), fun e2 => hO ⟨q, by omega, hq6, hq⟩⟩
  · rw [hc p (by omega)]
    refine gx_nxC hq6 _ M (fun s' hs' => ⟨fun x => absurd x (gx_nm1 (by have := gx_nxs_b hq6 hs'; omega)), fun _ => ?_⟩) (fun hs' => ⟨fun _ => hE p (Or.inl ⟨by omega, q, hq, hs'⟩), fun x => absurd rfl x⟩)
    rintro _ rfl
    rw [nI_1]
    exact hk _ (by omega) ⟨s', rfl, by rw [gx_dr_s hq, hs'], gx_nxs_b hq6 hs'⟩
/-! numbers and pieces -/
def gx_nf (c : Nat → Int32) (i : Nat) : Nat → Int32 × Bool
  | 0 => (0, false)
  | d + 1 => if c (i + d) = 45 then ((gx_nf c i d).1, true) else (10 * (gx_nf c i d).1 + (c (i + d) - 48), (gx_nf c i d).2)
def gx_val (c : Nat → Int32) (i j : Nat) : Int32 := if (gx_nf c i (j - i)).2 then -(gx_nf c i (j - i)).1 else (gx_nf c i (j - i)).1
def gx_en (c : Nat → Int32) (t a : Nat) : Nat := a + fa_first (fun d => decide (c (a + d) = 32)) (t - a)
def gx_pA (c : Nat → Int32) (t : Nat) : Nat → Nat
  | 0 => 0
  | k + 1 => gx_en c t (gx_pA c t k) + 1
theorem gx_en_eq {c : Nat → Int32} {t a b : Nat} (h1 : a ≤ b) (h2 : b ≤ t) (h3 : ∀ x, a ≤ x → x < b → ¬ c x = 32) (h4 : b = t ∨ c b = 32) : gx_en c t a = b := by
  unfold gx_en
  have l1 := fa_first_le (fun d => decide (c (a + d) = 32)) (t - a)
  have n1 : ¬ fa_first (fun d => decide (c (a + d) = 32)) (t - a) < b - a := by
    intro h
    have := of_decide_eq_true (fa_first_yes (fun d => decide (c (a + d) = 32)) (t - a) (by omega))
    exact h3 _ (by omega) (by omega) this
  have n2 : ¬ b - a < fa_first (fun d => decide (c (a + d) = 32)) (t - a) := by
    intro h
    have := of_decide_eq_false (fa_first_no (fun d => decide (c (a + d) = 32)) (t - a) (b - a) h)
    rw [show a + (b - a) = b by omega] at this
    rcases h4 with e | e
    · omega
    · exact this e
  omega
theorem gx_pA_lt (c : Nat → Int32) (t k : Nat) : gx_pA c t k < gx_pA c t (k + 1) := by
  show gx_pA c t k < gx_en c t (gx_pA c t k) + 1
  unfold gx_en; omega
theorem gx_pA_mono (c : Nat → Int32) (t : Nat) {i j : Nat} (h : i < j) : gx_pA c t i < gx_pA c t j := by
  induction j with
  | zero => omega
  | succ j ih =>
    have h1 := gx_pA_lt c t j
    rcases Nat.lt_or_ge i j with e | e
    · have := ih e; omega
    · rw [show i = j by omega]; exact h1
def gx_pP (c : Nat → Int32) (t k : Nat) : Nat := gx_pf (c (gx_pA c t k))
def gx_pV (c : Nat → Int32) (t k : Nat) : Int32 := gx_val c (gx_pA c t k + 1) (gx_en c t (gx_pA c t k))
def gx_gd (c : Nat → Int32) (t k : Nat) : Bool := gx_in (gx_pV c t k) (fx_tLO (gx_pP c t k)) (fx_tHI (gx_pP c t k))
def gx_rw (c : Nat → Int32) (t : Nat) : Nat → (Nat → Int32)
  | 0 => fx_tFI
  | k + 1 => upd (gx_rw c t k) (gx_pP c t k) (gx_pV c t k)
theorem gx_nuC {M : fx_Mem} {c : Nat → Int32} {t i j : Nat} (ht : t ≤ 80) (hij : i ≤ j) (hj : j ≤ t) (hc : ∀ k, k < t → M.2.1 14 k = c k) {Q : Int32 → fx_Mem → Prop} (h : Q (gx_val c i j) M) : wp_X4_number_3 (nI i) (nI j) M Q := by
  unfold wp_X4_number_3
  refine gx_cnt (j - i) (fun d s => s = (nI j, (gx_nf c i d).1, gx_b (gx_nf c i d).2, nI (i + d), M)) ?_ (nI j, 0, 0, nI i, M) rfl
  rintro d _ k hd rfl hk
  show wb_X4_number_3_8 (fun x2 x3 x4 x5 M => k (x2, x3, x4, x5, M)) (wb_X4_number_3_54 Q) Q (nI j) (gx_nf c i d).1 (gx_b (gx_nf c i d).2) (nI (i + d)) M
  unfold wb_X4_number_3_8 wb_X4_number_3_54 wb_X4_number_3_48
  rw [nI_leI (by omega) (by omega), nI_clamp (by omega), gx_b0]
  refine ⟨fun e => ?_, fun e => ⟨vp_in_nI (by omega) (by omega), ?_⟩⟩
  · have ed : d = j - i := by omega
    subst ed
    unfold gx_val at h
    refine ⟨fun e2 => by rw [e2] at h; exact h, fun e2 => by rw [gx_bt e2] at h; exact h⟩
  · rw [hc (i + d) (by omega)]
    refine ⟨fun e2 => ?_, fun e2 => ⟨vp_in_nI (by omega) (by omega), ?_⟩⟩
    · rintro _ rfl
      rw [nI_1]
      refine hk _ (by omega) ?_
      rw [show gx_nf c i (d + 1) = ((gx_nf c i d).1, true) from if_pos e2]; rfl
    · rintro _ rfl _ rfl
      rw [nI_1]
      refine hk _ (by omega) ?_
      rw [show gx_nf c i (d + 1) = (10 * (gx_nf c i d).1 + (c (i + d) - 48), (gx_nf c i d).2) from if_neg e2]; rfl
/-- in a text without a syntax error: a piece begins behind each space, with a letter of a property -/
theorem gx_ok_some {c : Nat → Int32} {t p : Nat} (ho : gx_okp c t) (hp : p ≤ t) : ∃ s, gx_dr c p = some s := by
  cases h : gx_dr c p with
  | some s => exact ⟨s, rfl⟩
  | none =>
    obtain ⟨s, _, _, h3⟩ := ho
    have := gx_dr_none h (t - p)
    rw [show p + (t - p) = t by omega, h3] at this; cases this
theorem gx_ok_0 {c : Nat → Int32} {t p : Nat} (ho : gx_okp c t) (hp : p ≤ t) (h : p = 0 ∨ (0 < p ∧ c (p - 1) = 32)) : gx_dr c p = some 0 ∧ p < t := by
  have key : gx_dr c p = some 0 := by
    rcases h with e | ⟨e1, e2⟩
    · rw [e]; rfl
    · obtain ⟨s, hs⟩ := gx_ok_some ho (show p - 1 ≤ t by omega)
      have h1 := gx_dr_s hs
      rw [show p - 1 + 1 = p by omega, e2] at h1
      obtain ⟨s', hs'⟩ := gx_ok_some ho hp
      rw [hs'] at h1
      have h2 : s' = 0 := by
        have hx : gx_nxs s 32 = some s' := h1.symm
        unfold gx_nxs gx_nx50 gx_nx63 at hx
        have a1 : gx_pf 32 = 10 := by decide
        have a2 : ((32 : Int32) < 48) = True := by decide
        have a3 : ((32 : Int32) = 45) = False := by decide
        simp only [a1, a2, a3, if_true, if_false, Nat.le_refl] at hx
        split at hx
        · cases hx
        · split at hx
          · cases hx
          · cases hx; rfl
      rw [hs', h2]
  refine ⟨key, ?_⟩
  rcases Nat.lt_or_ge p t with e | e
  · exact e
  · obtain ⟨s, h3, _, h5⟩ := ho
    rw [show t = p by omega, key] at h5; cases h5; omega
theorem gx_ok_pf {c : Nat → Int32} {t p : Nat} (ho : gx_okp c t) (hp : p < t) (h0 : gx_dr c p = some 0) : gx_pf (c p) < 10 := by
  obtain ⟨s, hs⟩ := gx_ok_some ho (show p + 1 ≤ t by omega)
  rw [gx_dr_s h0] at hs
  unfold gx_nxs at hs
  rw [if_pos rfl] at hs
  split at hs
  · cases hs
  · omega
theorem gx_32 {ch : Int32} (h : gx_pf ch < 10) : ¬ ch = 32 := fun e => by rw [e] at h; exact absurd h (by decide)
theorem gx_riC {M : fx_Mem} {c : Nat → Int32} {t r : Nat} (ht : t ≤ 80) (hr : r < 20) (ho : gx_okp c t) (h193 : M.1 193 = nI t) (hc : ∀ k, k < t → M.2.1 14 k = c k) (hrow : ∀ p, p < 10 → M.2.1 (57 + r) p = fx_tFI p) {Q : Int32 → fx_Mem → Prop}
    (hB : ∀ k M', gx_fr [] [57 + r] [] M M' → gx_pA c t k < t → (∀ i, i < k → gx_gd c t i = true) → gx_gd c t k = false → Q (nI (gx_pA c t k)) M')
    (hG : ∀ K M', gx_fr [] [57 + r] [] M M' → gx_pA c t K = t + 1 → (∀ i, i < K → gx_gd c t i = true) → (∀ i, i < K → gx_pP c t i < 10) → (∀ p, p < 10 → M'.2.1 (57 + r) p = gx_rw c t K p) → Q (-1) M') : wp_X4_readInto_3_p57 r M Q := by
  have h0t : 0 < t := (gx_ok_0 ho (Nat.zero_le _) (Or.inl rfl)).2
  have hd00 : gx_dr c 0 = some 0 := rfl
  unfold wp_X4_readInto_3_p57
  refine gx_cnt t (fun d s => ∃ K M1, s = (r, nI (gx_pA c t K), nI (d + 1), M1) ∧ gx_fr [] [57 + r] [] M M1 ∧ gx_pA c t K ≤ d + 1 ∧ (gx_pA c t K ≤ t → gx_dr c (gx_pA c t K) = some 0) ∧ (∀ x, gx_pA c t K ≤ x → x < d + 1 → ¬ c x = 32) ∧ (d = t → gx_pA c t K = t + 1) ∧ (∀ i, i < K → gx_gd c t i = true ∧ gx_pP c t i < 10) ∧ (∀ p, p < 10 → M1.2.1 (57 + r) p = gx_rw c t K p)) ?_ (r, 0, 1, M) ⟨0, M, rfl, gx_fr_rfl _ _ _ _, by show 0 ≤ _; omega, fun _ => rfl, fun x h1 h2 => ?_, fun e => absurd e (by omega), fun i hi => absurd hi (by omega), hrow⟩
  rotate_left
  · rw [show x = 0 by omega]; exact gx_32 (gx_ok_pf ho h0t hd00)
  rintro d _ kk hd ⟨K, M1, rfl, hfr, q1, q2, q3, q4, q5, q6⟩ hkk
  have hc1 : ∀ k, k < t → M1.2.1 14 k = c k := fun k hk => by rw [hfr.2.1 14 (by simp; omega)]; exact hc k hk
  have h193' : M1.1 193 = nI t := by rw [hfr.1 193 (by simp)]; exact h193
  show wb_X4_readInto_3_p57_4 (fun j1 x2 x3 M => kk (j1, x2, x3, M)) Q r (nI (gx_pA c t K)) (nI (d + 1)) M1
  unfold wb_X4_readInto_3_p57_4
  rw [h193', nI_ltI (by omega) (by omega), nI_eq (by omega) (by omega), nI_clamp (n := d + 1) (by omega)]
  refine ⟨fun e => ?_, fun e => ?_⟩
  · have ed : d = t := by omega
    exact hG K M1 hfr (q4 ed) (fun i hi => (q5 i hi).1) (fun i hi => (q5 i hi).2) q6
  · -- a piece ends here
    have stop : d + 1 = t ∨ (d + 1 < t ∧ c (d + 1) = 32) → wb_X4_readInto_3_p57_31 (fun j1 x2 x3 M => kk (j1, x2, x3, M)) Q r (nI (gx_pA c t K)) (nI (d + 1)) M1 := by
      intro hst
      have hAle : gx_pA c t K ≤ t := by omega
      have hA0 := q2 hAle
      have hAt : gx_pA c t K < t := by
        rcases Nat.lt_or_ge (gx_pA c t K) t with e9 | e9
        · exact e9
        · obtain ⟨s, h3, _, h5⟩ := ho
          rw [show t = gx_pA c t K by omega, hA0] at h5; cases h5; omega
      have hpf := gx_ok_pf ho hAt hA0
      have hAd : gx_pA c t K < d + 1 := by
        rcases Nat.lt_or_ge (gx_pA c t K) (d + 1) with e9 | e9
        · exact e9
        · rcases hst with e8 | ⟨_, e8⟩
          · omega
          · rw [show d + 1 = gx_pA c t K by omega] at e8; exact absurd e8 (gx_32 hpf)
      have hen : gx_en c t (gx_pA c t K) = d + 1 := gx_en_eq (by omega) (by omega) q3 (by rcases hst with e8 | e8; exact Or.inl e8; exact Or.inr e8.2)
      have hAK : gx_pA c t (K + 1) = d + 2 := by show gx_en c t (gx_pA c t K) + 1 = _; rw [hen]
      unfold wb_X4_readInto_3_p57_31
      rw [nI_clamp (n := gx_pA c t K) (by omega), hc1 _ hAt, nI_1]
      refine ⟨vp_in_nI (by omega) (by omega), gx_pfC _ M1 (gx_nuC ht (by omega) (by omega) hc1 ?_)⟩
      have ev : gx_val c (gx_pA c t K + 1) (d + 1) = gx_pV c t K := by unfold gx_pV; rw [hen]
      have ep : gx_pf (c (gx_pA c t K)) = gx_pP c t K := rfl
      rw [ev, ep]
      rw [ep] at hpf
      rw [gx_chC hpf, gx_b0]
      refine ⟨fun hb => hB K M1 hfr hAt (fun i hi => (q5 i hi).1) hb, fun hb => ⟨vp_in_nI (by omega) (by omega), ?_⟩⟩
      rw [nI_clamp (n := gx_pP c t K) (by omega), nI_1]
      rintro _ rfl _ rfl
      unfold wb_X4_readInto_3_p57_74
      rw [nI_1]
      rintro _ rfl
      refine hkk _ (by omega) ⟨K + 1, _, by rw [hAK], gx_fr_sa _ _ hfr (by simp), by omega, fun h9 => ?_, fun x h1 h2 => ?_, fun e9 => by omega, fun i hi => ?_, fun p hp => ?_⟩
      · rw [hAK] at h9 ⊢
        rcases hst with e8 | ⟨e7, e8⟩
        · omega
        · exact (gx_ok_0 ho (by omega) (Or.inr ⟨by omega, by rw [show d + 2 - 1 = d + 1 by omega]; exact e8⟩)).1
      · rw [hAK] at h1
        have hx : x = d + 2 - 0 ∨ x < d + 2 := by omega
        rcases hst with e8 | ⟨e7, e8⟩
        · omega
        · have h7 := gx_ok_0 ho (show d + 2 ≤ t by omega) (Or.inr ⟨by omega, by rw [show d + 2 - 1 = d + 1 by omega]; exact e8⟩)
          omega
      · by_cases e9 : i = K
        · rw [e9]; exact ⟨gx_bt hb, hpf⟩
        · exact q5 i (by omega)
      · rw [gx_ra]
        show upd _ _ _ p = upd (gx_rw c t K) (gx_pP c t K) (gx_pV c t K) p
        by_cases e9 : p = gx_pP c t K
        · rw [e9, pk_us, pk_us]
        · rw [pk_un e9, pk_un e9]; exact q6 p hp
    refine ⟨fun e2 => stop (Or.inl e2), fun e2 => ⟨vp_in_nI (by omega) (by omega), fun e3 => stop (Or.inr ⟨by omega, ?_⟩), fun e3 => ?_⟩⟩
    · rw [hc1 _ (by omega)] at e3; exact e3
    · rw [hc1 _ (by omega)] at e3
      unfold wb_X4_readInto_3_p57_74
      rintro _ rfl
      rw [nI_1]
      refine hkk _ (by omega) ⟨K, M1, rfl, hfr, by omega, q2, fun x h1 h2 => ?_, fun e9 => by omega, q5, q6⟩
      by_cases e9 : x = d + 1
      · rw [e9]; exact e3
      · exact q3 x h1 (by omega)
