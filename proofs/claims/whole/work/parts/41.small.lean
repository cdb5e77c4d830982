/-! small reads, as equations of predicates -/
theorem gx_ite {c A B : Prop} [Decidable c] : ((c → A) ∧ (¬ c → B)) ↔ (if c then A else B) := by
  by_cases h : c <;> simp [h]
theorem gx_iteQ {α : Type} {c : Prop} [Decidable c] {x y : α} (Q : α → fx_Mem → Prop) (M : fx_Mem) : (if c then Q x M else Q y M) ↔ Q (if c then x else y) M := by
  by_cases h : c <;> simp [h]
def gx_low (r : Nat → Int32) (v : Int32) : Int32 := if r 4 = -1 then v else if v ≤ r 4 then v else r 4
def gx_clamp (r : Nat → Int32) (v : Int32) : Int32 := if r 3 ≤ gx_low r v then gx_low r v else r 3
def gx_hyp (r : Nat → Int32) : Int32 := gx_clamp r (r 0)
theorem gx_lo4 {D : gx_D} (hd : gx_ok D) {i : Nat} (hi : i < D.2.2) : (D.1 i 4 < 0) ↔ D.1 i 4 = -1 := by
  have h := hd.2.2.2.2.2.2 i hi 4 (by decide)
  have e : (fx_tLO 4).toInt = -1 := by decide
  rw [e] at h
  rw [fa_lt, fa_eq, show ((0 : Int32)).toInt = 0 from rfl, show ((-1 : Int32)).toInt = -1 from by decide]
  omega
theorem gx_lo7 {D : gx_D} (hd : gx_ok D) {i : Nat} (hi : i < D.2.2) : (0 ≤ D.1 i 7) ↔ ¬ D.1 i 7 = -1 := by
  have h := hd.2.2.2.2.2.2 i hi 7 (by decide)
  have e : (fx_tLO 7).toInt = -1 := by decide
  rw [e] at h
  rw [fa_le, fa_eq, show ((0 : Int32)).toInt = 0 from rfl, show ((-1 : Int32)).toInt = -1 from by decide]
  omega
theorem gx_clC {D : gx_D} {M : fx_Mem} (hv : gx_CV D M) (hd : gx_ok D) {i : Nat} (hi : i < D.2.2) (v : Int32) (Q : Int32 → fx_Mem → Prop) : wp_X1_clamp_1 (nI i) v M Q ↔ Q (gx_clamp (D.1 i) v) M := by
  have hn := hd.1
  have r3 := hv.2.2.2.2.2.2 i hi 3 (by decide)
  have r4 := hv.2.2.2.2.2.2 i hi 4 (by decide)
  simp (disch := omega) only [wp_X1_clamp_1, wb_X1_clamp_1_33, wb_X1_clamp_1_34, nI_clamp, vp_in_nI, true_and, forall_eq, r3, r4, gx_ite]
  unfold gx_clamp gx_low
  repeat' split
  all_goals first | exact Iff.rfl | (exfalso; contradiction)
theorem gx_hyC {D : gx_D} {M : fx_Mem} (hv : gx_CV D M) (hd : gx_ok D) {i : Nat} (hi : i < D.2.2) (Q : Int32 → fx_Mem → Prop) : wp_X1_hypothetical_1 (nI i) M Q ↔ Q (gx_hyp (D.1 i)) M := by
  have hn := hd.1
  have r0 := hv.2.2.2.2.2.2 i hi 0 (by decide)
  simp (disch := omega) only [wp_X1_hypothetical_1, nI_clamp, vp_in_nI, true_and, r0, gx_clC hv hd hi]
  exact Iff.rfl
theorem gx_ofN {D : gx_D} {M : fx_Mem} (hv : gx_MV D M) (hd : gx_ok D) {i : Nat} (hi : i < D.2.2) {p : Nat} (hp : p < 10) (Q : Int32 → fx_Mem → Prop) : wp_X7_of_8 (nI i) (nI p) M Q ↔ Q (D.1 i p) M := by
  have hn := hd.1
  have e : (10 * nI i) + nI p = nI (10 * i + p) := gx_ten i p
  have r := hv.2.2 i hi p hp
  unfold wp_X7_of_8
  rw [e]
  simp (disch := omega) only [nI_clamp, vp_in_nI, true_and, r]
theorem gx_of {D : gx_D} {M : fx_Mem} (hv : gx_MV D M) (hd : gx_ok D) {i : Nat} (hi : i < D.2.2) :
    (∀ Q, wp_X7_of_8 (nI i) 0 M Q ↔ Q (D.1 i 0) M) ∧ (∀ Q, wp_X7_of_8 (nI i) 1 M Q ↔ Q (D.1 i 1) M) ∧ (∀ Q, wp_X7_of_8 (nI i) 2 M Q ↔ Q (D.1 i 2) M) ∧ (∀ Q, wp_X7_of_8 (nI i) 3 M Q ↔ Q (D.1 i 3) M) ∧ (∀ Q, wp_X7_of_8 (nI i) 4 M Q ↔ Q (D.1 i 4) M) ∧ (∀ Q, wp_X7_of_8 (nI i) 5 M Q ↔ Q (D.1 i 5) M) ∧ (∀ Q, wp_X7_of_8 (nI i) 6 M Q ↔ Q (D.1 i 6) M) ∧ (∀ Q, wp_X7_of_8 (nI i) 7 M Q ↔ Q (D.1 i 7) M) ∧ (∀ Q, wp_X7_of_8 (nI i) 8 M Q ↔ Q (D.1 i 8) M) ∧ (∀ Q, wp_X7_of_8 (nI i) 9 M Q ↔ Q (D.1 i 9) M) :=
  ⟨gx_ofN hv hd hi (p := 0) (by decide), gx_ofN hv hd hi (p := 1) (by decide), gx_ofN hv hd hi (p := 2) (by decide), gx_ofN hv hd hi (p := 3) (by decide), gx_ofN hv hd hi (p := 4) (by decide), gx_ofN hv hd hi (p := 5) (by decide), gx_ofN hv hd hi (p := 6) (by decide), gx_ofN hv hd hi (p := 7) (by decide), gx_ofN hv hd hi (p := 8) (by decide), gx_ofN hv hd hi (p := 9) (by decide)⟩
theorem gx_clM {D : gx_D} {M : fx_Mem} (hv : gx_MV D M) (hd : gx_ok D) {i : Nat} (hi : i < D.2.2) (v : Int32) (Q : Int32 → fx_Mem → Prop) : wp_X7_clamped_8 (nI i) v M Q ↔ Q (gx_clamp (D.1 i) v) M := by
  have o3 := (gx_of hv hd hi).2.2.2.1
  have o4 := (gx_of hv hd hi).2.2.2.2.1
  simp (disch := omega) only [wp_X7_clamped_8, wb_X7_clamped_8_28, wb_X7_clamped_8_29, o3, o4, gx_ite, gx_lo4 hd hi]
  unfold gx_clamp gx_low
  repeat' split
  all_goals first | exact Iff.rfl | (exfalso; contradiction)
theorem gx_hyM {D : gx_D} {M : fx_Mem} (hv : gx_MV D M) (hd : gx_ok D) {i : Nat} (hi : i < D.2.2) (Q : Int32 → fx_Mem → Prop) : wp_X7_hypothetical_8 (nI i) M Q ↔ Q (gx_hyp (D.1 i)) M := by
  have o0 := (gx_of hv hd hi).1
  simp only [wp_X7_hypothetical_8, o0, gx_clM hv hd hi]
  exact Iff.rfl
def gx_al (D : gx_D) (i : Nat) : Int32 := if D.1 i 7 = -1 then D.2.1 7 else D.1 i 7
theorem gx_alC {D : gx_D} {M : fx_Mem} (hv : gx_CV D M) (hd : gx_ok D) {i : Nat} (hi : i < D.2.2) (Q : Int32 → fx_Mem → Prop) : wp_X1_alignment_1 (nI i) M Q ↔ Q (gx_al D i) M := by
  have hn := hd.1
  have r7 := hv.2.2.2.2.2.2 i hi 7 (by decide)
  have s3 := hv.2.2.2.2.1 3 (by decide)
  simp (disch := omega) only [wp_X1_alignment_1, nI_clamp, vp_in_nI, true_and, forall_eq, r7, s3, gx_ite]
  unfold gx_al
  split <;> exact Iff.rfl
theorem gx_alM {D : gx_D} {M : fx_Mem} (hv : gx_MV D M) (hd : gx_ok D) {i : Nat} (hi : i < D.2.2) (Q : Int32 → fx_Mem → Prop) : wp_X7_alignmentOf_8 (nI i) M Q ↔ Q (gx_al D i) M := by
  have o7 := (gx_of hv hd hi).2.2.2.2.2.2.2.1
  have s7 := hv.1 7 (by decide)
  simp only [wp_X7_alignmentOf_8, o7, s7, gx_ite, gx_lo7 hd hi]
  unfold gx_al
  repeat' split
  all_goals first | exact Iff.rfl | (exfalso; contradiction)
/-! settings -/
def gx_rev (D : gx_D) : Bool := decide (D.2.1 4 = 1 ∨ D.2.1 4 = 3)
theorem gx_reC {D : gx_D} {M : fx_Mem} (hv : gx_CV D M) (Q : Int32 → fx_Mem → Prop) : wp_X1_isReversed_1 M Q ↔ Q (gx_b (gx_rev D)) M := by
  have s0 := hv.2.2.2.2.1 0 (by decide)
  simp only [wp_X1_isReversed_1, wb_X1_isReversed_1_20, s0, gx_ite, Nat.add_zero]
  unfold gx_rev gx_b
  by_cases h1 : D.2.1 4 = 1
  · simp [h1]
  · by_cases h3 : D.2.1 4 = 3
    · simp [h3]
    · simp [h1, h3]
theorem gx_hoC {D : gx_D} {M : fx_Mem} (hv : gx_CV D M) (Q : Int32 → fx_Mem → Prop) : wp_X1_hasHorizontalMainAxis_1 M Q ↔ Q (gx_b (decide (¬ 2 ≤ D.2.1 4))) M := by
  have s0 := hv.2.2.2.2.1 0 (by decide)
  simp only [wp_X1_hasHorizontalMainAxis_1, s0, gx_ite, Nat.add_zero]
  unfold gx_b
  by_cases h1 : 2 ≤ D.2.1 4 <;> simp [h1]
theorem gx_wrC {D : gx_D} {M : fx_Mem} (hv : gx_CV D M) (Q : Int32 → fx_Mem → Prop) : wp_X1_wraps_1 M Q ↔ Q (gx_b (decide (¬ D.2.1 5 = 0))) M := by
  have s0 := hv.2.2.2.2.1 1 (by decide)
  simp only [wp_X1_wraps_1, s0, gx_ite]
  unfold gx_b
  by_cases h1 : D.2.1 5 = 0 <;> simp [h1]
/-! offsets -/
def gx_floor (x : Int32) : Int32 := if x < 0 then -(((2 - 1) - x) / 2) else x / 2
def gx_way (w sp : Int32) : Int32 := if 0 ≤ sp then w else if 3 ≤ w then (if w = 3 then 0 else 2) else w
def gx_of0 (s sp i n : Int32) : Int32 := if s = 1 then sp else if s = 2 then gx_floor sp else if s = 3 then (if n = 1 then 0 else (sp * i) / (n - 1)) else if s = 4 then (sp * ((2 * i) + 1)) / (2 * n) else if s = 5 then (sp * (i + 1)) / (n + 1) else 0
def gx_off (w sp i n : Int32) : Int32 := gx_of0 (gx_way w sp) sp i n
theorem gx_lit : ((2 : Int32) = 1) = False ∧ ((3 : Int32) = 1) = False ∧ ((3 : Int32) = 2) = False ∧ ((4 : Int32) = 1) = False ∧ ((4 : Int32) = 2) = False ∧ ((4 : Int32) = 3) = False ∧ ((5 : Int32) = 1) = False ∧ ((5 : Int32) = 2) = False ∧ ((5 : Int32) = 3) = False ∧ ((5 : Int32) = 4) = False ∧ ((0 : Int32) = 1) = False ∧ ((0 : Int32) = 2) = False ∧ ((0 : Int32) = 3) = False ∧ ((0 : Int32) = 4) = False ∧ ((0 : Int32) = 5) = False := by decide
theorem gx_den {m : Nat} (h1 : 1 ≤ m) (h2 : m ≤ 20) : (nI m = 1 ↔ m = 1) ∧ (nI m ≤ 1 ↔ m = 1) ∧ ¬ nI m ≤ 0 ∧ ¬ 2 * nI m = 0 ∧ ¬ nI m + 1 = 0 ∧ (¬ m = 1 → ¬ nI m - 1 = 0) := by
  refine ⟨?_, ?_, ?_, ?_, ?_, ?_⟩
  · rw [show (1 : Int32) = nI 1 from rfl, nI_eq (by omega) (by omega)]
  · rw [show (1 : Int32) = nI 1 from rfl, nI_leI (by omega) (by omega)]; omega
  · rw [gx_n3 (by omega)]; omega
  · rw [show (2 : Int32) = nI 2 from rfl, pk_mul, gx_n4 (by omega)]; omega
  · rw [nI_1, gx_n4 (by omega)]; omega
  · intro h; rw [gx_n5 h1, gx_n4 (by omega)]; omega
theorem gx_ofM0 {m : Nat} (h1 : 1 ≤ m) (h2 : m ≤ 20) (s sp i : Int32) {M : fx_Mem} {Q : Int32 → fx_Mem → Prop} (h : Q (gx_of0 s sp i (nI m)) M) : wb_X7_offset_23 Q sp i (nI m) s M := by
  obtain ⟨d1, d2, d3, d4, d5, d6⟩ := gx_den h1 h2
  unfold wb_X7_offset_23
  unfold gx_of0 at h
  refine ⟨fun e => ?_, fun e => ?_, fun e => ⟨fun e1 => ?_, fun e1 => ⟨d6 (fun x => e1 (d1.mpr x)), ?_⟩⟩, fun e => ⟨d4, ?_⟩, fun e => ⟨d5, ?_⟩, fun e1 e2 e3 e4 e5 => ?_⟩
  · simpa only [e, if_true] using h
  · subst e
    simp only [gx_lit, if_false, if_true] at h
    unfold wp_X7_floor gx_floor at *
    refine ⟨fun e => ⟨by decide, ?_⟩, fun e => ⟨by decide, ?_⟩⟩
    · simpa only [e, if_true] using h
    · simpa only [e, if_false] using h
  · subst e; simpa only [gx_lit, if_false, if_true, e1] using h
  · subst e; simpa only [gx_lit, if_false, if_true, e1] using h
  · subst e; simpa only [gx_lit, if_false, if_true] using h
  · subst e; simpa only [gx_lit, if_false, if_true] using h
  · simpa only [e1, e2, e3, e4, e5, if_false] using h
theorem gx_ofM {m : Nat} (h1 : 1 ≤ m) (h2 : m ≤ 20) (w sp i : Int32) {M : fx_Mem} {Q : Int32 → fx_Mem → Prop} (h : Q (gx_off w sp i (nI m)) M) : wp_X7_offset w sp i (nI m) M Q := by
  unfold gx_off gx_way at h
  unfold wp_X7_offset wb_X7_offset_9
  refine ⟨fun e => gx_ofM0 h1 h2 _ _ _ (by simpa only [e, if_true] using h), fun e => ⟨fun e1 => ⟨fun e2 => gx_ofM0 h1 h2 _ _ _ (by subst e2; simpa only [e, if_false, if_true, (by decide : ((3 : Int32) ≤ 3))] using h), fun e2 => gx_ofM0 h1 h2 _ _ _ (by simpa only [e, e1, e2, if_false, if_true] using h)⟩, fun e1 => gx_ofM0 h1 h2 _ _ _ (by simpa only [e, e1, if_false] using h)⟩⟩
theorem gx_bm {z : Int} (h1 : -2147483648 ≤ z) (h2 : z < 2147483648) : z.bmod (2 ^ 32) = z := Int.bmod_eq_of_le (by omega) (by omega)
theorem gx_bmL {z : Int} (h1 : -9223372036854775808 ≤ z) (h2 : z < 9223372036854775808) : z.bmod (2 ^ 64) = z := Int.bmod_eq_of_le (by omega) (by omega)
theorem gx_rg (x : Int32) : -2147483648 ≤ x.toInt ∧ x.toInt < 2147483648 := by
  have h1 := Int32.le_toInt x
  have h2 := Int32.toInt_lt x
  omega
theorem gx_ta {a b : Int32} (h1 : -2147483648 ≤ a.toInt + b.toInt) (h2 : a.toInt + b.toInt < 2147483648) : (a + b).toInt = a.toInt + b.toInt := by
  rw [Int32.toInt_add, gx_bm h1 h2]
theorem gx_ts {a b : Int32} (h1 : -2147483648 ≤ a.toInt - b.toInt) (h2 : a.toInt - b.toInt < 2147483648) : (a - b).toInt = a.toInt - b.toInt := by
  rw [Int32.toInt_sub, gx_bm h1 h2]
theorem gx_tm {a b : Int32} (h1 : -2147483648 ≤ a.toInt * b.toInt) (h2 : a.toInt * b.toInt < 2147483648) : (a * b).toInt = a.toInt * b.toInt := by
  rw [Int32.toInt_mul, gx_bm h1 h2]
theorem gx_tn {a : Int32} (h1 : -2147483648 < a.toInt) : (-a).toInt = -a.toInt := by
  rw [Int32.toInt_neg, gx_bm (by have := gx_rg a; omega) (by omega)]
theorem gx_td2 (a : Int32) : (a / 2).toInt = a.toInt.tdiv 2 := by
  have h := gx_rg a
  rw [Int32.toInt_div, show (2 : Int32).toInt = 2 from rfl]
  apply gx_bm
  · rcases Int.le_total 0 a.toInt with hp | hp
    · have := Int.tdiv_nonneg hp (by decide : (0 : Int) ≤ 2); omega
    · have e : a.toInt.tdiv 2 = -((-a.toInt).tdiv 2) := by rw [← Int.neg_tdiv, Int.neg_neg]
      rw [e, Int.tdiv_eq_ediv_of_nonneg (by omega)]; omega
  · rcases Int.le_total 0 a.toInt with hp | hp
    · rw [Int.tdiv_eq_ediv_of_nonneg hp]; omega
    · have e : a.toInt.tdiv 2 = -((-a.toInt).tdiv 2) := by rw [← Int.neg_tdiv, Int.neg_neg]
      rw [e, Int.tdiv_eq_ediv_of_nonneg (by omega)]; omega
theorem gx_xor2 (x : Int32) : ((x ^^^ 2) < 0) ↔ x < 0 := by
  have m : ∀ y : BitVec 32, y.toInt < 0 ↔ y.msb = true := fun y => by rw [BitVec.msb_eq_toInt]; simp
  rw [fa_lt, fa_lt]
  change (x.toBitVec ^^^ (2 : Int32).toBitVec).toInt < (0 : Int32).toInt ↔ x.toBitVec.toInt < (0 : Int32).toInt
  rw [show (0 : Int32).toInt = 0 from rfl, m, m, BitVec.msb_xor, show (2 : Int32).toBitVec.msb = false from by decide]
  simp
theorem gx_fd {x : Int32} (h : -100000000 ≤ x.toInt) : fx_fd x 2 = gx_floor x := by
  unfold fx_fd gx_floor
  by_cases hx : x < 0
  · rw [if_pos ((gx_xor2 x).mpr hx), if_pos hx]
    rw [fa_lt, show (0 : Int32).toInt = 0 from rfl] at hx
    have ed : (x / 2).toInt = -((-x.toInt) / 2) := by
      rw [gx_td2, show x.toInt.tdiv 2 = -((-x.toInt).tdiv 2) from by rw [← Int.neg_tdiv, Int.neg_neg], Int.tdiv_eq_ediv_of_nonneg (by omega)]
    have e1 : ((2 - 1 : Int32) - x).toInt = 1 - x.toInt := by
      rw [gx_ts (by rw [show (2 - 1 : Int32).toInt = 1 from by decide]; omega) (by rw [show (2 - 1 : Int32).toInt = 1 from by decide]; omega), show (2 - 1 : Int32).toInt = 1 from by decide]
    have e2 : (((2 - 1 : Int32) - x) / 2).toInt = (1 - x.toInt) / 2 := by
      rw [gx_td2, e1, Int.tdiv_eq_ediv_of_nonneg (by omega)]
    have e3 : (-(((2 - 1 : Int32) - x) / 2)).toInt = -((1 - x.toInt) / 2) := by
      rw [gx_tn (by rw [e2]; omega), e2]
    have e4 : ((x / 2) * 2).toInt = -((-x.toInt) / 2) * 2 := by
      rw [gx_tm (by rw [ed, show (2 : Int32).toInt = 2 from rfl]; omega) (by rw [ed, show (2 : Int32).toInt = 2 from rfl]; omega), ed, show (2 : Int32).toInt = 2 from rfl]
    by_cases he : ((x / 2) * 2) = x
    · rw [if_pos he, fa_eq, e3, ed]
      rw [fa_eq, e4] at he
      omega
    · rw [if_neg he, fa_eq, e3, gx_ts (by rw [ed, show (1 : Int32).toInt = 1 from rfl]; omega) (by rw [ed, show (1 : Int32).toInt = 1 from rfl]; omega), ed, show (1 : Int32).toInt = 1 from rfl]
      rw [fa_eq, e4] at he
      omega
  · rw [if_neg (fun y => hx ((gx_xor2 x).mp y)), if_neg hx]
theorem gx_ofC0 {m : Nat} (h1 : 1 ≤ m) (h2 : m ≤ 20) (s sp i : Int32) (hb : -100000000 ≤ sp.toInt) {M : fx_Mem} {Q : Int32 → fx_Mem → Prop} (h : Q (gx_of0 s sp i (nI m)) M) : wb_X6_offset_27 Q sp i (nI m) s M := by
  obtain ⟨d1, d2, d3, d4, d5, d6⟩ := gx_den h1 h2
  unfold wb_X6_offset_27
  unfold gx_of0 at h
  refine ⟨fun e => ?_, fun e => ?_, fun e => ⟨fun e1 => ?_, fun e1 => ⟨d6 (fun x => e1 (d2.mpr x)), ?_⟩⟩, fun e => ⟨fun x => absurd x d3, fun _ => ⟨d4, ?_⟩⟩, fun e => ⟨fun x => absurd x d3, fun _ => ⟨d5, ?_⟩⟩, fun e1 e2 e3 e4 e5 => ?_⟩
  · simpa only [e, if_true] using h
  · subst e
    rw [gx_fd hb]
    simpa only [gx_lit, if_false, if_true] using h
  · subst e; simpa only [gx_lit, if_false, if_true, d1.mpr (d2.mp e1)] using h
  · subst e
    have e2 : ¬ nI m = 1 := fun x => e1 (d2.mpr (d1.mp x))
    simpa only [gx_lit, if_false, if_true, e2] using h
  · subst e; simpa only [gx_lit, if_false, if_true] using h
  · subst e; simpa only [gx_lit, if_false, if_true] using h
  · simpa only [e1, e2, e3, e4, e5, if_false] using h
theorem gx_w3 {w : Int32} : (¬ w ≤ 3) ↔ (3 ≤ w ∧ ¬ w = 3) := by
  rw [fa_le, fa_le, fa_eq]; omega
theorem gx_ofC {m : Nat} (h1 : 1 ≤ m) (h2 : m ≤ 20) (w sp i : Int32) (hb : -100000000 ≤ sp.toInt) {M : fx_Mem} {Q : Int32 → fx_Mem → Prop} (h : Q (gx_off w sp i (nI m)) M) : wp_X6_offset w sp i (nI m) M Q := by
  unfold gx_off gx_way at h
  unfold wp_X6_offset wb_X6_offset_15
  refine ⟨fun e => ⟨fun e1 => gx_ofC0 h1 h2 _ _ _ hb (by simpa only [e, if_true] using h), fun e1 => absurd e e1⟩, fun e => ⟨fun e1 => ⟨fun e2 => absurd e2 e, fun _ => ⟨fun e2 => gx_ofC0 h1 h2 _ _ _ hb ?_, fun e2 => absurd (e1 ▸ (by decide : (3 : Int32) ≤ 3)) e2⟩⟩, fun e1 => ⟨fun e2 => absurd e2 e, fun _ => ⟨fun e2 => gx_ofC0 h1 h2 _ _ _ hb ?_, fun e2 => gx_ofC0 h1 h2 _ _ _ hb ?_⟩⟩⟩⟩
  · subst e1; simpa only [e, if_false, if_true, (by decide : ((3 : Int32) ≤ 3))] using h
  · have e3 : ¬ 3 ≤ w := fun x => (gx_w3.mpr ⟨x, e1⟩) e2
    simpa only [e, e3, if_false] using h
  · have e3 := (gx_w3.mp e2).1
    simpa only [e, e1, e3, if_false, if_true] using h
