/-! the pure side: tools -/
theorem gx_cnt {α : Type} {step : (α → Prop) → α → Prop} (N : Nat) (St : Nat → α → Prop)
    (hs : ∀ (i : Nat) (a : α) (k : α → Prop), i ≤ N → St i a → (∀ b, i < N → St (i + 1) b → k b) → step k a)
    (a : α) (h : St 0 a) : ∃ n, fx_lp step n a := by
  have key : ∀ d i a, i + d = N → St i a → fx_lp step (d + 1) a := by
    intro d
    induction d with
    | zero => intro i a hi hS; exact hs i a _ (by omega) hS (fun b hlt => absurd hlt (by omega))
    | succ d ih => intro i a hi hS; exact hs i a _ (by omega) hS (fun b hlt hb => ih (i + 1) b (by omega) hb)
  exact ⟨N + 1, key N 0 a (by omega) h⟩
/-! reads of the memory behind a store -/
theorem gx_r1 (M : fx_Mem) (k : Nat) (v : Int32) : (fx_si M k v).1 k = v := va_up_self _ _ _
theorem gx_r2 (M : fx_Mem) {k j : Nat} (v : Int32) (h : j ≠ k) : (fx_si M k v).1 j = M.1 j := va_up_ne _ _ h
theorem gx_r3 (M : fx_Mem) (k : Nat) (v : Int32) : (fx_si M k v).2 = M.2 := rfl
theorem gx_r4 (M : fx_Mem) (k : Nat) (f : Nat → Int32) : (fx_sA M k f).1 = M.1 := rfl
theorem gx_r5 (M : fx_Mem) (k : Nat) (f : Nat → Int32) : (fx_sA M k f).2.2 = M.2.2 := rfl
theorem gx_r6 (M : fx_Mem) (k : Nat) (f : Nat → Int32) : (fx_sA M k f).2.1 k = f := va_up_self _ _ _
theorem gx_r7 (M : fx_Mem) {k j : Nat} (f : Nat → Int32) (h : j ≠ k) : (fx_sA M k f).2.1 j = M.2.1 j := va_up_ne _ _ h
theorem gx_r8 (M : fx_Mem) (k j : Nat) (v : Int32) : (fx_sa M k j v).1 = M.1 := rfl
theorem gx_r9 (M : fx_Mem) (k j : Nat) (v : Int32) : (fx_sa M k j v).2.2 = M.2.2 := rfl
theorem gx_ra (M : fx_Mem) (k j : Nat) (v : Int32) : (fx_sa M k j v).2.1 k = upd (M.2.1 k) j v := va_up_self _ _ _
theorem gx_rb (M : fx_Mem) {k c : Nat} (j : Nat) (v : Int32) (h : c ≠ k) : (fx_sa M k j v).2.1 c = M.2.1 c := va_up_ne _ _ h
theorem gx_rc (M : fx_Mem) (k j : Nat) (v : Int64) : (fx_sl M k j v).1 = M.1 := rfl
theorem gx_rd (M : fx_Mem) (k j : Nat) (v : Int64) : (fx_sl M k j v).2.1 = M.2.1 := rfl
theorem gx_re (M : fx_Mem) (k j : Nat) (v : Int64) : (fx_sl M k j v).2.2 k = vp_updL (M.2.2 k) j v := va_up_self _ _ _
theorem gx_rf (M : fx_Mem) {k c : Nat} (j : Nat) (v : Int64) (h : c ≠ k) : (fx_sl M k j v).2.2 c = M.2.2 c := va_up_ne _ _ h
/-! what a piece leaves as it was -/
def gx_fr (F A L : List Nat) (M M' : fx_Mem) : Prop :=
  (∀ k, k ∉ F → M'.1 k = M.1 k) ∧ (∀ k, k ∉ A → M'.2.1 k = M.2.1 k) ∧ (∀ k, k ∉ L → M'.2.2 k = M.2.2 k)
theorem gx_fr_rfl (F A L : List Nat) (M : fx_Mem) : gx_fr F A L M M := ⟨fun _ _ => rfl, fun _ _ => rfl, fun _ _ => rfl⟩
theorem gx_fr_tr {F A L : List Nat} {M M1 M2 : fx_Mem} (h : gx_fr F A L M M1) (h2 : gx_fr F A L M1 M2) : gx_fr F A L M M2 :=
  ⟨fun k hk => (h2.1 k hk).trans (h.1 k hk), fun k hk => (h2.2.1 k hk).trans (h.2.1 k hk), fun k hk => (h2.2.2 k hk).trans (h.2.2 k hk)⟩
theorem gx_fr_mo {F A L F' A' L' : List Nat} {M M' : fx_Mem} (h : gx_fr F A L M M') (hF : F.all (fun k => F'.contains k) = true) (hA : A.all (fun k => A'.contains k) = true) (hL : L.all (fun k => L'.contains k) = true) : gx_fr F' A' L' M M' := by
  have key : ∀ {X Y : List Nat}, X.all (fun k => Y.contains k) = true → ∀ k, k ∉ Y → k ∉ X := by
    intro X Y hXY k hk hx
    have := List.all_eq_true.mp hXY k hx
    exact hk (by simpa using this)
  exact ⟨fun k hk => h.1 k (key hF k hk), fun k hk => h.2.1 k (key hA k hk), fun k hk => h.2.2 k (key hL k hk)⟩
theorem gx_fr_si {F A L : List Nat} {M M1 : fx_Mem} {k : Nat} (v : Int32) (h : gx_fr F A L M M1) (hk : k ∈ F) : gx_fr F A L M (fx_si M1 k v) :=
  ⟨fun j hj => (gx_r2 M1 v (fun (e : j = k) => hj (by rw [e]; exact hk))).trans (h.1 j hj), h.2.1, h.2.2⟩
theorem gx_fr_sA {F A L : List Nat} {M M1 : fx_Mem} {k : Nat} (f : Nat → Int32) (h : gx_fr F A L M M1) (hk : k ∈ A) : gx_fr F A L M (fx_sA M1 k f) :=
  ⟨h.1, fun j hj => (gx_r7 M1 f (fun (e : j = k) => hj (by rw [e]; exact hk))).trans (h.2.1 j hj), h.2.2⟩
theorem gx_fr_sa {F A L : List Nat} {M M1 : fx_Mem} {k : Nat} (j : Nat) (v : Int32) (h : gx_fr F A L M M1) (hk : k ∈ A) : gx_fr F A L M (fx_sa M1 k j v) :=
  ⟨h.1, fun c hc => (gx_rb M1 j v (fun (e : c = k) => hc (by rw [e]; exact hk))).trans (h.2.1 c hc), h.2.2⟩
theorem gx_fr_sl {F A L : List Nat} {M M1 : fx_Mem} {k : Nat} (j : Nat) (v : Int64) (h : gx_fr F A L M M1) (hk : k ∈ L) : gx_fr F A L M (fx_sl M1 k j v) :=
  ⟨h.1, h.2.1, fun c hc => (gx_rf M1 j v (fun (e : c = k) => hc (by rw [e]; exact hk))).trans (h.2.2 c hc)⟩
/-! numbers -/
theorem gx_n2 {a b : Nat} (h : b ≤ a) : nI a - nI b = nI (a - b) := pk_sub h
theorem gx_n3 {n : Nat} (h : n < 2 ^ 31) : (nI n ≤ 0) ↔ n = 0 := by
  rw [show (0 : Int32) = nI 0 from rfl, nI_leI h (by decide)]; omega
theorem gx_n4 {n : Nat} (h : n < 2 ^ 31) : (nI n = 0) ↔ n = 0 := by
  rw [show (0 : Int32) = nI 0 from rfl, nI_eq h (by decide)]
theorem gx_n5 {n : Nat} (h : 1 ≤ n) : nI n - 1 = nI (n - 1) := by
  rw [show (1 : Int32) = nI 1 from rfl, pk_sub h]
theorem gx_n6 {n : Nat} (h : 1 ≤ n) : nI n + (-1) = nI (n - 1) := by
  obtain ⟨k, rfl⟩ : ∃ k, n = k + 1 := ⟨n - 1, by omega⟩
  rw [pk_m1]; rfl
theorem gx_n7 (a b : Nat) : nI a + nI b = nI (a + b) := nI_add a b
theorem gx_n8 : ((1 : Int32) = 0) = False := by decide
theorem gx_n9 {n : Nat} (h : n < 2 ^ 31) : (nI n < 0) = False := eq_false (nI_pos h)
theorem gx_na {n : Nat} (h : n < 2 ^ 31) : (0 ≤ nI n) = True := eq_true (nI_pos' h)
theorem gx_nb : ((0 : Int32) = 1) = False := by decide
theorem gx_ten (a b : Nat) : 10 * nI a + nI b = nI (10 * a + b) := by
  rw [show (10 : Int32) = nI 10 from rfl, pk_mul, nI_add]
/-- a comparison as a number of one bit -/
def gx_b (b : Bool) : Int32 := if b then 1 else 0
theorem gx_b0 (b : Bool) : (gx_b b = 0) ↔ b = false := by cases b <;> decide
theorem gx_b1 (b : Bool) : vp_nar .boolean (gx_b b) = gx_b b := by cases b <;> decide
/-! what the container and the reference hold: properties, box, number of items -/
abbrev gx_D : Type := (Nat → Nat → Int32) × (Nat → Int32) × Nat
def gx_CV (D : gx_D) (M : fx_Mem) : Prop :=
  M.1 64 = D.2.1 0 ∧ M.1 65 = D.2.1 1 ∧ M.1 66 = D.2.1 2 ∧ M.1 67 = D.2.1 3 ∧ (∀ k, k < 5 → M.2.1 10 k = D.2.1 (4 + k)) ∧ M.1 70 = nI D.2.2 ∧ (∀ i, i < D.2.2 → ∀ p, p < 10 → M.2.1 (57 + i) p = D.1 i p)
def gx_MV (D : gx_D) (M : fx_Mem) : Prop :=
  (∀ k, k < 9 → M.2.1 30 k = D.2.1 k) ∧ M.1 515 = nI D.2.2 ∧ (∀ i, i < D.2.2 → ∀ p, p < 10 → M.2.1 31 (10 * i + p) = D.1 i p)
def gx_KV (D : gx_D) (M : fx_Mem) : Prop :=
  M.1 128 = D.2.1 0 ∧ M.1 129 = D.2.1 1 ∧ M.1 130 = D.2.1 2 ∧ M.1 131 = D.2.1 3 ∧ (∀ k, k < 5 → M.2.1 12 k = D.2.1 (4 + k)) ∧ M.1 134 = nI D.2.2 ∧ (∀ i, i < D.2.2 → ∀ p, p < 10 → M.2.1 (77 + i) p = D.1 i p)
def gx_ok (D : gx_D) : Prop :=
  D.2.2 ≤ 20 ∧ (0 ≤ (D.2.1 0).toInt ∧ (D.2.1 0).toInt ≤ 9999) ∧ (-1 ≤ (D.2.1 1).toInt ∧ (D.2.1 1).toInt ≤ 9999) ∧ (0 ≤ (D.2.1 2).toInt ∧ (D.2.1 2).toInt ≤ 99) ∧ (0 ≤ (D.2.1 3).toInt ∧ (D.2.1 3).toInt ≤ 99) ∧
  (∀ k, k < 5 → 0 ≤ (D.2.1 (4 + k)).toInt ∧ (D.2.1 (4 + k)).toInt ≤ (fx_tHS k).toInt) ∧
  (∀ i, i < D.2.2 → ∀ p, p < 10 → (fx_tLO p).toInt ≤ (D.1 i p).toInt ∧ (D.1 i p).toInt ≤ (fx_tHI p).toInt)
theorem gx_CV_fr {D : gx_D} {F A L : List Nat} {M M' : fx_Mem} (hn : D.2.2 ≤ 20) (hF : F.all (fun k => k ≠ 64 && k ≠ 65 && k ≠ 66 && k ≠ 67 && k ≠ 70) = true) (hA : A.all (fun k => k ≠ 10 && (k < 57 || 77 ≤ k)) = true) (h : gx_fr F A L M M') (v : gx_CV D M) : gx_CV D M' := by
  have f1 : ∀ k, (k = 64 ∨ k = 65 ∨ k = 66 ∨ k = 67 ∨ k = 70) → M'.1 k = M.1 k := fun k hk => h.1 k (fun hm => by
    have := List.all_eq_true.mp hF k hm; simp at this; omega)
  have f2 : ∀ k, (k = 10 ∨ (57 ≤ k ∧ k < 77)) → M'.2.1 k = M.2.1 k := fun k hk => h.2.1 k (fun hm => by
    have := List.all_eq_true.mp hA k hm; simp at this; omega)
  obtain ⟨v1, v2, v3, v4, v5, v6, v7⟩ := v
  refine ⟨by rw [f1 64 (by omega), v1], by rw [f1 65 (by omega), v2], by rw [f1 66 (by omega), v3], by rw [f1 67 (by omega), v4], fun k hk => by rw [f2 10 (by omega), v5 k hk], by rw [f1 70 (by omega), v6], fun i hi p hp => by rw [f2 (57 + i) (by omega), v7 i hi p hp]⟩
theorem gx_MV_fr {D : gx_D} {F A L : List Nat} {M M' : fx_Mem} (hF : F.all (fun k => k ≠ 515) = true) (hA : A.all (fun k => k ≠ 30 && k ≠ 31) = true) (h : gx_fr F A L M M') (v : gx_MV D M) : gx_MV D M' := by
  have f1 : M'.1 515 = M.1 515 := h.1 515 (fun hm => by
    have := List.all_eq_true.mp hF 515 hm; simp at this)
  have f2 : ∀ k, (k = 30 ∨ k = 31) → M'.2.1 k = M.2.1 k := fun k hk => h.2.1 k (fun hm => by
    have := List.all_eq_true.mp hA k hm; simp at this; omega)
  obtain ⟨v1, v2, v3⟩ := v
  exact ⟨fun k hk => by rw [f2 30 (by omega), v1 k hk], by rw [f1, v2], fun i hi p hp => by rw [f2 31 (by omega), v3 i hi p hp]⟩
theorem gx_KV_fr {D : gx_D} {F A L : List Nat} {M M' : fx_Mem} (hn : D.2.2 ≤ 20) (hF : F.all (fun k => k ≠ 128 && k ≠ 129 && k ≠ 130 && k ≠ 131 && k ≠ 134) = true) (hA : A.all (fun k => k ≠ 12 && k < 77) = true) (h : gx_fr F A L M M') (v : gx_KV D M) : gx_KV D M' := by
  have f1 : ∀ k, (k = 128 ∨ k = 129 ∨ k = 130 ∨ k = 131 ∨ k = 134) → M'.1 k = M.1 k := fun k hk => h.1 k (fun hm => by
    have := List.all_eq_true.mp hF k hm; simp at this; omega)
  have f2 : ∀ k, (k = 12 ∨ 77 ≤ k) → M'.2.1 k = M.2.1 k := fun k hk => h.2.1 k (fun hm => by
    have := List.all_eq_true.mp hA k hm; simp at this; omega)
  obtain ⟨v1, v2, v3, v4, v5, v6, v7⟩ := v
  refine ⟨by rw [f1 128 (by omega), v1], by rw [f1 129 (by omega), v2], by rw [f1 130 (by omega), v3], by rw [f1 131 (by omega), v4], fun k hk => by rw [f2 12 (by omega), v5 k hk], by rw [f1 134 (by omega), v6], fun i hi p hp => by rw [f2 (77 + i) (by omega), v7 i hi p hp]⟩
