/-! what the premises say at the start of the law -/
theorem fx_tbl {w : Cond} (i : Nat) (h : tables_1[i]? = some w) : w ∈ lw_tbl := List.mem_append_right _ (List.mem_of_getElem? h)
set_option maxRecDepth 100000 in
theorem st_tab0 {b : Nat} {s : State} (hgv : (Jvm.Cond.and given_1 narrow_1).before #[Value.ref b] s = true) (htb : ∀ w ∈ lw_tbl, w.before #[Value.ref b] s = true) {A : Nat → Prop} (hA : ∀ a : Nat, a < s.heap.size → ¬ A a) : fx_tab "FlexLayout" "HIGHEST_SETTING" "[I" .int 5 fx_tHS A s s.heap := by
  have hs := flat_of_before _ hgv
  have e0 := va_eqt (t := .elem (.static "FlexLayout" "HIGHEST_SETTING" "[I") (.int 0)) (z := 3) (hs _ (by decide +kernel))
  have e1 := va_eqt (t := .elem (.static "FlexLayout" "HIGHEST_SETTING" "[I") (.int 1)) (z := 2) (hs _ (by decide +kernel))
  have e2 := va_eqt (t := .elem (.static "FlexLayout" "HIGHEST_SETTING" "[I") (.int 2)) (z := 5) (hs _ (by decide +kernel))
  have e3 := va_eqt (t := .elem (.static "FlexLayout" "HIGHEST_SETTING" "[I") (.int 3)) (z := 4) (hs _ (by decide +kernel))
  have e4 := va_eqt (t := .elem (.static "FlexLayout" "HIGHEST_SETTING" "[I") (.int 4)) (z := 6) (hs _ (by decide +kernel))
  obtain ⟨t, h1, h2⟩ := va_Tof (args := #[Value.ref b]) (s := s) (tm := (.static "FlexLayout" "HIGHEST_SETTING" "[I")) (ty := .int) (N := 5) (f := fun j => .int (fx_tHS j)) (A := A) (by decide) (hs _ (by decide +kernel)) (va_eqt (z := 5) (hs _ (by decide +kernel))) (fun j hj => by
    rcases (show j = 0 ∨ j = 1 ∨ j = 2 ∨ j = 3 ∨ j = 4 by omega) with rfl | rfl | rfl | rfl | rfl
    · exact e0
    · exact e1
    · exact e2
    · exact e3
    · exact e4
    ) hA
  exact ⟨t, va_Zref (htb (.laysStatic "FlexLayout" "HIGHEST_SETTING" "[I") (fx_tbl 540 (by decide +kernel))) (htb (.initialized "FlexLayout") (fx_tbl 1 (by decide +kernel))) h1 hA, h2⟩
set_option maxRecDepth 100000 in
theorem st_tab1 {b : Nat} {s : State} (hgv : (Jvm.Cond.and given_1 narrow_1).before #[Value.ref b] s = true) (htb : ∀ w ∈ lw_tbl, w.before #[Value.ref b] s = true) {A : Nat → Prop} (hA : ∀ a : Nat, a < s.heap.size → ¬ A a) : fx_tab "FlexLayout" "LOWEST" "[I" .int 10 fx_tLO A s s.heap := by
  have hs := flat_of_before _ hgv
  have e0 := va_eqt (t := .elem (.static "FlexLayout" "LOWEST" "[I") (.int 0)) (z := 0) (hs _ (by decide +kernel))
  have e1 := va_eqt (t := .elem (.static "FlexLayout" "LOWEST" "[I") (.int 1)) (z := 0) (hs _ (by decide +kernel))
  have e2 := va_eqt (t := .elem (.static "FlexLayout" "LOWEST" "[I") (.int 2)) (z := 0) (hs _ (by decide +kernel))
  have e3 := va_eqt (t := .elem (.static "FlexLayout" "LOWEST" "[I") (.int 3)) (z := 0) (hs _ (by decide +kernel))
  have e4 := va_eqt (t := .elem (.static "FlexLayout" "LOWEST" "[I") (.int 4)) (z := -1) (hs _ (by decide +kernel))
  have e5 := va_eqt (t := .elem (.static "FlexLayout" "LOWEST" "[I") (.int 5)) (z := 0) (hs _ (by decide +kernel))
  have e6 := va_eqt (t := .elem (.static "FlexLayout" "LOWEST" "[I") (.int 6)) (z := 0) (hs _ (by decide +kernel))
  have e7 := va_eqt (t := .elem (.static "FlexLayout" "LOWEST" "[I") (.int 7)) (z := -1) (hs _ (by decide +kernel))
  have e8 := va_eqt (t := .elem (.static "FlexLayout" "LOWEST" "[I") (.int 8)) (z := -9) (hs _ (by decide +kernel))
  have e9 := va_eqt (t := .elem (.static "FlexLayout" "LOWEST" "[I") (.int 9)) (z := 0) (hs _ (by decide +kernel))
  obtain ⟨t, h1, h2⟩ := va_Tof (args := #[Value.ref b]) (s := s) (tm := (.static "FlexLayout" "LOWEST" "[I")) (ty := .int) (N := 10) (f := fun j => .int (fx_tLO j)) (A := A) (by decide) (hs _ (by decide +kernel)) (va_eqt (z := 10) (hs _ (by decide +kernel))) (fun j hj => by
    rcases (show j = 0 ∨ j = 1 ∨ j = 2 ∨ j = 3 ∨ j = 4 ∨ j = 5 ∨ j = 6 ∨ j = 7 ∨ j = 8 ∨ j = 9 by omega) with rfl | rfl | rfl | rfl | rfl | rfl | rfl | rfl | rfl | rfl
    · exact e0
    · exact e1
    · exact e2
    · exact e3
    · exact e4
    · exact e5
    · exact e6
    · exact e7
    · exact e8
    · exact e9
    ) hA
  exact ⟨t, va_Zref (htb (.laysStatic "FlexLayout" "LOWEST" "[I") (fx_tbl 554 (by decide +kernel))) (htb (.initialized "FlexLayout") (fx_tbl 1 (by decide +kernel))) h1 hA, h2⟩
set_option maxRecDepth 100000 in
theorem st_tab2 {b : Nat} {s : State} (hgv : (Jvm.Cond.and given_1 narrow_1).before #[Value.ref b] s = true) (htb : ∀ w ∈ lw_tbl, w.before #[Value.ref b] s = true) {A : Nat → Prop} (hA : ∀ a : Nat, a < s.heap.size → ¬ A a) : fx_tab "FlexLayout" "HIGHEST" "[I" .int 10 fx_tHI A s s.heap := by
  have hs := flat_of_before _ hgv
  have e0 := va_eqt (t := .elem (.static "FlexLayout" "HIGHEST" "[I") (.int 0)) (z := 9999) (hs _ (by decide +kernel))
  have e1 := va_eqt (t := .elem (.static "FlexLayout" "HIGHEST" "[I") (.int 1)) (z := 99) (hs _ (by decide +kernel))
  have e2 := va_eqt (t := .elem (.static "FlexLayout" "HIGHEST" "[I") (.int 2)) (z := 99) (hs _ (by decide +kernel))
  have e3 := va_eqt (t := .elem (.static "FlexLayout" "HIGHEST" "[I") (.int 3)) (z := 9999) (hs _ (by decide +kernel))
  have e4 := va_eqt (t := .elem (.static "FlexLayout" "HIGHEST" "[I") (.int 4)) (z := 9999) (hs _ (by decide +kernel))
  have e5 := va_eqt (t := .elem (.static "FlexLayout" "HIGHEST" "[I") (.int 5)) (z := 9999) (hs _ (by decide +kernel))
  have e6 := va_eqt (t := .elem (.static "FlexLayout" "HIGHEST" "[I") (.int 6)) (z := 9999) (hs _ (by decide +kernel))
  have e7 := va_eqt (t := .elem (.static "FlexLayout" "HIGHEST" "[I") (.int 7)) (z := 4) (hs _ (by decide +kernel))
  have e8 := va_eqt (t := .elem (.static "FlexLayout" "HIGHEST" "[I") (.int 8)) (z := 9) (hs _ (by decide +kernel))
  have e9 := va_eqt (t := .elem (.static "FlexLayout" "HIGHEST" "[I") (.int 9)) (z := 1) (hs _ (by decide +kernel))
  obtain ⟨t, h1, h2⟩ := va_Tof (args := #[Value.ref b]) (s := s) (tm := (.static "FlexLayout" "HIGHEST" "[I")) (ty := .int) (N := 10) (f := fun j => .int (fx_tHI j)) (A := A) (by decide) (hs _ (by decide +kernel)) (va_eqt (z := 10) (hs _ (by decide +kernel))) (fun j hj => by
    rcases (show j = 0 ∨ j = 1 ∨ j = 2 ∨ j = 3 ∨ j = 4 ∨ j = 5 ∨ j = 6 ∨ j = 7 ∨ j = 8 ∨ j = 9 by omega) with rfl | rfl | rfl | rfl | rfl | rfl | rfl | rfl | rfl | rfl
    · exact e0
    · exact e1
    · exact e2
    · exact e3
    · exact e4
    · exact e5
    · exact e6
    · exact e7
    · exact e8
    · exact e9
    ) hA
  exact ⟨t, va_Zref (htb (.laysStatic "FlexLayout" "HIGHEST" "[I") (fx_tbl 556 (by decide +kernel))) (htb (.initialized "FlexLayout") (fx_tbl 1 (by decide +kernel))) h1 hA, h2⟩
set_option maxRecDepth 100000 in
theorem st_tab3 {b : Nat} {s : State} (hgv : (Jvm.Cond.and given_1 narrow_1).before #[Value.ref b] s = true) (htb : ∀ w ∈ lw_tbl, w.before #[Value.ref b] s = true) {A : Nat → Prop} (hA : ∀ a : Nat, a < s.heap.size → ¬ A a) : fx_tab "FlexLayout" "FIRST" "[I" .int 10 fx_tFI A s s.heap := by
  have hs := flat_of_before _ hgv
  have e0 := va_eqt (t := .elem (.static "FlexLayout" "FIRST" "[I") (.int 0)) (z := 0) (hs _ (by decide +kernel))
  have e1 := va_eqt (t := .elem (.static "FlexLayout" "FIRST" "[I") (.int 1)) (z := 0) (hs _ (by decide +kernel))
  have e2 := va_eqt (t := .elem (.static "FlexLayout" "FIRST" "[I") (.int 2)) (z := 1) (hs _ (by decide +kernel))
  have e3 := va_eqt (t := .elem (.static "FlexLayout" "FIRST" "[I") (.int 3)) (z := 0) (hs _ (by decide +kernel))
  have e4 := va_eqt (t := .elem (.static "FlexLayout" "FIRST" "[I") (.int 4)) (z := -1) (hs _ (by decide +kernel))
  have e5 := va_eqt (t := .elem (.static "FlexLayout" "FIRST" "[I") (.int 5)) (z := 0) (hs _ (by decide +kernel))
  have e6 := va_eqt (t := .elem (.static "FlexLayout" "FIRST" "[I") (.int 6)) (z := 0) (hs _ (by decide +kernel))
  have e7 := va_eqt (t := .elem (.static "FlexLayout" "FIRST" "[I") (.int 7)) (z := -1) (hs _ (by decide +kernel))
  have e8 := va_eqt (t := .elem (.static "FlexLayout" "FIRST" "[I") (.int 8)) (z := 0) (hs _ (by decide +kernel))
  have e9 := va_eqt (t := .elem (.static "FlexLayout" "FIRST" "[I") (.int 9)) (z := 1) (hs _ (by decide +kernel))
  obtain ⟨t, h1, h2⟩ := va_Tof (args := #[Value.ref b]) (s := s) (tm := (.static "FlexLayout" "FIRST" "[I")) (ty := .int) (N := 10) (f := fun j => .int (fx_tFI j)) (A := A) (by decide) (hs _ (by decide +kernel)) (va_eqt (z := 10) (hs _ (by decide +kernel))) (fun j hj => by
    rcases (show j = 0 ∨ j = 1 ∨ j = 2 ∨ j = 3 ∨ j = 4 ∨ j = 5 ∨ j = 6 ∨ j = 7 ∨ j = 8 ∨ j = 9 by omega) with rfl | rfl | rfl | rfl | rfl | rfl | rfl | rfl | rfl | rfl
    · exact e0
    · exact e1
    · exact e2
    · exact e3
    · exact e4
    · exact e5
    · exact e6
    · exact e7
    · exact e8
    · exact e9
    ) hA
  exact ⟨t, va_Zref (htb (.laysStatic "FlexLayout" "FIRST" "[I") (fx_tbl 584 (by decide +kernel))) (htb (.initialized "FlexLayout") (fx_tbl 1 (by decide +kernel))) h1 hA, h2⟩
set_option maxRecDepth 100000 in
theorem st_tab4 {b : Nat} {s : State} (hgv : (Jvm.Cond.and given_1 narrow_1).before #[Value.ref b] s = true) (htb : ∀ w ∈ lw_tbl, w.before #[Value.ref b] s = true) {A : Nat → Prop} (hA : ∀ a : Nat, a < s.heap.size → ¬ A a) : fx_tab "FlexLayout" "LETTERS" "[C" .char 10 fx_tLE A s s.heap := by
  have hs := flat_of_before _ hgv
  have e0 := va_eqt (t := .elem (.static "FlexLayout" "LETTERS" "[C") (.int 0)) (z := 98) (hs _ (by decide +kernel))
  have e1 := va_eqt (t := .elem (.static "FlexLayout" "LETTERS" "[C") (.int 1)) (z := 103) (hs _ (by decide +kernel))
  have e2 := va_eqt (t := .elem (.static "FlexLayout" "LETTERS" "[C") (.int 2)) (z := 115) (hs _ (by decide +kernel))
  have e3 := va_eqt (t := .elem (.static "FlexLayout" "LETTERS" "[C") (.int 3)) (z := 109) (hs _ (by decide +kernel))
  have e4 := va_eqt (t := .elem (.static "FlexLayout" "LETTERS" "[C") (.int 4)) (z := 120) (hs _ (by decide +kernel))
  have e5 := va_eqt (t := .elem (.static "FlexLayout" "LETTERS" "[C") (.int 5)) (z := 99) (hs _ (by decide +kernel))
  have e6 := va_eqt (t := .elem (.static "FlexLayout" "LETTERS" "[C") (.int 6)) (z := 97) (hs _ (by decide +kernel))
  have e7 := va_eqt (t := .elem (.static "FlexLayout" "LETTERS" "[C") (.int 7)) (z := 108) (hs _ (by decide +kernel))
  have e8 := va_eqt (t := .elem (.static "FlexLayout" "LETTERS" "[C") (.int 8)) (z := 111) (hs _ (by decide +kernel))
  have e9 := va_eqt (t := .elem (.static "FlexLayout" "LETTERS" "[C") (.int 9)) (z := 116) (hs _ (by decide +kernel))
  obtain ⟨t, h1, h2⟩ := va_Tof (args := #[Value.ref b]) (s := s) (tm := (.static "FlexLayout" "LETTERS" "[C")) (ty := .char) (N := 10) (f := fun j => .int (fx_tLE j)) (A := A) (by decide) (hs _ (by decide +kernel)) (va_eqt (z := 10) (hs _ (by decide +kernel))) (fun j hj => by
    rcases (show j = 0 ∨ j = 1 ∨ j = 2 ∨ j = 3 ∨ j = 4 ∨ j = 5 ∨ j = 6 ∨ j = 7 ∨ j = 8 ∨ j = 9 by omega) with rfl | rfl | rfl | rfl | rfl | rfl | rfl | rfl | rfl | rfl
    · exact e0
    · exact e1
    · exact e2
    · exact e3
    · exact e4
    · exact e5
    · exact e6
    · exact e7
    · exact e8
    · exact e9
    ) hA
  exact ⟨t, va_Zref (htb (.laysStatic "FlexLayout" "LETTERS" "[C") (fx_tbl 650 (by decide +kernel))) (htb (.initialized "FlexLayout") (fx_tbl 1 (by decide +kernel))) h1 hA, h2⟩
set_option maxRecDepth 100000 in
theorem st_tab5 {b : Nat} {s : State} (hgv : (Jvm.Cond.and given_1 narrow_1).before #[Value.ref b] s = true) (htb : ∀ w ∈ lw_tbl, w.before #[Value.ref b] s = true) {A : Nat → Prop} (hA : ∀ a : Nat, a < s.heap.size → ¬ A a) : fx_tab "FlexLayoutModel" "MOST_SETTING" "[I" .int 5 fx_tQS A s s.heap := by
  have hs := flat_of_before _ hgv
  have e0 := va_eqt (t := .elem (.static "FlexLayoutModel" "MOST_SETTING" "[I") (.int 0)) (z := 3) (hs _ (by decide +kernel))
  have e1 := va_eqt (t := .elem (.static "FlexLayoutModel" "MOST_SETTING" "[I") (.int 1)) (z := 2) (hs _ (by decide +kernel))
  have e2 := va_eqt (t := .elem (.static "FlexLayoutModel" "MOST_SETTING" "[I") (.int 2)) (z := 5) (hs _ (by decide +kernel))
  have e3 := va_eqt (t := .elem (.static "FlexLayoutModel" "MOST_SETTING" "[I") (.int 3)) (z := 4) (hs _ (by decide +kernel))
  have e4 := va_eqt (t := .elem (.static "FlexLayoutModel" "MOST_SETTING" "[I") (.int 4)) (z := 6) (hs _ (by decide +kernel))
  obtain ⟨t, h1, h2⟩ := va_Tof (args := #[Value.ref b]) (s := s) (tm := (.static "FlexLayoutModel" "MOST_SETTING" "[I")) (ty := .int) (N := 5) (f := fun j => .int (fx_tQS j)) (A := A) (by decide) (hs _ (by decide +kernel)) (va_eqt (z := 5) (hs _ (by decide +kernel))) (fun j hj => by
    rcases (show j = 0 ∨ j = 1 ∨ j = 2 ∨ j = 3 ∨ j = 4 by omega) with rfl | rfl | rfl | rfl | rfl
    · exact e0
    · exact e1
    · exact e2
    · exact e3
    · exact e4
    ) hA
  exact ⟨t, va_Zref (htb (.laysStatic "FlexLayoutModel" "MOST_SETTING" "[I") (fx_tbl 965 (by decide +kernel))) (htb (.initialized "FlexLayoutModel") (fx_tbl 8 (by decide +kernel))) h1 hA, h2⟩
set_option maxRecDepth 100000 in
theorem st_tab6 {b : Nat} {s : State} (hgv : (Jvm.Cond.and given_1 narrow_1).before #[Value.ref b] s = true) (htb : ∀ w ∈ lw_tbl, w.before #[Value.ref b] s = true) {A : Nat → Prop} (hA : ∀ a : Nat, a < s.heap.size → ¬ A a) : fx_tab "FlexLayoutModel" "LEAST" "[I" .int 10 fx_tQL A s s.heap := by
  have hs := flat_of_before _ hgv
  have e0 := va_eqt (t := .elem (.static "FlexLayoutModel" "LEAST" "[I") (.int 0)) (z := 0) (hs _ (by decide +kernel))
  have e1 := va_eqt (t := .elem (.static "FlexLayoutModel" "LEAST" "[I") (.int 1)) (z := 0) (hs _ (by decide +kernel))
  have e2 := va_eqt (t := .elem (.static "FlexLayoutModel" "LEAST" "[I") (.int 2)) (z := 0) (hs _ (by decide +kernel))
  have e3 := va_eqt (t := .elem (.static "FlexLayoutModel" "LEAST" "[I") (.int 3)) (z := 0) (hs _ (by decide +kernel))
  have e4 := va_eqt (t := .elem (.static "FlexLayoutModel" "LEAST" "[I") (.int 4)) (z := -1) (hs _ (by decide +kernel))
  have e5 := va_eqt (t := .elem (.static "FlexLayoutModel" "LEAST" "[I") (.int 5)) (z := 0) (hs _ (by decide +kernel))
  have e6 := va_eqt (t := .elem (.static "FlexLayoutModel" "LEAST" "[I") (.int 6)) (z := 0) (hs _ (by decide +kernel))
  have e7 := va_eqt (t := .elem (.static "FlexLayoutModel" "LEAST" "[I") (.int 7)) (z := -1) (hs _ (by decide +kernel))
  have e8 := va_eqt (t := .elem (.static "FlexLayoutModel" "LEAST" "[I") (.int 8)) (z := -9) (hs _ (by decide +kernel))
  have e9 := va_eqt (t := .elem (.static "FlexLayoutModel" "LEAST" "[I") (.int 9)) (z := 0) (hs _ (by decide +kernel))
  obtain ⟨t, h1, h2⟩ := va_Tof (args := #[Value.ref b]) (s := s) (tm := (.static "FlexLayoutModel" "LEAST" "[I")) (ty := .int) (N := 10) (f := fun j => .int (fx_tQL j)) (A := A) (by decide) (hs _ (by decide +kernel)) (va_eqt (z := 10) (hs _ (by decide +kernel))) (fun j hj => by
    rcases (show j = 0 ∨ j = 1 ∨ j = 2 ∨ j = 3 ∨ j = 4 ∨ j = 5 ∨ j = 6 ∨ j = 7 ∨ j = 8 ∨ j = 9 by omega) with rfl | rfl | rfl | rfl | rfl | rfl | rfl | rfl | rfl | rfl
    · exact e0
    · exact e1
    · exact e2
    · exact e3
    · exact e4
    · exact e5
    · exact e6
    · exact e7
    · exact e8
    · exact e9
    ) hA
  exact ⟨t, va_Zref (htb (.laysStatic "FlexLayoutModel" "LEAST" "[I") (fx_tbl 994 (by decide +kernel))) (htb (.initialized "FlexLayoutModel") (fx_tbl 8 (by decide +kernel))) h1 hA, h2⟩
set_option maxRecDepth 100000 in
theorem st_tab7 {b : Nat} {s : State} (hgv : (Jvm.Cond.and given_1 narrow_1).before #[Value.ref b] s = true) (htb : ∀ w ∈ lw_tbl, w.before #[Value.ref b] s = true) {A : Nat → Prop} (hA : ∀ a : Nat, a < s.heap.size → ¬ A a) : fx_tab "FlexLayoutModel" "MOST" "[I" .int 10 fx_tQM A s s.heap := by
  have hs := flat_of_before _ hgv
  have e0 := va_eqt (t := .elem (.static "FlexLayoutModel" "MOST" "[I") (.int 0)) (z := 9999) (hs _ (by decide +kernel))
  have e1 := va_eqt (t := .elem (.static "FlexLayoutModel" "MOST" "[I") (.int 1)) (z := 99) (hs _ (by decide +kernel))
  have e2 := va_eqt (t := .elem (.static "FlexLayoutModel" "MOST" "[I") (.int 2)) (z := 99) (hs _ (by decide +kernel))
  have e3 := va_eqt (t := .elem (.static "FlexLayoutModel" "MOST" "[I") (.int 3)) (z := 9999) (hs _ (by decide +kernel))
  have e4 := va_eqt (t := .elem (.static "FlexLayoutModel" "MOST" "[I") (.int 4)) (z := 9999) (hs _ (by decide +kernel))
  have e5 := va_eqt (t := .elem (.static "FlexLayoutModel" "MOST" "[I") (.int 5)) (z := 9999) (hs _ (by decide +kernel))
  have e6 := va_eqt (t := .elem (.static "FlexLayoutModel" "MOST" "[I") (.int 6)) (z := 9999) (hs _ (by decide +kernel))
  have e7 := va_eqt (t := .elem (.static "FlexLayoutModel" "MOST" "[I") (.int 7)) (z := 4) (hs _ (by decide +kernel))
  have e8 := va_eqt (t := .elem (.static "FlexLayoutModel" "MOST" "[I") (.int 8)) (z := 9) (hs _ (by decide +kernel))
  have e9 := va_eqt (t := .elem (.static "FlexLayoutModel" "MOST" "[I") (.int 9)) (z := 1) (hs _ (by decide +kernel))
  obtain ⟨t, h1, h2⟩ := va_Tof (args := #[Value.ref b]) (s := s) (tm := (.static "FlexLayoutModel" "MOST" "[I")) (ty := .int) (N := 10) (f := fun j => .int (fx_tQM j)) (A := A) (by decide) (hs _ (by decide +kernel)) (va_eqt (z := 10) (hs _ (by decide +kernel))) (fun j hj => by
    rcases (show j = 0 ∨ j = 1 ∨ j = 2 ∨ j = 3 ∨ j = 4 ∨ j = 5 ∨ j = 6 ∨ j = 7 ∨ j = 8 ∨ j = 9 by omega) with rfl | rfl | rfl | rfl | rfl | rfl | rfl | rfl | rfl | rfl
    · exact e0
    · exact e1
    · exact e2
    · exact e3
    · exact e4
    · exact e5
    · exact e6
    · exact e7
    · exact e8
    · exact e9
    ) hA
  exact ⟨t, va_Zref (htb (.laysStatic "FlexLayoutModel" "MOST" "[I") (fx_tbl 996 (by decide +kernel))) (htb (.initialized "FlexLayoutModel") (fx_tbl 8 (by decide +kernel))) h1 hA, h2⟩
set_option maxRecDepth 100000 in
theorem st_tab8 {b : Nat} {s : State} (hgv : (Jvm.Cond.and given_1 narrow_1).before #[Value.ref b] s = true) (htb : ∀ w ∈ lw_tbl, w.before #[Value.ref b] s = true) {A : Nat → Prop} (hA : ∀ a : Nat, a < s.heap.size → ¬ A a) : fx_tab "FlexLayoutModel" "FIRST" "[I" .int 10 fx_tQF A s s.heap := by
  have hs := flat_of_before _ hgv
  have e0 := va_eqt (t := .elem (.static "FlexLayoutModel" "FIRST" "[I") (.int 0)) (z := 0) (hs _ (by decide +kernel))
  have e1 := va_eqt (t := .elem (.static "FlexLayoutModel" "FIRST" "[I") (.int 1)) (z := 0) (hs _ (by decide +kernel))
  have e2 := va_eqt (t := .elem (.static "FlexLayoutModel" "FIRST" "[I") (.int 2)) (z := 1) (hs _ (by decide +kernel))
  have e3 := va_eqt (t := .elem (.static "FlexLayoutModel" "FIRST" "[I") (.int 3)) (z := 0) (hs _ (by decide +kernel))
  have e4 := va_eqt (t := .elem (.static "FlexLayoutModel" "FIRST" "[I") (.int 4)) (z := -1) (hs _ (by decide +kernel))
  have e5 := va_eqt (t := .elem (.static "FlexLayoutModel" "FIRST" "[I") (.int 5)) (z := 0) (hs _ (by decide +kernel))
  have e6 := va_eqt (t := .elem (.static "FlexLayoutModel" "FIRST" "[I") (.int 6)) (z := 0) (hs _ (by decide +kernel))
  have e7 := va_eqt (t := .elem (.static "FlexLayoutModel" "FIRST" "[I") (.int 7)) (z := -1) (hs _ (by decide +kernel))
  have e8 := va_eqt (t := .elem (.static "FlexLayoutModel" "FIRST" "[I") (.int 8)) (z := 0) (hs _ (by decide +kernel))
  have e9 := va_eqt (t := .elem (.static "FlexLayoutModel" "FIRST" "[I") (.int 9)) (z := 1) (hs _ (by decide +kernel))
  obtain ⟨t, h1, h2⟩ := va_Tof (args := #[Value.ref b]) (s := s) (tm := (.static "FlexLayoutModel" "FIRST" "[I")) (ty := .int) (N := 10) (f := fun j => .int (fx_tQF j)) (A := A) (by decide) (hs _ (by decide +kernel)) (va_eqt (z := 10) (hs _ (by decide +kernel))) (fun j hj => by
    rcases (show j = 0 ∨ j = 1 ∨ j = 2 ∨ j = 3 ∨ j = 4 ∨ j = 5 ∨ j = 6 ∨ j = 7 ∨ j = 8 ∨ j = 9 by omega) with rfl | rfl | rfl | rfl | rfl | rfl | rfl | rfl | rfl | rfl
    · exact e0
    · exact e1
    · exact e2
    · exact e3
    · exact e4
    · exact e5
    · exact e6
    · exact e7
    · exact e8
    · exact e9
    ) hA
  exact ⟨t, va_Zref (htb (.laysStatic "FlexLayoutModel" "FIRST" "[I") (fx_tbl 975 (by decide +kernel))) (htb (.initialized "FlexLayoutModel") (fx_tbl 8 (by decide +kernel))) h1 hA, h2⟩
set_option maxRecDepth 100000 in
theorem st_str {b : Nat} {s : State} (hgv : (Jvm.Cond.and given_1 narrow_1).before #[Value.ref b] s = true) (htb : ∀ w ∈ lw_tbl, w.before #[Value.ref b] s = true) : ∀ q ∈ fx_strs, ∃ a, vk_R q.1 q.2.1 q.2.2 a s := by
  have hs := flat_of_before _ hgv
  have p0 : ∃ a, vk_R "FlexLayout" 64 "no such main size" a s := by
    obtain ⟨a, -, -, -, q1, -⟩ := Cond.exactly_spec (args := #[Value.ref b]) (first := s) (o := none) (s := s) (idx := []) (hs (.exactly (.string "FlexLayout" 64) "java/lang/String") (by decide +kernel))
    exact ⟨a, vk_R.of (htb (.stringRef "FlexLayout" 64 "no such main size") (fx_tbl 452 (by decide +kernel))) q1⟩
  have p1 : ∃ a, vk_R "FlexLayout" 73 "no such cross size" a s := by
    obtain ⟨a, -, -, -, q1, -⟩ := Cond.exactly_spec (args := #[Value.ref b]) (first := s) (o := none) (s := s) (idx := []) (hs (.exactly (.string "FlexLayout" 73) "java/lang/String") (by decide +kernel))
    exact ⟨a, vk_R.of (htb (.stringRef "FlexLayout" 73 "no such cross size") (fx_tbl 486 (by decide +kernel))) q1⟩
  have p2 : ∃ a, vk_R "FlexLayout" 78 "no such gap" a s := by
    obtain ⟨a, -, -, -, q1, -⟩ := Cond.exactly_spec (args := #[Value.ref b]) (first := s) (o := none) (s := s) (idx := []) (hs (.exactly (.string "FlexLayout" 78) "java/lang/String") (by decide +kernel))
    exact ⟨a, vk_R.of (htb (.stringRef "FlexLayout" 78 "no such gap") (fx_tbl 494 (by decide +kernel))) q1⟩
  have p3 : ∃ a, vk_R "FlexLayout" 88 "no such setting" a s := by
    obtain ⟨a, -, -, -, q1, -⟩ := Cond.exactly_spec (args := #[Value.ref b]) (first := s) (o := none) (s := s) (idx := []) (hs (.exactly (.string "FlexLayout" 88) "java/lang/String") (by decide +kernel))
    exact ⟨a, vk_R.of (htb (.stringRef "FlexLayout" 88 "no such setting") (fx_tbl 535 (by decide +kernel))) q1⟩
  have p4 : ∃ a, vk_R "FlexLayout" 95 "no such value of the setting" a s := by
    obtain ⟨a, -, -, -, q1, -⟩ := Cond.exactly_spec (args := #[Value.ref b]) (first := s) (o := none) (s := s) (idx := []) (hs (.exactly (.string "FlexLayout" 95) "java/lang/String") (by decide +kernel))
    exact ⟨a, vk_R.of (htb (.stringRef "FlexLayout" 95 "no such value of the setting") (fx_tbl 541 (by decide +kernel))) q1⟩
  have p5 : ∃ a, vk_R "FlexLayout" 104 "no such size" a s := by
    obtain ⟨a, -, -, -, q1, -⟩ := Cond.exactly_spec (args := #[Value.ref b]) (first := s) (o := none) (s := s) (idx := []) (hs (.exactly (.string "FlexLayout" 104) "java/lang/String") (by decide +kernel))
    exact ⟨a, vk_R.of (htb (.stringRef "FlexLayout" 104 "no such size") (fx_tbl 557 (by decide +kernel))) q1⟩
  have p6 : ∃ a, vk_R "FlexLayout" 267 "there are 20 items" a s := by
    obtain ⟨a, -, -, -, q1, -⟩ := Cond.exactly_spec (args := #[Value.ref b]) (first := s) (o := none) (s := s) (idx := []) (hs (.exactly (.string "FlexLayout" 267) "java/lang/String") (by decide +kernel))
    exact ⟨a, vk_R.of (htb (.stringRef "FlexLayout" 267 "there are 20 items") (fx_tbl 571 (by decide +kernel))) q1⟩
  have p7 : ∃ a, vk_R "FlexLayout" 269 "no such item" a s := by
    obtain ⟨a, -, -, -, q1, -⟩ := Cond.exactly_spec (args := #[Value.ref b]) (first := s) (o := none) (s := s) (idx := []) (hs (.exactly (.string "FlexLayout" 269) "java/lang/String") (by decide +kernel))
    exact ⟨a, vk_R.of (htb (.stringRef "FlexLayout" 269 "no such item") (fx_tbl 600 (by decide +kernel))) q1⟩
  have p8 : ∃ a, vk_R "FlexLayout" 273 "no such property" a s := by
    obtain ⟨a, -, -, -, q1, -⟩ := Cond.exactly_spec (args := #[Value.ref b]) (first := s) (o := none) (s := s) (idx := []) (hs (.exactly (.string "FlexLayout" 273) "java/lang/String") (by decide +kernel))
    exact ⟨a, vk_R.of (htb (.stringRef "FlexLayout" 273 "no such property") (fx_tbl 615 (by decide +kernel))) q1⟩
  have p9 : ∃ a, vk_R "FlexLayout" 130 "no such value of the property" a s := by
    obtain ⟨a, -, -, -, q1, -⟩ := Cond.exactly_spec (args := #[Value.ref b]) (first := s) (o := none) (s := s) (idx := []) (hs (.exactly (.string "FlexLayout" 130) "java/lang/String") (by decide +kernel))
    exact ⟨a, vk_R.of (htb (.stringRef "FlexLayout" 130 "no such value of the property") (fx_tbl 616 (by decide +kernel))) q1⟩
  have p10 : ∃ a, vk_R "FlexLayout" 141 "the buffer is full" a s := by
    obtain ⟨a, -, -, -, q1, -⟩ := Cond.exactly_spec (args := #[Value.ref b]) (first := s) (o := none) (s := s) (idx := []) (hs (.exactly (.string "FlexLayout" 141) "java/lang/String") (by decide +kernel))
    exact ⟨a, vk_R.of (htb (.stringRef "FlexLayout" 141 "the buffer is full") (fx_tbl 631 (by decide +kernel))) q1⟩
  have p11 : ∃ a, vk_R "FlexLayout" 166 "no such place" a s := by
    obtain ⟨a, -, -, -, q1, -⟩ := Cond.exactly_spec (args := #[Value.ref b]) (first := s) (o := none) (s := s) (idx := []) (hs (.exactly (.string "FlexLayout" 166) "java/lang/String") (by decide +kernel))
    exact ⟨a, vk_R.of (htb (.stringRef "FlexLayout" 166 "no such place") (fx_tbl 678 (by decide +kernel))) q1⟩
  have p12 : ∃ a, vk_R "FlexLayout" 177 "no such coordinate" a s := by
    obtain ⟨a, -, -, -, q1, -⟩ := Cond.exactly_spec (args := #[Value.ref b]) (first := s) (o := none) (s := s) (idx := []) (hs (.exactly (.string "FlexLayout" 177) "java/lang/String") (by decide +kernel))
    exact ⟨a, vk_R.of (htb (.stringRef "FlexLayout" 177 "no such coordinate") (fx_tbl 695 (by decide +kernel))) q1⟩
  have p13 : ∃ a, vk_R "FlexLayout" 271 "no such line" a s := by
    obtain ⟨a, -, -, -, q1, -⟩ := Cond.exactly_spec (args := #[Value.ref b]) (first := s) (o := none) (s := s) (idx := []) (hs (.exactly (.string "FlexLayout" 271) "java/lang/String") (by decide +kernel))
    exact ⟨a, vk_R.of (htb (.stringRef "FlexLayout" 271 "no such line") (fx_tbl 711 (by decide +kernel))) q1⟩
  have p14 : ∃ a, vk_R "FlexLayout" 221 "no item at this point" a s := by
    obtain ⟨a, -, -, -, q1, -⟩ := Cond.exactly_spec (args := #[Value.ref b]) (first := s) (o := none) (s := s) (idx := []) (hs (.exactly (.string "FlexLayout" 221) "java/lang/String") (by decide +kernel))
    exact ⟨a, vk_R.of (htb (.stringRef "FlexLayout" 221 "no item at this point") (fx_tbl 761 (by decide +kernel))) q1⟩
  have p15 : ∃ a, vk_R "FlexLayout" 227 "no such number of lines" a s := by
    obtain ⟨a, -, -, -, q1, -⟩ := Cond.exactly_spec (args := #[Value.ref b]) (first := s) (o := none) (s := s) (idx := []) (hs (.exactly (.string "FlexLayout" 227) "java/lang/String") (by decide +kernel))
    exact ⟨a, vk_R.of (htb (.stringRef "FlexLayout" 227 "no such number of lines") (fx_tbl 775 (by decide +kernel))) q1⟩
  have p16 : ∃ a, vk_R "FlexLayout" 233 "no main size is wide enough" a s := by
    obtain ⟨a, -, -, -, q1, -⟩ := Cond.exactly_spec (args := #[Value.ref b]) (first := s) (o := none) (s := s) (idx := []) (hs (.exactly (.string "FlexLayout" 233) "java/lang/String") (by decide +kernel))
    exact ⟨a, vk_R.of (htb (.stringRef "FlexLayout" 233 "no main size is wide enough") (fx_tbl 777 (by decide +kernel))) q1⟩
  have p17 : ∃ a, vk_R "FlexLayout" 240 "no such number of pixels or weight" a s := by
    obtain ⟨a, -, -, -, q1, -⟩ := Cond.exactly_spec (args := #[Value.ref b]) (first := s) (o := none) (s := s) (idx := []) (hs (.exactly (.string "FlexLayout" 240) "java/lang/String") (by decide +kernel))
    exact ⟨a, vk_R.of (htb (.stringRef "FlexLayout" 240 "no such number of pixels or weight") (fx_tbl 803 (by decide +kernel))) q1⟩
  have p18 : ∃ a, vk_R "FlexLayout" 252 "all weights are 0" a s := by
    obtain ⟨a, -, -, -, q1, -⟩ := Cond.exactly_spec (args := #[Value.ref b]) (first := s) (o := none) (s := s) (idx := []) (hs (.exactly (.string "FlexLayout" 252) "java/lang/String") (by decide +kernel))
    exact ⟨a, vk_R.of (htb (.stringRef "FlexLayout" 252 "all weights are 0") (fx_tbl 806 (by decide +kernel))) q1⟩
  have p19 : ∃ a, vk_R "FlexLayout" 265 "nothing was saved" a s := by
    obtain ⟨a, -, -, -, q1, -⟩ := Cond.exactly_spec (args := #[Value.ref b]) (first := s) (o := none) (s := s) (idx := []) (hs (.exactly (.string "FlexLayout" 265) "java/lang/String") (by decide +kernel))
    exact ⟨a, vk_R.of (htb (.stringRef "FlexLayout" 265 "nothing was saved") (fx_tbl 816 (by decide +kernel))) q1⟩
  exact List.forall_mem_cons.mpr ⟨p0, List.forall_mem_cons.mpr ⟨p1, List.forall_mem_cons.mpr ⟨p2, List.forall_mem_cons.mpr ⟨p3, List.forall_mem_cons.mpr ⟨p4, List.forall_mem_cons.mpr ⟨p5, List.forall_mem_cons.mpr ⟨p6, List.forall_mem_cons.mpr ⟨p7, List.forall_mem_cons.mpr ⟨p8, List.forall_mem_cons.mpr ⟨p9, List.forall_mem_cons.mpr ⟨p10, List.forall_mem_cons.mpr ⟨p11, List.forall_mem_cons.mpr ⟨p12, List.forall_mem_cons.mpr ⟨p13, List.forall_mem_cons.mpr ⟨p14, List.forall_mem_cons.mpr ⟨p15, List.forall_mem_cons.mpr ⟨p16, List.forall_mem_cons.mpr ⟨p17, List.forall_mem_cons.mpr ⟨p18, List.forall_mem_cons.mpr ⟨p19, fun _ h => absurd h List.not_mem_nil⟩⟩⟩⟩⟩⟩⟩⟩⟩⟩⟩⟩⟩⟩⟩⟩⟩⟩⟩⟩
theorem st_nm {b : Nat} {s : State} (htb : ∀ w ∈ lw_tbl, w.before #[Value.ref b] s = true) : ∀ q ∈ fx_nm, va_Nw (.methodLinkNest q.1 q.2.1 q.2.2.1 q.2.2.2) s :=
  List.forall_mem_cons.mpr ⟨va_Nw.of rfl (htb (.methodLinkNest "FlexLayout" 9 ⟨"FlexLayout$Container", "<init>", "()V"⟩ "FlexLayout") (fx_tbl 31 (by decide +kernel))), List.forall_mem_cons.mpr ⟨va_Nw.of rfl (htb (.methodLinkNest "FlexLayout" 25 ⟨"FlexLayout$ItemText", "<init>", "()V"⟩ "FlexLayout") (fx_tbl 81 (by decide +kernel))), List.forall_mem_cons.mpr ⟨va_Nw.of rfl (htb (.methodLinkNest "FlexLayout" 32 ⟨"FlexLayout$Division", "<init>", "()V"⟩ "FlexLayout") (fx_tbl 97 (by decide +kernel))), List.forall_mem_cons.mpr ⟨va_Nw.of rfl (htb (.methodLinkNest "FlexLayout" 39 ⟨"FlexLayout$Arrangement", "<init>", "()V"⟩ "FlexLayout") (fx_tbl 120 (by decide +kernel))), List.forall_mem_cons.mpr ⟨va_Nw.of rfl (htb (.methodLinkNest "FlexLayout" 46 ⟨"FlexLayout$MainAxis", "<init>", "()V"⟩ "FlexLayout") (fx_tbl 144 (by decide +kernel))), List.forall_mem_cons.mpr ⟨va_Nw.of rfl (htb (.methodLinkNest "FlexLayout" 53 ⟨"FlexLayout$CrossAxis", "<init>", "()V"⟩ "FlexLayout") (fx_tbl 174 (by decide +kernel))), List.forall_mem_cons.mpr ⟨va_Nw.of rfl (htb (.methodLinkNest "FlexLayout$CrossAxis" 96 ⟨"FlexLayout", "offset", "(IIII)I"⟩ "FlexLayout") (fx_tbl 301 (by decide +kernel))), List.forall_mem_cons.mpr ⟨va_Nw.of rfl (htb (.methodLinkNest "FlexLayout$MainAxis" 114 ⟨"FlexLayout", "offset", "(IIII)I"⟩ "FlexLayout") (fx_tbl 370 (by decide +kernel))), List.forall_mem_cons.mpr ⟨va_Nw.of rfl (htb (.methodLinkNest "FlexLayout$ItemText" 31 ⟨"FlexLayout", "canHave", "(II)Z"⟩ "FlexLayout") (fx_tbl 659 (by decide +kernel))), fun _ h => absurd h List.not_mem_nil⟩⟩⟩⟩⟩⟩⟩⟩⟩
theorem st_nf {b : Nat} {s : State} (htb : ∀ w ∈ lw_tbl, w.before #[Value.ref b] s = true) : ∀ q ∈ fx_nf, va_Nw (.fieldLinkNest q.1 q.2.1 q.2.2.1 q.2.2.2.1 q.2.2.2.2.1 q.2.2.2.2.2) s :=
  List.forall_mem_cons.mpr ⟨va_Nw.of rfl (htb (.fieldLinkNest "FlexLayout$Container" 48 "FlexLayout" "FIRST" "[I" "FlexLayout") (fx_tbl 583 (by decide +kernel))), List.forall_mem_cons.mpr ⟨va_Nw.of rfl (htb (.fieldLinkNest "FlexLayout$ItemText" 35 "FlexLayout" "LETTERS" "[C" "FlexLayout") (fx_tbl 649 (by decide +kernel))), fun _ h => absurd h List.not_mem_nil⟩⟩
set_option maxRecDepth 100000 in
theorem st_nc {b : Nat} {s : State} (hgv : (Jvm.Cond.and given_1 narrow_1).before #[Value.ref b] s = true) (htb : ∀ w ∈ lw_tbl, w.before #[Value.ref b] s = true) : ∀ a ∈ fx_ex, ∀ b ∈ fx_ex, a ≠ b → va_Nc a b s := by
  have hs := flat_of_before _ hgv
  exact List.forall_mem_cons.mpr ⟨List.forall_mem_cons.mpr ⟨fun h => absurd rfl h, List.forall_mem_cons.mpr ⟨fun _ => va_Nc.of (hs (.not (.castable "java/lang/IllegalArgumentException" "java/lang/IllegalStateException")) (by decide +kernel)), List.forall_mem_cons.mpr ⟨fun _ => va_Nc.of (hs (.not (.castable "java/lang/IllegalArgumentException" "java/lang/IndexOutOfBoundsException")) (by decide +kernel)), List.forall_mem_cons.mpr ⟨fun _ => va_Nc.of (hs (.not (.castable "java/lang/IllegalArgumentException" "java/lang/ArithmeticException")) (by decide +kernel)), List.forall_mem_cons.mpr ⟨fun _ => va_Nc.of (hs (.not (.castable "java/lang/IllegalArgumentException" "java/util/NoSuchElementException")) (by decide +kernel)), fun _ h => absurd h List.not_mem_nil⟩⟩⟩⟩⟩, List.forall_mem_cons.mpr ⟨List.forall_mem_cons.mpr ⟨fun _ => va_Nc.of (hs (.not (.castable "java/lang/IllegalStateException" "java/lang/IllegalArgumentException")) (by decide +kernel)), List.forall_mem_cons.mpr ⟨fun h => absurd rfl h, List.forall_mem_cons.mpr ⟨fun _ => va_Nc.of (hs (.not (.castable "java/lang/IllegalStateException" "java/lang/IndexOutOfBoundsException")) (by decide +kernel)), List.forall_mem_cons.mpr ⟨fun _ => va_Nc.of (hs (.not (.castable "java/lang/IllegalStateException" "java/lang/ArithmeticException")) (by decide +kernel)), List.forall_mem_cons.mpr ⟨fun _ => va_Nc.of (hs (.not (.castable "java/lang/IllegalStateException" "java/util/NoSuchElementException")) (by decide +kernel)), fun _ h => absurd h List.not_mem_nil⟩⟩⟩⟩⟩, List.forall_mem_cons.mpr ⟨List.forall_mem_cons.mpr ⟨fun _ => va_Nc.of (hs (.not (.castable "java/lang/IndexOutOfBoundsException" "java/lang/IllegalArgumentException")) (by decide +kernel)), List.forall_mem_cons.mpr ⟨fun _ => va_Nc.of (hs (.not (.castable "java/lang/IndexOutOfBoundsException" "java/lang/IllegalStateException")) (by decide +kernel)), List.forall_mem_cons.mpr ⟨fun h => absurd rfl h, List.forall_mem_cons.mpr ⟨fun _ => va_Nc.of (hs (.not (.castable "java/lang/IndexOutOfBoundsException" "java/lang/ArithmeticException")) (by decide +kernel)), List.forall_mem_cons.mpr ⟨fun _ => va_Nc.of (hs (.not (.castable "java/lang/IndexOutOfBoundsException" "java/util/NoSuchElementException")) (by decide +kernel)), fun _ h => absurd h List.not_mem_nil⟩⟩⟩⟩⟩, List.forall_mem_cons.mpr ⟨List.forall_mem_cons.mpr ⟨fun _ => va_Nc.of (hs (.not (.castable "java/lang/ArithmeticException" "java/lang/IllegalArgumentException")) (by decide +kernel)), List.forall_mem_cons.mpr ⟨fun _ => va_Nc.of (hs (.not (.castable "java/lang/ArithmeticException" "java/lang/IllegalStateException")) (by decide +kernel)), List.forall_mem_cons.mpr ⟨fun _ => va_Nc.of (hs (.not (.castable "java/lang/ArithmeticException" "java/lang/IndexOutOfBoundsException")) (by decide +kernel)), List.forall_mem_cons.mpr ⟨fun h => absurd rfl h, List.forall_mem_cons.mpr ⟨fun _ => va_Nc.of (hs (.not (.castable "java/lang/ArithmeticException" "java/util/NoSuchElementException")) (by decide +kernel)), fun _ h => absurd h List.not_mem_nil⟩⟩⟩⟩⟩, List.forall_mem_cons.mpr ⟨List.forall_mem_cons.mpr ⟨fun _ => va_Nc.of (hs (.not (.castable "java/util/NoSuchElementException" "java/lang/IllegalArgumentException")) (by decide +kernel)), List.forall_mem_cons.mpr ⟨fun _ => va_Nc.of (hs (.not (.castable "java/util/NoSuchElementException" "java/lang/IllegalStateException")) (by decide +kernel)), List.forall_mem_cons.mpr ⟨fun _ => va_Nc.of (hs (.not (.castable "java/util/NoSuchElementException" "java/lang/IndexOutOfBoundsException")) (by decide +kernel)), List.forall_mem_cons.mpr ⟨fun _ => va_Nc.of (hs (.not (.castable "java/util/NoSuchElementException" "java/lang/ArithmeticException")) (by decide +kernel)), List.forall_mem_cons.mpr ⟨fun h => absurd rfl h, fun _ h => absurd h List.not_mem_nil⟩⟩⟩⟩⟩, fun _ h => absurd h List.not_mem_nil⟩⟩⟩⟩⟩
theorem st_ca {b : Nat} {s : State} (htb : ∀ w ∈ lw_tbl, w.before #[Value.ref b] s = true) : ∀ a ∈ fx_ex, va_Nw (.castable a a) s :=
  List.forall_mem_cons.mpr ⟨va_Nw.of rfl (htb (.castable "java/lang/IllegalArgumentException" "java/lang/IllegalArgumentException") (fx_tbl 410 (by decide +kernel))), List.forall_mem_cons.mpr ⟨va_Nw.of rfl (htb (.castable "java/lang/IllegalStateException" "java/lang/IllegalStateException") (fx_tbl 564 (by decide +kernel))), List.forall_mem_cons.mpr ⟨va_Nw.of rfl (htb (.castable "java/lang/IndexOutOfBoundsException" "java/lang/IndexOutOfBoundsException") (fx_tbl 528 (by decide +kernel))), List.forall_mem_cons.mpr ⟨va_Nw.of rfl (htb (.castable "java/lang/ArithmeticException" "java/lang/ArithmeticException") (fx_tbl 793 (by decide +kernel))), List.forall_mem_cons.mpr ⟨va_Nw.of rfl (htb (.castable "java/util/NoSuchElementException" "java/util/NoSuchElementException") (fx_tbl 754 (by decide +kernel))), fun _ h => absurd h List.not_mem_nil⟩⟩⟩⟩⟩
theorem st_dc {b : Nat} {s : State} (htb : ∀ w ∈ lw_tbl, w.before #[Value.ref b] s = true) : ∀ y ∈ fx_dc, va_Nw (.declares y) s :=
  List.forall_mem_cons.mpr ⟨va_Nw.of rfl (htb (.declares (Bundle.initS "java/lang/RuntimeException")) (fx_tbl 412 (by decide +kernel))), List.forall_mem_cons.mpr ⟨va_Nw.of rfl (htb (.declares (Bundle.initS "java/lang/Exception")) (fx_tbl 414 (by decide +kernel))), List.forall_mem_cons.mpr ⟨va_Nw.of rfl (htb (.declares (Bundle.initS "java/lang/Throwable")) (fx_tbl 416 (by decide +kernel))), fun _ h => absurd h List.not_mem_nil⟩⟩⟩
set_option maxRecDepth 100000 in
theorem fx_St_start {b : Nat} {s : State} (hgv : (Jvm.Cond.and given_1 narrow_1).before #[Value.ref b] s = true) (htb : ∀ w ∈ lw_tbl, w.before #[Value.ref b] s = true) (g : fx_Geo) (hg : g.2.2.2 = s.heap.size) : fx_St g s := by
  have hA : ∀ a : Nat, a < s.heap.size → ¬ fx_A g a := fun a h1 h2 => by unfold fx_A at h2; rw [hg] at h2; omega
  have hs := flat_of_before _ hgv
  refine ⟨List.forall_mem_cons.mpr ⟨st_tab0 hgv htb hA, List.forall_mem_cons.mpr ⟨st_tab1 hgv htb hA, List.forall_mem_cons.mpr ⟨st_tab2 hgv htb hA, List.forall_mem_cons.mpr ⟨st_tab3 hgv htb hA, List.forall_mem_cons.mpr ⟨st_tab4 hgv htb hA, List.forall_mem_cons.mpr ⟨st_tab5 hgv htb hA, List.forall_mem_cons.mpr ⟨st_tab6 hgv htb hA, List.forall_mem_cons.mpr ⟨st_tab7 hgv htb hA, List.forall_mem_cons.mpr ⟨st_tab8 hgv htb hA, fun _ h => absurd h List.not_mem_nil⟩⟩⟩⟩⟩⟩⟩⟩⟩, st_str hgv htb, st_nm htb, st_nf htb, ?_, ?_, st_nc hgv htb, st_ca htb, st_dc htb⟩
  · exact vx_Zqof (htb (.laysStatic Bundle.tN "UNASSIGNED_STACK" Bundle.steD) (fx_tbl 435 (by decide +kernel))) (htb (.initialized Bundle.tN) (fx_tbl 9 (by decide +kernel))) (hs (.isRef (.static Bundle.tN "UNASSIGNED_STACK" Bundle.steD)) (by decide +kernel)) hA
  · exact vx_Zqof (htb (.laysStatic Bundle.tN "SUPPRESSED_SENTINEL" Bundle.listD) (fx_tbl 437 (by decide +kernel))) (htb (.initialized Bundle.tN) (fx_tbl 9 (by decide +kernel))) (hs (.isRef (.static Bundle.tN "SUPPRESSED_SENTINEL" Bundle.listD)) (by decide +kernel)) hA
theorem fx_rc {args : Array Value} {s : State} {t : FieldType} (h : (Cond.arrayClass t).before args s = true) (hra : ∀ x : ClassId, s.vm.findClass ("[" ++ t.toString) = some x → va_RA s x t) : ∃ c : ClassId, ArrOfT s c t ∧ va_RA s c t := by
  obtain ⟨c, k, comp, h1, h2, h3⟩ := Cond.arrayClass_spec h
  exact ⟨c, fun N z => ⟨(fun q hq => by cases hq), k, h2, comp, h3⟩, hra c h1⟩
theorem fx_rcA {args : Array Value} {s : State} {t : FieldType} (h : (Cond.arrayOver (.array t)).before args s = true) : ∃ c : ClassId, ArrOfT s c (.array t) ∧ va_RA s c (.array t) := by
  obtain ⟨comp, c, k, h1, h2, h3, h4, h5⟩ := arrayOverA_spec h
  exact ⟨c, fun N z => ⟨(fun q hq => by cases hq), k, h3, comp, h4⟩, h5⟩
theorem inJ0 : ∀ w ∈ wsJ00, w ∈ lw_tbl := by decide +kernel
theorem inJx00060 : ∀ w ∈ wsJx000600, w ∈ lw_tbl := by decide +kernel
theorem fx_K_start {b : Nat} {s : State} (htb : ∀ w ∈ lw_tbl, w.before #[Value.ref b] s = true) : ∃ (D : va_G) (cI cJ cZ cC cR : ClassId), fx_Kk D cI cJ cZ cC cR s := by
  have hin : ∀ w, w ∈ fx_U → w ∈ lw_tbl := fun w h => (List.mem_filter.mp h).1
  obtain ⟨c0, i0, k0⟩ := u_known (C := RJ0) (T := TJ0) (N := 2) (n := 4) htb inJ0 (htb (.instantiable RJ0 4) (fx_tbl 517 (by decide +kernel)))
  obtain ⟨c1, i1, k1⟩ := u_known (C := RJx00060) (T := TJx00060) (N := 6) (n := 6) htb inJx00060 (htb (.instantiable RJx00060 6) (fx_tbl 499 (by decide +kernel)))
  obtain ⟨c2, i2, k2⟩ := u_known (C := RX0) (T := TX0) (N := 3) (n := 3) htb (fun w h => hin w (in_X0 w h)) (htb (.instantiable RX0 3) (fx_tbl 119 (by decide +kernel)))
  obtain ⟨c3, i3, k3⟩ := u_known (C := RX1) (T := TX1) (N := 7) (n := 7) htb (fun w h => hin w (in_X1 w h)) (htb (.instantiable RX1 7) (fx_tbl 30 (by decide +kernel)))
  obtain ⟨c4, i4, k4⟩ := u_known (C := RX2) (T := TX2) (N := 5) (n := 5) htb (fun w h => hin w (in_X2 w h)) (htb (.instantiable RX2 5) (fx_tbl 173 (by decide +kernel)))
  obtain ⟨c5, i5, k5⟩ := u_known (C := RX3) (T := TX3) (N := 3) (n := 3) htb (fun w h => hin w (in_X3 w h)) (htb (.instantiable RX3 3) (fx_tbl 96 (by decide +kernel)))
  obtain ⟨c6, i6, k6⟩ := u_known (C := RX4) (T := TX4) (N := 2) (n := 2) htb (fun w h => hin w (in_X4 w h)) (htb (.instantiable RX4 2) (fx_tbl 80 (by decide +kernel)))
  obtain ⟨c7, i7, k7⟩ := u_known (C := RX5) (T := TX5) (N := 6) (n := 6) htb (fun w h => hin w (in_X5 w h)) (htb (.instantiable RX5 6) (fx_tbl 143 (by decide +kernel)))
  obtain ⟨c8, i8, k8⟩ := u_known (C := RX6) (T := TX6) (N := 8) (n := 8) htb (fun w h => hin w (in_X6 w h)) (htb (.instantiable RX6 8) (fx_tbl 22 (by decide +kernel)))
  obtain ⟨c9, i9, k9⟩ := u_known (C := RX7) (T := TX7) (N := 35) (n := 35) htb (fun w h => hin w (in_X7 w h)) (htb (.instantiable RX7 35) (fx_tbl 818 (by decide +kernel)))
  obtain ⟨cI, aI, rI⟩ := fx_rc (s := s) (htb (.arrayClass .int) (fx_tbl 78 (by decide +kernel))) (fun _ h => h)
  obtain ⟨cJ, aJ, rJ⟩ := fx_rc (s := s) (htb (.arrayClass .long) (fx_tbl 117 (by decide +kernel))) (fun _ h => h)
  obtain ⟨cZ, aZ, rZ⟩ := fx_rc (s := s) (htb (.arrayClass .boolean) (fx_tbl 171 (by decide +kernel))) (fun _ h => h)
  obtain ⟨cC, aC, rC⟩ := fx_rc (s := s) (htb (.arrayClass .char) (fx_tbl 94 (by decide +kernel))) (fun _ h => h)
  have hov := (htb (.arrayOver (.array .int)) (fx_tbl 36 (by decide +kernel)))
  obtain ⟨cR, aR, rR⟩ := fx_rcA (s := s) hov
  refine ⟨(fun k => if k = 0 then c0 else if k = 1 then c1 else if k = 2 then c2 else if k = 3 then c3 else if k = 4 then c4 else if k = 5 then c5 else if k = 6 then c6 else if k = 7 then c7 else if k = 8 then c8 else c9, fun k => if k = 0 then i0 else if k = 1 then i1 else if k = 2 then i2 else if k = 3 then i3 else if k = 4 then i4 else if k = 5 then i5 else if k = 6 then i6 else if k = 7 then i7 else if k = 8 then i8 else i9), cI, cJ, cZ, cC, cR, ⟨?_, ?_⟩, hov, st_nm htb⟩
  · intro k q hq
    match k, hq with
    | 0, hq => cases hq; exact k0
    | 1, hq => cases hq; exact k1
    | 2, hq => cases hq; exact k2
    | 3, hq => cases hq; exact k3
    | 4, hq => cases hq; exact k4
    | 5, hq => cases hq; exact k5
    | 6, hq => cases hq; exact k6
    | 7, hq => cases hq; exact k7
    | 8, hq => cases hq; exact k8
    | 9, hq => cases hq; exact k9
    | k + 10, hq => simp [vwCl] at hq
  · intro k q hq
    match k, hq with
    | 0, hq => cases hq; exact ⟨aI, rI⟩
    | 1, hq => cases hq; exact ⟨aJ, rJ⟩
    | 2, hq => cases hq; exact ⟨aZ, rZ⟩
    | 3, hq => cases hq; exact ⟨aC, rC⟩
    | 4, hq => cases hq; exact ⟨aR, rR⟩
    | k + 5, hq => simp [fx_T5] at hq
