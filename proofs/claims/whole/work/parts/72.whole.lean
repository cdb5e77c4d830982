/-! all together -/
theorem gx_step {L : Nat} {xs : Nat → Int32} (hL : L ≤ 2048) (j : Nat) (M : fx_Mem) (hj : j + 4 ≤ L) (h : gx_Inv M) : wb_law_23 L xs (fun x4 M' => x4 = nI (j + 4) ∧ gx_Inv M') (nI j) M := by
  unfold wb_law_23
  refine ⟨fun _ => trivial, fun _ => ⟨vp_in_nI (by omega) (by omega), fun _ => gx_case0 hL hj h, fun _ => gx_case1 hL hj h, fun _ => gx_case2 hL hj h, fun _ => gx_case3 hL hj h, fun _ => gx_case4 hL hj h, fun _ => gx_case5 hL hj h, fun _ => gx_case6 h, fun _ => gx_case7 hL hj h, fun _ => gx_case8 hL hj h, fun _ => gx_case9 hL hj h, fun _ => gx_case10 h, fun _ => gx_case11 h, fun _ => gx_case12 hL hj h, fun _ => gx_case13 hL hj h, fun _ => gx_case14 hL hj h, fun _ => gx_case15 hL hj h, fun _ => gx_case16 hL hj h, fun _ => gx_case17 hL hj h, fun _ => gx_case18 hL hj h, fun _ => gx_case19 hL hj h, fun _ => gx_case20 h, fun _ => gx_case21 hL hj h, fun _ => gx_case22 hL hj h, fun _ => gx_case23 h, fun _ => gx_case24 hL hj h, fun _ => gx_case25 hL hj h, fun _ => gx_case26 h, fun _ => gx_case27 h, ?_⟩⟩
  intros
  exact gx_nx h
theorem gx_start : gx_Inv fx_M0 := by
  refine ⟨(fun _ _ => 0, fun k => if k = 0 then 100 else if k = 1 then -1 else 0, 0), ⟨by show 0 ≤ 20; omega, ?_, ?_, ?_, ?_, ?_, fun i hi => absurd hi (Nat.not_lt_zero i)⟩, ⟨rfl, rfl, rfl, rfl, ?_, rfl, fun i hi => absurd hi (Nat.not_lt_zero i)⟩, ⟨?_, rfl, fun i hi => absurd hi (Nat.not_lt_zero i)⟩, ⟨0, by omega, rfl, rfl, fun k hk => absurd hk (Nat.not_lt_zero k)⟩, Or.inl ⟨rfl, rfl⟩⟩
  · show 0 ≤ (100 : Int32).toInt ∧ (100 : Int32).toInt ≤ 9999
    decide
  · show -1 ≤ (-1 : Int32).toInt ∧ (-1 : Int32).toInt ≤ 9999
    decide
  · show 0 ≤ (0 : Int32).toInt ∧ (0 : Int32).toInt ≤ 99
    decide
  · show 0 ≤ (0 : Int32).toInt ∧ (0 : Int32).toInt ≤ 99
    decide
  · show ∀ k, k < 5 → 0 ≤ (if 4 + k = 0 then (100 : Int32) else if 4 + k = 1 then -1 else 0).toInt ∧ (if 4 + k = 0 then (100 : Int32) else if 4 + k = 1 then -1 else 0).toInt ≤ (fx_tHS k).toInt
    decide
  · show ∀ k, k < 5 → fx_M0.2.1 10 k = (if 4 + k = 0 then (100 : Int32) else if 4 + k = 1 then -1 else 0)
    decide
  · show ∀ k, k < 9 → fx_M0.2.1 30 k = (if k = 0 then (100 : Int32) else if k = 1 then -1 else 0)
    decide
/-- from the entry, for every script of at most 2048 ints, the law comes to its end with true -/
theorem whole_start {p : Program} {e : Env} {s : State} {m : MethodId} {below : List Frame} {meth : Method} {c : Code} (l : Launch) (hflags : l.flags = flags0) {b L : Nat} {xs : Nat → Int32} (hL : L ≤ 2048) (C0 : lw_At p s m meth c b L xs) : W p l e room_1 s m #[Value.ref b] below meth c s.heap [] 0 0 (lw_Z below #[Value.ref b] s) (entryFrame m ([Value.ref b] : List Value).toArray 7) :=
  whole_open l hflags hL C0 gx_Inv gx_start (gx_step hL)
