/-! Math.floorDiv of two ints, by the library's law -/
def fx_fd (x y : Int32) : Int32 := if (x ^^^ y) < 0 then if ((x / y) * y) = x then x / y else (x / y) - 1 else x / y
section FXF
variable {g : fx_Geo} {p : Program} {l : Launch} {e : Env} {R : Room} {s : State} {m : MethodId} {args : Array Value} {below : List Frame} {meth : Method} {c : Code} {H : Heap} {locs : List Loc} {cells slots : Nat} {Q : State → Prop}
variable {own : String} {cc : ByteArray} {nL pc : Nat} {ret : Option FieldType} {ls : Array Slot} {rest : List Value}
theorem fx_floorDiv (C : fx_Cx g p s m args meth c own cc nL ret) (hls : ls.size = nL) {index : Nat} (w1 : Cond.methodLink own index yJ9_floorDiv_7cf53 ∈ fx_U) (w2 : Cond.static yJ9_floorDiv_7cf53 ∈ fx_U) (w3 : Cond.initialized RJ9 ∈ fx_U) (w4 : Cond.code yJ9_floorDiv_7cf53 cJ9_floorDiv_7cf53 3 (some .int) ∈ fx_U) {x y : Int32} (hy : ¬ y = 0) (hrm : (rest.map fun v => v.category).sum ≤ 8) (hfr : 1 ≤ R.frames) (hlo : 8 + 14 ≤ R.locals) (hc : cells ≤ R.cells) (hs : slots ≤ R.slots) (hdg : decode cc pc = .ok (.invokestatic index, 3))
    (kk : W p l e R s m args below meth c H locs cells slots Q (F0 m (pc + 3) ls (.int (fx_fd x y) :: rest))) : W p l e R s m args below meth c H locs cells slots Q (F0 m pc ls (.int y :: .int x :: rest)) := by
  intro T hT X
  obtain ⟨hx, hb, -, hml, hown, hts, -⟩ := C
  have hcode := hts _ w4
  have hini := hts _ w3
  have htab : (Jvm.Free.JP.Math_floorDiv_II.tab).before args s = true := by
    have h1 : (Cond.and (Cond.code yJ9_floorDiv_7cf53 cJ9_floorDiv_7cf53 3 (some .int)) (Cond.initialized RJ9)).before args s = true := by
      rw [Cond.before_and, Bool.and_eq_true]
      exact ⟨hcode, hini⟩
    exact h1
  have hK := Jvm.Free.JP.Math_floorDiv_II.pays (l := l) (R := R) (p := p) (e := e) (below := below) (s := s) (sargs := args) (len := 3) (W := 8) x y htab hfr hlo
  have hsig : parseMethodDescriptor "(II)I" = some { parameters := [.int, .int], returnType := some .int } := by decide +kernel
  obtain ⟨v, vm₁, ⟨U', l2, c2, s2⟩, hW₁, X', ⟨⟨hv, hh⟩, e1, e2, e3⟩, st⟩ := callS X hx (y := Jvm.Free.JP.Math_floorDiv_II.yN) (bytes := cJ9_floorDiv_7cf53) (maxL := 3) (ret := some .int) hown (hts _ w1) (hts _ w2) hini hcode (by decide) hK (g := F0 m pc ls (.int y :: .int x :: rest)) rfl (hls.trans hml.symm) (argsL := [.int x, .int y]) (rest := rest)
    (fun sig h => by
      rw [show Jvm.Free.JP.Math_floorDiv_II.yN.desc = "(II)I" from rfl, hsig] at h
      rw [← Option.some.inj h]; rfl) rfl (lv_room hrm) (by rw [hb]; exact hdg) (fun vm₁ hW₁ => ⟨hc, hs, rfl, hy⟩)
  dsimp only [Pt.U, Pt.locs, Pt.cells, Pt.slots] at X' hh e1 e2 e3 st
  rw [List.append_nil] at e1
  subst hv; subst e1; subst e2; subst e3
  obtain ⟨t2, a1, b1⟩ := kk U' (by rw [hh]; exact hT) X'
  exact ⟨t2, st t2 a1, b1⟩
end FXF
