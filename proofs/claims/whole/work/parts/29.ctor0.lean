/-! rows of the constructors -/
def fx_T5 (cI cJ cZ cC cR : ClassId) : List (ClassId × FieldType) := [(cI, .int), (cJ, .long), (cZ, .boolean), (cC, .char), (cR, .array .int)]
/-- what a constructor takes beside its world -/
def fx_Kk (D : va_G) (cI cJ cZ cC cR : ClassId) (U : State) : Prop := va_K D vwCl (fx_T5 cI cJ cZ cC cR) U ∧ va_AOA .int U ∧ ∀ q ∈ fx_nm, va_Nw (.methodLinkNest q.1 q.2.1 q.2.2.1 q.2.2.2) U
theorem fx_Kk_warm {D : va_G} {cI cJ cZ cC cR : ClassId} {s U : State} (hW : s.WarmedH U.vm) (h : fx_Kk D cI cJ cZ cC cR s) : fx_Kk D cI cJ cZ cC cR U := ⟨va_K.moved hW.alike h.1, over_moved (a := #[]) (a' := #[]) hW.alike h.2.1, fun q hq => (h.2.2 q hq).warmM hW⟩
section FXI
variable {p : Program} {l : Launch} {e : Env} {R : Room} {s : State} {m : MethodId} {args : Array Value} {below : List Frame} {meth : Method} {c : Code} {H : Heap} {locs : List Loc} {cells slots : Nat} {Q : State → Prop}
variable {cc : ByteArray} {pc : Nat} {ls : Array Slot} {rest : List Value} {D : va_G} {cl : List vw_C} {A : Nat → Prop} {a : Nat} {tys : List (ClassId × FieldType)} {ws : va_W} {H0 : Heap}
theorem fx_na (hexec : p.tables.exec = Jvm.exec) (hb : c.code = cc) {atype : ArrayType} (harr : (Cond.arrayClass (newarray.typeOf atype)).before args s = true) {ty : FieldType} (hty : newarray.typeOf atype = ty) (hK : va_K D cl tys s) (t0 : Nat) {cA : ClassId} (ht : tys[t0]? = some (cA, ty)) (hra : ∀ x : ClassId, va_RA s x ty → s.vm.findClass ("[" ++ ty.toString) = some x) (hP : va_P D cl ws H) (hD : va_D A ws) (hS : va_S A H0 H locs) (hA : ∀ q, H0.size ≤ q → A q)
    {n : Int32} {N' : Nat} {a0 : vp_A} (ha : ∀ cA : ClassId, vp_cell cA a0 = arrV cA N' (fun _ => defaultValue ty)) (hn : ¬ n < 0) (hN : n.toNatClampNeg = N') (hbytes : N' * componentBytes ty ≤ 536870912) (hcells : cells + 1 ≤ R.cells) (hslots : slots + N' ≤ R.slots) (hdg : decode cc pc = .ok (.newarray atype, 2))
    (kk : ∀ (q : Nat) (H1 : Heap), va_P D cl (ws ++ [(q, .inl (cA, a0))]) H1 → va_D A (ws ++ [(q, .inl (cA, a0))]) → va_S A H0 H1 locs →
      W p l e R s m args below meth c H1 locs (cells + 1) (slots + N') Q (F0 m (pc + 2) ls (.ref q :: rest))) : W p l e R s m args below meth c H locs cells slots Q (F0 m pc ls (.int n :: rest)) := by
  refine va_newa hexec hb harr hty hK hP hD hS hA ha hn hN hbytes hcells hslots hdg (fun q cA' H1 hK' hP hD hS => ?_)
  have h1 := hra _ (hK'.2 tys.length (cA', ty) (by simp)).2
  have h2 := hra _ (hK.2 t0 _ ht).2
  have e9 : cA' = cA := Option.some.inj (h1.symm.trans h2)
  subst e9
  exact kk q H1 hP hD hS
theorem fx_plr (r : Nat → Nat) (f : Nat → va_E) (x : va_E) : va_pl ([] ++ (List.range 20).map r) (vr_up f ((List.range 20).map r) x) = [(r 0, x), (r 1, x), (r 2, x), (r 3, x), (r 4, x), (r 5, x), (r 6, x), (r 7, x), (r 8, x), (r 9, x), (r 10, x), (r 11, x), (r 12, x), (r 13, x), (r 14, x), (r 15, x), (r 16, x), (r 17, x), (r 18, x), (r 19, x)] := by
  have h : ∀ l : List Nat, va_pl l (vr_up f l x) = l.map (fun a => (a, x)) := by
    intro l
    unfold va_pl
    apply List.map_congr_left
    intro a ha
    rw [vr_up_in ha]
  rw [List.nil_append, h, List.map_map]
  rfl
theorem fx_mna {X : va_W} {cI cJ cZ cC cR : ClassId} (hexec : p.tables.exec = Jvm.exec) (hb : c.code = cc) {own : String} {index : Nat} (hown : s.vm.findClass own = some m.cls) (hclink : (Cond.classLink own index "[[I").before args s = true) (harr : (Cond.arrayClass .int).before args s = true) (hKk : fx_Kk D cI cJ cZ cC cR s)
    (hP : va_P D vwCl X H) (hD : va_D A X) (hS : va_S A H0 H locs) (hA : ∀ q, H0.size ≤ q → A q) (hcells : cells + 21 ≤ R.cells) (hslots : slots + 220 ≤ R.slots) (hdg : decode cc pc = .ok (.multianewarray index 2, 4))
    (kk : ∀ (q : Nat) (r : Nat → Nat) (H1 : Heap), va_P D vwCl ((X ++ [(q, .inl (cR, 20, .inr (.inr (.inr (.inr (fun i => if i < 20 then some (r i) else none))))))]) ++ [(r 0, .inl (cI, 10, .inl (fun _ => 0))), (r 1, .inl (cI, 10, .inl (fun _ => 0))), (r 2, .inl (cI, 10, .inl (fun _ => 0))), (r 3, .inl (cI, 10, .inl (fun _ => 0))), (r 4, .inl (cI, 10, .inl (fun _ => 0))), (r 5, .inl (cI, 10, .inl (fun _ => 0))), (r 6, .inl (cI, 10, .inl (fun _ => 0))), (r 7, .inl (cI, 10, .inl (fun _ => 0))), (r 8, .inl (cI, 10, .inl (fun _ => 0))), (r 9, .inl (cI, 10, .inl (fun _ => 0))), (r 10, .inl (cI, 10, .inl (fun _ => 0))), (r 11, .inl (cI, 10, .inl (fun _ => 0))), (r 12, .inl (cI, 10, .inl (fun _ => 0))), (r 13, .inl (cI, 10, .inl (fun _ => 0))), (r 14, .inl (cI, 10, .inl (fun _ => 0))), (r 15, .inl (cI, 10, .inl (fun _ => 0))), (r 16, .inl (cI, 10, .inl (fun _ => 0))), (r 17, .inl (cI, 10, .inl (fun _ => 0))), (r 18, .inl (cI, 10, .inl (fun _ => 0))), (r 19, .inl (cI, 10, .inl (fun _ => 0)))]) H1 → va_D A ((X ++ [(q, .inl (cR, 20, .inr (.inr (.inr (.inr (fun i => if i < 20 then some (r i) else none))))))]) ++ [(r 0, .inl (cI, 10, .inl (fun _ => 0))), (r 1, .inl (cI, 10, .inl (fun _ => 0))), (r 2, .inl (cI, 10, .inl (fun _ => 0))), (r 3, .inl (cI, 10, .inl (fun _ => 0))), (r 4, .inl (cI, 10, .inl (fun _ => 0))), (r 5, .inl (cI, 10, .inl (fun _ => 0))), (r 6, .inl (cI, 10, .inl (fun _ => 0))), (r 7, .inl (cI, 10, .inl (fun _ => 0))), (r 8, .inl (cI, 10, .inl (fun _ => 0))), (r 9, .inl (cI, 10, .inl (fun _ => 0))), (r 10, .inl (cI, 10, .inl (fun _ => 0))), (r 11, .inl (cI, 10, .inl (fun _ => 0))), (r 12, .inl (cI, 10, .inl (fun _ => 0))), (r 13, .inl (cI, 10, .inl (fun _ => 0))), (r 14, .inl (cI, 10, .inl (fun _ => 0))), (r 15, .inl (cI, 10, .inl (fun _ => 0))), (r 16, .inl (cI, 10, .inl (fun _ => 0))), (r 17, .inl (cI, 10, .inl (fun _ => 0))), (r 18, .inl (cI, 10, .inl (fun _ => 0))), (r 19, .inl (cI, 10, .inl (fun _ => 0)))]) → va_S A H0 H1 locs →
      W p l e R s m args below meth c H1 locs (cells + 21) (slots + 220) Q (F0 m (pc + 4) ls (.ref q :: rest))) : W p l e R s m args below meth c H locs cells slots Q (F0 m pc ls (.int 10 :: .int 20 :: rest)) := by
  obtain ⟨hK, hov, -⟩ := hKk
  have hci : s.vm.findClass (FieldType.array FieldType.int).toString = some cI := (hK.2 0 (cI, .int) rfl).2
  have hcr : s.vm.findClass ("[" ++ (FieldType.array FieldType.int).toString) = some cR := (hK.2 4 (cR, .array .int) rfl).2
  refine va_mna (L := []) (f := fun _ => .inr (0, [])) (X := X) (N' := 20) (K' := 10) (z := (10, .inl (fun _ => 0))) (ty := .int) (cy := cI) hexec hb hown hclink hov harr hci hK (by rw [show X ++ va_pl [] (fun _ => (.inr (0, []) : va_E)) = X from List.append_nil X]; exact hP) (by rw [show X ++ va_pl [] (fun _ => (.inr (0, []) : va_E)) = X from List.append_nil X]; exact hD) hS hA (by decide) (by decide) (by decide) (by decide) (Nat.le_of_ble_eq_true rfl) (Nat.le_of_ble_eq_true rfl) (Nat.le_of_ble_eq_true rfl) rfl rfl hcells hslots (fun c9 => by
      show ({ cls := c9, slots := Array.replicate 10 (.int 0), vm := .none } : Cell) = _
      rw [vp_cell_i, ← arrV_new]) hdg (fun q r cA H1 _ _ hK' hP hD hS => ?_)
  have h1 : s.vm.findClass ("[" ++ (FieldType.array FieldType.int).toString) = some cA := (hK'.2 5 (cA, .array .int) rfl).2
  have e9 : cA = cR := Option.some.inj (h1.symm.trans hcr)
  subst e9
  rw [fx_plr] at hP hD
  exact kk q r H1 hP hD hS
end FXI
