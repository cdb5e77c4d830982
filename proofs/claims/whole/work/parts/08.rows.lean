/-- the words that every method of ours takes: all good ones of the tables -/
def fx_U : List Cond := lw_tbl.filter goodWord
theorem fx_Ui {w : Cond} (i : Nat) (h : tables_1[i]? = some w) (hg : goodWord w = true) : w ∈ fx_U := List.mem_filter.mpr ⟨List.mem_append_right _ (List.mem_of_getElem? h), hg⟩
theorem fx_Us {w : Cond} (i : Nat) (h : (k2_sels lw_privs)[i]? = some w) (hg : goodWord w = true) : w ∈ fx_U := List.mem_filter.mpr ⟨List.mem_append_left _ (List.mem_of_getElem? h), hg⟩
theorem fx_Ug {w : Cond} (h : w ∈ fx_U) : (w.onTables && w.keeps) = true ∨ ∃ ty, w = .arrayClass ty := good_of_word (List.mem_filter.mp h).2
theorem fx_gd {c0 : Cond} (h : c0 ∈ fx_U) {ws : List Cond} (hw : ∀ w ∈ ws, w ∈ fx_U) : GoodIn fx_U (ws ++ c0 :: fx_U) := by
  intro w hm
  have hu : w ∈ fx_U := by
    rcases List.mem_append.mp hm with h1 | h1
    · exact hw w h1
    · rcases List.mem_cons.mp h1 with h2 | h2
      · rw [h2]; exact h
      · exact h2
  exact ⟨hu, fx_Ug hu⟩
theorem fx_cwV {R : Room} {s : State} {args : Array Value} {own C : String} {index maxL mc ms : Nat} {y : MethodName} {bytes : ByteArray} {rt : Option FieldType} {rm : Room} (n : Nat) (hts : ∀ w ∈ fx_U, w.before args s = true) (h1 : Cond.methodLink own index y ∈ fx_U) (h2 : Cond.instanceMethod y ∈ fx_U) (h3 : Cond.selects C y y ∈ fx_U) (h4 : Cond.initialized C ∈ fx_U) (h5 : Cond.code y bytes maxL rt ∈ fx_U) (hrc : rm.cells = mc) (hrs : rm.slots = ms)
    (hd : y.cls = C ∧ y.cls ≠ "java/lang/invoke/MethodHandle" ∧ y.cls ≠ "java/lang/invoke/VarHandle" ∧ (parseMethodDescriptor y.desc).map (fun d => d.parameters.length) = some n) (hR : rm.frames + 1 ≤ R.frames ∧ 8 + (maxL + 11) + rm.locals ≤ R.locals) :
    CallW R s args own C index y bytes maxL rt (Cond.code y bytes maxL rt :: fx_U) rm mc ms n := by
  refine cwV n hts (fx_gd h5 (ws := [.methodLink own index y, .instanceMethod y, .selects C y y, .initialized C]) ?_) rfl hrc hrs hd hR
  intro w hw
  simp only [List.mem_cons, List.not_mem_nil, or_false] at hw
  rcases hw with rfl | rfl | rfl | rfl <;> assumption
theorem fx_cwS {R : Room} {s : State} {args : Array Value} {own : String} {index maxL mc ms : Nat} {y : MethodName} {bytes : ByteArray} {rt : Option FieldType} {rm : Room} (n : Nat) (hts : ∀ w ∈ fx_U, w.before args s = true) (h1 : Cond.methodLink own index y ∈ fx_U) (h2 : Cond.static y ∈ fx_U) (h4 : Cond.initialized y.cls ∈ fx_U) (h5 : Cond.code y bytes maxL rt ∈ fx_U) (hrc : rm.cells = mc) (hrs : rm.slots = ms)
    (hd : y.cls ≠ "java/lang/invoke/MethodHandle" ∧ y.cls ≠ "java/lang/invoke/VarHandle" ∧ (parseMethodDescriptor y.desc).map (fun d => d.parameters.length) = some n) (hR : rm.frames + 1 ≤ R.frames ∧ 8 + (maxL + 11) + rm.locals ≤ R.locals) :
    CallB R s args own index y bytes maxL rt (Cond.code y bytes maxL rt :: fx_U) rm mc ms n ∧ (Cond.static y).before args s = true := by
  refine va_cwS n hts (fx_gd h5 (ws := [.methodLink own index y, .static y, .initialized y.cls]) ?_) rfl hrc hrs hd hR
  intro w hw
  simp only [List.mem_cons, List.not_mem_nil, or_false] at hw
  rcases hw with rfl | rfl | rfl <;> assumption
theorem fx_cwSN {R : Room} {s : State} {args : Array Value} {own host : String} {index maxL mc ms : Nat} {y : MethodName} {bytes : ByteArray} {rt : Option FieldType} {rm : Room} (n : Nat) (hts : ∀ w ∈ fx_U, w.before args s = true) (h1 : va_Nw (.methodLinkNest own index y host) s) (h2 : Cond.static y ∈ fx_U) (h4 : Cond.initialized y.cls ∈ fx_U) (h5 : Cond.code y bytes maxL rt ∈ fx_U) (hrc : rm.cells = mc) (hrs : rm.slots = ms)
    (hd : y.cls ≠ "java/lang/invoke/MethodHandle" ∧ y.cls ≠ "java/lang/invoke/VarHandle" ∧ (parseMethodDescriptor y.desc).map (fun d => d.parameters.length) = some n) (hR : rm.frames + 1 ≤ R.frames ∧ 8 + (maxL + 11) + rm.locals ≤ R.locals) :
    va_CN R s args own index y host bytes maxL rt (Cond.code y bytes maxL rt :: fx_U) rm mc ms n ∧ (Cond.static y).before args s = true ∧ True :=
  ⟨va_cnB n hts (fun w hm => by
    have hu : w ∈ fx_U := by
      rcases List.mem_cons.mp hm with h | h
      · rw [h]; exact h5
      · exact h
    exact ⟨hu, fx_Ug hu⟩) rfl hrc hrs h1 (hts _ h4) hd hR, hts _ h2, trivial⟩
/-- a loop, by the number of its rounds: the body says what it needs of the next round -/
def fx_lp {α : Type} (step : (α → Prop) → α → Prop) : Nat → α → Prop
  | 0, _ => False
  | n + 1, a => step (fx_lp step n) a
theorem fx_lp_rule {α : Type} {step : (α → Prop) → α → Prop} (I : α → Prop) (μ : α → Nat) (hs : ∀ (k : α → Prop) (a : α), I a → (∀ b, I b → μ b < μ a → k b) → step k a) : ∀ (m : Nat) (a : α), I a → μ a < m → fx_lp step m a
  | 0, _, _, h => absurd h (Nat.not_lt_zero _)
  | m + 1, a, hI, h => hs _ a hI (fun b hb hlt => fx_lp_rule I μ hs m b hb (by omega))
theorem fx_lp_ex {α : Type} {step : (α → Prop) → α → Prop} (I : α → Prop) (μ : α → Nat) (hs : ∀ (k : α → Prop) (a : α), I a → (∀ b, I b → μ b < μ a → k b) → step k a) (a : α) (h : I a) : ∃ n, fx_lp step n a := ⟨μ a + 1, fx_lp_rule I μ hs _ a h (Nat.lt_succ_self _)⟩
/-- a static table: where it lies, what it holds -/
def fx_tab (C n d : String) (ty : FieldType) (N : Nat) (f : Nat → Int32) (A : Nat → Prop) (U : State) (H : Heap) : Prop := ∃ t : Nat, va_Z C n d (.ref t) A U H ∧ va_T ty t N (fun j => .int (f j)) A U H
theorem fx_tab_move {C n d : String} {ty : FieldType} {N : Nat} {f : Nat → Int32} {A : Nat → Prop} {u U : State} {H H1 : Heap} (hvm : u.vm.Alike U.vm) (hq : ∀ a : Nat, a < H.size → ¬ A a → H1[a]? = H[a]?) (h : fx_tab C n d ty N f A u H) : fx_tab C n d ty N f A U H1 := by
  obtain ⟨t, h1, h2⟩ := h
  exact ⟨t, (h1.moved hvm).kept hq, (h2.moved hvm).kept hq⟩
abbrev fx_tb : Type := String × String × String × FieldType × Nat × (Nat → Int32)
def fx_tabs : List fx_tb := [("FlexLayout", "HIGHEST_SETTING", "[I", .int, 5, fx_tHS), ("FlexLayout", "LOWEST", "[I", .int, 10, fx_tLO), ("FlexLayout", "HIGHEST", "[I", .int, 10, fx_tHI), ("FlexLayout", "FIRST", "[I", .int, 10, fx_tFI), ("FlexLayout", "LETTERS", "[C", .char, 10, fx_tLE), ("FlexLayoutModel", "MOST_SETTING", "[I", .int, 5, fx_tQS), ("FlexLayoutModel", "LEAST", "[I", .int, 10, fx_tQL), ("FlexLayoutModel", "MOST", "[I", .int, 10, fx_tQM), ("FlexLayoutModel", "FIRST", "[I", .int, 10, fx_tQF)]
def fx_strs : List (String × Nat × String) := [("FlexLayout", 64, "no such main size"), ("FlexLayout", 73, "no such cross size"), ("FlexLayout", 78, "no such gap"), ("FlexLayout", 88, "no such setting"), ("FlexLayout", 95, "no such value of the setting"), ("FlexLayout", 104, "no such size"), ("FlexLayout", 267, "there are 20 items"), ("FlexLayout", 269, "no such item"), ("FlexLayout", 273, "no such property"), ("FlexLayout", 130, "no such value of the property"), ("FlexLayout", 141, "the buffer is full"), ("FlexLayout", 166, "no such place"), ("FlexLayout", 177, "no such coordinate"), ("FlexLayout", 271, "no such line"), ("FlexLayout", 221, "no item at this point"), ("FlexLayout", 227, "no such number of lines"), ("FlexLayout", 233, "no main size is wide enough"), ("FlexLayout", 240, "no such number of pixels or weight"), ("FlexLayout", 252, "all weights are 0"), ("FlexLayout", 265, "nothing was saved")]
def fx_nm : List (String × Nat × MethodName × String) := [("FlexLayout", 9, ⟨"FlexLayout$Container", "<init>", "()V"⟩, "FlexLayout"), ("FlexLayout", 25, ⟨"FlexLayout$ItemText", "<init>", "()V"⟩, "FlexLayout"), ("FlexLayout", 32, ⟨"FlexLayout$Division", "<init>", "()V"⟩, "FlexLayout"), ("FlexLayout", 39, ⟨"FlexLayout$Arrangement", "<init>", "()V"⟩, "FlexLayout"), ("FlexLayout", 46, ⟨"FlexLayout$MainAxis", "<init>", "()V"⟩, "FlexLayout"), ("FlexLayout", 53, ⟨"FlexLayout$CrossAxis", "<init>", "()V"⟩, "FlexLayout"), ("FlexLayout$CrossAxis", 96, ⟨"FlexLayout", "offset", "(IIII)I"⟩, "FlexLayout"), ("FlexLayout$MainAxis", 114, ⟨"FlexLayout", "offset", "(IIII)I"⟩, "FlexLayout"), ("FlexLayout$ItemText", 31, ⟨"FlexLayout", "canHave", "(II)Z"⟩, "FlexLayout")]
def fx_nf : List (String × Nat × String × String × String × String) := [("FlexLayout$Container", 48, "FlexLayout", "FIRST", "[I", "FlexLayout"), ("FlexLayout$ItemText", 35, "FlexLayout", "LETTERS", "[C", "FlexLayout")]
def fx_ex : List String := ["java/lang/IllegalArgumentException", "java/lang/IllegalStateException", "java/lang/IndexOutOfBoundsException", "java/lang/ArithmeticException", "java/util/NoSuchElementException"]
def fx_dc : List MethodName := [Bundle.initS "java/lang/RuntimeException", Bundle.initS "java/lang/Exception", Bundle.initS Bundle.tN]
/-- what the tables say beside the words: the static tables, the texts, the nest mates' links, the throws' own statics, which exceptions are no others -/
def fx_St (g : fx_Geo) (U : State) : Prop :=
  (∀ q ∈ fx_tabs, fx_tab q.1 q.2.1 q.2.2.1 q.2.2.2.1 q.2.2.2.2.1 q.2.2.2.2.2 (fx_A g) U U.heap) ∧
  (∀ q ∈ fx_strs, ∃ a, vk_R q.1 q.2.1 q.2.2 a U) ∧
  (∀ q ∈ fx_nm, va_Nw (.methodLinkNest q.1 q.2.1 q.2.2.1 q.2.2.2) U) ∧
  (∀ q ∈ fx_nf, va_Nw (.fieldLinkNest q.1 q.2.1 q.2.2.1 q.2.2.2.1 q.2.2.2.2.1 q.2.2.2.2.2) U) ∧
  vx_Zq Bundle.tN "UNASSIGNED_STACK" Bundle.steD (fx_A g) U U.heap ∧ vx_Zq Bundle.tN "SUPPRESSED_SENTINEL" Bundle.listD (fx_A g) U U.heap ∧
  (∀ a ∈ fx_ex, ∀ b ∈ fx_ex, a ≠ b → va_Nc a b U) ∧ (∀ a ∈ fx_ex, va_Nw (.castable a a) U) ∧ (∀ y ∈ fx_dc, va_Nw (.declares y) U)
theorem fx_St_warm {g : fx_Geo} {s U : State} (hW : s.WarmedH U.vm) (hq : ∀ a : Nat, a < s.heap.size → ¬ fx_A g a → U.heap[a]? = s.heap[a]?) (h : fx_St g s) : fx_St g U := by
  obtain ⟨h1, h2, h3, h4, h5, h6, h7, h8, h9⟩ := h
  refine ⟨fun q hm => fx_tab_move hW.alike hq (h1 q hm), fun q hm => ?_, fun q hm => (h3 q hm).warmM hW, fun q hm => (h4 q hm).warmF hW, (h5.moved hW.alike).kept hq, (h6.moved hW.alike).kept hq, fun a ha b hb hne => (h7 a ha b hb hne).moved hW.alike, fun a ha => (h8 a ha).warmC hW, fun y hy => (h9 y hy).warmD hW⟩
  obtain ⟨a, ha⟩ := h2 q hm
  exact ⟨a, ha.warm hW⟩
def fx_Pw (g : fx_Geo) (M : fx_Mem) (t : State) : Prop := va_P g.1 vwCl (fx_wd g M) t.heap
def fx_At (g : fx_Geo) (M : fx_Mem) (U : State) : Prop := g.2.2.2 ≤ U.heap.size ∧ va_P g.1 vwCl (fx_wd g M) U.heap ∧ va_K g.1 vwCl (fx_tys g) U ∧ fx_St g U
theorem fx_blind (g : fx_Geo) (M : fx_Mem) (av : List Value) : FrameBlind (va_Pc av (fx_At g M)) := by
  intro a U f mk h
  obtain ⟨h0, h1, h2, h3, h4⟩ := h
  exact ⟨h0, h1, h2, va_K.moved (u := U) (U := U.calling f mk a) (Vm.Alike.refl U.vm) h3, fx_St_warm (s := U) (U := U.calling f mk a) (State.WarmedH.refl U) (fun _ _ _ => rfl) h4⟩
/-- what a body has at hand at each of its places -/
def fx_Cx (g : fx_Geo) (p : Program) (s : State) (m : MethodId) (args : Array Value) (meth : Method) (c : Code) (own : String) (cc : ByteArray) (nL : Nat) (ret : Option FieldType) : Prop :=
  p.tables.exec = Jvm.exec ∧ c.code = cc ∧ meth.sig.returnType = ret ∧ c.maxLocals = nL ∧ s.vm.findClass own = some m.cls ∧ (∀ w ∈ fx_U, w.before args s = true) ∧ meth.locks = false ∧ g.2.2.2 ≤ s.heap.size ∧ va_K g.1 vwCl (fx_tys g) s ∧ fx_Gd g ∧ fx_St g s
section FXR
variable {g : fx_Geo} {p : Program} {l : Launch} {e : Env} {R : Room} {s : State} {m : MethodId} {args : Array Value} {below : List Frame} {meth : Method} {c : Code} {H : Heap} {locs : List Loc} {cells slots : Nat} {Q : State → Prop}
variable {own : String} {cc : ByteArray} {nL pc : Nat} {ret : Option FieldType} {ls : Array Slot} {rest : List Value} {M : fx_Mem}
/-- the world, at some place of a body -/
def fx_H (g : fx_Geo) (s : State) (M : fx_Mem) (H : Heap) (locs : List Loc) : Prop := va_P g.1 vwCl (fx_wd g M) H ∧ va_S (fx_A g) s.heap H locs
theorem fx_get (C : fx_Cx g p s m args meth c own cc nL ret) (hH : fx_H g s M H locs) {ci N index o : Nat} {Cn ref : String} {T : u_T} {fs : List Value} {v : Value} (he : (fx_wd g M)[o]? = some (fx_a g o, .inr (ci, fs))) (hc : vwCl[ci]? = some (Cn, T, N)) (hin : ∀ w ∈ u_ws Cn T N, w ∈ fx_U) (k : Nat) (hk : k < N) (hlink : Cond.fieldLink own index ref (T k).2.1 (T k).2.2.1 ∈ fx_U) (hr : (T k).1 = ref) (hv : fs[k]? = some v) (hdg : decode cc pc = .ok (.getfield index, 3))
    (kk : W p l e R s m args below meth c H locs cells slots Q (F0 m (pc + 3) ls (v :: rest))) : W p l e R s m args below meth c H locs cells slots Q (F0 m pc ls (.ref (fx_a g o) :: rest)) := by
  obtain ⟨hx, hb, -, -, hown, hts, -, -, hK, -⟩ := C
  exact va_get hx hb hts hin hown hK hH.1 o he hc k hk (hts _ hlink) (fun _ h => by rw [← hr]; exact h) hv hdg kk
theorem fx_put (C : fx_Cx g p s m args meth c own cc nL ret) (hH : fx_H g s M H locs) {ci N index o : Nat} {Cn ref : String} {T : u_T} {fs : List Value} {v : Value} {M' : fx_Mem} (he : (fx_wd g M)[o]? = some (fx_a g o, .inr (ci, fs))) (hc : vwCl[ci]? = some (Cn, T, N)) (hin : ∀ w ∈ u_ws Cn T N, w ∈ fx_U) (ty0 : Nat → FieldType) (hty : ∀ k, k < N → parseFieldDescriptor (T k).2.2.1 = some (ty0 k)) (hnm : ∀ a, a < N → ∀ b, b < N → a ≠ b → (T a).2.1 ≠ (T b).2.1) (k : Nat) (hk : k < N) (hlink : Cond.fieldLink own index ref (T k).2.1 (T k).2.2.1 ∈ fx_U) (hr : (T k).1 = ref) (hfin : (T k).2.2.2 = false) {ty : FieldType} (hd : parseFieldDescriptor (T k).2.2.1 = some ty) (hn : narrow ty v = v) (hfit : fits ty v = true) (hl : k < fs.length)
    (hset : (fx_wd g M).set o (fx_a g o, .inr (ci, fs.set k v)) = fx_wd g M') (hdg : decode cc pc = .ok (.putfield index, 3))
    (kk : ∀ (H1 : Heap) (locs1 : List Loc), fx_H g s M' H1 locs1 → W p l e R s m args below meth c H1 locs1 cells slots Q (F0 m (pc + 3) ls rest)) : W p l e R s m args below meth c H locs cells slots Q (F0 m pc ls (v :: .ref (fx_a g o) :: rest)) := by
  obtain ⟨hx, hb, -, -, hown, hts, -, -, hK, hG, -⟩ := C
  refine va_put hx hb hts hin ty0 hty hnm hown hK hH.1 (hG M) hH.2 o he hc k hk (hts _ hlink) (fun _ h => by rw [← hr]; exact h) hfin hd hn hfit hl hdg (fun H1 locs1 hP _ hS => ?_)
  rw [hset] at hP
  exact kk H1 locs1 ⟨hP, hS⟩
theorem fx_iald (C : fx_Cx g p s m args meth c own cc nL ret) (hH : fx_H g s M H locs) {a n : Nat} {f : Nat → Int32} (o : Nat) (ha : (fx_wd g M)[o]? = some (a, .inl (fx_cI g, n, .inl f))) {i : Int32} {j : Nat} (hj : i.toNatClampNeg = j) (hin : vp_in i n) (hdg : decode cc pc = .ok (.iaload, 1))
    (kk : W p l e R s m args below meth c H locs cells slots Q (F0 m (pc + 1) ls (.int (f j) :: rest))) : W p l e R s m args below meth c H locs cells slots Q (F0 m pc ls (.int i :: .ref a :: rest)) := by
  subst hj
  obtain ⟨hx, hb, -, -, -, -, -, -, hK, -⟩ := C
  exact va_iald hx hb hK hH.1 o 0 ha rfl hin hdg kk
theorem fx_zald (C : fx_Cx g p s m args meth c own cc nL ret) (hH : fx_H g s M H locs) {a n : Nat} {f : Nat → Int32} (o : Nat) (ha : (fx_wd g M)[o]? = some (a, .inl (fx_cZ g, n, .inl f))) {i : Int32} {j : Nat} (hj : i.toNatClampNeg = j) (hin : vp_in i n) (hdg : decode cc pc = .ok (.baload, 1))
    (kk : W p l e R s m args below meth c H locs cells slots Q (F0 m (pc + 1) ls (.int (f j) :: rest))) : W p l e R s m args below meth c H locs cells slots Q (F0 m pc ls (.int i :: .ref a :: rest)) := by
  subst hj
  obtain ⟨hx, hb, -, -, -, -, -, -, hK, -⟩ := C
  exact va_zald hx hb hK hH.1 o 2 ha rfl hin hdg kk
theorem fx_cald (C : fx_Cx g p s m args meth c own cc nL ret) (hH : fx_H g s M H locs) {a n : Nat} {f : Nat → Int32} (o : Nat) (ha : (fx_wd g M)[o]? = some (a, .inl (fx_cC g, n, .inl f))) {i : Int32} {j : Nat} (hj : i.toNatClampNeg = j) (hin : vp_in i n) (hdg : decode cc pc = .ok (.caload, 1))
    (kk : W p l e R s m args below meth c H locs cells slots Q (F0 m (pc + 1) ls (.int (f j) :: rest))) : W p l e R s m args below meth c H locs cells slots Q (F0 m pc ls (.int i :: .ref a :: rest)) := by
  subst hj
  obtain ⟨hx, hb, -, -, -, -, -, -, hK, -⟩ := C
  exact va_cald hx hb hK hH.1 o 3 ha rfl hin hdg kk
theorem fx_lald (C : fx_Cx g p s m args meth c own cc nL ret) (hH : fx_H g s M H locs) {a n : Nat} {f : Nat → Int64} (o : Nat) (ha : (fx_wd g M)[o]? = some (a, .inl (fx_cJ g, n, .inr (.inl f)))) {i : Int32} {j : Nat} (hj : i.toNatClampNeg = j) (hin : vp_in i n) (hdg : decode cc pc = .ok (.laload, 1))
    (kk : W p l e R s m args below meth c H locs cells slots Q (F0 m (pc + 1) ls (.long (f j) :: rest))) : W p l e R s m args below meth c H locs cells slots Q (F0 m pc ls (.int i :: .ref a :: rest)) := by
  subst hj
  obtain ⟨hx, hb, -, -, -, -, -, -, hK, -⟩ := C
  exact va_lald hx hb hK hH.1 o 1 ha rfl hin hdg kk
/-- a row of a grid: rows of int[][] never move -/
theorem fx_aald (C : fx_Cx g p s m args meth c own cc nL ret) (hH : fx_H g s M H locs) {a b : Nat} (o : Nat) (ha : (fx_wd g M)[o]? = some (a, .inl (fx_cR g, 20, .inr (.inr (.inr (.inr (fun i => if i < 20 then some (fx_a g (b + i)) else none))))))) {i : Int32} (hin : vp_in i 20) (hdg : decode cc pc = .ok (.aaload, 1))
    (kk : W p l e R s m args below meth c H locs cells slots Q (F0 m (pc + 1) ls (.ref (fx_a g (b + i.toNatClampNeg)) :: rest))) : W p l e R s m args below meth c H locs cells slots Q (F0 m pc ls (.int i :: .ref a :: rest)) := by
  obtain ⟨hx, hb, -, -, -, -, -, -, hK, -⟩ := C
  have hlt : i.toNatClampNeg < 20 := Nat.not_le.mp fun q => hin (Or.inr q)
  have hcell : H[a]? = some (arrV (fx_cR g) 20 (fun j => va_rf (if j < 20 then some (fx_a g (b + j)) else none))) := by
    have h1 := hH.1 o _ ha
    exact h1
  have harr := (hK.2 4 (fx_cR g, .array .int) rfl).1 20 (fun j => va_rf (if j < 20 then some (fx_a g (b + j)) else none))
  generalize hcl : arrV (fx_cR g) 20 (fun j => va_rf (if j < 20 then some (fx_a g (b + j)) else none)) = cell at hcell harr
  have hsz : cell.slots.size = 20 := by rw [← hcl, arrV_size]
  have hv : cell.slots[i.toNatClampNeg]? = some (.ref (fx_a g (b + i.toNatClampNeg))) := by
    rw [← hcl, arrV_read _ _ hlt, if_pos hlt]
    rfl
  have hkn : cell.vm ≠ .unknown := by
    rw [← hcl]
    exact fun q => by cases q
  exact W.aald (v := .ref (fx_a g (b + i.toNatClampNeg))) (ty := .array .int) hx hb hcell harr rfl hkn (by rw [hsz]; exact hin) hv rfl rfl hdg kk
theorem fx_iast (C : fx_Cx g p s m args meth c own cc nL ret) (hH : fx_H g s M H locs) {a n : Nat} {f : Nat → Int32} {M' : fx_Mem} (o : Nat) {i x : Int32} {j : Nat} (hj : i.toNatClampNeg = j) (ha : (fx_wd g M)[o]? = some (a, .inl (fx_cI g, n, .inl f))) (hset : (fx_wd g M).set o (a, .inl (fx_cI g, n, .inl (upd f j x))) = fx_wd g M') (hin : vp_in i n) (hdg : decode cc pc = .ok (.iastore, 1))
    (kk : ∀ (H1 : Heap) (locs1 : List Loc), fx_H g s M' H1 locs1 → W p l e R s m args below meth c H1 locs1 cells slots Q (F0 m (pc + 1) ls rest)) : W p l e R s m args below meth c H locs cells slots Q (F0 m pc ls (.int x :: .int i :: .ref a :: rest)) := by
  subst hj
  obtain ⟨hx, hb, -, -, -, -, -, -, hK, hG, -⟩ := C
  refine va_iast hx hb hK hH.1 (hG M) hH.2 o 0 ha rfl hin hdg (fun H1 locs1 hP _ hS => ?_)
  rw [hset] at hP
  exact kk H1 locs1 ⟨hP, hS⟩
theorem fx_zast (C : fx_Cx g p s m args meth c own cc nL ret) (hH : fx_H g s M H locs) {a n : Nat} {f : Nat → Int32} {M' : fx_Mem} (o : Nat) {i x : Int32} {j : Nat} (hj : i.toNatClampNeg = j) (ha : (fx_wd g M)[o]? = some (a, .inl (fx_cZ g, n, .inl f))) (hset : (fx_wd g M).set o (a, .inl (fx_cZ g, n, .inl (upd f j (vp_nar .boolean x)))) = fx_wd g M') (hin : vp_in i n) (hdg : decode cc pc = .ok (.bastore, 1))
    (kk : ∀ (H1 : Heap) (locs1 : List Loc), fx_H g s M' H1 locs1 → W p l e R s m args below meth c H1 locs1 cells slots Q (F0 m (pc + 1) ls rest)) : W p l e R s m args below meth c H locs cells slots Q (F0 m pc ls (.int x :: .int i :: .ref a :: rest)) := by
  subst hj
  obtain ⟨hx, hb, -, -, -, -, -, -, hK, hG, -⟩ := C
  refine va_zast hx hb hK hH.1 (hG M) hH.2 o 2 ha rfl hin hdg (fun H1 locs1 hP _ hS => ?_)
  rw [hset] at hP
  exact kk H1 locs1 ⟨hP, hS⟩
theorem fx_cast (C : fx_Cx g p s m args meth c own cc nL ret) (hH : fx_H g s M H locs) {a n : Nat} {f : Nat → Int32} {M' : fx_Mem} (o : Nat) {i x : Int32} {j : Nat} (hj : i.toNatClampNeg = j) (ha : (fx_wd g M)[o]? = some (a, .inl (fx_cC g, n, .inl f))) (hset : (fx_wd g M).set o (a, .inl (fx_cC g, n, .inl (upd f j (vp_nar .char x)))) = fx_wd g M') (hin : vp_in i n) (hdg : decode cc pc = .ok (.castore, 1))
    (kk : ∀ (H1 : Heap) (locs1 : List Loc), fx_H g s M' H1 locs1 → W p l e R s m args below meth c H1 locs1 cells slots Q (F0 m (pc + 1) ls rest)) : W p l e R s m args below meth c H locs cells slots Q (F0 m pc ls (.int x :: .int i :: .ref a :: rest)) := by
  subst hj
  obtain ⟨hx, hb, -, -, -, -, -, -, hK, hG, -⟩ := C
  refine va_cast hx hb hK hH.1 (hG M) hH.2 o 3 ha rfl hin hdg (fun H1 locs1 hP _ hS => ?_)
  rw [hset] at hP
  exact kk H1 locs1 ⟨hP, hS⟩
theorem fx_last (C : fx_Cx g p s m args meth c own cc nL ret) (hH : fx_H g s M H locs) {a n : Nat} {f : Nat → Int64} {M' : fx_Mem} (o : Nat) {i : Int32} {x : Int64} {j : Nat} (hj : i.toNatClampNeg = j) (ha : (fx_wd g M)[o]? = some (a, .inl (fx_cJ g, n, .inr (.inl f)))) (hset : (fx_wd g M).set o (a, .inl (fx_cJ g, n, .inr (.inl (vp_updL f j x)))) = fx_wd g M') (hin : vp_in i n) (hdg : decode cc pc = .ok (.lastore, 1))
    (kk : ∀ (H1 : Heap) (locs1 : List Loc), fx_H g s M' H1 locs1 → W p l e R s m args below meth c H1 locs1 cells slots Q (F0 m (pc + 1) ls rest)) : W p l e R s m args below meth c H locs cells slots Q (F0 m pc ls (.long x :: .int i :: .ref a :: rest)) := by
  subst hj
  obtain ⟨hx, hb, -, -, -, -, -, -, hK, hG, -⟩ := C
  refine va_last hx hb hK hH.1 (hG M) hH.2 o 1 ha rfl hin hdg (fun H1 locs1 hP _ hS => ?_)
  rw [hset] at hP
  exact kk H1 locs1 ⟨hP, hS⟩
/-- a place of a static table -/
theorem fx_gets (C : fx_Cx g p s m args meth c own cc nL ret) (hH : fx_H g s M H locs) (k : Nat) {q : fx_tb} (hq : fx_tabs[k]? = some q) {index : Nat} (hlink : Cond.fieldLink own index q.1 q.2.1 q.2.2.1 ∈ fx_U) (hdg : decode cc pc = .ok (.getstatic index, 3))
    (kk : ∀ t : Nat, va_T q.2.2.2.1 t q.2.2.2.2.1 (fun j => .int (q.2.2.2.2.2 j)) (fx_A g) s s.heap → W p l e R s m args below meth c H locs cells slots Q (F0 m (pc + 3) ls (.ref t :: rest))) : W p l e R s m args below meth c H locs cells slots Q (F0 m pc ls rest) := by
  obtain ⟨hx, hb, -, -, hown, hts, -, -, hK, hG, hSt⟩ := C
  obtain ⟨t, h1, h2⟩ := hSt.1 q (List.mem_of_getElem? hq)
  exact va_gets hx hb h1 hH.2 hown (hts _ hlink) (fun _ h => h) hdg (kk t h2)
theorem fx_getsN (C : fx_Cx g p s m args meth c own cc nL ret) (hH : fx_H g s M H locs) (k : Nat) {q : fx_tb} (hq : fx_tabs[k]? = some q) {index : Nat} {host : String} (hlink : (own, index, q.1, q.2.1, q.2.2.1, host) ∈ fx_nf) (hdg : decode cc pc = .ok (.getstatic index, 3))
    (kk : ∀ t : Nat, va_T q.2.2.2.1 t q.2.2.2.2.1 (fun j => .int (q.2.2.2.2.2 j)) (fx_A g) s s.heap → W p l e R s m args below meth c H locs cells slots Q (F0 m (pc + 3) ls (.ref t :: rest))) : W p l e R s m args below meth c H locs cells slots Q (F0 m pc ls rest) := by
  obtain ⟨hx, hb, -, -, hown, hts, -, -, hK, hG, hSt⟩ := C
  obtain ⟨t, h1, h2⟩ := hSt.1 q (List.mem_of_getElem? hq)
  exact va_getsN hx hb h1 hH.2 hown (va_Nw.use rfl (hSt.2.2.2.1 _ hlink)) (fun _ h => h) hdg (kk t h2)
theorem fx_ti (C : fx_Cx g p s m args meth c own cc nL ret) (hH : fx_H g s M H locs) {t N : Nat} {f : Nat → Int32} (hT : va_T .int t N (fun j => .int (f j)) (fx_A g) s s.heap) {i : Int32} {j : Nat} (hj : i.toNatClampNeg = j) (hin : vp_in i N) (hdg : decode cc pc = .ok (.iaload, 1))
    (kk : W p l e R s m args below meth c H locs cells slots Q (F0 m (pc + 1) ls (.int (f j) :: rest))) : W p l e R s m args below meth c H locs cells slots Q (F0 m pc ls (.int i :: .ref t :: rest)) := by
  subst hj
  obtain ⟨hx, hb, -⟩ := C
  exact va_ti hx hb hT hH.2 hin rfl hdg kk
theorem fx_tc (C : fx_Cx g p s m args meth c own cc nL ret) (hH : fx_H g s M H locs) {t N : Nat} {f : Nat → Int32} (hT : va_T .char t N (fun j => .int (f j)) (fx_A g) s s.heap) {i : Int32} {j : Nat} (hj : i.toNatClampNeg = j) (hin : vp_in i N) (hdg : decode cc pc = .ok (.caload, 1))
    (kk : W p l e R s m args below meth c H locs cells slots Q (F0 m (pc + 1) ls (.int (f j) :: rest))) : W p l e R s m args below meth c H locs cells slots Q (F0 m pc ls (.int i :: .ref t :: rest)) := by
  subst hj
  obtain ⟨hx, hb, -⟩ := C
  exact va_tc hx hb hT hH.2 hin rfl hdg kk
-- ends
theorem fx_iret {post : Int32 → fx_Mem → Prop} (C : fx_Cx g p s m args meth c own cc nL (some .int)) (hH : fx_H g s M H locs) {v : Int32} (hq : post v M) (hdg : decode cc pc = .ok (.ireturn, 1)) : W p l e R s m args below meth c H locs cells slots (MQ below (va_Qi post (fx_Pw g) (fx_A g)) args s cells slots (fx_A g)) (F0 m pc ls [.int v]) := by
  obtain ⟨hx, hb, hr, -, -, -, hlocks, -⟩ := C
  exact W.iret (v := v) hx hb hr (fun t ht _ => ⟨⟨v, M, rfl, hq, by unfold fx_Pw; rw [ht]; exact hH.1⟩, hH.2.F ht⟩) hH.2.2.2 hdg hlocks
theorem fx_zret {post : Int32 → fx_Mem → Prop} (C : fx_Cx g p s m args meth c own cc nL (some .boolean)) (hH : fx_H g s M H locs) {v : Int32} (hv : v = 0 ∨ v = 1) (hq : post v M) (hdg : decode cc pc = .ok (.ireturn, 1)) : W p l e R s m args below meth c H locs cells slots (MQ below (va_Qi post (fx_Pw g) (fx_A g)) args s cells slots (fx_A g)) (F0 m pc ls [.int v]) := by
  obtain ⟨hx, hb, hr, -, -, -, hlocks, -⟩ := C
  exact W.zret (v := v) hx hb hr (by rcases hv with h | h <;> rw [h] <;> rfl) (fun t ht _ => ⟨⟨v, M, rfl, hq, by unfold fx_Pw; rw [ht]; exact hH.1⟩, hH.2.F ht⟩) hH.2.2.2 hdg hlocks
theorem fx_lret {post : Int64 → fx_Mem → Prop} (C : fx_Cx g p s m args meth c own cc nL (some .long)) (hH : fx_H g s M H locs) {v : Int64} (hq : post v M) (hdg : decode cc pc = .ok (.lreturn, 1)) : W p l e R s m args below meth c H locs cells slots (MQ below (va_Ql post (fx_Pw g) (fx_A g)) args s cells slots (fx_A g)) (F0 m pc ls [.long v]) := by
  obtain ⟨hx, hb, hr, -, -, -, hlocks, -⟩ := C
  exact W.lret (v := v) hx hb hr (fun t ht _ => ⟨⟨v, M, rfl, hq, by unfold fx_Pw; rw [ht]; exact hH.1⟩, hH.2.F ht⟩) hH.2.2.2 hdg hlocks
theorem fx_vret {post : fx_Mem → Prop} (C : fx_Cx g p s m args meth c own cc nL none) (hH : fx_H g s M H locs) (hq : post M) (hdg : decode cc pc = .ok (.return_, 1)) : W p l e R s m args below meth c H locs cells slots (MQ below (va_Qv post (fx_Pw g) (fx_A g)) args s cells slots (fx_A g)) (F0 m pc ls []) := by
  obtain ⟨hx, hb, hr, -, -, -, hlocks, -⟩ := C
  exact W.vret hx hb hr (fun t ht _ => ⟨⟨M, rfl, hq, by unfold fx_Pw; rw [ht]; exact hH.1⟩, hH.2.F ht⟩) hH.2.2.2 hdg hlocks
-- calls
theorem fx_pre (C : fx_Cx g p s m args meth c own cc nL ret) (hH : fx_H g s M H locs) (av : List Value) : ∀ U : State, U.heap = H → s.WarmedH U.vm → va_Pc av (fx_At g M) av.toArray U := by
  obtain ⟨-, -, -, -, -, -, -, hsz, hK, -, hSt⟩ := C
  intro U hU hW
  exact ⟨rfl, by rw [hU]; exact Nat.le_trans hsz hH.2.1, by rw [hU]; exact hH.1, va_K.moved hW.alike hK, fx_St_warm hW (fun a h1 h2 => by rw [hU]; exact hH.2.2.1 a h1 h2) hSt⟩
variable {y : MethodName} {ws : List Cond} {rm : Room} {bytes : ByteArray} {maxL n index mc ms : Nat} {rt : Option FieldType} {As st0 : List Value}
theorem fx_runV {Qc : Array Value → State → Outcome → State → Prop} {Cn : String} {T : u_T} {N ci o : Nat} {fs : List Value} (C : fx_Cx g p s m args meth c own cc nL ret) (hH : fx_H g s M H locs)
    (hM : Met l y ws rm (va_Pc (.ref (fx_a g o) :: As) (fx_At g M)) Qc mc ms (fx_A g)) (cw : CallW R s args own Cn index y bytes maxL rt ws rm mc ms n) (he : (fx_wd g M)[o]? = some (fx_a g o, .inr (ci, fs))) (hc : vwCl[ci]? = some (Cn, T, N)) (hn : As.length = n) (hls : ls.size = nL) (hst : st0 = As.reverse ++ .ref (fx_a g o) :: rest) (hrm : (rest.map fun v => v.category).sum ≤ 8) (hdg : decode cc pc = .ok (.invokevirtual index, 3)) (hf : cells + mc ≤ R.cells ∧ slots + ms ≤ R.slots) :
    va_Run p l e R s m args below meth c H locs cells slots mc ms (F0 m pc ls st0) rest (Qc (.ref (fx_a g o) :: As).toArray) (fx_A g) := by
  have hpre := fx_pre C hH (.ref (fx_a g o) :: As)
  obtain ⟨hx, hb, -, hml, hown, hts, -, -, hK, -⟩ := C
  exact va_runV (As := As) (rest := rest) ⟨hx, hb, hml, hown, hts⟩ hM cw ⟨fx_blind g M _, va_recv hK hH.1 hc he, hpre⟩ rfl hn hls hst (lv_room hrm) hdg hf
theorem fx_runS {Qc : Array Value → State → Outcome → State → Prop} (C : fx_Cx g p s m args meth c own cc nL ret) (hH : fx_H g s M H locs)
    (hM : Met l y ws rm (va_Pc As (fx_At g M)) Qc mc ms (fx_A g)) (cw : CallB R s args own index y bytes maxL rt ws rm mc ms n ∧ (Cond.static y).before args s = true) (hn : As.length = n) (hls : ls.size = nL) (hst : st0 = As.reverse ++ rest) (hrm : (rest.map fun v => v.category).sum ≤ 8) (hdg : decode cc pc = .ok (.invokestatic index, 3)) (hf : cells + mc ≤ R.cells ∧ slots + ms ≤ R.slots) :
    va_Run p l e R s m args below meth c H locs cells slots mc ms (F0 m pc ls st0) rest (Qc As.toArray) (fx_A g) := by
  have hpre := fx_pre C hH As
  obtain ⟨hx, hb, -, hml, hown, hts, -, -, hK, -⟩ := C
  exact va_runS (As := As) (rest := rest) ⟨hx, hb, hml, hown, hts⟩ hM cw ⟨fx_blind g M _, hpre⟩ rfl hn hls hst (lv_room hrm) hdg hf
theorem fx_runSN {Qc : Array Value → State → Outcome → State → Prop} {host : String} (C : fx_Cx g p s m args meth c own cc nL ret) (hH : fx_H g s M H locs)
    (hM : Met l y ws rm (va_Pc As (fx_At g M)) Qc mc ms (fx_A g)) (cw : va_CN R s args own index y host bytes maxL rt ws rm mc ms n ∧ (Cond.static y).before args s = true ∧ True) (hn : As.length = n) (hls : ls.size = nL) (hst : st0 = As.reverse ++ rest) (hrm : (rest.map fun v => v.category).sum ≤ 8) (hdg : decode cc pc = .ok (.invokestatic index, 3)) (hf : cells + mc ≤ R.cells ∧ slots + ms ≤ R.slots) :
    va_Run p l e R s m args below meth c H locs cells slots mc ms (F0 m pc ls st0) rest (Qc As.toArray) (fx_A g) := by
  have hpre := fx_pre C hH As
  obtain ⟨hx, hb, -, hml, hown, hts, -, -, hK, -⟩ := C
  exact va_runSN (As := As) (rest := rest) ⟨hx, hb, hml, hown, hts⟩ hM cw ⟨fx_blind g M _, hpre⟩ rfl hn hls hst (lv_room hrm) hdg hf
theorem fx_ci {post : Int32 → fx_Mem → Prop} {av : Array Value} (hH : fx_H g s M H locs) (hr : va_Run p l e R s m args below meth c H locs cells slots 0 0 (F0 m pc ls st0) rest (va_Qi post (fx_Pw g) (fx_A g) av) (fx_A g))
    (kk : ∀ (r : Int32) (M' : fx_Mem) (H1 : Heap) (locs1 : List Loc), post r M' → fx_H g s M' H1 locs1 → W p l e R s m args below meth c H1 locs1 cells slots Q (F0 m (pc + 3) ls (.int r :: rest))) : W p l e R s m args below meth c H locs cells slots Q (F0 m pc ls st0) :=
  va_calli hr hH.2 (fun _ _ h => h) (fun _ h => h) (fun r u t H1 locs1 ht _ hw hB _ _ hS => kk r u H1 locs1 hw ⟨by rw [← ht]; exact hB, hS⟩)
theorem fx_cl {post : Int64 → fx_Mem → Prop} {av : Array Value} (hH : fx_H g s M H locs) (hr : va_Run p l e R s m args below meth c H locs cells slots 0 0 (F0 m pc ls st0) rest (va_Ql post (fx_Pw g) (fx_A g) av) (fx_A g))
    (kk : ∀ (r : Int64) (M' : fx_Mem) (H1 : Heap) (locs1 : List Loc), post r M' → fx_H g s M' H1 locs1 → W p l e R s m args below meth c H1 locs1 cells slots Q (F0 m (pc + 3) ls (.long r :: rest))) : W p l e R s m args below meth c H locs cells slots Q (F0 m pc ls st0) :=
  va_calll hr hH.2 (fun _ _ h => h) (fun _ h => h) (fun r u t H1 locs1 ht _ hw hB _ _ hS => kk r u H1 locs1 hw ⟨by rw [← ht]; exact hB, hS⟩)
theorem fx_cv {post : fx_Mem → Prop} {av : Array Value} (hH : fx_H g s M H locs) (hr : va_Run p l e R s m args below meth c H locs cells slots 0 0 (F0 m pc ls st0) rest (va_Qv post (fx_Pw g) (fx_A g) av) (fx_A g))
    (kk : ∀ (M' : fx_Mem) (H1 : Heap) (locs1 : List Loc), post M' → fx_H g s M' H1 locs1 → W p l e R s m args below meth c H1 locs1 cells slots Q (F0 m (pc + 3) ls rest)) : W p l e R s m args below meth c H locs cells slots Q (F0 m pc ls st0) :=
  va_callv hr hH.2 (fun _ _ h => h) (fun _ h => h) (fun u t H1 locs1 ht _ hw hB _ _ hS => kk u H1 locs1 hw ⟨by rw [← ht]; exact hB, hS⟩)
-- the start of a body
theorem fx_body {spec : Spec} {s₁ : State} (B : BodyLoose p l y spec cc nL ret e s m args below meth c s₁) (hml : c.maxLocals = nL) (hcls : y.cls = own) (hts : ∀ w ∈ fx_U, w.before args s = true) (hG : fx_Gd g) (hv : fx_At g M s) : fx_Cx g p s m args meth c own cc nL ret ∧ fx_H g s M s.heap [] :=
  ⟨⟨B.exec, B.bytes, B.returns, hml, by rw [← hcls]; exact findClass_of_methodNamed B.named, hts, B.notSynchronized, hv.1, hv.2.2.1, hG, hv.2.2.2⟩, hv.2.1, va_S.rf⟩
end FXR
