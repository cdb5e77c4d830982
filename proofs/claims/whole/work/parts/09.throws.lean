/-! rows of copies, of answers that are a row of a grid, of throws -/
def fx_Qr (g : fx_Geo) (Q : Nat → fx_Mem → Prop) : Array Value → State → Outcome → State → Prop := va_Qr (fun u : Nat × fx_Mem => u.1 < 20 ∧ Q u.1 u.2) (fun u a t => a = fx_a g (57 + u.1) ∧ fx_Pw g u.2 t) (fx_A g)
def fx_XC (g : fx_Geo) (X : String → fx_Mem → Prop) : String → State → State → Prop := vx_X (fun u : String × fx_Mem => X u.1 u.2) (fun E u t => E = u.1 ∧ fx_Pw g u.2 t) (fx_A g)
def fx_fl (l : Launch) (c : Code) : Prop := l.stackTraces = false ∧ ∀ x ∈ c.exceptionTable.toList, False
def fx_n2 : List String := ["java/lang/RuntimeException", "java/lang/Exception"]
def fx_ng (E : String) : List Cond := [.castable E E, .declares (Bundle.initS "java/lang/RuntimeException"), .declares (Bundle.initS "java/lang/Exception"), .declares (Bundle.initS Bundle.tN)]
theorem fx_fit : ∀ a ∈ fx_ex, Bundle.fit a = true := by decide +kernel
theorem fx_fit2 : ∀ a ∈ fx_n2, Bundle.fit a = true := by decide +kernel
section FXS
variable {g : fx_Geo} {p : Program} {l : Launch} {e : Env} {R : Room} {s : State} {m : MethodId} {args : Array Value} {below : List Frame} {meth : Method} {c : Code} {H : Heap} {locs : List Loc} {cells slots : Nat} {Q : State → Prop}
variable {own : String} {cc : ByteArray} {nL pc : Nat} {ret : Option FieldType} {ls : Array Slot} {rest : List Value} {M : fx_Mem}
theorem fx_copy (C : fx_Cx g p s m args meth c own cc nL ret) (hH : fx_H g s M H locs) {index : Nat} (w1 : (Cond.methodLink own index arraycopyName).before args s = true) (w2 : (Cond.native arraycopyName).before args s = true) (w3 : (Cond.static arraycopyName).before args s = true) (w4 : (Cond.initialized "java/lang/System").before args s = true) (hls : ls.size = nL) {a0 a1 n0 n1 k : Nat} {n : Int32} {f0 f1 : Nat → Int32} {M' : fx_Mem} (q0 q1 : Nat)
    (ha0 : (fx_wd g M)[q0]? = some (a0, .inl (fx_cI g, n0, .inl f0))) (ha1 : (fx_wd g M)[q1]? = some (a1, .inl (fx_cI g, n1, .inl f1))) (hset : (fx_wd g M).set q1 (a1, .inl (fx_cI g, n1, .inl (va_cpy f0 f1 0 0 k))) = fx_wd g M') (hn : ¬ n < 0) (hk : n.toNatClampNeg = k) (h5 : k ≤ n0) (h6 : k ≤ n1)
    (hfr : 1 ≤ R.frames) (hlo : (rest.map fun v => v.category).sum + (nativeFrameWords "java/lang/System" "arraycopy" 5 + 11) ≤ R.locals) (hdg : decode cc pc = .ok (.invokestatic index, 3))
    (kk : ∀ (H1 : Heap) (locs1 : List Loc), fx_H g s M' H1 locs1 → W p l e R s m args below meth c H1 locs1 cells slots Q (F0 m (pc + 3) ls rest)) : W p l e R s m args below meth c H locs cells slots Q (F0 m pc ls (.int n :: .int 0 :: .ref a1 :: .int 0 :: .ref a0 :: rest)) := by
  subst hk
  obtain ⟨hx, hb, -, hml, hown, hts, -, -, hK, hG, -⟩ := C
  refine va_copyi hx hb (hml.trans hls.symm) hown w1 w2 w3 w4 hK hH.1 (hG M) hH.2 q0 q1 0 0 ha0 ha1 rfl rfl rfl (by decide) (by decide) hn (by show 0 + _ ≤ _; omega) (by show 0 + _ ≤ _; omega) (fun _ _ => rfl) hfr hlo hdg (fun H1 locs1 hP _ hS => ?_)
  rw [show ((0 : Int32).toNatClampNeg) = 0 from rfl, hset] at hP
  exact kk H1 locs1 ⟨hP, hS⟩
theorem va_copyT {D : va_G} {cl : List vw_C} {A : Nat → Prop} {a : Nat} {tys : List (ClassId × FieldType)} {ws : va_W} (hexec : p.tables.exec = Jvm.exec) (hb : c.code = cc) (hml : c.maxLocals = ls.size) {own : String} {index : Nat} (hown : s.vm.findClass own = some m.cls) (hlink : (Cond.methodLink own index arraycopyName).before args s = true) (hnat : (Cond.native arraycopyName).before args s = true) (hstat : (Cond.static arraycopyName).before args s = true) (hini : (Cond.initialized "java/lang/System").before args s = true)
    (hK : va_K D cl tys s) (hP : va_P D cl ws H) (hD : va_D A ws) (hS : va_S A s.heap H locs) {b0 n0 : Nat} {f : Nat → Int32} (hX : va_T .int b0 n0 (fun j => .int (f j)) A s s.heap) (q1 t1 : Nat) {c1 : ClassId} {n1 : Nat} {g : Nat → Int32} (ha1 : ws[q1]? = some (a, .inl (c1, n1, .inl g))) (ht1 : tys[t1]? = some (c1, .int))
    {sp dp n : Int32} (h1 : ¬ sp < 0) (h2 : ¬ dp < 0) (h3 : ¬ n < 0) (h4 : sp.toNatClampNeg + n.toNatClampNeg ≤ n0) (h5 : dp.toNatClampNeg + n.toNatClampNeg ≤ n1)
    (hframes : 1 ≤ R.frames) (hlocals : (rest.map fun v => v.category).sum + (nativeFrameWords "java/lang/System" "arraycopy" 5 + 11) ≤ R.locals) (hdg : decode cc pc = .ok (.invokestatic index, 3))
    (kk : ∀ (H1 : Heap) (locs1 : List Loc), va_P D cl (ws.set q1 (a, .inl (c1, n1, .inl (va_cpy f g sp.toNatClampNeg dp.toNatClampNeg n.toNatClampNeg)))) H1 → va_S A s.heap H1 locs1 → W p l e R s m args below meth c H1 locs1 cells slots Q (F0 m (pc + 3) ls rest)) : W p l e R s m args below meth c H locs cells slots Q (F0 m pc ls (.int n :: .int dp :: .ref a :: .int sp :: .ref b0 :: rest)) := by
  have nn : ∀ z : Int32, ¬ z < 0 → z.toInt = (z.toNatClampNeg : Int) := by
    intro z hz
    have hz0 : (0 : Int) ≤ z.toInt := by
      have := Int32.not_lt.mp hz
      simpa using Int32.le_iff_toInt_le.mp this
    show z.toInt = ((z.toInt.toNat : Nat) : Int)
    omega
  intro T hT X
  obtain ⟨scr, hs1, hs2, hs3, hs4, -, hs5, hbA⟩ := hX
  have hbl : b0 < s.heap.size := (Array.getElem?_eq_some_iff.mp hs1).1
  have hc0 : H[b0]? = some scr := by rw [hS.2.1 b0 hbl hbA]; exact hs1
  have hc1 : H[a]? = some (vp_cell c1 (n1, .inl g)) := hP q1 _ ha1
  obtain ⟨hs6, k0, hk0, cm0, hkk0⟩ := hs2
  obtain ⟨-, k1, hk1, cm1, hkk1⟩ := (hK.2 t1 _ ht1).1 n1 (fun j => .int (g j))
  obtain ⟨vm', X', step⟩ := X.arraycopy hexec hown hlink hnat hstat hini (src := b0) (dst := a) (cs := scr) (cd := vp_cell c1 (n1, .inl g)) (srcPos := sp) (destPos := dp) (n := n) (by rw [hT]; exact hc0) (by rw [hT]; exact hc1)
    hs6 (fun _ h => by cases h) hs3 (fun h => by cases h) hk0 hk1 hkk0 hkk1 (by simp [refKind]) h1 h2 h3
    (by rw [nn sp h1, nn n h3]; omega)
    (by rw [nn dp h2, nn n h3]; show ¬ _ > ((arrV c1 n1 (fun j => .int (g j))).slots.size : Int); rw [arrV_size]; omega)
    (fun vm₁ _ i hi => by
      have e : scr.slots.getD (sp.toNatClampNeg + i) .null = .int (f (sp.toNatClampNeg + i)) := by
        rw [Array.getD_eq_getD_getElem?, hs5 _ (by omega)]
        rfl
      refine ⟨?_, ?_⟩
      · rw [e]
        rfl
      · rw [e]
        exact trivial)
    (g := F0 m pc ls (.int n :: .int dp :: .ref a :: .int sp :: .ref b0 :: rest)) rfl (by rw [hml]) (rest := rest) rfl (by rw [hb]; exact hdg) hframes (by show 2 * 0 + _ + _ ≤ _; omega)
  have e1 : copied scr (vp_cell c1 (n1, .inl g)) sp dp n = vp_cell c1 (n1, .inl (va_cpy f g sp.toNatClampNeg dp.toNatClampNeg n.toNatClampNeg)) := va_copiedX (fun z => .int z) scr c1 f g hs5 h4
  rw [e1] at X' step
  have hl : a < H.size := (Array.getElem?_eq_some_iff.mp hc1).1
  have hheap : ((T.setVm vm').setCell a (vp_cell c1 (n1, .inl (va_cpy f g sp.toNatClampNeg dp.toNatClampNeg n.toNatClampNeg)))).heap = H.setIfInBounds a (vp_cell c1 (n1, .inl (va_cpy f g sp.toNatClampNeg dp.toNatClampNeg n.toNatClampNeg))) := by rw [← hT]; rfl
  have oq : ∀ q : Nat, q ≠ a → (H.setIfInBounds a (vp_cell c1 (n1, .inl (va_cpy f g sp.toNatClampNeg dp.toNatClampNeg n.toNatClampNeg))))[q]? = H[q]? := fun q hq => by simp [Array.getElem?_setIfInBounds, Ne.symm hq]
  obtain ⟨t, a1, b1⟩ := kk _ _ (hP.set hD ha1 (show (H.setIfInBounds a _)[a]? = some _ by simp [Array.getElem?_setIfInBounds, hl]) oq) ⟨by simp; exact hS.1, fun q g1 g2 => by
      rw [oq q (fun e => g2 (by rw [e]; exact hD.2 q1 _ ha1))]
      exact hS.2.1 q g1 g2, fun q hq => by
      rcases List.mem_append.mp hq with h | h
      · exact hS.2.2 q h
      · obtain ⟨z, -, hz⟩ := List.mem_map.mp h
        rw [← hz]
        exact hD.2 q1 _ ha1⟩ _ hheap X'
  exact ⟨t, step t a1, b1⟩
theorem fx_copyT (C : fx_Cx g p s m args meth c own cc nL ret) (hH : fx_H g s M H locs) {index : Nat} (w1 : (Cond.methodLink own index arraycopyName).before args s = true) (w2 : (Cond.native arraycopyName).before args s = true) (w3 : (Cond.static arraycopyName).before args s = true) (w4 : (Cond.initialized "java/lang/System").before args s = true) (hls : ls.size = nL) {a0 a1 n0 n1 k : Nat} {n : Int32} {f0 f1 : Nat → Int32} {M' : fx_Mem} (hT : va_T .int a0 n0 (fun j => .int (f0 j)) (fx_A g) s s.heap) (q1 : Nat)
    (ha1 : (fx_wd g M)[q1]? = some (a1, .inl (fx_cI g, n1, .inl f1))) (hset : (fx_wd g M).set q1 (a1, .inl (fx_cI g, n1, .inl (va_cpy f0 f1 0 0 k))) = fx_wd g M') (hn : ¬ n < 0) (hk : n.toNatClampNeg = k) (h5 : k ≤ n0) (h6 : k ≤ n1)
    (hfr : 1 ≤ R.frames) (hlo : (rest.map fun v => v.category).sum + (nativeFrameWords "java/lang/System" "arraycopy" 5 + 11) ≤ R.locals) (hdg : decode cc pc = .ok (.invokestatic index, 3))
    (kk : ∀ (H1 : Heap) (locs1 : List Loc), fx_H g s M' H1 locs1 → W p l e R s m args below meth c H1 locs1 cells slots Q (F0 m (pc + 3) ls rest)) : W p l e R s m args below meth c H locs cells slots Q (F0 m pc ls (.int n :: .int 0 :: .ref a1 :: .int 0 :: .ref a0 :: rest)) := by
  subst hk
  obtain ⟨hx, hb, -, hml, hown, hts, -, -, hK, hG, -⟩ := C
  refine va_copyT hx hb (hml.trans hls.symm) hown w1 w2 w3 w4 hK hH.1 (hG M) hH.2 hT q1 0 ha1 rfl (by decide) (by decide) hn (by show 0 + _ ≤ _; omega) (by show 0 + _ ≤ _; omega) hfr hlo hdg (fun H1 locs1 hP hS => ?_)
  rw [show ((0 : Int32).toNatClampNeg) = 0 from rfl, hset] at hP
  exact kk H1 locs1 ⟨hP, hS⟩
theorem fx_aret {post : Nat → fx_Mem → Prop} (C : fx_Cx g p s m args meth c own cc nL (some (.array .int))) (hH : fx_H g s M H locs) {j : Nat} (hq : post j M) (hj : j < 20) (hdg : decode cc pc = .ok (.areturn, 1)) : W p l e R s m args below meth c H locs cells slots (MQ below (fx_Qr g post) args s cells slots (fx_A g)) (F0 m pc ls [.ref (fx_a g (57 + j))]) := by
  obtain ⟨hx, hb, hr, -, -, -, hlocks, -⟩ := C
  exact W.aret hx hb hr (Or.inr ⟨_, rfl⟩) (Or.inr ⟨_, rfl⟩) (fun t ht _ => ⟨⟨(j, M), _, rfl, ⟨hj, hq⟩, rfl, by unfold fx_Pw; rw [ht]; exact hH.1⟩, hH.2.F ht⟩) hH.2.2.2 hdg hlocks
variable {y : MethodName} {ws : List Cond} {rm : Room} {bytes : ByteArray} {maxL n index mc ms mcT msT : Nat} {rt : Option FieldType} {As st0 : List Value} {X X' : String → fx_Mem → Prop} {Qc : Array Value → State → Outcome → State → Prop}
theorem fx_cr {post : Nat → fx_Mem → Prop} {av : Array Value} (hH : fx_H g s M H locs) (hr : va_Run p l e R s m args below meth c H locs cells slots 0 0 (F0 m pc ls st0) rest (fx_Qr g post av) (fx_A g))
    (kk : ∀ (j : Nat) (M' : fx_Mem) (H1 : Heap) (locs1 : List Loc), post j M' → fx_H g s M' H1 locs1 → j < 20 → W p l e R s m args below meth c H1 locs1 cells slots Q (F0 m (pc + 3) ls (.ref (fx_a g (57 + j)) :: rest))) : W p l e R s m args below meth c H locs cells slots Q (F0 m pc ls st0) :=
  va_callr hr hH.2 (fun _ _ h => h) (fun _ h => h) (fun u ra t H1 locs1 ht _ hw hB _ _ hS => by
    obtain ⟨rfl, hB⟩ := hB
    exact kk u.1 u.2 H1 locs1 hw.2 ⟨by rw [← ht]; exact hB, hS⟩ hw.1)
theorem fx_xrunV {Qd : Array Value → State → Outcome → State → Prop} {Cn : String} {T : u_T} {N ci o : Nat} {fs : List Value} (C : fx_Cx g p s m args meth c own cc nL ret) (hH : fx_H g s M H locs)
    (hM : vx_Met l y ws rm (va_Pc (.ref (fx_a g o) :: As) (fx_At g M)) Qd (fx_XC g X') mc ms (fx_A g)) (cw : CallW R s args own Cn index y bytes maxL rt ws rm mc ms n) (he : (fx_wd g M)[o]? = some (fx_a g o, .inr (ci, fs))) (hc : vwCl[ci]? = some (Cn, T, N)) (hn : As.length = n) (hls : ls.size = nL) (hst : st0 = As.reverse ++ .ref (fx_a g o) :: rest) (hrm : (rest.map fun v => v.category).sum ≤ 8) (hdg : decode cc pc = .ok (.invokevirtual index, 3)) (hf : cells + mc ≤ R.cells ∧ slots + ms ≤ R.slots) :
    vx_Run p l e R s m args below meth c H locs cells slots mc ms (F0 m pc ls st0) rest (Qd (.ref (fx_a g o) :: As).toArray) (fx_XC g X') (fx_A g) := by
  have hpre := fx_pre C hH (.ref (fx_a g o) :: As)
  obtain ⟨hx, hb, -, hml, hown, hts, -, -, hK, -⟩ := C
  exact vx_runV (As := As) (rest := rest) ⟨hx, hb, hml, hown, hts⟩ hM cw ⟨fx_blind g M _, va_recv hK hH.1 hc he, hpre⟩ rfl hn hls hst (lv_room hrm) hdg hf
theorem fx_xrunS {Qd : Array Value → State → Outcome → State → Prop} (C : fx_Cx g p s m args meth c own cc nL ret) (hH : fx_H g s M H locs)
    (hM : vx_Met l y ws rm (va_Pc As (fx_At g M)) Qd (fx_XC g X') mc ms (fx_A g)) (cw : CallB R s args own index y bytes maxL rt ws rm mc ms n ∧ (Cond.static y).before args s = true) (hn : As.length = n) (hls : ls.size = nL) (hst : st0 = As.reverse ++ rest) (hrm : (rest.map fun v => v.category).sum ≤ 8) (hdg : decode cc pc = .ok (.invokestatic index, 3)) (hf : cells + mc ≤ R.cells ∧ slots + ms ≤ R.slots) :
    vx_Run p l e R s m args below meth c H locs cells slots mc ms (F0 m pc ls st0) rest (Qd As.toArray) (fx_XC g X') (fx_A g) := by
  have hpre := fx_pre C hH As
  obtain ⟨hx, hb, -, hml, hown, hts, -, -, hK, -⟩ := C
  exact vx_runS (As := As) (rest := rest) ⟨hx, hb, hml, hown, hts⟩ hM cw ⟨fx_blind g M _, hpre⟩ rfl hn hls hst (lv_room hrm) hdg hf
theorem fx_xci {post : Int32 → fx_Mem → Prop} {av : Array Value} (C : fx_Cx g p s m args meth c own cc nL ret) (hfl : fx_fl l c) (hH : fx_H g s M H locs) (hr : vx_Run p l e R s m args below meth c H locs cells slots mc ms (F0 m pc ls st0) rest (va_Qi post (fx_Pw g) (fx_A g) av) (fx_XC g X') (fx_A g)) (hX : ∀ E M, X' E M → X E M) (hc : cells + mc ≤ mcT) (hs : slots + ms ≤ msT)
    (kk : ∀ (r : Int32) (M' : fx_Mem) (H1 : Heap) (locs1 : List Loc), post r M' → fx_H g s M' H1 locs1 → W p l e R s m args below meth c H1 locs1 (cells + mc) (slots + ms) (vx_MQ below Qc (fx_XC g X) args s mcT msT (fx_A g)) (F0 m (pc + 3) ls (.int r :: rest))) : W p l e R s m args below meth c H locs cells slots (vx_MQ below Qc (fx_XC g X) args s mcT msT (fx_A g)) (F0 m pc ls st0) :=
  vx_calli hr hH.2 (fun _ _ h => h) (fun _ h => h) (fun _ _ h => h) (fun E ce q9 u t H1 locs1 ht hvm hp hB _ _ hS h1 h2 h3 => vx_out (fun x h => (hfl.2 x h).elim) C.2.2.2.2.2.2.1 h1 h2 h3 (fun t' ht' _ => ⟨u, hX _ _ hp, ⟨hB.1, by unfold fx_Pw; rw [ht', ← ht]; exact hB.2⟩, hS.F ht'⟩) hS.2.2 hc hs) (fun r u t H1 locs1 ht _ hw hB _ _ hS => kk r u H1 locs1 hw ⟨by rw [← ht]; exact hB, hS⟩)
theorem fx_xcv {post : fx_Mem → Prop} {av : Array Value} (C : fx_Cx g p s m args meth c own cc nL ret) (hfl : fx_fl l c) (hH : fx_H g s M H locs) (hr : vx_Run p l e R s m args below meth c H locs cells slots mc ms (F0 m pc ls st0) rest (va_Qv post (fx_Pw g) (fx_A g) av) (fx_XC g X') (fx_A g)) (hX : ∀ E M, X' E M → X E M) (hc : cells + mc ≤ mcT) (hs : slots + ms ≤ msT)
    (kk : ∀ (M' : fx_Mem) (H1 : Heap) (locs1 : List Loc), post M' → fx_H g s M' H1 locs1 → W p l e R s m args below meth c H1 locs1 (cells + mc) (slots + ms) (vx_MQ below Qc (fx_XC g X) args s mcT msT (fx_A g)) (F0 m (pc + 3) ls rest)) : W p l e R s m args below meth c H locs cells slots (vx_MQ below Qc (fx_XC g X) args s mcT msT (fx_A g)) (F0 m pc ls st0) :=
  vx_callv hr hH.2 (fun _ _ h => h) (fun _ h => h) (fun _ _ h => h) (fun E ce q9 u t H1 locs1 ht hvm hp hB _ _ hS h1 h2 h3 => vx_out (fun x h => (hfl.2 x h).elim) C.2.2.2.2.2.2.1 h1 h2 h3 (fun t' ht' _ => ⟨u, hX _ _ hp, ⟨hB.1, by unfold fx_Pw; rw [ht', ← ht]; exact hB.2⟩, hS.F ht'⟩) hS.2.2 hc hs) (fun u t H1 locs1 ht _ hw hB _ _ hS => kk u H1 locs1 hw ⟨by rw [← ht]; exact hB, hS⟩)
theorem fx_hat (hSt : fx_St g s) (hts : ∀ w ∈ fx_U, w.before args s = true) {ic : Nat} {E : String} (hE : E ∈ fx_ex) (hat : ∀ w ∈ (vx_atS RX6 ic E fx_n2).filter goodWord, w ∈ fx_U) (hng : ∀ w ∈ (vx_atS RX6 ic E fx_n2).filter (fun w => !goodWord w), w ∈ fx_ng E) : ∀ w ∈ vx_atS RX6 ic E fx_n2, w.before args s = true := by
  refine vx_hat (fun w h => hts w (hat w h)) hng ?_
  obtain ⟨-, -, -, -, -, -, -, h8, h9⟩ := hSt
  exact vx_c (va_Nw.use rfl (h8 E hE)) (vx_c (va_Nw.use rfl (h9 _ (by simp [fx_dc]))) (vx_c (va_Nw.use rfl (h9 _ (by simp [fx_dc]))) (vx_c (va_Nw.use rfl (h9 _ (by simp [fx_dc]))) vx_n)))
theorem fx_thrown (hH : fx_H g s M H locs) {E : String} (hq : X E M) : ∀ t : State, s.vm.Alike t.vm → H.size ≤ t.heap.size → (∀ q : Nat, q < H.size → t.heap[q]? = H[q]?) → fx_XC g X E s t := by
  intro t _ hz hk
  exact ⟨(E, M), hq, ⟨rfl, hH.1.kept (fun k q h => hk _ (hH.1 k q h).lt)⟩, Nat.le_trans hH.2.1 hz, fun q h1 h2 => (hk q (Nat.lt_of_lt_of_le h1 hH.2.1)).trans (hH.2.2.1 q h1 h2)⟩
theorem fx_throwS {text E : String} {ik is ic : Nat} (C : fx_Cx g p s m args meth c RX6 cc nL ret) (hfl : fx_fl l c) (hH : fx_H g s M H locs) (hk : Cond.classLink RX6 ik E ∈ fx_U) (hini : Cond.initialized E ∈ fx_U) (sx : Nat) (hsx : fx_strs[sx]? = some (RX6, is, text)) (hat : ∀ w ∈ (vx_atS RX6 ic E fx_n2).filter goodWord, w ∈ fx_U) (hE : E ∈ fx_ex) (hng : ∀ w ∈ (vx_atS RX6 ic E fx_n2).filter (fun w => !goodWord w), w ∈ fx_ng E) (hgood : ∀ w ∈ Cond.classLink RX6 ik E :: Cond.initialized E :: vx_atS RX6 ic E fx_n2, vx_ot w = true)
    (d0 : decode cc pc = .ok (.new ik, 3)) (d3 : decode cc (pc + 3) = .ok (.dup, 1)) (d4 : decode cc (pc + 4) = .ok (.ldc is, 2)) (d6 : decode cc (pc + 6) = .ok (.invokespecial ic, 3)) (d9 : decode cc (pc + 9) = .ok (.athrow, 1))
    (hRframes : fx_n2.length + 3 < R.frames) (hRlocals : (rest.map fun v => v.category).sum + (13 * (fx_n2.length + 1) + 43) ≤ R.locals) (hRcells : cells + 1 ≤ R.cells) (hRslots : slots + 6 ≤ R.slots) (hls : ls.size = nL) (hq : X E M) (hc : cells + 1 ≤ mcT) (hs : slots + 6 ≤ msT) :
    W p l e R s m args below meth c H locs cells slots (vx_MQ below Qc (fx_XC g X) args s mcT msT (fx_A g)) (F0 m pc ls rest) := by
  have hh := fx_hat C.2.2.2.2.2.2.2.2.2.2 C.2.2.2.2.2.1 hE hat hng
  obtain ⟨hx, hb, -, hml, hown, hts, hlocks, -, hK, hG, hSt⟩ := C
  obtain ⟨sa, hstr⟩ := hSt.2.1 _ (List.mem_of_getElem? hsx)
  exact vx_throwS hx hb hfl.1 hown (fx_fit E hE) fx_fit2 (hts _ hk) (hts _ hini) hstr hh hgood hSt.2.2.2.2.1 hSt.2.2.2.2.2.1 hH.2 (hls.trans hml.symm) d0 d3 d4 d6 d9 (fun x h => (hfl.2 x h).elim) hRframes hRlocals hRcells hRslots hlocks (fx_thrown hH hq) hH.2.2.2 hc hs
theorem fx_throwSW {text E : String} {ik is ic : Nat} (C : fx_Cx g p s m args meth c RX6 cc nL ret) (hfl : fx_fl l c) (hH : fx_H g s M H locs) (hk : Cond.classLink RX6 ik E ∈ fx_U) (hini : Cond.initialized E ∈ fx_U) (sx : Nat) (hsx : fx_strs[sx]? = some (RX6, is, text)) (hat : ∀ w ∈ (vx_atS RX6 ic E fx_n2).filter goodWord, w ∈ fx_U) (hE : E ∈ fx_ex) (hng : ∀ w ∈ (vx_atS RX6 ic E fx_n2).filter (fun w => !goodWord w), w ∈ fx_ng E) (hgood : ∀ w ∈ Cond.classLink RX6 ik E :: Cond.initialized E :: vx_atS RX6 ic E fx_n2, vx_ot w = true)
    (d0 : decode cc pc = .ok (.new ik, 3)) (d3 : decode cc (pc + 3) = .ok (.dup, 1)) (d4 : decode cc (pc + 4) = .ok (.ldc_w is, 3)) (d7 : decode cc (pc + 7) = .ok (.invokespecial ic, 3)) (d10 : decode cc (pc + 10) = .ok (.athrow, 1))
    (hRframes : fx_n2.length + 3 < R.frames) (hRlocals : (rest.map fun v => v.category).sum + (13 * (fx_n2.length + 1) + 43) ≤ R.locals) (hRcells : cells + 1 ≤ R.cells) (hRslots : slots + 6 ≤ R.slots) (hls : ls.size = nL) (hq : X E M) (hc : cells + 1 ≤ mcT) (hs : slots + 6 ≤ msT) :
    W p l e R s m args below meth c H locs cells slots (vx_MQ below Qc (fx_XC g X) args s mcT msT (fx_A g)) (F0 m pc ls rest) := by
  have hh := fx_hat C.2.2.2.2.2.2.2.2.2.2 C.2.2.2.2.2.1 hE hat hng
  obtain ⟨hx, hb, -, hml, hown, hts, hlocks, -, hK, hG, hSt⟩ := C
  obtain ⟨sa, hstr⟩ := hSt.2.1 _ (List.mem_of_getElem? hsx)
  exact vx_throwSW hx hb hfl.1 hown (fx_fit E hE) fx_fit2 (hts _ hk) (hts _ hini) hstr hh hgood hSt.2.2.2.2.1 hSt.2.2.2.2.2.1 hH.2 (hls.trans hml.symm) d0 d3 d4 d7 d10 (fun x h => (hfl.2 x h).elim) hRframes hRlocals hRcells hRslots hlocks (fx_thrown hH hq) hH.2.2.2 hc hs
end FXS
