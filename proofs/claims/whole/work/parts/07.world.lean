/-! THE WORLD: one FlexLayout, one FlexLayoutModel, the law's long[1], all their arrays; what they hold is a memory (ints of fields, int arrays, long arrays) -/
abbrev fx_Mem : Type := (Nat → Int32) × (Nat → Nat → Int32) × (Nat → Nat → Int64)
abbrev fx_Geo : Type := va_G × (ClassId × ClassId × ClassId × ClassId × ClassId) × (Nat → Nat) × Nat
def fx_a (g : fx_Geo) (k : Nat) : Nat := g.2.2.1 k
def fx_A (g : fx_Geo) : Nat → Prop := fun q => g.2.2.2 ≤ q
abbrev fx_cI (g : fx_Geo) : ClassId := g.2.1.1
abbrev fx_cJ (g : fx_Geo) : ClassId := g.2.1.2.1
abbrev fx_cZ (g : fx_Geo) : ClassId := g.2.1.2.2.1
abbrev fx_cC (g : fx_Geo) : ClassId := g.2.1.2.2.2.1
abbrev fx_cR (g : fx_Geo) : ClassId := g.2.1.2.2.2.2
def fx_tys (g : fx_Geo) : List (ClassId × FieldType) := [(fx_cI g, .int), (fx_cJ g, .long), (fx_cZ g, .boolean), (fx_cC g, .char), (fx_cR g, .array .int)]
/-- stores: a field, a place of an int array, a whole int array, a place of a long array -/
def fx_si (M : fx_Mem) (k : Nat) (v : Int32) : fx_Mem := (va_up M.1 k v, M.2.1, M.2.2)
def fx_sA (M : fx_Mem) (k : Nat) (f : Nat → Int32) : fx_Mem := (M.1, va_up M.2.1 k f, M.2.2)
def fx_sa (M : fx_Mem) (k j : Nat) (v : Int32) : fx_Mem := fx_sA M k (upd (M.2.1 k) j v)
def fx_sl (M : fx_Mem) (k j : Nat) (v : Int64) : fx_Mem := (M.1, M.2.1, va_up M.2.2 k (vp_updL (M.2.2 k) j v))
def fx_wd (g : fx_Geo) (M : fx_Mem) : va_W := [(fx_a g 0, .inr (8, [.ref (fx_a g 1), .ref (fx_a g 2), .int (M.1 2), .ref (fx_a g 3), .ref (fx_a g 4), .ref (fx_a g 5), .ref (fx_a g 6), .ref (fx_a g 7)])),
  (fx_a g 1, .inr (3, [.int (M.1 64), .int (M.1 65), .int (M.1 66), .int (M.1 67), .ref (fx_a g 10), .ref (fx_a g 11), .int (M.1 70)])),
  (fx_a g 2, .inr (3, [.int (M.1 128), .int (M.1 129), .int (M.1 130), .int (M.1 131), .ref (fx_a g 12), .ref (fx_a g 13), .int (M.1 134)])),
  (fx_a g 3, .inr (6, [.ref (fx_a g 14), .int (M.1 193)])),
  (fx_a g 4, .inr (5, [.ref (fx_a g 15), .ref (fx_a g 16), .ref (fx_a g 17)])),
  (fx_a g 5, .inr (2, [.ref (fx_a g 18), .ref (fx_a g 19), .int (M.1 322)])),
  (fx_a g 6, .inr (7, [.ref (fx_a g 20), .ref (fx_a g 21), .ref (fx_a g 22), .ref (fx_a g 23), .ref (fx_a g 24), .ref (fx_a g 25)])),
  (fx_a g 7, .inr (4, [.ref (fx_a g 26), .ref (fx_a g 27), .ref (fx_a g 28), .ref (fx_a g 29), .int (M.1 452)])),
  (fx_a g 8, .inr (9, [.int (M.1 512), .ref (fx_a g 30), .ref (fx_a g 31), .int (M.1 515), .ref (fx_a g 32), .ref (fx_a g 33), .ref (fx_a g 34), .ref (fx_a g 35), .int (M.1 520), .int (M.1 521), .int (M.1 522), .ref (fx_a g 36), .ref (fx_a g 37), .ref (fx_a g 38), .ref (fx_a g 39), .ref (fx_a g 40), .ref (fx_a g 41), .ref (fx_a g 42), .ref (fx_a g 43), .ref (fx_a g 44), .ref (fx_a g 45), .ref (fx_a g 46), .ref (fx_a g 47), .ref (fx_a g 48), .ref (fx_a g 49), .ref (fx_a g 50), .ref (fx_a g 51), .ref (fx_a g 52), .ref (fx_a g 53), .ref (fx_a g 54), .int (M.1 542), .int (M.1 543), .ref (fx_a g 55), .ref (fx_a g 56), .int (M.1 546)])),
  (fx_a g 9, .inl (fx_cJ g, 1, .inr (.inl (M.2.2 9)))),
  (fx_a g 10, .inl (fx_cI g, 5, .inl (M.2.1 10))),
  (fx_a g 11, .inl (fx_cR g, 20, .inr (.inr (.inr (.inr (fun i => if i < 20 then some (fx_a g (57 + i)) else none)))))),
  (fx_a g 12, .inl (fx_cI g, 5, .inl (M.2.1 12))),
  (fx_a g 13, .inl (fx_cR g, 20, .inr (.inr (.inr (.inr (fun i => if i < 20 then some (fx_a g (77 + i)) else none)))))),
  (fx_a g 14, .inl (fx_cC g, 80, .inl (M.2.1 14))),
  (fx_a g 15, .inl (fx_cJ g, 20, .inr (.inl (M.2.2 15)))),
  (fx_a g 16, .inl (fx_cI g, 20, .inl (M.2.1 16))),
  (fx_a g 17, .inl (fx_cJ g, 20, .inr (.inl (M.2.2 17)))),
  (fx_a g 18, .inl (fx_cI g, 20, .inl (M.2.1 18))),
  (fx_a g 19, .inl (fx_cI g, 21, .inl (M.2.1 19))),
  (fx_a g 20, .inl (fx_cI g, 20, .inl (M.2.1 20))),
  (fx_a g 21, .inl (fx_cI g, 20, .inl (M.2.1 21))),
  (fx_a g 22, .inl (fx_cI g, 20, .inl (M.2.1 22))),
  (fx_a g 23, .inl (fx_cI g, 20, .inl (M.2.1 23))),
  (fx_a g 24, .inl (fx_cI g, 20, .inl (M.2.1 24))),
  (fx_a g 25, .inl (fx_cZ g, 20, .inl (M.2.1 25))),
  (fx_a g 26, .inl (fx_cI g, 20, .inl (M.2.1 26))),
  (fx_a g 27, .inl (fx_cI g, 20, .inl (M.2.1 27))),
  (fx_a g 28, .inl (fx_cI g, 20, .inl (M.2.1 28))),
  (fx_a g 29, .inl (fx_cI g, 20, .inl (M.2.1 29))),
  (fx_a g 30, .inl (fx_cI g, 9, .inl (M.2.1 30))),
  (fx_a g 31, .inl (fx_cI g, 200, .inl (M.2.1 31))),
  (fx_a g 32, .inl (fx_cC g, 80, .inl (M.2.1 32))),
  (fx_a g 33, .inl (fx_cI g, 40, .inl (M.2.1 33))),
  (fx_a g 34, .inl (fx_cI g, 40, .inl (M.2.1 34))),
  (fx_a g 35, .inl (fx_cI g, 40, .inl (M.2.1 35))),
  (fx_a g 36, .inl (fx_cJ g, 20, .inr (.inl (M.2.2 36)))),
  (fx_a g 37, .inl (fx_cJ g, 20, .inr (.inl (M.2.2 37)))),
  (fx_a g 38, .inl (fx_cJ g, 20, .inr (.inl (M.2.2 38)))),
  (fx_a g 39, .inl (fx_cI g, 20, .inl (M.2.1 39))),
  (fx_a g 40, .inl (fx_cI g, 20, .inl (M.2.1 40))),
  (fx_a g 41, .inl (fx_cI g, 20, .inl (M.2.1 41))),
  (fx_a g 42, .inl (fx_cI g, 20, .inl (M.2.1 42))),
  (fx_a g 43, .inl (fx_cI g, 20, .inl (M.2.1 43))),
  (fx_a g 44, .inl (fx_cI g, 20, .inl (M.2.1 44))),
  (fx_a g 45, .inl (fx_cI g, 20, .inl (M.2.1 45))),
  (fx_a g 46, .inl (fx_cZ g, 20, .inl (M.2.1 46))),
  (fx_a g 47, .inl (fx_cI g, 20, .inl (M.2.1 47))),
  (fx_a g 48, .inl (fx_cI g, 20, .inl (M.2.1 48))),
  (fx_a g 49, .inl (fx_cI g, 20, .inl (M.2.1 49))),
  (fx_a g 50, .inl (fx_cI g, 20, .inl (M.2.1 50))),
  (fx_a g 51, .inl (fx_cI g, 20, .inl (M.2.1 51))),
  (fx_a g 52, .inl (fx_cI g, 20, .inl (M.2.1 52))),
  (fx_a g 53, .inl (fx_cI g, 20, .inl (M.2.1 53))),
  (fx_a g 54, .inl (fx_cI g, 20, .inl (M.2.1 54))),
  (fx_a g 55, .inl (fx_cI g, 20, .inl (M.2.1 55))),
  (fx_a g 56, .inl (fx_cI g, 210, .inl (M.2.1 56))),
  (fx_a g 57, .inl (fx_cI g, 10, .inl (M.2.1 57))),
  (fx_a g 58, .inl (fx_cI g, 10, .inl (M.2.1 58))),
  (fx_a g 59, .inl (fx_cI g, 10, .inl (M.2.1 59))),
  (fx_a g 60, .inl (fx_cI g, 10, .inl (M.2.1 60))),
  (fx_a g 61, .inl (fx_cI g, 10, .inl (M.2.1 61))),
  (fx_a g 62, .inl (fx_cI g, 10, .inl (M.2.1 62))),
  (fx_a g 63, .inl (fx_cI g, 10, .inl (M.2.1 63))),
  (fx_a g 64, .inl (fx_cI g, 10, .inl (M.2.1 64))),
  (fx_a g 65, .inl (fx_cI g, 10, .inl (M.2.1 65))),
  (fx_a g 66, .inl (fx_cI g, 10, .inl (M.2.1 66))),
  (fx_a g 67, .inl (fx_cI g, 10, .inl (M.2.1 67))),
  (fx_a g 68, .inl (fx_cI g, 10, .inl (M.2.1 68))),
  (fx_a g 69, .inl (fx_cI g, 10, .inl (M.2.1 69))),
  (fx_a g 70, .inl (fx_cI g, 10, .inl (M.2.1 70))),
  (fx_a g 71, .inl (fx_cI g, 10, .inl (M.2.1 71))),
  (fx_a g 72, .inl (fx_cI g, 10, .inl (M.2.1 72))),
  (fx_a g 73, .inl (fx_cI g, 10, .inl (M.2.1 73))),
  (fx_a g 74, .inl (fx_cI g, 10, .inl (M.2.1 74))),
  (fx_a g 75, .inl (fx_cI g, 10, .inl (M.2.1 75))),
  (fx_a g 76, .inl (fx_cI g, 10, .inl (M.2.1 76))),
  (fx_a g 77, .inl (fx_cI g, 10, .inl (M.2.1 77))),
  (fx_a g 78, .inl (fx_cI g, 10, .inl (M.2.1 78))),
  (fx_a g 79, .inl (fx_cI g, 10, .inl (M.2.1 79))),
  (fx_a g 80, .inl (fx_cI g, 10, .inl (M.2.1 80))),
  (fx_a g 81, .inl (fx_cI g, 10, .inl (M.2.1 81))),
  (fx_a g 82, .inl (fx_cI g, 10, .inl (M.2.1 82))),
  (fx_a g 83, .inl (fx_cI g, 10, .inl (M.2.1 83))),
  (fx_a g 84, .inl (fx_cI g, 10, .inl (M.2.1 84))),
  (fx_a g 85, .inl (fx_cI g, 10, .inl (M.2.1 85))),
  (fx_a g 86, .inl (fx_cI g, 10, .inl (M.2.1 86))),
  (fx_a g 87, .inl (fx_cI g, 10, .inl (M.2.1 87))),
  (fx_a g 88, .inl (fx_cI g, 10, .inl (M.2.1 88))),
  (fx_a g 89, .inl (fx_cI g, 10, .inl (M.2.1 89))),
  (fx_a g 90, .inl (fx_cI g, 10, .inl (M.2.1 90))),
  (fx_a g 91, .inl (fx_cI g, 10, .inl (M.2.1 91))),
  (fx_a g 92, .inl (fx_cI g, 10, .inl (M.2.1 92))),
  (fx_a g 93, .inl (fx_cI g, 10, .inl (M.2.1 93))),
  (fx_a g 94, .inl (fx_cI g, 10, .inl (M.2.1 94))),
  (fx_a g 95, .inl (fx_cI g, 10, .inl (M.2.1 95))),
  (fx_a g 96, .inl (fx_cI g, 10, .inl (M.2.1 96)))]
def fx_Gd (g : fx_Geo) : Prop := ∀ M, va_D (fx_A g) (fx_wd g M)
theorem fx_w0 (g : fx_Geo) (M : fx_Mem) : (fx_wd g M)[0]? = some (fx_a g 0, .inr (8, [.ref (fx_a g 1), .ref (fx_a g 2), .int (M.1 2), .ref (fx_a g 3), .ref (fx_a g 4), .ref (fx_a g 5), .ref (fx_a g 6), .ref (fx_a g 7)])) := rfl
theorem fx_p0_2 (g : fx_Geo) (M : fx_Mem) (v : Int32) : (fx_wd g M).set 0 (fx_a g 0, .inr (8, ([.ref (fx_a g 1), .ref (fx_a g 2), .int (M.1 2), .ref (fx_a g 3), .ref (fx_a g 4), .ref (fx_a g 5), .ref (fx_a g 6), .ref (fx_a g 7)] : List Value).set 2 (.int v))) = fx_wd g (fx_si M 2 v) := rfl
theorem fx_w1 (g : fx_Geo) (M : fx_Mem) : (fx_wd g M)[1]? = some (fx_a g 1, .inr (3, [.int (M.1 64), .int (M.1 65), .int (M.1 66), .int (M.1 67), .ref (fx_a g 10), .ref (fx_a g 11), .int (M.1 70)])) := rfl
theorem fx_p1_0 (g : fx_Geo) (M : fx_Mem) (v : Int32) : (fx_wd g M).set 1 (fx_a g 1, .inr (3, ([.int (M.1 64), .int (M.1 65), .int (M.1 66), .int (M.1 67), .ref (fx_a g 10), .ref (fx_a g 11), .int (M.1 70)] : List Value).set 0 (.int v))) = fx_wd g (fx_si M 64 v) := rfl
theorem fx_p1_1 (g : fx_Geo) (M : fx_Mem) (v : Int32) : (fx_wd g M).set 1 (fx_a g 1, .inr (3, ([.int (M.1 64), .int (M.1 65), .int (M.1 66), .int (M.1 67), .ref (fx_a g 10), .ref (fx_a g 11), .int (M.1 70)] : List Value).set 1 (.int v))) = fx_wd g (fx_si M 65 v) := rfl
theorem fx_p1_2 (g : fx_Geo) (M : fx_Mem) (v : Int32) : (fx_wd g M).set 1 (fx_a g 1, .inr (3, ([.int (M.1 64), .int (M.1 65), .int (M.1 66), .int (M.1 67), .ref (fx_a g 10), .ref (fx_a g 11), .int (M.1 70)] : List Value).set 2 (.int v))) = fx_wd g (fx_si M 66 v) := rfl
theorem fx_p1_3 (g : fx_Geo) (M : fx_Mem) (v : Int32) : (fx_wd g M).set 1 (fx_a g 1, .inr (3, ([.int (M.1 64), .int (M.1 65), .int (M.1 66), .int (M.1 67), .ref (fx_a g 10), .ref (fx_a g 11), .int (M.1 70)] : List Value).set 3 (.int v))) = fx_wd g (fx_si M 67 v) := rfl
theorem fx_p1_6 (g : fx_Geo) (M : fx_Mem) (v : Int32) : (fx_wd g M).set 1 (fx_a g 1, .inr (3, ([.int (M.1 64), .int (M.1 65), .int (M.1 66), .int (M.1 67), .ref (fx_a g 10), .ref (fx_a g 11), .int (M.1 70)] : List Value).set 6 (.int v))) = fx_wd g (fx_si M 70 v) := rfl
theorem fx_w2 (g : fx_Geo) (M : fx_Mem) : (fx_wd g M)[2]? = some (fx_a g 2, .inr (3, [.int (M.1 128), .int (M.1 129), .int (M.1 130), .int (M.1 131), .ref (fx_a g 12), .ref (fx_a g 13), .int (M.1 134)])) := rfl
theorem fx_p2_0 (g : fx_Geo) (M : fx_Mem) (v : Int32) : (fx_wd g M).set 2 (fx_a g 2, .inr (3, ([.int (M.1 128), .int (M.1 129), .int (M.1 130), .int (M.1 131), .ref (fx_a g 12), .ref (fx_a g 13), .int (M.1 134)] : List Value).set 0 (.int v))) = fx_wd g (fx_si M 128 v) := rfl
theorem fx_p2_1 (g : fx_Geo) (M : fx_Mem) (v : Int32) : (fx_wd g M).set 2 (fx_a g 2, .inr (3, ([.int (M.1 128), .int (M.1 129), .int (M.1 130), .int (M.1 131), .ref (fx_a g 12), .ref (fx_a g 13), .int (M.1 134)] : List Value).set 1 (.int v))) = fx_wd g (fx_si M 129 v) := rfl
theorem fx_p2_2 (g : fx_Geo) (M : fx_Mem) (v : Int32) : (fx_wd g M).set 2 (fx_a g 2, .inr (3, ([.int (M.1 128), .int (M.1 129), .int (M.1 130), .int (M.1 131), .ref (fx_a g 12), .ref (fx_a g 13), .int (M.1 134)] : List Value).set 2 (.int v))) = fx_wd g (fx_si M 130 v) := rfl
theorem fx_p2_3 (g : fx_Geo) (M : fx_Mem) (v : Int32) : (fx_wd g M).set 2 (fx_a g 2, .inr (3, ([.int (M.1 128), .int (M.1 129), .int (M.1 130), .int (M.1 131), .ref (fx_a g 12), .ref (fx_a g 13), .int (M.1 134)] : List Value).set 3 (.int v))) = fx_wd g (fx_si M 131 v) := rfl
theorem fx_p2_6 (g : fx_Geo) (M : fx_Mem) (v : Int32) : (fx_wd g M).set 2 (fx_a g 2, .inr (3, ([.int (M.1 128), .int (M.1 129), .int (M.1 130), .int (M.1 131), .ref (fx_a g 12), .ref (fx_a g 13), .int (M.1 134)] : List Value).set 6 (.int v))) = fx_wd g (fx_si M 134 v) := rfl
theorem fx_w3 (g : fx_Geo) (M : fx_Mem) : (fx_wd g M)[3]? = some (fx_a g 3, .inr (6, [.ref (fx_a g 14), .int (M.1 193)])) := rfl
theorem fx_p3_1 (g : fx_Geo) (M : fx_Mem) (v : Int32) : (fx_wd g M).set 3 (fx_a g 3, .inr (6, ([.ref (fx_a g 14), .int (M.1 193)] : List Value).set 1 (.int v))) = fx_wd g (fx_si M 193 v) := rfl
theorem fx_w4 (g : fx_Geo) (M : fx_Mem) : (fx_wd g M)[4]? = some (fx_a g 4, .inr (5, [.ref (fx_a g 15), .ref (fx_a g 16), .ref (fx_a g 17)])) := rfl
theorem fx_w5 (g : fx_Geo) (M : fx_Mem) : (fx_wd g M)[5]? = some (fx_a g 5, .inr (2, [.ref (fx_a g 18), .ref (fx_a g 19), .int (M.1 322)])) := rfl
theorem fx_p5_2 (g : fx_Geo) (M : fx_Mem) (v : Int32) : (fx_wd g M).set 5 (fx_a g 5, .inr (2, ([.ref (fx_a g 18), .ref (fx_a g 19), .int (M.1 322)] : List Value).set 2 (.int v))) = fx_wd g (fx_si M 322 v) := rfl
theorem fx_w6 (g : fx_Geo) (M : fx_Mem) : (fx_wd g M)[6]? = some (fx_a g 6, .inr (7, [.ref (fx_a g 20), .ref (fx_a g 21), .ref (fx_a g 22), .ref (fx_a g 23), .ref (fx_a g 24), .ref (fx_a g 25)])) := rfl
theorem fx_w7 (g : fx_Geo) (M : fx_Mem) : (fx_wd g M)[7]? = some (fx_a g 7, .inr (4, [.ref (fx_a g 26), .ref (fx_a g 27), .ref (fx_a g 28), .ref (fx_a g 29), .int (M.1 452)])) := rfl
theorem fx_p7_4 (g : fx_Geo) (M : fx_Mem) (v : Int32) : (fx_wd g M).set 7 (fx_a g 7, .inr (4, ([.ref (fx_a g 26), .ref (fx_a g 27), .ref (fx_a g 28), .ref (fx_a g 29), .int (M.1 452)] : List Value).set 4 (.int v))) = fx_wd g (fx_si M 452 v) := rfl
theorem fx_w8 (g : fx_Geo) (M : fx_Mem) : (fx_wd g M)[8]? = some (fx_a g 8, .inr (9, [.int (M.1 512), .ref (fx_a g 30), .ref (fx_a g 31), .int (M.1 515), .ref (fx_a g 32), .ref (fx_a g 33), .ref (fx_a g 34), .ref (fx_a g 35), .int (M.1 520), .int (M.1 521), .int (M.1 522), .ref (fx_a g 36), .ref (fx_a g 37), .ref (fx_a g 38), .ref (fx_a g 39), .ref (fx_a g 40), .ref (fx_a g 41), .ref (fx_a g 42), .ref (fx_a g 43), .ref (fx_a g 44), .ref (fx_a g 45), .ref (fx_a g 46), .ref (fx_a g 47), .ref (fx_a g 48), .ref (fx_a g 49), .ref (fx_a g 50), .ref (fx_a g 51), .ref (fx_a g 52), .ref (fx_a g 53), .ref (fx_a g 54), .int (M.1 542), .int (M.1 543), .ref (fx_a g 55), .ref (fx_a g 56), .int (M.1 546)])) := rfl
theorem fx_p8_0 (g : fx_Geo) (M : fx_Mem) (v : Int32) : (fx_wd g M).set 8 (fx_a g 8, .inr (9, ([.int (M.1 512), .ref (fx_a g 30), .ref (fx_a g 31), .int (M.1 515), .ref (fx_a g 32), .ref (fx_a g 33), .ref (fx_a g 34), .ref (fx_a g 35), .int (M.1 520), .int (M.1 521), .int (M.1 522), .ref (fx_a g 36), .ref (fx_a g 37), .ref (fx_a g 38), .ref (fx_a g 39), .ref (fx_a g 40), .ref (fx_a g 41), .ref (fx_a g 42), .ref (fx_a g 43), .ref (fx_a g 44), .ref (fx_a g 45), .ref (fx_a g 46), .ref (fx_a g 47), .ref (fx_a g 48), .ref (fx_a g 49), .ref (fx_a g 50), .ref (fx_a g 51), .ref (fx_a g 52), .ref (fx_a g 53), .ref (fx_a g 54), .int (M.1 542), .int (M.1 543), .ref (fx_a g 55), .ref (fx_a g 56), .int (M.1 546)] : List Value).set 0 (.int v))) = fx_wd g (fx_si M 512 v) := rfl
theorem fx_p8_3 (g : fx_Geo) (M : fx_Mem) (v : Int32) : (fx_wd g M).set 8 (fx_a g 8, .inr (9, ([.int (M.1 512), .ref (fx_a g 30), .ref (fx_a g 31), .int (M.1 515), .ref (fx_a g 32), .ref (fx_a g 33), .ref (fx_a g 34), .ref (fx_a g 35), .int (M.1 520), .int (M.1 521), .int (M.1 522), .ref (fx_a g 36), .ref (fx_a g 37), .ref (fx_a g 38), .ref (fx_a g 39), .ref (fx_a g 40), .ref (fx_a g 41), .ref (fx_a g 42), .ref (fx_a g 43), .ref (fx_a g 44), .ref (fx_a g 45), .ref (fx_a g 46), .ref (fx_a g 47), .ref (fx_a g 48), .ref (fx_a g 49), .ref (fx_a g 50), .ref (fx_a g 51), .ref (fx_a g 52), .ref (fx_a g 53), .ref (fx_a g 54), .int (M.1 542), .int (M.1 543), .ref (fx_a g 55), .ref (fx_a g 56), .int (M.1 546)] : List Value).set 3 (.int v))) = fx_wd g (fx_si M 515 v) := rfl
theorem fx_p8_8 (g : fx_Geo) (M : fx_Mem) (v : Int32) : (fx_wd g M).set 8 (fx_a g 8, .inr (9, ([.int (M.1 512), .ref (fx_a g 30), .ref (fx_a g 31), .int (M.1 515), .ref (fx_a g 32), .ref (fx_a g 33), .ref (fx_a g 34), .ref (fx_a g 35), .int (M.1 520), .int (M.1 521), .int (M.1 522), .ref (fx_a g 36), .ref (fx_a g 37), .ref (fx_a g 38), .ref (fx_a g 39), .ref (fx_a g 40), .ref (fx_a g 41), .ref (fx_a g 42), .ref (fx_a g 43), .ref (fx_a g 44), .ref (fx_a g 45), .ref (fx_a g 46), .ref (fx_a g 47), .ref (fx_a g 48), .ref (fx_a g 49), .ref (fx_a g 50), .ref (fx_a g 51), .ref (fx_a g 52), .ref (fx_a g 53), .ref (fx_a g 54), .int (M.1 542), .int (M.1 543), .ref (fx_a g 55), .ref (fx_a g 56), .int (M.1 546)] : List Value).set 8 (.int v))) = fx_wd g (fx_si M 520 v) := rfl
theorem fx_p8_9 (g : fx_Geo) (M : fx_Mem) (v : Int32) : (fx_wd g M).set 8 (fx_a g 8, .inr (9, ([.int (M.1 512), .ref (fx_a g 30), .ref (fx_a g 31), .int (M.1 515), .ref (fx_a g 32), .ref (fx_a g 33), .ref (fx_a g 34), .ref (fx_a g 35), .int (M.1 520), .int (M.1 521), .int (M.1 522), .ref (fx_a g 36), .ref (fx_a g 37), .ref (fx_a g 38), .ref (fx_a g 39), .ref (fx_a g 40), .ref (fx_a g 41), .ref (fx_a g 42), .ref (fx_a g 43), .ref (fx_a g 44), .ref (fx_a g 45), .ref (fx_a g 46), .ref (fx_a g 47), .ref (fx_a g 48), .ref (fx_a g 49), .ref (fx_a g 50), .ref (fx_a g 51), .ref (fx_a g 52), .ref (fx_a g 53), .ref (fx_a g 54), .int (M.1 542), .int (M.1 543), .ref (fx_a g 55), .ref (fx_a g 56), .int (M.1 546)] : List Value).set 9 (.int v))) = fx_wd g (fx_si M 521 v) := rfl
theorem fx_p8_10 (g : fx_Geo) (M : fx_Mem) (v : Int32) : (fx_wd g M).set 8 (fx_a g 8, .inr (9, ([.int (M.1 512), .ref (fx_a g 30), .ref (fx_a g 31), .int (M.1 515), .ref (fx_a g 32), .ref (fx_a g 33), .ref (fx_a g 34), .ref (fx_a g 35), .int (M.1 520), .int (M.1 521), .int (M.1 522), .ref (fx_a g 36), .ref (fx_a g 37), .ref (fx_a g 38), .ref (fx_a g 39), .ref (fx_a g 40), .ref (fx_a g 41), .ref (fx_a g 42), .ref (fx_a g 43), .ref (fx_a g 44), .ref (fx_a g 45), .ref (fx_a g 46), .ref (fx_a g 47), .ref (fx_a g 48), .ref (fx_a g 49), .ref (fx_a g 50), .ref (fx_a g 51), .ref (fx_a g 52), .ref (fx_a g 53), .ref (fx_a g 54), .int (M.1 542), .int (M.1 543), .ref (fx_a g 55), .ref (fx_a g 56), .int (M.1 546)] : List Value).set 10 (.int v))) = fx_wd g (fx_si M 522 v) := rfl
theorem fx_p8_30 (g : fx_Geo) (M : fx_Mem) (v : Int32) : (fx_wd g M).set 8 (fx_a g 8, .inr (9, ([.int (M.1 512), .ref (fx_a g 30), .ref (fx_a g 31), .int (M.1 515), .ref (fx_a g 32), .ref (fx_a g 33), .ref (fx_a g 34), .ref (fx_a g 35), .int (M.1 520), .int (M.1 521), .int (M.1 522), .ref (fx_a g 36), .ref (fx_a g 37), .ref (fx_a g 38), .ref (fx_a g 39), .ref (fx_a g 40), .ref (fx_a g 41), .ref (fx_a g 42), .ref (fx_a g 43), .ref (fx_a g 44), .ref (fx_a g 45), .ref (fx_a g 46), .ref (fx_a g 47), .ref (fx_a g 48), .ref (fx_a g 49), .ref (fx_a g 50), .ref (fx_a g 51), .ref (fx_a g 52), .ref (fx_a g 53), .ref (fx_a g 54), .int (M.1 542), .int (M.1 543), .ref (fx_a g 55), .ref (fx_a g 56), .int (M.1 546)] : List Value).set 30 (.int v))) = fx_wd g (fx_si M 542 v) := rfl
theorem fx_p8_31 (g : fx_Geo) (M : fx_Mem) (v : Int32) : (fx_wd g M).set 8 (fx_a g 8, .inr (9, ([.int (M.1 512), .ref (fx_a g 30), .ref (fx_a g 31), .int (M.1 515), .ref (fx_a g 32), .ref (fx_a g 33), .ref (fx_a g 34), .ref (fx_a g 35), .int (M.1 520), .int (M.1 521), .int (M.1 522), .ref (fx_a g 36), .ref (fx_a g 37), .ref (fx_a g 38), .ref (fx_a g 39), .ref (fx_a g 40), .ref (fx_a g 41), .ref (fx_a g 42), .ref (fx_a g 43), .ref (fx_a g 44), .ref (fx_a g 45), .ref (fx_a g 46), .ref (fx_a g 47), .ref (fx_a g 48), .ref (fx_a g 49), .ref (fx_a g 50), .ref (fx_a g 51), .ref (fx_a g 52), .ref (fx_a g 53), .ref (fx_a g 54), .int (M.1 542), .int (M.1 543), .ref (fx_a g 55), .ref (fx_a g 56), .int (M.1 546)] : List Value).set 31 (.int v))) = fx_wd g (fx_si M 543 v) := rfl
theorem fx_p8_34 (g : fx_Geo) (M : fx_Mem) (v : Int32) : (fx_wd g M).set 8 (fx_a g 8, .inr (9, ([.int (M.1 512), .ref (fx_a g 30), .ref (fx_a g 31), .int (M.1 515), .ref (fx_a g 32), .ref (fx_a g 33), .ref (fx_a g 34), .ref (fx_a g 35), .int (M.1 520), .int (M.1 521), .int (M.1 522), .ref (fx_a g 36), .ref (fx_a g 37), .ref (fx_a g 38), .ref (fx_a g 39), .ref (fx_a g 40), .ref (fx_a g 41), .ref (fx_a g 42), .ref (fx_a g 43), .ref (fx_a g 44), .ref (fx_a g 45), .ref (fx_a g 46), .ref (fx_a g 47), .ref (fx_a g 48), .ref (fx_a g 49), .ref (fx_a g 50), .ref (fx_a g 51), .ref (fx_a g 52), .ref (fx_a g 53), .ref (fx_a g 54), .int (M.1 542), .int (M.1 543), .ref (fx_a g 55), .ref (fx_a g 56), .int (M.1 546)] : List Value).set 34 (.int v))) = fx_wd g (fx_si M 546 v) := rfl
theorem fx_w9 (g : fx_Geo) (M : fx_Mem) : (fx_wd g M)[9]? = some (fx_a g 9, .inl (fx_cJ g, 1, .inr (.inl (M.2.2 9)))) := rfl
theorem fx_p9 (g : fx_Geo) (M : fx_Mem) (j : Nat) (v : Int64) : (fx_wd g M).set 9 (fx_a g 9, .inl (fx_cJ g, 1, .inr (.inl (vp_updL (M.2.2 9) j v)))) = fx_wd g (fx_sl M 9 j v) := rfl
theorem fx_w10 (g : fx_Geo) (M : fx_Mem) : (fx_wd g M)[10]? = some (fx_a g 10, .inl (fx_cI g, 5, .inl (M.2.1 10))) := rfl
theorem fx_p10 (g : fx_Geo) (M : fx_Mem) (f : Nat → Int32) : (fx_wd g M).set 10 (fx_a g 10, .inl (fx_cI g, 5, .inl f)) = fx_wd g (fx_sA M 10 f) := rfl
theorem fx_w11 (g : fx_Geo) (M : fx_Mem) : (fx_wd g M)[11]? = some (fx_a g 11, .inl (fx_cR g, 20, .inr (.inr (.inr (.inr (fun i => if i < 20 then some (fx_a g (57 + i)) else none)))))) := rfl
theorem fx_w12 (g : fx_Geo) (M : fx_Mem) : (fx_wd g M)[12]? = some (fx_a g 12, .inl (fx_cI g, 5, .inl (M.2.1 12))) := rfl
theorem fx_p12 (g : fx_Geo) (M : fx_Mem) (f : Nat → Int32) : (fx_wd g M).set 12 (fx_a g 12, .inl (fx_cI g, 5, .inl f)) = fx_wd g (fx_sA M 12 f) := rfl
theorem fx_w13 (g : fx_Geo) (M : fx_Mem) : (fx_wd g M)[13]? = some (fx_a g 13, .inl (fx_cR g, 20, .inr (.inr (.inr (.inr (fun i => if i < 20 then some (fx_a g (77 + i)) else none)))))) := rfl
theorem fx_w14 (g : fx_Geo) (M : fx_Mem) : (fx_wd g M)[14]? = some (fx_a g 14, .inl (fx_cC g, 80, .inl (M.2.1 14))) := rfl
theorem fx_p14 (g : fx_Geo) (M : fx_Mem) (f : Nat → Int32) : (fx_wd g M).set 14 (fx_a g 14, .inl (fx_cC g, 80, .inl f)) = fx_wd g (fx_sA M 14 f) := rfl
theorem fx_w15 (g : fx_Geo) (M : fx_Mem) : (fx_wd g M)[15]? = some (fx_a g 15, .inl (fx_cJ g, 20, .inr (.inl (M.2.2 15)))) := rfl
theorem fx_p15 (g : fx_Geo) (M : fx_Mem) (j : Nat) (v : Int64) : (fx_wd g M).set 15 (fx_a g 15, .inl (fx_cJ g, 20, .inr (.inl (vp_updL (M.2.2 15) j v)))) = fx_wd g (fx_sl M 15 j v) := rfl
theorem fx_w16 (g : fx_Geo) (M : fx_Mem) : (fx_wd g M)[16]? = some (fx_a g 16, .inl (fx_cI g, 20, .inl (M.2.1 16))) := rfl
theorem fx_p16 (g : fx_Geo) (M : fx_Mem) (f : Nat → Int32) : (fx_wd g M).set 16 (fx_a g 16, .inl (fx_cI g, 20, .inl f)) = fx_wd g (fx_sA M 16 f) := rfl
theorem fx_w17 (g : fx_Geo) (M : fx_Mem) : (fx_wd g M)[17]? = some (fx_a g 17, .inl (fx_cJ g, 20, .inr (.inl (M.2.2 17)))) := rfl
theorem fx_p17 (g : fx_Geo) (M : fx_Mem) (j : Nat) (v : Int64) : (fx_wd g M).set 17 (fx_a g 17, .inl (fx_cJ g, 20, .inr (.inl (vp_updL (M.2.2 17) j v)))) = fx_wd g (fx_sl M 17 j v) := rfl
theorem fx_w18 (g : fx_Geo) (M : fx_Mem) : (fx_wd g M)[18]? = some (fx_a g 18, .inl (fx_cI g, 20, .inl (M.2.1 18))) := rfl
theorem fx_p18 (g : fx_Geo) (M : fx_Mem) (f : Nat → Int32) : (fx_wd g M).set 18 (fx_a g 18, .inl (fx_cI g, 20, .inl f)) = fx_wd g (fx_sA M 18 f) := rfl
theorem fx_w19 (g : fx_Geo) (M : fx_Mem) : (fx_wd g M)[19]? = some (fx_a g 19, .inl (fx_cI g, 21, .inl (M.2.1 19))) := rfl
theorem fx_p19 (g : fx_Geo) (M : fx_Mem) (f : Nat → Int32) : (fx_wd g M).set 19 (fx_a g 19, .inl (fx_cI g, 21, .inl f)) = fx_wd g (fx_sA M 19 f) := rfl
theorem fx_w20 (g : fx_Geo) (M : fx_Mem) : (fx_wd g M)[20]? = some (fx_a g 20, .inl (fx_cI g, 20, .inl (M.2.1 20))) := rfl
theorem fx_p20 (g : fx_Geo) (M : fx_Mem) (f : Nat → Int32) : (fx_wd g M).set 20 (fx_a g 20, .inl (fx_cI g, 20, .inl f)) = fx_wd g (fx_sA M 20 f) := rfl
theorem fx_w21 (g : fx_Geo) (M : fx_Mem) : (fx_wd g M)[21]? = some (fx_a g 21, .inl (fx_cI g, 20, .inl (M.2.1 21))) := rfl
theorem fx_p21 (g : fx_Geo) (M : fx_Mem) (f : Nat → Int32) : (fx_wd g M).set 21 (fx_a g 21, .inl (fx_cI g, 20, .inl f)) = fx_wd g (fx_sA M 21 f) := rfl
theorem fx_w22 (g : fx_Geo) (M : fx_Mem) : (fx_wd g M)[22]? = some (fx_a g 22, .inl (fx_cI g, 20, .inl (M.2.1 22))) := rfl
theorem fx_p22 (g : fx_Geo) (M : fx_Mem) (f : Nat → Int32) : (fx_wd g M).set 22 (fx_a g 22, .inl (fx_cI g, 20, .inl f)) = fx_wd g (fx_sA M 22 f) := rfl
theorem fx_w23 (g : fx_Geo) (M : fx_Mem) : (fx_wd g M)[23]? = some (fx_a g 23, .inl (fx_cI g, 20, .inl (M.2.1 23))) := rfl
theorem fx_p23 (g : fx_Geo) (M : fx_Mem) (f : Nat → Int32) : (fx_wd g M).set 23 (fx_a g 23, .inl (fx_cI g, 20, .inl f)) = fx_wd g (fx_sA M 23 f) := rfl
theorem fx_w24 (g : fx_Geo) (M : fx_Mem) : (fx_wd g M)[24]? = some (fx_a g 24, .inl (fx_cI g, 20, .inl (M.2.1 24))) := rfl
theorem fx_p24 (g : fx_Geo) (M : fx_Mem) (f : Nat → Int32) : (fx_wd g M).set 24 (fx_a g 24, .inl (fx_cI g, 20, .inl f)) = fx_wd g (fx_sA M 24 f) := rfl
theorem fx_w25 (g : fx_Geo) (M : fx_Mem) : (fx_wd g M)[25]? = some (fx_a g 25, .inl (fx_cZ g, 20, .inl (M.2.1 25))) := rfl
theorem fx_p25 (g : fx_Geo) (M : fx_Mem) (f : Nat → Int32) : (fx_wd g M).set 25 (fx_a g 25, .inl (fx_cZ g, 20, .inl f)) = fx_wd g (fx_sA M 25 f) := rfl
theorem fx_w26 (g : fx_Geo) (M : fx_Mem) : (fx_wd g M)[26]? = some (fx_a g 26, .inl (fx_cI g, 20, .inl (M.2.1 26))) := rfl
theorem fx_p26 (g : fx_Geo) (M : fx_Mem) (f : Nat → Int32) : (fx_wd g M).set 26 (fx_a g 26, .inl (fx_cI g, 20, .inl f)) = fx_wd g (fx_sA M 26 f) := rfl
theorem fx_w27 (g : fx_Geo) (M : fx_Mem) : (fx_wd g M)[27]? = some (fx_a g 27, .inl (fx_cI g, 20, .inl (M.2.1 27))) := rfl
theorem fx_p27 (g : fx_Geo) (M : fx_Mem) (f : Nat → Int32) : (fx_wd g M).set 27 (fx_a g 27, .inl (fx_cI g, 20, .inl f)) = fx_wd g (fx_sA M 27 f) := rfl
theorem fx_w28 (g : fx_Geo) (M : fx_Mem) : (fx_wd g M)[28]? = some (fx_a g 28, .inl (fx_cI g, 20, .inl (M.2.1 28))) := rfl
theorem fx_p28 (g : fx_Geo) (M : fx_Mem) (f : Nat → Int32) : (fx_wd g M).set 28 (fx_a g 28, .inl (fx_cI g, 20, .inl f)) = fx_wd g (fx_sA M 28 f) := rfl
theorem fx_w29 (g : fx_Geo) (M : fx_Mem) : (fx_wd g M)[29]? = some (fx_a g 29, .inl (fx_cI g, 20, .inl (M.2.1 29))) := rfl
theorem fx_p29 (g : fx_Geo) (M : fx_Mem) (f : Nat → Int32) : (fx_wd g M).set 29 (fx_a g 29, .inl (fx_cI g, 20, .inl f)) = fx_wd g (fx_sA M 29 f) := rfl
theorem fx_w30 (g : fx_Geo) (M : fx_Mem) : (fx_wd g M)[30]? = some (fx_a g 30, .inl (fx_cI g, 9, .inl (M.2.1 30))) := rfl
theorem fx_p30 (g : fx_Geo) (M : fx_Mem) (f : Nat → Int32) : (fx_wd g M).set 30 (fx_a g 30, .inl (fx_cI g, 9, .inl f)) = fx_wd g (fx_sA M 30 f) := rfl
theorem fx_w31 (g : fx_Geo) (M : fx_Mem) : (fx_wd g M)[31]? = some (fx_a g 31, .inl (fx_cI g, 200, .inl (M.2.1 31))) := rfl
theorem fx_p31 (g : fx_Geo) (M : fx_Mem) (f : Nat → Int32) : (fx_wd g M).set 31 (fx_a g 31, .inl (fx_cI g, 200, .inl f)) = fx_wd g (fx_sA M 31 f) := rfl
theorem fx_w32 (g : fx_Geo) (M : fx_Mem) : (fx_wd g M)[32]? = some (fx_a g 32, .inl (fx_cC g, 80, .inl (M.2.1 32))) := rfl
theorem fx_p32 (g : fx_Geo) (M : fx_Mem) (f : Nat → Int32) : (fx_wd g M).set 32 (fx_a g 32, .inl (fx_cC g, 80, .inl f)) = fx_wd g (fx_sA M 32 f) := rfl
theorem fx_w33 (g : fx_Geo) (M : fx_Mem) : (fx_wd g M)[33]? = some (fx_a g 33, .inl (fx_cI g, 40, .inl (M.2.1 33))) := rfl
theorem fx_p33 (g : fx_Geo) (M : fx_Mem) (f : Nat → Int32) : (fx_wd g M).set 33 (fx_a g 33, .inl (fx_cI g, 40, .inl f)) = fx_wd g (fx_sA M 33 f) := rfl
theorem fx_w34 (g : fx_Geo) (M : fx_Mem) : (fx_wd g M)[34]? = some (fx_a g 34, .inl (fx_cI g, 40, .inl (M.2.1 34))) := rfl
theorem fx_p34 (g : fx_Geo) (M : fx_Mem) (f : Nat → Int32) : (fx_wd g M).set 34 (fx_a g 34, .inl (fx_cI g, 40, .inl f)) = fx_wd g (fx_sA M 34 f) := rfl
theorem fx_w35 (g : fx_Geo) (M : fx_Mem) : (fx_wd g M)[35]? = some (fx_a g 35, .inl (fx_cI g, 40, .inl (M.2.1 35))) := rfl
theorem fx_p35 (g : fx_Geo) (M : fx_Mem) (f : Nat → Int32) : (fx_wd g M).set 35 (fx_a g 35, .inl (fx_cI g, 40, .inl f)) = fx_wd g (fx_sA M 35 f) := rfl
theorem fx_w36 (g : fx_Geo) (M : fx_Mem) : (fx_wd g M)[36]? = some (fx_a g 36, .inl (fx_cJ g, 20, .inr (.inl (M.2.2 36)))) := rfl
theorem fx_p36 (g : fx_Geo) (M : fx_Mem) (j : Nat) (v : Int64) : (fx_wd g M).set 36 (fx_a g 36, .inl (fx_cJ g, 20, .inr (.inl (vp_updL (M.2.2 36) j v)))) = fx_wd g (fx_sl M 36 j v) := rfl
theorem fx_w37 (g : fx_Geo) (M : fx_Mem) : (fx_wd g M)[37]? = some (fx_a g 37, .inl (fx_cJ g, 20, .inr (.inl (M.2.2 37)))) := rfl
theorem fx_p37 (g : fx_Geo) (M : fx_Mem) (j : Nat) (v : Int64) : (fx_wd g M).set 37 (fx_a g 37, .inl (fx_cJ g, 20, .inr (.inl (vp_updL (M.2.2 37) j v)))) = fx_wd g (fx_sl M 37 j v) := rfl
theorem fx_w38 (g : fx_Geo) (M : fx_Mem) : (fx_wd g M)[38]? = some (fx_a g 38, .inl (fx_cJ g, 20, .inr (.inl (M.2.2 38)))) := rfl
theorem fx_p38 (g : fx_Geo) (M : fx_Mem) (j : Nat) (v : Int64) : (fx_wd g M).set 38 (fx_a g 38, .inl (fx_cJ g, 20, .inr (.inl (vp_updL (M.2.2 38) j v)))) = fx_wd g (fx_sl M 38 j v) := rfl
theorem fx_w39 (g : fx_Geo) (M : fx_Mem) : (fx_wd g M)[39]? = some (fx_a g 39, .inl (fx_cI g, 20, .inl (M.2.1 39))) := rfl
theorem fx_p39 (g : fx_Geo) (M : fx_Mem) (f : Nat → Int32) : (fx_wd g M).set 39 (fx_a g 39, .inl (fx_cI g, 20, .inl f)) = fx_wd g (fx_sA M 39 f) := rfl
theorem fx_w40 (g : fx_Geo) (M : fx_Mem) : (fx_wd g M)[40]? = some (fx_a g 40, .inl (fx_cI g, 20, .inl (M.2.1 40))) := rfl
theorem fx_p40 (g : fx_Geo) (M : fx_Mem) (f : Nat → Int32) : (fx_wd g M).set 40 (fx_a g 40, .inl (fx_cI g, 20, .inl f)) = fx_wd g (fx_sA M 40 f) := rfl
theorem fx_w41 (g : fx_Geo) (M : fx_Mem) : (fx_wd g M)[41]? = some (fx_a g 41, .inl (fx_cI g, 20, .inl (M.2.1 41))) := rfl
theorem fx_p41 (g : fx_Geo) (M : fx_Mem) (f : Nat → Int32) : (fx_wd g M).set 41 (fx_a g 41, .inl (fx_cI g, 20, .inl f)) = fx_wd g (fx_sA M 41 f) := rfl
theorem fx_w42 (g : fx_Geo) (M : fx_Mem) : (fx_wd g M)[42]? = some (fx_a g 42, .inl (fx_cI g, 20, .inl (M.2.1 42))) := rfl
theorem fx_p42 (g : fx_Geo) (M : fx_Mem) (f : Nat → Int32) : (fx_wd g M).set 42 (fx_a g 42, .inl (fx_cI g, 20, .inl f)) = fx_wd g (fx_sA M 42 f) := rfl
theorem fx_w43 (g : fx_Geo) (M : fx_Mem) : (fx_wd g M)[43]? = some (fx_a g 43, .inl (fx_cI g, 20, .inl (M.2.1 43))) := rfl
theorem fx_p43 (g : fx_Geo) (M : fx_Mem) (f : Nat → Int32) : (fx_wd g M).set 43 (fx_a g 43, .inl (fx_cI g, 20, .inl f)) = fx_wd g (fx_sA M 43 f) := rfl
theorem fx_w44 (g : fx_Geo) (M : fx_Mem) : (fx_wd g M)[44]? = some (fx_a g 44, .inl (fx_cI g, 20, .inl (M.2.1 44))) := rfl
theorem fx_p44 (g : fx_Geo) (M : fx_Mem) (f : Nat → Int32) : (fx_wd g M).set 44 (fx_a g 44, .inl (fx_cI g, 20, .inl f)) = fx_wd g (fx_sA M 44 f) := rfl
theorem fx_w45 (g : fx_Geo) (M : fx_Mem) : (fx_wd g M)[45]? = some (fx_a g 45, .inl (fx_cI g, 20, .inl (M.2.1 45))) := rfl
theorem fx_p45 (g : fx_Geo) (M : fx_Mem) (f : Nat → Int32) : (fx_wd g M).set 45 (fx_a g 45, .inl (fx_cI g, 20, .inl f)) = fx_wd g (fx_sA M 45 f) := rfl
theorem fx_w46 (g : fx_Geo) (M : fx_Mem) : (fx_wd g M)[46]? = some (fx_a g 46, .inl (fx_cZ g, 20, .inl (M.2.1 46))) := rfl
theorem fx_p46 (g : fx_Geo) (M : fx_Mem) (f : Nat → Int32) : (fx_wd g M).set 46 (fx_a g 46, .inl (fx_cZ g, 20, .inl f)) = fx_wd g (fx_sA M 46 f) := rfl
theorem fx_w47 (g : fx_Geo) (M : fx_Mem) : (fx_wd g M)[47]? = some (fx_a g 47, .inl (fx_cI g, 20, .inl (M.2.1 47))) := rfl
theorem fx_p47 (g : fx_Geo) (M : fx_Mem) (f : Nat → Int32) : (fx_wd g M).set 47 (fx_a g 47, .inl (fx_cI g, 20, .inl f)) = fx_wd g (fx_sA M 47 f) := rfl
theorem fx_w48 (g : fx_Geo) (M : fx_Mem) : (fx_wd g M)[48]? = some (fx_a g 48, .inl (fx_cI g, 20, .inl (M.2.1 48))) := rfl
theorem fx_p48 (g : fx_Geo) (M : fx_Mem) (f : Nat → Int32) : (fx_wd g M).set 48 (fx_a g 48, .inl (fx_cI g, 20, .inl f)) = fx_wd g (fx_sA M 48 f) := rfl
theorem fx_w49 (g : fx_Geo) (M : fx_Mem) : (fx_wd g M)[49]? = some (fx_a g 49, .inl (fx_cI g, 20, .inl (M.2.1 49))) := rfl
theorem fx_p49 (g : fx_Geo) (M : fx_Mem) (f : Nat → Int32) : (fx_wd g M).set 49 (fx_a g 49, .inl (fx_cI g, 20, .inl f)) = fx_wd g (fx_sA M 49 f) := rfl
theorem fx_w50 (g : fx_Geo) (M : fx_Mem) : (fx_wd g M)[50]? = some (fx_a g 50, .inl (fx_cI g, 20, .inl (M.2.1 50))) := rfl
theorem fx_p50 (g : fx_Geo) (M : fx_Mem) (f : Nat → Int32) : (fx_wd g M).set 50 (fx_a g 50, .inl (fx_cI g, 20, .inl f)) = fx_wd g (fx_sA M 50 f) := rfl
theorem fx_w51 (g : fx_Geo) (M : fx_Mem) : (fx_wd g M)[51]? = some (fx_a g 51, .inl (fx_cI g, 20, .inl (M.2.1 51))) := rfl
theorem fx_p51 (g : fx_Geo) (M : fx_Mem) (f : Nat → Int32) : (fx_wd g M).set 51 (fx_a g 51, .inl (fx_cI g, 20, .inl f)) = fx_wd g (fx_sA M 51 f) := rfl
theorem fx_w52 (g : fx_Geo) (M : fx_Mem) : (fx_wd g M)[52]? = some (fx_a g 52, .inl (fx_cI g, 20, .inl (M.2.1 52))) := rfl
theorem fx_p52 (g : fx_Geo) (M : fx_Mem) (f : Nat → Int32) : (fx_wd g M).set 52 (fx_a g 52, .inl (fx_cI g, 20, .inl f)) = fx_wd g (fx_sA M 52 f) := rfl
theorem fx_w53 (g : fx_Geo) (M : fx_Mem) : (fx_wd g M)[53]? = some (fx_a g 53, .inl (fx_cI g, 20, .inl (M.2.1 53))) := rfl
theorem fx_p53 (g : fx_Geo) (M : fx_Mem) (f : Nat → Int32) : (fx_wd g M).set 53 (fx_a g 53, .inl (fx_cI g, 20, .inl f)) = fx_wd g (fx_sA M 53 f) := rfl
theorem fx_w54 (g : fx_Geo) (M : fx_Mem) : (fx_wd g M)[54]? = some (fx_a g 54, .inl (fx_cI g, 20, .inl (M.2.1 54))) := rfl
theorem fx_p54 (g : fx_Geo) (M : fx_Mem) (f : Nat → Int32) : (fx_wd g M).set 54 (fx_a g 54, .inl (fx_cI g, 20, .inl f)) = fx_wd g (fx_sA M 54 f) := rfl
theorem fx_w55 (g : fx_Geo) (M : fx_Mem) : (fx_wd g M)[55]? = some (fx_a g 55, .inl (fx_cI g, 20, .inl (M.2.1 55))) := rfl
theorem fx_p55 (g : fx_Geo) (M : fx_Mem) (f : Nat → Int32) : (fx_wd g M).set 55 (fx_a g 55, .inl (fx_cI g, 20, .inl f)) = fx_wd g (fx_sA M 55 f) := rfl
theorem fx_w56 (g : fx_Geo) (M : fx_Mem) : (fx_wd g M)[56]? = some (fx_a g 56, .inl (fx_cI g, 210, .inl (M.2.1 56))) := rfl
theorem fx_p56 (g : fx_Geo) (M : fx_Mem) (f : Nat → Int32) : (fx_wd g M).set 56 (fx_a g 56, .inl (fx_cI g, 210, .inl f)) = fx_wd g (fx_sA M 56 f) := rfl
theorem fx_r1 (g : fx_Geo) (M : fx_Mem) : ∀ j, j < 20 → (fx_wd g M)[57 + j]? = some (fx_a g (57 + j), .inl (fx_cI g, 10, .inl (M.2.1 (57 + j))))
  | 0, _ => rfl
  | 1, _ => rfl
  | 2, _ => rfl
  | 3, _ => rfl
  | 4, _ => rfl
  | 5, _ => rfl
  | 6, _ => rfl
  | 7, _ => rfl
  | 8, _ => rfl
  | 9, _ => rfl
  | 10, _ => rfl
  | 11, _ => rfl
  | 12, _ => rfl
  | 13, _ => rfl
  | 14, _ => rfl
  | 15, _ => rfl
  | 16, _ => rfl
  | 17, _ => rfl
  | 18, _ => rfl
  | 19, _ => rfl
  | n + 20, h => absurd h (by omega)
theorem fx_q1 (g : fx_Geo) (M : fx_Mem) (f : Nat → Int32) : ∀ j, j < 20 → (fx_wd g M).set (57 + j) (fx_a g (57 + j), .inl (fx_cI g, 10, .inl f)) = fx_wd g (fx_sA M (57 + j) f)
  | 0, _ => rfl
  | 1, _ => rfl
  | 2, _ => rfl
  | 3, _ => rfl
  | 4, _ => rfl
  | 5, _ => rfl
  | 6, _ => rfl
  | 7, _ => rfl
  | 8, _ => rfl
  | 9, _ => rfl
  | 10, _ => rfl
  | 11, _ => rfl
  | 12, _ => rfl
  | 13, _ => rfl
  | 14, _ => rfl
  | 15, _ => rfl
  | 16, _ => rfl
  | 17, _ => rfl
  | 18, _ => rfl
  | 19, _ => rfl
  | n + 20, h => absurd h (by omega)
theorem fx_r2 (g : fx_Geo) (M : fx_Mem) : ∀ j, j < 20 → (fx_wd g M)[77 + j]? = some (fx_a g (77 + j), .inl (fx_cI g, 10, .inl (M.2.1 (77 + j))))
  | 0, _ => rfl
  | 1, _ => rfl
  | 2, _ => rfl
  | 3, _ => rfl
  | 4, _ => rfl
  | 5, _ => rfl
  | 6, _ => rfl
  | 7, _ => rfl
  | 8, _ => rfl
  | 9, _ => rfl
  | 10, _ => rfl
  | 11, _ => rfl
  | 12, _ => rfl
  | 13, _ => rfl
  | 14, _ => rfl
  | 15, _ => rfl
  | 16, _ => rfl
  | 17, _ => rfl
  | 18, _ => rfl
  | 19, _ => rfl
  | n + 20, h => absurd h (by omega)
theorem fx_q2 (g : fx_Geo) (M : fx_Mem) (f : Nat → Int32) : ∀ j, j < 20 → (fx_wd g M).set (77 + j) (fx_a g (77 + j), .inl (fx_cI g, 10, .inl f)) = fx_wd g (fx_sA M (77 + j) f)
  | 0, _ => rfl
  | 1, _ => rfl
  | 2, _ => rfl
  | 3, _ => rfl
  | 4, _ => rfl
  | 5, _ => rfl
  | 6, _ => rfl
  | 7, _ => rfl
  | 8, _ => rfl
  | 9, _ => rfl
  | 10, _ => rfl
  | 11, _ => rfl
  | 12, _ => rfl
  | 13, _ => rfl
  | 14, _ => rfl
  | 15, _ => rfl
  | 16, _ => rfl
  | 17, _ => rfl
  | 18, _ => rfl
  | 19, _ => rfl
  | n + 20, h => absurd h (by omega)
/-! what the static tables, the nest mates' links, the texts of throws are: as the start of the law has them; a method takes them at its start -/
def fx_tHS (j : Nat) : Int32 := ([(3), (2), (5), (4), (6)] : List Int32).getD j 0
def fx_tLO (j : Nat) : Int32 := ([(0), (0), (0), (0), (-1), (0), (0), (-1), (-9), (0)] : List Int32).getD j 0
def fx_tHI (j : Nat) : Int32 := ([(9999), (99), (99), (9999), (9999), (9999), (9999), (4), (9), (1)] : List Int32).getD j 0
def fx_tFI (j : Nat) : Int32 := ([(0), (0), (1), (0), (-1), (0), (0), (-1), (0), (1)] : List Int32).getD j 0
def fx_tLE (j : Nat) : Int32 := ([(98), (103), (115), (109), (120), (99), (97), (108), (111), (116)] : List Int32).getD j 0
def fx_tQS (j : Nat) : Int32 := ([(3), (2), (5), (4), (6)] : List Int32).getD j 0
def fx_tQL (j : Nat) : Int32 := ([(0), (0), (0), (0), (-1), (0), (0), (-1), (-9), (0)] : List Int32).getD j 0
def fx_tQM (j : Nat) : Int32 := ([(9999), (99), (99), (9999), (9999), (9999), (9999), (4), (9), (1)] : List Int32).getD j 0
def fx_tQF (j : Nat) : Int32 := ([(0), (0), (1), (0), (-1), (0), (0), (-1), (0), (1)] : List Int32).getD j 0
