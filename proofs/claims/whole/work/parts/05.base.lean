/-! the abstract machine: values, memory, worlds -/
abbrev ax_V : Type := Int ⊕ (Option Nat ⊕ (Int64 ⊕ UInt64))
abbrev vI (n : Int) : ax_V := Sum.inl n
abbrev vR (a : Nat) : ax_V := Sum.inr (Sum.inl (some a))
abbrev vQ (a : Option Nat) : ax_V := Sum.inr (Sum.inl a)
abbrev vN : ax_V := Sum.inr (Sum.inl none)
abbrev vL (x : Int64) : ax_V := Sum.inr (Sum.inr (Sum.inl x))
abbrev vD (x : UInt64) : ax_V := Sum.inr (Sum.inr (Sum.inr x))
/-- ints, references, longs of the cells; how many cells, how many slots are made; what the cells are: (kind, length) -/
abbrev ax_M : Type := (Nat → Nat → Int) × (Nat → Nat → Option Nat) × (Nat → Nat → Int64) × Nat × Nat × (Nat → Nat × Nat)
abbrev mI (M : ax_M) : Nat → Nat → Int := M.1
abbrev mR (M : ax_M) : Nat → Nat → Option Nat := M.2.1
abbrev mJ (M : ax_M) : Nat → Nat → Int64 := M.2.2.1
abbrev mSz (M : ax_M) : Nat := M.2.2.2.1
abbrev mSl (M : ax_M) : Nat := M.2.2.2.2.1
abbrev mSh (M : ax_M) : Nat → Nat × Nat := M.2.2.2.2.2
def ax_up {α : Type} (f : Nat → Nat → α) (k j : Nat) (v : α) : Nat → Nat → α := fun a b => if a = k ∧ b = j then v else f a b
theorem ax_up_s {α : Type} {f : Nat → Nat → α} {k j : Nat} {v : α} : ax_up f k j v k j = v := if_pos ⟨rfl, rfl⟩
theorem ax_up_n {α : Type} {f : Nat → Nat → α} {k j a b : Nat} {v : α} (h : ¬ (a = k ∧ b = j)) : ax_up f k j v a b = f a b := if_neg h
abbrev mUI (M : ax_M) (k j : Nat) (v : Int) : ax_M := (ax_up M.1 k j v, M.2)
abbrev mUR (M : ax_M) (k j : Nat) (v : Option Nat) : ax_M := (M.1, ax_up M.2.1 k j v, M.2.2)
abbrev mUJ (M : ax_M) (k j : Nat) (v : Int64) : ax_M := (M.1, M.2.1, ax_up M.2.2.1 k j v, M.2.2.2)
/-- the launch; the first address; classes and their slots; array classes; the constants' addresses; the script; are the first cells made? -/
abbrev ax_G : Type := Launch × Nat × (Nat → ClassId) × (Nat → Nat → Nat) × (Nat → ClassId) × (Nat → Nat) × Nat × (Nat → Int) × (Nat → Bool)
abbrev gL (G : ax_G) : Launch := G.1
abbrev gSz (G : ax_G) : Nat := G.2.1
abbrev gDC (G : ax_G) : Nat → ClassId := G.2.2.1
abbrev gDI (G : ax_G) : Nat → Nat → Nat := G.2.2.2.1
abbrev gCA (G : ax_G) : Nat → ClassId := G.2.2.2.2.1
abbrev gAC (G : ax_G) : Nat → Nat := G.2.2.2.2.2.1
abbrev gN (G : ax_G) : Nat := G.2.2.2.2.2.2.1
abbrev gX (G : ax_G) : Nat → Int := G.2.2.2.2.2.2.2.1
/-- the cells that are made, and whose references stand for good -/
abbrev gPh (G : ax_G) : Nat → Bool := G.2.2.2.2.2.2.2.2
abbrev axC : Nat := 150
abbrev axB : Nat := 244
/-- the kinds of the cells that are made first, in their order, from axC on -/
def axF : List (Nat × Nat) := [(10, 12), (7, 2), (33, 2000), (8, 4), (36, 401), (32, 401), (32, 401), (5, 10), (36, 400), (32, 400), (36, 16), (32, 16), (32, 16), (32, 16), (32, 16), (32, 16), (2, 4), (4, 6), (32, 81), (6, 10), (32, 81), (32, 486), (32, 81), (32, 81), (32, 2), (32, 81), (3, 6), (32, 81), (32, 81), (0, 5), (32, 2), (32, 2), (32, 2), (9, 7), (37, 4), (32, 81), (32, 81), (32, 81), (32, 81), (32, 4), (32, 2), (32, 162), (1, 5), (32, 400), (5, 10), (36, 400), (32, 400), (36, 16), (32, 16), (32, 16), (32, 16), (32, 16), (32, 16), (12, 27), (32, 2000), (32, 402), (32, 402), (32, 402), (11, 15), (32, 81), (32, 17), (32, 17), (32, 17), (32, 17), (32, 17), (32, 17), (32, 17), (32, 800), (32, 800), (32, 800), (11, 15), (32, 81), (32, 17), (32, 17), (32, 17), (32, 17), (32, 17), (32, 17), (32, 17), (32, 800), (32, 800), (32, 800), (32, 800), (32, 81), (32, 81), (32, 81), (32, 81), (32, 81), (32, 81), (32, 82), (32, 81), (34, 81), (32, 6), (35, 1)]
theorem axF_len : axF.length = 94 := by decide +kernel
def ax_sh (M : ax_M) (k : Nat) : Nat × Nat := if k < axB then axF.getD (k - axC) (0, 0) else mSh M k
/-- the classes whose objects are made: the first thirteen as the tables have them, then the exceptions -/
def axE (n : String) : vw_C := (n, fun _ => ("", "", "", false), 0)
def axCl : List vw_C := [(RX1, TX1, 5), (RX2, TX2, 5), (RX3, TX3, 4), (RX4, TX4, 6), (RX6, TX6, 6), (RX7, TX7, 10), (RX8, TX8, 10), (RX9, TX9, 2), (RX10, TX10, 4), (RX11, TX11, 7), (RX12, TX12, 12), (RX13, TX13, 15), (RX14, TX14, 27), axE "java/lang/IllegalStateException", axE "java/lang/IllegalArgumentException", axE "java/lang/IndexOutOfBoundsException"]
def axN (t : Nat) : Nat := ((axCl[t]?).getD (axE "")).2.2
def axT (t : Nat) : u_T := ((axCl[t]?).getD (axE "")).2.1
def axR (t : Nat) : String := ((axCl[t]?).getD (axE "")).1
/-- the arrays' component types -/
def axA : List FieldType := [.int, .byte, .boolean, .long, .object "HexPond$Kind", .array .int, .object "java/lang/String"]
def ax_ty (t : Nat) : FieldType := (axA[t]?).getD .int
/-- what a slot holds: 0 ints, 1 references, 2 longs -/
def ax_kt (ty : FieldType) : Nat := match ty with
  | .int => 0 | .boolean => 0 | .byte => 0 | .short => 0 | .char => 0 | .long => 2 | _ => 1
def ax_tf (t j : Nat) : FieldType := match t with
  | 0 => tyX1 j | 1 => tyX2 j | 2 => tyX3 j | 3 => tyX4 j | 4 => tyX6 j | 5 => tyX7 j | 6 => tyX8 j | 7 => tyX9 j | 8 => tyX10 j | 9 => tyX11 j | 10 => tyX12 j | 11 => tyX13 j | 12 => tyX14 j | _ => .int
def ax_kd (t j : Nat) : Nat := if t < 32 then ax_kt (ax_tf t j) else ax_kt (ax_ty (t - 32))
def ax_ad (G : ax_G) (k : Nat) : Nat := if k < axC then gAC G k else gSz G + (k - axC)
def ax_rv (G : ax_G) (r : Option Nat) : Value := match r with | none => .null | some a => .ref (ax_ad G a)
def ax_cv (G : ax_G) (v : ax_V) : Value := match v with
  | .inl n => .int (Int32.ofInt n)
  | .inr (.inl r) => ax_rv G r
  | .inr (.inr (.inl x)) => .long x
  | .inr (.inr (.inr x)) => .double x
def ax_sv (G : ax_G) (M : ax_M) (t k j : Nat) : Value := match ax_kd t j with
  | 0 => .int (Int32.ofInt (mI M k j))
  | 1 => ax_rv G (mR M k j)
  | _ => .long (mJ M k j)
def ax_in (n : Int) : Prop := -2147483648 ≤ n ∧ n < 2147483648
def ax_ok (v : ax_V) : Prop := match v with | .inl n => ax_in n | _ => True
def ax_oS (st : List ax_V) : Prop := ∀ v ∈ st, ax_ok v
def ax_oL (ls : List (Option ax_V)) : Prop := ∀ v, some v ∈ ls → ax_ok v
def ax_At (G : ax_G) (M : ax_M) (H : Heap) (k : Nat) : Prop :=
  if (ax_sh M k).1 < 32 then t_OB (ax_ad G k) (gDC G (ax_sh M k).1) (axN (ax_sh M k).1) (gDI G (ax_sh M k).1) H (ax_sv G M (ax_sh M k).1 k)
  else H[ax_ad G k]? = some (arrV (gCA G ((ax_sh M k).1 - 32)) (ax_sh M k).2 (ax_sv G M (ax_sh M k).1 k))
/-- the references that stand for good -/
def axFRt : List (List (Option Nat)) := [[some 151, some 153, some 166, some 167, some 169, some 176, some 179, some 183, some 192, none, none, none], [some 152, none], [], [some 154, some 155, some 156, none], [], [], [], [some 158, some 159, none, some 160, some 161, some 162, some 163, some 164, some 165, none], [], [], [], [], [], [], [], [], [some 153, none, none, none], [some 153, some 168, none, none, none, none], [], [none, none, some 170, some 171, some 172, some 173, some 174, some 175, none, none], [], [], [], [], [], [], [some 169, some 177, some 178, none, none, none], [], [], [some 169, some 180, some 181, some 182, none], [], [], [], [some 169, some 184, some 189, some 190, some 191, none, none], [some 185, some 186, some 187, some 188], [], [], [], [], [], [], [], [some 169, some 179, some 183, some 193, none], [], [some 195, some 196, none, some 197, some 198, some 199, some 200, some 201, some 202, none], [], [], [], [], [], [], [], [], [none, some 204, none, none, some 205, some 206, some 207, none, none, none, none, none, some 208, some 220, some 232, some 233, some 234, none, some 235, some 236, some 237, some 238, some 239, some 240, some 241, none, some 242], [], [], [], [], [none, none, some 209, none, some 210, some 211, some 212, some 213, some 214, some 215, some 216, none, some 217, some 218, some 219], [], [], [], [], [], [], [], [], [], [], [], [none, none, some 221, none, some 222, some 223, some 224, some 225, some 226, some 227, some 228, none, some 229, some 230, some 231], [], [], [], [], [], [], [], [], [], [], [], [], [], [], [], [], [], [], [], [], [], [], []]
def axFR (k j : Nat) : Option Nat := ((axFRt[k - axC]?).getD []).getD j none
def ax_Rel (G : ax_G) (M : ax_M) (H : Heap) : Prop := H.size = gSz G + mSz M ∧ (∀ k, gPh G k = true → axC ≤ k ∧ k < axC + mSz M) ∧ (∀ k, axC ≤ k → k < axC + mSz M → ax_At G M H k) ∧ (∀ k, gPh G k = true → ∀ j r, axFR k j = some r → mR M k j = some r)
/-- rows of the kinds of tokens -/
def axKk (k : Nat) : Bool := k == 154 || k == 158 || k == 160 || k == 195 || k == 197
/-- what a memory keeps at every point -/
def ax_g (M : ax_M) : Prop := (∀ k j, ax_in (mI M k j)) ∧ (∀ k, axKk k = true → ∀ j a, mR M k j = some a → 10 ≤ a ∧ a < 52)
def ax_pp (M : ax_M) (o : Option ax_V ⊕ String) (M' : ax_M) : Prop := ax_g M' ∧ (∀ v, o = .inl (some v) → ax_ok v) ∧ mSz M ≤ mSz M' ∧ mSl M ≤ mSl M'
def ax_A (G : ax_G) : Nat → Prop := fun q => gSz G ≤ q
def ax_W : List Cond := lw_tbl.filter goodWord
def ax_tys (G : ax_G) : List (ClassId × FieldType) := [(gCA G 0, .int), (gCA G 1, .byte), (gCA G 2, .boolean), (gCA G 3, .long), (gCA G 4, .object "HexPond$Kind"), (gCA G 5, .array .int)]
/-- a method: its name, code, locals, what it returns, its handlers -/
abbrev ax_T : Type := MethodName × ByteArray × Nat × Option FieldType × List (Nat × Nat × Nat × Nat)
def ax_C (mt : ax_T) (p : Program) (s : State) (m : MethodId) (args : Array Value) (meth : Method) (c : Code) : Prop :=
  p.tables.exec = Jvm.exec ∧ c.code = mt.2.1 ∧ c.maxLocals = mt.2.2.1 ∧ meth.sig.returnType = mt.2.2.2.1 ∧ meth.locks = false ∧ s.vm.findClass mt.1.cls = some m.cls ∧ (∀ w ∈ ax_W, w.before args s = true) ∧ meth.name = mt.1.name ∧ c.exceptionTable.toList = tableOf mt.2.2.2.2
/-- the statics that are read: class, name, descriptor, what it holds -/
def axS : List (String × String × String × ax_V) := [("HexPond", "COLUMN_STEPS", "[I", vR 1), ("HexPond", "ROW_STEPS", "[I", vR 2), ("HexPondModel", "ACROSS", "[I", vR 3), ("HexPondModel", "DOWN", "[I", vR 4), ("HexPond$1", "$SwitchMap$HexPond$Kind", "[I", vR 5), ("HexPond", "KINDS", "[LHexPond$Kind;", vR 6), ("HexPondModel", "WORDS", "[Ljava/lang/String;", vR 7), ("java/lang/String", "COMPACT_STRINGS", "Z", vI 1), ("HexPond$Kind", "POND", "LHexPond$Kind;", vR 10), ("HexPond$Kind", "BY", "LHexPond$Kind;", vR 11), ("HexPond$Kind", "STONE", "LHexPond$Kind;", vR 12), ("HexPond$Kind", "PLAN", "LHexPond$Kind;", vR 13), ("HexPond$Kind", "RED_PLAYER", "LHexPond$Kind;", vR 14), ("HexPond$Kind", "BLUE_PLAYER", "LHexPond$Kind;", vR 15), ("HexPond$Kind", "WIN", "LHexPond$Kind;", vR 16), ("HexPond$Kind", "GUARD", "LHexPond$Kind;", vR 17), ("HexPond$Kind", "SAVE", "LHexPond$Kind;", vR 18), ("HexPond$Kind", "NEAR", "LHexPond$Kind;", vR 19), ("HexPond$Kind", "AT", "LHexPond$Kind;", vR 20), ("HexPond$Kind", "WHEN", "LHexPond$Kind;", vR 21), ("HexPond$Kind", "TURN", "LHexPond$Kind;", vR 22), ("HexPond$Kind", "STONES", "LHexPond$Kind;", vR 23), ("HexPond$Kind", "BRIDGES", "LHexPond$Kind;", vR 24), ("HexPond$Kind", "FREE", "LHexPond$Kind;", vR 25), ("HexPond$Kind", "NEEDS", "LHexPond$Kind;", vR 26), ("HexPond$Kind", "WON", "LHexPond$Kind;", vR 27), ("HexPond$Kind", "NOT", "LHexPond$Kind;", vR 28), ("HexPond$Kind", "AND", "LHexPond$Kind;", vR 29), ("HexPond$Kind", "OR", "LHexPond$Kind;", vR 30), ("HexPond$Kind", "MIN", "LHexPond$Kind;", vR 31), ("HexPond$Kind", "MAX", "LHexPond$Kind;", vR 32), ("HexPond$Kind", "OPEN", "LHexPond$Kind;", vR 33), ("HexPond$Kind", "CLOSE", "LHexPond$Kind;", vR 34), ("HexPond$Kind", "SQUARE_OPEN", "LHexPond$Kind;", vR 35), ("HexPond$Kind", "SQUARE_CLOSE", "LHexPond$Kind;", vR 36), ("HexPond$Kind", "SEMICOLON", "LHexPond$Kind;", vR 37), ("HexPond$Kind", "COMMA", "LHexPond$Kind;", vR 38), ("HexPond$Kind", "PLUS", "LHexPond$Kind;", vR 39), ("HexPond$Kind", "MINUS", "LHexPond$Kind;", vR 40), ("HexPond$Kind", "TIMES", "LHexPond$Kind;", vR 41), ("HexPond$Kind", "OVER", "LHexPond$Kind;", vR 42), ("HexPond$Kind", "LESS", "LHexPond$Kind;", vR 43), ("HexPond$Kind", "MORE", "LHexPond$Kind;", vR 44), ("HexPond$Kind", "EQUAL", "LHexPond$Kind;", vR 45), ("HexPond$Kind", "AT_MOST", "LHexPond$Kind;", vR 46), ("HexPond$Kind", "AT_LEAST", "LHexPond$Kind;", vR 47), ("HexPond$Kind", "NUMBER", "LHexPond$Kind;", vR 48), ("HexPond$Kind", "END", "LHexPond$Kind;", vR 49), ("HexPond$Kind", "WRONG", "LHexPond$Kind;", vR 50), ("HexPond$Kind", "NEGATE", "LHexPond$Kind;", vR 51)]
/-- the constants that are arrays: number, component type, what they hold -/
def axKa : List (Nat × FieldType × List ax_V) := [(1, .int, [vI 1, vI 0, vI (-1), vI (-1), vI 0, vI 1]), (2, .int, [vI 0, vI 1, vI 1, vI 0, vI (-1), vI (-1)]), (3, .int, [vI 1, vI 0, vI (-1), vI (-1), vI 0, vI 1]), (4, .int, [vI 0, vI 1, vI 1, vI 0, vI (-1), vI (-1)]), (5, .int, [vI 0, vI 0, vI 0, vI 0, vI 0, vI 0, vI 1, vI 2, vI 3, vI 4, vI 5, vI 0, vI 7, vI 9, vI 10, vI 8, vI 11, vI 12, vI 14, vI 26, vI 27, vI 19, vI 20, vI 0, vI 0, vI 0, vI 0, vI 0, vI 0, vI 15, vI 16, vI 17, vI 18, vI 21, vI 22, vI 23, vI 24, vI 25, vI 6, vI 0, vI 0, vI 13]), (6, .object "HexPond$Kind", [vR 10, vR 11, vR 12, vR 13, vR 14, vR 15, vR 16, vR 17, vR 18, vR 19, vR 20, vR 21, vR 22, vR 23, vR 24, vR 25, vR 26, vR 27, vR 28, vR 29, vR 30, vR 31, vR 32, vR 33, vR 34, vR 35, vR 36, vR 37, vR 38, vR 39, vR 40, vR 41, vR 42, vR 43, vR 44, vR 45, vR 46, vR 47, vR 48, vR 49, vR 50, vR 51]), (7, .object "java/lang/String", [vR 60, vR 61, vR 62, vR 63, vR 64, vR 65, vR 66, vR 67, vR 68, vR 69, vR 70, vR 71, vR 72, vR 73, vR 74, vR 75, vR 76, vR 77, vR 78, vR 79, vR 80, vR 81, vR 82]), (102, .byte, [vI 112, vI 111, vI 110, vI 100]), (103, .byte, [vI 98, vI 121]), (104, .byte, [vI 115, vI 116, vI 111, vI 110, vI 101]), (105, .byte, [vI 112, vI 108, vI 97, vI 110]), (106, .byte, [vI 114, vI 101, vI 100]), (107, .byte, [vI 98, vI 108, vI 117, vI 101]), (108, .byte, [vI 119, vI 105, vI 110]), (109, .byte, [vI 103, vI 117, vI 97, vI 114, vI 100]), (110, .byte, [vI 115, vI 97, vI 118, vI 101]), (111, .byte, [vI 110, vI 101, vI 97, vI 114]), (112, .byte, [vI 97, vI 116]), (113, .byte, [vI 119, vI 104, vI 101, vI 110]), (114, .byte, [vI 116, vI 117, vI 114, vI 110]), (115, .byte, [vI 115, vI 116, vI 111, vI 110, vI 101, vI 115]), (116, .byte, [vI 98, vI 114, vI 105, vI 100, vI 103, vI 101, vI 115]), (117, .byte, [vI 102, vI 114, vI 101, vI 101]), (118, .byte, [vI 110, vI 101, vI 101, vI 100, vI 115]), (119, .byte, [vI 119, vI 111, vI 110]), (120, .byte, [vI 110, vI 111, vI 116]), (121, .byte, [vI 97, vI 110, vI 100]), (122, .byte, [vI 111, vI 114]), (123, .byte, [vI 109, vI 105, vI 110]), (124, .byte, [vI 109, vI 97, vI 120]), (125, .byte, [vI 40]), (126, .byte, [vI 41]), (127, .byte, [vI 91]), (128, .byte, [vI 93]), (129, .byte, [vI 59]), (130, .byte, [vI 44]), (131, .byte, [vI 43]), (132, .byte, [vI 45]), (133, .byte, [vI 42]), (134, .byte, [vI 47]), (135, .byte, [vI 60]), (136, .byte, [vI 62]), (137, .byte, [vI 61]), (138, .byte, [vI 60, vI 61]), (139, .byte, [vI 62, vI 61]), (140, .byte, []), (141, .byte, []), (142, .byte, []), (143, .byte, [])]
/-- fields of the constants that are objects -/
def axKf : List (Nat × String × String × String × ax_V) := [(10, "java/lang/Enum", "ordinal", "I", vI 0), (10, "HexPond$Kind", "text", "Ljava/lang/String;", vR 60), (60, "java/lang/String", "value", "[B", vR 102), (60, "java/lang/String", "coder", "B", vI 0), (11, "java/lang/Enum", "ordinal", "I", vI 1), (11, "HexPond$Kind", "text", "Ljava/lang/String;", vR 61), (61, "java/lang/String", "value", "[B", vR 103), (61, "java/lang/String", "coder", "B", vI 0), (12, "java/lang/Enum", "ordinal", "I", vI 2), (12, "HexPond$Kind", "text", "Ljava/lang/String;", vR 62), (62, "java/lang/String", "value", "[B", vR 104), (62, "java/lang/String", "coder", "B", vI 0), (13, "java/lang/Enum", "ordinal", "I", vI 3), (13, "HexPond$Kind", "text", "Ljava/lang/String;", vR 63), (63, "java/lang/String", "value", "[B", vR 105), (63, "java/lang/String", "coder", "B", vI 0), (14, "java/lang/Enum", "ordinal", "I", vI 4), (14, "HexPond$Kind", "text", "Ljava/lang/String;", vR 64), (64, "java/lang/String", "value", "[B", vR 106), (64, "java/lang/String", "coder", "B", vI 0), (15, "java/lang/Enum", "ordinal", "I", vI 5), (15, "HexPond$Kind", "text", "Ljava/lang/String;", vR 65), (65, "java/lang/String", "value", "[B", vR 107), (65, "java/lang/String", "coder", "B", vI 0), (16, "java/lang/Enum", "ordinal", "I", vI 6), (16, "HexPond$Kind", "text", "Ljava/lang/String;", vR 66), (66, "java/lang/String", "value", "[B", vR 108), (66, "java/lang/String", "coder", "B", vI 0), (17, "java/lang/Enum", "ordinal", "I", vI 7), (17, "HexPond$Kind", "text", "Ljava/lang/String;", vR 67), (67, "java/lang/String", "value", "[B", vR 109), (67, "java/lang/String", "coder", "B", vI 0), (18, "java/lang/Enum", "ordinal", "I", vI 8), (18, "HexPond$Kind", "text", "Ljava/lang/String;", vR 68), (68, "java/lang/String", "value", "[B", vR 110), (68, "java/lang/String", "coder", "B", vI 0), (19, "java/lang/Enum", "ordinal", "I", vI 9), (19, "HexPond$Kind", "text", "Ljava/lang/String;", vR 69), (69, "java/lang/String", "value", "[B", vR 111), (69, "java/lang/String", "coder", "B", vI 0), (20, "java/lang/Enum", "ordinal", "I", vI 10), (20, "HexPond$Kind", "text", "Ljava/lang/String;", vR 70), (70, "java/lang/String", "value", "[B", vR 112), (70, "java/lang/String", "coder", "B", vI 0), (21, "java/lang/Enum", "ordinal", "I", vI 11), (21, "HexPond$Kind", "text", "Ljava/lang/String;", vR 71), (71, "java/lang/String", "value", "[B", vR 113), (71, "java/lang/String", "coder", "B", vI 0), (22, "java/lang/Enum", "ordinal", "I", vI 12), (22, "HexPond$Kind", "text", "Ljava/lang/String;", vR 72), (72, "java/lang/String", "value", "[B", vR 114), (72, "java/lang/String", "coder", "B", vI 0), (23, "java/lang/Enum", "ordinal", "I", vI 13), (23, "HexPond$Kind", "text", "Ljava/lang/String;", vR 73), (73, "java/lang/String", "value", "[B", vR 115), (73, "java/lang/String", "coder", "B", vI 0), (24, "java/lang/Enum", "ordinal", "I", vI 14), (24, "HexPond$Kind", "text", "Ljava/lang/String;", vR 74), (74, "java/lang/String", "value", "[B", vR 116), (74, "java/lang/String", "coder", "B", vI 0), (25, "java/lang/Enum", "ordinal", "I", vI 15), (25, "HexPond$Kind", "text", "Ljava/lang/String;", vR 75), (75, "java/lang/String", "value", "[B", vR 117), (75, "java/lang/String", "coder", "B", vI 0), (26, "java/lang/Enum", "ordinal", "I", vI 16), (26, "HexPond$Kind", "text", "Ljava/lang/String;", vR 76), (76, "java/lang/String", "value", "[B", vR 118), (76, "java/lang/String", "coder", "B", vI 0), (27, "java/lang/Enum", "ordinal", "I", vI 17), (27, "HexPond$Kind", "text", "Ljava/lang/String;", vR 77), (77, "java/lang/String", "value", "[B", vR 119), (77, "java/lang/String", "coder", "B", vI 0), (28, "java/lang/Enum", "ordinal", "I", vI 18), (28, "HexPond$Kind", "text", "Ljava/lang/String;", vR 78), (78, "java/lang/String", "value", "[B", vR 120), (78, "java/lang/String", "coder", "B", vI 0), (29, "java/lang/Enum", "ordinal", "I", vI 19), (29, "HexPond$Kind", "text", "Ljava/lang/String;", vR 79), (79, "java/lang/String", "value", "[B", vR 121), (79, "java/lang/String", "coder", "B", vI 0), (30, "java/lang/Enum", "ordinal", "I", vI 20), (30, "HexPond$Kind", "text", "Ljava/lang/String;", vR 80), (80, "java/lang/String", "value", "[B", vR 122), (80, "java/lang/String", "coder", "B", vI 0), (31, "java/lang/Enum", "ordinal", "I", vI 21), (31, "HexPond$Kind", "text", "Ljava/lang/String;", vR 81), (81, "java/lang/String", "value", "[B", vR 123), (81, "java/lang/String", "coder", "B", vI 0), (32, "java/lang/Enum", "ordinal", "I", vI 22), (32, "HexPond$Kind", "text", "Ljava/lang/String;", vR 82), (82, "java/lang/String", "value", "[B", vR 124), (82, "java/lang/String", "coder", "B", vI 0), (33, "java/lang/Enum", "ordinal", "I", vI 23), (33, "HexPond$Kind", "text", "Ljava/lang/String;", vR 83), (83, "java/lang/String", "value", "[B", vR 125), (83, "java/lang/String", "coder", "B", vI 0), (34, "java/lang/Enum", "ordinal", "I", vI 24), (34, "HexPond$Kind", "text", "Ljava/lang/String;", vR 84), (84, "java/lang/String", "value", "[B", vR 126), (84, "java/lang/String", "coder", "B", vI 0), (35, "java/lang/Enum", "ordinal", "I", vI 25), (35, "HexPond$Kind", "text", "Ljava/lang/String;", vR 85), (85, "java/lang/String", "value", "[B", vR 127), (85, "java/lang/String", "coder", "B", vI 0), (36, "java/lang/Enum", "ordinal", "I", vI 26), (36, "HexPond$Kind", "text", "Ljava/lang/String;", vR 86), (86, "java/lang/String", "value", "[B", vR 128), (86, "java/lang/String", "coder", "B", vI 0), (37, "java/lang/Enum", "ordinal", "I", vI 27), (37, "HexPond$Kind", "text", "Ljava/lang/String;", vR 87), (87, "java/lang/String", "value", "[B", vR 129), (87, "java/lang/String", "coder", "B", vI 0), (38, "java/lang/Enum", "ordinal", "I", vI 28), (38, "HexPond$Kind", "text", "Ljava/lang/String;", vR 88), (88, "java/lang/String", "value", "[B", vR 130), (88, "java/lang/String", "coder", "B", vI 0), (39, "java/lang/Enum", "ordinal", "I", vI 29), (39, "HexPond$Kind", "text", "Ljava/lang/String;", vR 89), (89, "java/lang/String", "value", "[B", vR 131), (89, "java/lang/String", "coder", "B", vI 0), (40, "java/lang/Enum", "ordinal", "I", vI 30), (40, "HexPond$Kind", "text", "Ljava/lang/String;", vR 90), (90, "java/lang/String", "value", "[B", vR 132), (90, "java/lang/String", "coder", "B", vI 0), (41, "java/lang/Enum", "ordinal", "I", vI 31), (41, "HexPond$Kind", "text", "Ljava/lang/String;", vR 91), (91, "java/lang/String", "value", "[B", vR 133), (91, "java/lang/String", "coder", "B", vI 0), (42, "java/lang/Enum", "ordinal", "I", vI 32), (42, "HexPond$Kind", "text", "Ljava/lang/String;", vR 92), (92, "java/lang/String", "value", "[B", vR 134), (92, "java/lang/String", "coder", "B", vI 0), (43, "java/lang/Enum", "ordinal", "I", vI 33), (43, "HexPond$Kind", "text", "Ljava/lang/String;", vR 93), (93, "java/lang/String", "value", "[B", vR 135), (93, "java/lang/String", "coder", "B", vI 0), (44, "java/lang/Enum", "ordinal", "I", vI 34), (44, "HexPond$Kind", "text", "Ljava/lang/String;", vR 94), (94, "java/lang/String", "value", "[B", vR 136), (94, "java/lang/String", "coder", "B", vI 0), (45, "java/lang/Enum", "ordinal", "I", vI 35), (45, "HexPond$Kind", "text", "Ljava/lang/String;", vR 95), (95, "java/lang/String", "value", "[B", vR 137), (95, "java/lang/String", "coder", "B", vI 0), (46, "java/lang/Enum", "ordinal", "I", vI 36), (46, "HexPond$Kind", "text", "Ljava/lang/String;", vR 96), (96, "java/lang/String", "value", "[B", vR 138), (96, "java/lang/String", "coder", "B", vI 0), (47, "java/lang/Enum", "ordinal", "I", vI 37), (47, "HexPond$Kind", "text", "Ljava/lang/String;", vR 97), (97, "java/lang/String", "value", "[B", vR 139), (97, "java/lang/String", "coder", "B", vI 0), (48, "java/lang/Enum", "ordinal", "I", vI 38), (48, "HexPond$Kind", "text", "Ljava/lang/String;", vR 98), (98, "java/lang/String", "value", "[B", vR 140), (98, "java/lang/String", "coder", "B", vI 0), (49, "java/lang/Enum", "ordinal", "I", vI 39), (49, "HexPond$Kind", "text", "Ljava/lang/String;", vR 99), (99, "java/lang/String", "value", "[B", vR 141), (99, "java/lang/String", "coder", "B", vI 0), (50, "java/lang/Enum", "ordinal", "I", vI 40), (50, "HexPond$Kind", "text", "Ljava/lang/String;", vR 100), (100, "java/lang/String", "value", "[B", vR 142), (100, "java/lang/String", "coder", "B", vI 0), (51, "java/lang/Enum", "ordinal", "I", vI 41), (51, "HexPond$Kind", "text", "Ljava/lang/String;", vR 101), (101, "java/lang/String", "value", "[B", vR 143), (101, "java/lang/String", "coder", "B", vI 0)]
def axKc : List (Nat × String) := [(10, "HexPond$Kind"), (11, "HexPond$Kind"), (12, "HexPond$Kind"), (13, "HexPond$Kind"), (14, "HexPond$Kind"), (15, "HexPond$Kind"), (16, "HexPond$Kind"), (17, "HexPond$Kind"), (18, "HexPond$Kind"), (19, "HexPond$Kind"), (20, "HexPond$Kind"), (21, "HexPond$Kind"), (22, "HexPond$Kind"), (23, "HexPond$Kind"), (24, "HexPond$Kind"), (25, "HexPond$Kind"), (26, "HexPond$Kind"), (27, "HexPond$Kind"), (28, "HexPond$Kind"), (29, "HexPond$Kind"), (30, "HexPond$Kind"), (31, "HexPond$Kind"), (32, "HexPond$Kind"), (33, "HexPond$Kind"), (34, "HexPond$Kind"), (35, "HexPond$Kind"), (36, "HexPond$Kind"), (37, "HexPond$Kind"), (38, "HexPond$Kind"), (39, "HexPond$Kind"), (40, "HexPond$Kind"), (41, "HexPond$Kind"), (42, "HexPond$Kind"), (43, "HexPond$Kind"), (44, "HexPond$Kind"), (45, "HexPond$Kind"), (46, "HexPond$Kind"), (47, "HexPond$Kind"), (48, "HexPond$Kind"), (49, "HexPond$Kind"), (50, "HexPond$Kind"), (51, "HexPond$Kind"), (60, "java/lang/String"), (61, "java/lang/String"), (62, "java/lang/String"), (63, "java/lang/String"), (64, "java/lang/String"), (65, "java/lang/String"), (66, "java/lang/String"), (67, "java/lang/String"), (68, "java/lang/String"), (69, "java/lang/String"), (70, "java/lang/String"), (71, "java/lang/String"), (72, "java/lang/String"), (73, "java/lang/String"), (74, "java/lang/String"), (75, "java/lang/String"), (76, "java/lang/String"), (77, "java/lang/String"), (78, "java/lang/String"), (79, "java/lang/String"), (80, "java/lang/String"), (81, "java/lang/String"), (82, "java/lang/String"), (83, "java/lang/String"), (84, "java/lang/String"), (85, "java/lang/String"), (86, "java/lang/String"), (87, "java/lang/String"), (88, "java/lang/String"), (89, "java/lang/String"), (90, "java/lang/String"), (91, "java/lang/String"), (92, "java/lang/String"), (93, "java/lang/String"), (94, "java/lang/String"), (95, "java/lang/String"), (96, "java/lang/String"), (97, "java/lang/String"), (98, "java/lang/String"), (99, "java/lang/String"), (100, "java/lang/String"), (101, "java/lang/String")]
def axKs : List (String × Nat × String) := [("HexPond", 100, "the tape has no room"), ("HexPond", 111, "the tape has not so many bytes"), ("HexPond", 309, "no such player"), ("HexPond", 213, "no such cell"), ("HexPond", 314, "the cell is empty"), ("HexPond", 316, "the game is over"), ("HexPond", 235, "the player has no way"), ("HexPond", 240, "no way of the player goes there"), ("HexPond", 248, "the cell is not empty"), ("HexPond", 253, "no stone can be taken back"), ("HexPond", 262, "the stones are not 1 to 81"), ("HexPond", 270, "no cell has to be taken")]
/-- a constant that is an array -/
def ax_K (G : ax_G) (U : State) (H : Heap) (k : Nat) (ty : FieldType) (n : Nat) (f : Nat → Value) : Prop :=
  ∃ cell : Cell, H[ax_ad G k]? = some cell ∧ U.isArrayOf cell ty ∧ cell.vm ≠ .unknown ∧ cell.slots.size = n ∧ (∀ j : Nat, j < n → cell.slots[j]? = some (f j)) ∧ ¬ ax_A G (ax_ad G k)
def ax_Kr (G : ax_G) (U : State) (H : Heap) (k : Nat) (C : String) : Prop :=
  ∃ cell : Cell, H[ax_ad G k]? = some cell ∧ cell.vm.isStatics = false ∧ U.vm.findClass C = some cell.cls ∧ ¬ ax_A G (ax_ad G k)
/-- words that are kept one by one -/
def axNest (w : Cond) : Bool := match w with | .fieldLinkNest .. => true | .methodLinkNest .. => true | .declares _ => true | .castable _ _ => true | .arrayOver _ => true | _ => false
def axNw : List Cond := lw_tbl.filter axNest
theorem axNw_moved {u U : State} (hW : u.WarmedH U.vm) {w : Cond} (hw : w ∈ axNw) (h : va_Nw w u) : va_Nw w U := by
  have hn : axNest w = true := (List.mem_filter.mp hw).2
  cases w <;> first | exact va_Nw.warmF hW h | exact va_Nw.warmM hW h | exact va_Nw.warmD hW h | exact va_Nw.warmC hW h | (exact (show (Cond.arrayOver _).before #[] (u.setVm U.vm) = true from (by rw [Cond.arrayOver_setVmC hW.alike]; exact h))) | cases hn
/-- pairs of classes that are not cast -/
def axNc : List (String × String) := [("java/lang/IllegalStateException", "java/lang/IndexOutOfBoundsException")]
/-- what the start gives of classes and constants, and what nothing changes -/
def ax_KS (G : ax_G) (U : State) : Prop :=
  va_K (gDC G, gDI G) axCl (ax_tys G) U ∧
  (∀ q ∈ axS, va_Z q.1 q.2.1 q.2.2.1 (ax_cv G q.2.2.2) (ax_A G) U U.heap) ∧
  (∀ q ∈ axKa, ax_K G U U.heap q.1 q.2.1 q.2.2.length (fun j => ax_cv G (q.2.2.getD j (vI 0)))) ∧
  ax_K G U U.heap 0 .int (gN G) (fun j => .int (Int32.ofInt (gX G j))) ∧
  (∀ q ∈ axKf, va_OF q.2.1 q.2.2.1 q.2.2.2.1 (ax_cv G q.2.2.2.2) (ax_ad G q.1) (ax_A G) U U.heap) ∧
  (∀ q ∈ axKc, ax_Kr G U U.heap q.1 q.2) ∧
  vx_Zq Bundle.tN "UNASSIGNED_STACK" Bundle.steD (ax_A G) U U.heap ∧
  vx_Zq Bundle.tN "SUPPRESSED_SENTINEL" Bundle.listD (ax_A G) U U.heap ∧
  (∀ q ∈ axKs, ∃ a, vk_R q.1 q.2.1 q.2.2 a U) ∧
  (∀ j, ax_in (gX G j)) ∧
  (∀ k, k < axC → k ≠ 53 → gAC G k < gSz G) ∧
  (∀ i j, 10 ≤ i → i < 52 → 10 ≤ j → j < 52 → gAC G i = gAC G j → i = j) ∧
  (∀ w ∈ axNw, va_Nw w U) ∧
  (∀ q ∈ axNc, va_Nc q.1 q.2 U) ∧
  (∃ q : Option Nat, va_Z "jdk/internal/util/Preconditions" "SIOOBE_FORMATTER" "Ljava/util/function/BiFunction;" (ax_rv G q) (ax_A G) U U.heap)
theorem ax_K.moved {G : ax_G} {u U : State} {k n : Nat} {ty : FieldType} {f : Nat → Value} (hvm : u.vm.Alike U.vm) (hq : ∀ a : Nat, a < u.heap.size → ¬ ax_A G a → U.heap[a]? = u.heap[a]?) (h : ax_K G u u.heap k ty n f) : ax_K G U U.heap k ty n f := by
  obtain ⟨cell, h1, h2, h3, h4, h5, h6⟩ := h
  exact ⟨cell, by rw [hq _ (Array.getElem?_eq_some_iff.mp h1).1 h6]; exact h1, State.isArrayOf_alike hvm h2, h3, h4, h5, h6⟩
theorem ax_Kr.moved {G : ax_G} {u U : State} {k : Nat} {C : String} (hvm : u.vm.Alike U.vm) (hq : ∀ a : Nat, a < u.heap.size → ¬ ax_A G a → U.heap[a]? = u.heap[a]?) (h : ax_Kr G u u.heap k C) : ax_Kr G U U.heap k C := by
  obtain ⟨cell, h1, h2, h4, h5⟩ := h
  exact ⟨cell, by rw [hq _ (Array.getElem?_eq_some_iff.mp h1).1 h5]; exact h1, h2, by rw [hvm.findClass]; exact h4, h5⟩
theorem ax_KS.moved {G : ax_G} {u U : State} (hW : u.WarmedH U.vm) (hq : ∀ a : Nat, a < u.heap.size → ¬ ax_A G a → U.heap[a]? = u.heap[a]?) (h : ax_KS G u) : ax_KS G U := by
  obtain ⟨h1, h2, h3, h4, h5, h6, h7, h8, h9, h10, h11, h12, h13, h14, h15⟩ := h
  have hvm := hW.alike
  refine ⟨va_K.moved hvm h1, fun q hm => ?_, fun q hm => (h3 q hm).moved hvm hq, h4.moved hvm hq, fun q hm => ?_, fun q hm => (h6 q hm).moved hvm hq, ?_, ?_, fun q hm => ?_, h10, h11, h12, fun w hw => axNw_moved hW hw (h13 w hw), fun q hq => va_Nc.moved hvm (h14 q hq), ?_⟩
  · exact va_Z.moved hvm ((h2 q hm).kept hq)
  · exact va_OF.moved hvm ((h5 q hm).kept hq)
  · exact vx_Zq.moved hvm (h7.kept hq)
  · exact vx_Zq.moved hvm (h8.kept hq)
  · obtain ⟨a, ha⟩ := h9 q hm
    exact ⟨a, vk_R.warm hW ha⟩
  · obtain ⟨q, hq9⟩ := h15
    exact ⟨q, va_Z.moved hvm (hq9.kept hq)⟩
/-- the listed locals -/
def ax_lp (G : ax_G) : Nat → List (Option ax_V) → List (Nat × Value)
  | _, [] => []
  | i, none :: t => ax_lp G (i + 1) t
  | i, some v :: t => (i, ax_cv G v) :: ax_lp G (i + 1) t
theorem ax_lp_mem {G : ax_G} : ∀ (ls : List (Option ax_V)) (n i : Nat) (w : Value), (i, w) ∈ ax_lp G n ls ↔ ∃ j v, i = n + j ∧ ls[j]? = some (some v) ∧ w = ax_cv G v
  | [], n, i, w => by simp [ax_lp]
  | none :: t, n, i, w => by
    simp only [ax_lp]
    rw [ax_lp_mem t (n + 1) i w]
    constructor
    · rintro ⟨j, v, h1, h2, h3⟩
      exact ⟨j + 1, v, by omega, by simpa using h2, h3⟩
    · rintro ⟨j, v, h1, h2, h3⟩
      cases j with
      | zero => simp at h2
      | succ j => exact ⟨j, v, by omega, by simpa using h2, h3⟩
  | some x :: t, n, i, w => by
    simp only [ax_lp, List.mem_cons]
    rw [ax_lp_mem t (n + 1) i w]
    constructor
    · rintro (h | ⟨j, v, h1, h2, h3⟩)
      · cases h
        exact ⟨0, x, by omega, by simp, rfl⟩
      · exact ⟨j + 1, v, by omega, by simpa using h2, h3⟩
    · rintro ⟨j, v, h1, h2, h3⟩
      cases j with
      | zero =>
        left
        simp at h2
        subst h2
        rw [h1, h3]
        rfl
      | succ j => exact Or.inr ⟨j, v, by omega, by simpa using h2, h3⟩
theorem ax_ld {G : ax_G} {lc : Array Slot} {n i : Nat} {ls : List (Option ax_V)} {v : ax_V} (h : lv_has lc n (ax_lp G 0 ls)) (hi : ls[i]? = some (some v)) : lc[i]? = some (.val (ax_cv G v)) :=
  h.2.2 (i, ax_cv G v) ((ax_lp_mem ls 0 i _).mpr ⟨i, v, by omega, hi, rfl⟩)
def ax_c2 (v : ax_V) : Bool := match v with | .inr (.inr _) => true | _ => false
theorem ax_cat {G : ax_G} (v : ax_V) : ((ax_cv G v).category == 2) = ax_c2 v := by
  rcases v with n | r | x | x
  · rfl
  · cases r <;> rfl
  · rfl
  · rfl
theorem ax_cat' {G : ax_G} {v : ax_V} (h : ax_c2 v = false) : ¬ (ax_cv G v).category = 2 := by
  rcases v with n | r | x | x
  · exact fun q => nomatch q
  · cases r <;> exact fun q => nomatch q
  · cases h
  · cases h
/-- the place before i holds nothing of two places -/
def ax_c1 (ls : List (Option ax_V)) (i : Nat) : Bool := match i with
  | 0 => true
  | j + 1 => match ls[j]? with | some (some v) => !(ax_c2 v) | _ => true
theorem ax_c1_of {ls : List (Option ax_V)} {i j : Nat} {v : ax_V} (h : ax_c1 ls i = true) (hj : ls[j]? = some (some v)) (e : j + 1 = i) : ax_c2 v = false := by
  subst e
  simp only [ax_c1, hj] at h
  simpa using h
theorem ax_has_sub {lc : Array Slot} {n : Nat} {l l' : List (Nat × Value)} (h : lv_has lc n l) (hs : ∀ q ∈ l', q ∈ l) : lv_has lc n l' := ⟨h.1, h.2.1, fun q hq => h.2.2 q (hs q hq)⟩
theorem ax_st1 {G : ax_G} {ls : List (Option ax_V)} {i : Nat} {v : ax_V} (hc : ax_c1 ls i = true) : ∀ q ∈ ax_lp G 0 (ls.set i (some v)), q ∈ (i, ax_cv G v) :: (ax_lp G 0 ls).filter (fun q => !(q.1 == i) && !(q.1 + 1 == i && q.2.category == 2)) := by
  rintro ⟨j, w⟩ hq
  obtain ⟨j', u, e, hu, rfl⟩ := (ax_lp_mem _ 0 j w).mp hq
  have e : j = j' := by omega
  subst e
  by_cases hji : j = i
  · subst hji
    rw [List.getElem?_set] at hu
    split at hu
    · split at hu
      · cases hu
        exact List.mem_cons_self
      · cases hu
    · rename_i z; exact absurd rfl z
  · rw [List.getElem?_set_ne (Ne.symm hji)] at hu
    refine List.mem_cons_of_mem _ (List.mem_filter.mpr ⟨(ax_lp_mem ls 0 j _).mpr ⟨j, u, by omega, hu, rfl⟩, ?_⟩)
    simp only [Bool.and_eq_true, Bool.not_eq_true', beq_eq_false_iff_ne, ne_eq, Bool.and_eq_false_iff]
    refine ⟨hji, ?_⟩
    by_cases h1 : j + 1 = i
    · right
      simpa using ax_cat' (ax_c1_of hc hu h1)
    · left
      simpa using h1
theorem ax_st2 {G : ax_G} {ls : List (Option ax_V)} {i : Nat} {v : ax_V} (hc : ax_c1 ls i = true) : ∀ q ∈ ax_lp G 0 ((ls.set i (some v)).set (i + 1) none), q ∈ (i, ax_cv G v) :: (ax_lp G 0 ls).filter (fun q => !(q.1 == i) && (!(q.1 == i + 1) && !(q.1 + 1 == i && q.2.category == 2))) := by
  rintro ⟨j, w⟩ hq
  obtain ⟨j', u, e, hu, rfl⟩ := (ax_lp_mem _ 0 j w).mp hq
  have e : j = j' := by omega
  subst e
  have hj1 : j ≠ i + 1 := by
    intro h
    subst h
    rw [List.getElem?_set] at hu
    split at hu
    · split at hu <;> cases hu
    · rename_i z; exact absurd rfl z
  rw [List.getElem?_set_ne (Ne.symm hj1)] at hu
  by_cases hji : j = i
  · subst hji
    rw [List.getElem?_set] at hu
    split at hu
    · split at hu
      · cases hu
        exact List.mem_cons_self
      · cases hu
    · rename_i z; exact absurd rfl z
  · rw [List.getElem?_set_ne (Ne.symm hji)] at hu
    refine List.mem_cons_of_mem _ (List.mem_filter.mpr ⟨(ax_lp_mem ls 0 j _).mpr ⟨j, u, by omega, hu, rfl⟩, ?_⟩)
    simp only [Bool.and_eq_true, Bool.not_eq_true', beq_eq_false_iff_ne, ne_eq, Bool.and_eq_false_iff]
    refine ⟨hji, hj1, ?_⟩
    by_cases h1 : j + 1 = i
    · right
      simpa using ax_cat' (ax_c1_of hc hu h1)
    · left
      simpa using h1
theorem ax_oL_set {ls : List (Option ax_V)} {i : Nat} {v : ax_V} (h : ax_oL ls) (hv : ax_ok v) : ax_oL (ls.set i (some v)) := by
  intro w hw
  rcases List.mem_or_eq_of_mem_set hw with h1 | h1
  · exact h w h1
  · cases h1; exact hv
theorem ax_oL_setN {ls : List (Option ax_V)} {i : Nat} (h : ax_oL ls) : ax_oL (ls.set i none) := by
  intro w hw
  rcases List.mem_or_eq_of_mem_set hw with h1 | h1
  · exact h w h1
  · cases h1
theorem ax_oL_get {ls : List (Option ax_V)} {i : Nat} {v : ax_V} (h : ax_oL ls) (hi : ls[i]? = some (some v)) : ax_ok v := h v (List.mem_of_getElem? hi)
theorem ax_oS_cons {v : ax_V} {st : List ax_V} (h : ax_ok v) (hs : ax_oS st) : ax_oS (v :: st) := by
  intro w hw
  rcases List.mem_cons.mp hw with rfl | hw
  · exact h
  · exact hs w hw
theorem ax_oS_hd {v : ax_V} {st : List ax_V} (h : ax_oS (v :: st)) : ax_ok v := h v List.mem_cons_self
theorem ax_oS_tl {v : ax_V} {st : List ax_V} (h : ax_oS (v :: st)) : ax_oS st := fun w hw => h w (List.mem_cons_of_mem _ hw)
theorem ax_oS_nil : ax_oS [] := fun _ h => nomatch h
/-- what returns: the instruction -/
def ax_ri (ov : Option ax_V) : Instr := match ov with
  | none => .return_
  | some (.inl _) => .ireturn
  | some (.inr (.inl _)) => .areturn
  | some (.inr (.inr (.inl _))) => .lreturn
  | some (.inr (.inr (.inr _))) => .dreturn
def ax_Fin (G : ax_G) (mt : ax_T) (p : Program) (e : Env) (R : Room) (s : State) (m : MethodId) (args : Array Value) (below : List Frame) (meth : Method) (c : Code) (Q : State → Prop) (n1 n2 : Nat) (o : Option ax_V ⊕ String) (M' : ax_M) : Prop := match o with
  | .inl ov => ∀ (H : Heap) (locs : List Loc) (lc : Array Slot) (pc : Nat), ax_Rel G M' H → va_S (ax_A G) s.heap H locs → decode mt.2.1 pc = .ok (ax_ri ov, 1) →
      W p (gL G) e R s m args below meth c H locs n1 n2 Q (F0 m pc lc (ov.toList.map (ax_cv G)))
  | .inr E => ∃ (Qc : Array Value → State → Outcome → State → Prop) (XC : String → State → State → Prop), Q = vx_MQ below Qc XC args s n1 n2 (ax_A G) ∧
      ∀ t : State, ax_Rel G M' t.heap → va_F (ax_A G) s t → s.vm.Alike t.vm → XC E s t
/-- in method mt, at pc, with these locals, this stack and this memory, d frames free: the method comes to the outcome o with the memory M' -/
def ax_Ex (G : ax_G) (mt : ax_T) (d : Nat) (pc : Nat) (ls : List (Option ax_V)) (st : List ax_V) (M : ax_M) (o : Option ax_V ⊕ String) (M' : ax_M) : Prop :=
  ax_g M → ax_oS st → ax_oL ls → ax_pp M o M' ∧
  ∀ (p : Program) (e : Env) (R : Room) (s : State) (m : MethodId) (args : Array Value) (below : List Frame) (meth : Method) (c : Code) (Q : State → Prop) (n1 n2 : Nat) (H : Heap) (locs : List Loc) (cells slots : Nat) (lc : Array Slot),
    ax_C mt p s m args meth c → ax_KS G s → gSz G ≤ s.heap.size → d ≤ R.frames → 40 * d ≤ R.locals → n1 ≤ R.cells → n2 ≤ R.slots →
    cells + (mSz M' - mSz M) = n1 → slots + (mSl M' - mSl M) = n2 → ax_Rel G M H → va_S (ax_A G) s.heap H locs → lv_has lc mt.2.2.1 (ax_lp G 0 ls) →
    ax_Fin G mt p e R s m args below meth c Q n1 n2 o M' →
    W p (gL G) e R s m args below meth c H locs cells slots Q (F0 m pc lc (st.map (ax_cv G)))
/-- what is known at this point -/
theorem ax_know {G : ax_G} {mt : ax_T} {d pc : Nat} {ls : List (Option ax_V)} {st : List ax_V} {M M' : ax_M} {o : Option ax_V ⊕ String} (k : ax_g M → ax_oS st → ax_oL ls → ax_Ex G mt d pc ls st M o M') : ax_Ex G mt d pc ls st M o M' :=
  fun g h1 h2 => k g h1 h2 g h1 h2
theorem ax_pure {G : ax_G} {mt : ax_T} {d pc pc' : Nat} {ls ls' : List (Option ax_V)} {st st' : List ax_V} {M M' : ax_M} {o : Option ax_V ⊕ String}
    (hok : ax_oS st → ax_oL ls → (∀ k j, ax_in (mI M k j)) → ax_oS st' ∧ ax_oL ls')
    (h : ∀ {p : Program} {e : Env} {R : Room} {s : State} {m : MethodId} {args : Array Value} {below : List Frame} {meth : Method} {c : Code} {Q : State → Prop} {H : Heap} {locs : List Loc} {cells slots : Nat} {lc : Array Slot},
      ax_C mt p s m args meth c → ax_KS G s → ax_Rel G M H → va_S (ax_A G) s.heap H locs → lv_has lc mt.2.2.1 (ax_lp G 0 ls) → ax_oS st → ax_oL ls → (lc.size = c.maxLocals) →
      (∀ lc' : Array Slot, lv_has lc' mt.2.2.1 (ax_lp G 0 ls') → W p (gL G) e R s m args below meth c H locs cells slots Q (F0 m pc' lc' (st'.map (ax_cv G)))) →
      W p (gL G) e R s m args below meth c H locs cells slots Q (F0 m pc lc (st.map (ax_cv G))))
    (k : ax_Ex G mt d pc' ls' st' M o M') : ax_Ex G mt d pc ls st M o M' := by
  intro g hos hol
  obtain ⟨k1, k2⟩ := k g (hok hos hol g.1).1 (hok hos hol g.1).2
  exact ⟨k1, fun p e R s m args below meth c Q n1 n2 H locs cells slots lc C KS h0 hd hl hc hs e1 e2 hR hS hL hF =>
    h C KS hR hS hL hos hol (hL.1.trans C.2.2.1.symm) (fun lc' hL' => k2 p e R s m args below meth c Q n1 n2 H locs cells slots lc' C KS h0 hd hl hc hs e1 e2 hR hS hL' hF)⟩
