/-! methods: name, code, locals, what is returned, handlers -/
theorem pl_X1 : plainName RX1 = true := by decide +kernel
theorem mh_X1 : RX1 ≠ "java/lang/invoke/MethodHandle" ∧ RX1 ≠ "java/lang/invoke/VarHandle" := ⟨by decide +kernel, by decide +kernel⟩
def tX1_init : ax_T := (yX1_init, cX1_init, 2, (Option.none : Option FieldType), [])
theorem WK_X1_init : ax_cw tX1_init ∈ ax_W := ax_tw (ax_t2 (List.mem_of_getElem? (i := 1) (rfl))) rfl
theorem pd_0 : (parseMethodDescriptor "(LHexPond$Pond;)V").map (fun d => d.parameters.length) = some 1 := by decide +kernel
theorem kX1_init : ax_Kn tX1_init 1 := ⟨plainFor_of_name (x := yX1_init) pl_X1, WK_X1_init, mh_X1, pd_0, Nat.le_of_ble_eq_true rfl⟩
def tX1_isWhole : ax_T := (yX1_isWhole, cX1_isWhole, 4, (Option.some FieldType.boolean), [])
theorem WK_X1_isWhole : ax_cw tX1_isWhole ∈ ax_W := ax_tw (ax_t6 (List.mem_of_getElem? (i := 89) (rfl))) rfl
theorem pd_1 : (parseMethodDescriptor "(II)Z").map (fun d => d.parameters.length) = some 2 := by decide +kernel
theorem kX1_isWhole : ax_Kn tX1_isWhole 2 := ⟨plainFor_of_name (x := yX1_isWhole) pl_X1, WK_X1_isWhole, mh_X1, pd_1, Nat.le_of_ble_eq_true rfl⟩
def tX1_look : ax_T := (yX1_look, cX1_look, 3, (Option.none : Option FieldType), [])
theorem WK_X1_look : ax_cw tX1_look ∈ ax_W := ax_tw (ax_t4 (List.mem_of_getElem? (i := 119) (rfl))) rfl
theorem pd_2 : (parseMethodDescriptor "()V").map (fun d => d.parameters.length) = some 0 := by decide +kernel
theorem kX1_look : ax_Kn tX1_look 0 := ⟨plainFor_of_name (x := yX1_look) pl_X1, WK_X1_look, mh_X1, pd_2, Nat.le_of_ble_eq_true rfl⟩
def tX1_whole : ax_T := (yX1_whole, cX1_whole, 2, (Option.some FieldType.int), [])
theorem WK_X1_whole : ax_cw tX1_whole ∈ ax_W := ax_tw (ax_t4 (List.mem_of_getElem? (i := 193) (rfl))) rfl
theorem pd_3 : (parseMethodDescriptor "(I)I").map (fun d => d.parameters.length) = some 1 := by decide +kernel
theorem kX1_whole : ax_Kn tX1_whole 1 := ⟨plainFor_of_name (x := yX1_whole) pl_X1, WK_X1_whole, mh_X1, pd_3, Nat.le_of_ble_eq_true rfl⟩
def tX1_broken : ax_T := (yX1_broken, cX1_broken, 2, (Option.some FieldType.int), [])
theorem WK_X1_broken : ax_cw tX1_broken ∈ ax_W := ax_tw (ax_t5 (List.mem_of_getElem? (i := 89) (rfl))) rfl
theorem kX1_broken : ax_Kn tX1_broken 1 := ⟨plainFor_of_name (x := yX1_broken) pl_X1, WK_X1_broken, mh_X1, pd_3, Nat.le_of_ble_eq_true rfl⟩
def tX1_saving : ax_T := (yX1_saving, cX1_saving, 2, (Option.some FieldType.int), [])
theorem WK_X1_saving : ax_cw tX1_saving ∈ ax_W := ax_tw (ax_t4 (List.mem_of_getElem? (i := 231) (rfl))) rfl
theorem kX1_saving : ax_Kn tX1_saving 1 := ⟨plainFor_of_name (x := yX1_saving) pl_X1, WK_X1_saving, mh_X1, pd_3, Nat.le_of_ble_eq_true rfl⟩
def tX1_note : ax_T := (yX1_note, cX1_note, 7, (Option.none : Option FieldType), [])
theorem WK_X1_note : ax_cw tX1_note ∈ ax_W := ax_tw (ax_t4 (List.mem_of_getElem? (i := 139) (rfl))) rfl
theorem pd_4 : (parseMethodDescriptor "(III)V").map (fun d => d.parameters.length) = some 3 := by decide +kernel
theorem kX1_note : ax_Kn tX1_note 3 := ⟨plainFor_of_name (x := yX1_note) pl_X1, WK_X1_note, mh_X1, pd_4, Nat.le_of_ble_eq_true rfl⟩
def tX1_stateAt : ax_T := (yX1_stateAt, cX1_stateAt, 7, (Option.some FieldType.int), [])
theorem WK_X1_stateAt : ax_cw tX1_stateAt ∈ ax_W := ax_tw (ax_t4 (List.mem_of_getElem? (i := 126) (rfl))) rfl
theorem pd_5 : (parseMethodDescriptor "(II)I").map (fun d => d.parameters.length) = some 2 := by decide +kernel
theorem kX1_stateAt : ax_Kn tX1_stateAt 2 := ⟨plainFor_of_name (x := yX1_stateAt) pl_X1, WK_X1_stateAt, mh_X1, pd_5, Nat.le_of_ble_eq_true rfl⟩
def tX1_farEnd : ax_T := (yX1_farEnd, cX1_farEnd, 3, (Option.some FieldType.int), [])
theorem WK_X1_farEnd : ax_cw tX1_farEnd ∈ ax_W := ax_tw (ax_t4 (List.mem_of_getElem? (i := 131) (rfl))) rfl
theorem kX1_farEnd : ax_Kn tX1_farEnd 2 := ⟨plainFor_of_name (x := yX1_farEnd) pl_X1, WK_X1_farEnd, mh_X1, pd_5, Nat.le_of_ble_eq_true rfl⟩
def tX1_nextSide : ax_T := (yX1_nextSide, cX1_nextSide, 1, (Option.some FieldType.int), [])
theorem WK_X1_nextSide : ax_cw tX1_nextSide ∈ ax_W := ax_tw (ax_t4 (List.mem_of_getElem? (i := 135) (rfl))) rfl
theorem kX1_nextSide : ax_Kn tX1_nextSide 1 := ⟨plainFor_of_name (x := yX1_nextSide) pl_X1, WK_X1_nextSide, mh_X1, pd_3, Nat.le_of_ble_eq_true rfl⟩
theorem pl_X2 : plainName RX2 = true := by decide +kernel
theorem mh_X2 : RX2 ≠ "java/lang/invoke/MethodHandle" ∧ RX2 ≠ "java/lang/invoke/VarHandle" := ⟨by decide +kernel, by decide +kernel⟩
def tX2_init : ax_T := (yX2_init, cX2_init, 4, (Option.none : Option FieldType), [])
theorem WK_X2_init : ax_cw tX2_init ∈ ax_W := ax_tw (ax_t2 (List.mem_of_getElem? (i := 54) (rfl))) rfl
theorem pd_6 : (parseMethodDescriptor "(LHexPond$Pond;LHexPond$Bridges;LHexPond$Ways;)V").map (fun d => d.parameters.length) = some 3 := by decide +kernel
theorem kX2_init : ax_Kn tX2_init 3 := ⟨plainFor_of_name (x := yX2_init) pl_X2, WK_X2_init, mh_X2, pd_6, Nat.le_of_ble_eq_true rfl⟩
def tX2_choose : ax_T := (yX2_choose, cX2_choose, 5, (Option.some FieldType.int), [])
theorem WK_X2_choose : ax_cw tX2_choose ∈ ax_W := ax_tw (ax_t4 (List.mem_of_getElem? (i := 115) (rfl))) rfl
theorem pd_7 : (parseMethodDescriptor "(LHexPond$Plans;I)I").map (fun d => d.parameters.length) = some 2 := by decide +kernel
theorem kX2_choose : ax_Kn tX2_choose 2 := ⟨plainFor_of_name (x := yX2_choose) pl_X2, WK_X2_choose, mh_X2, pd_7, Nat.le_of_ble_eq_true rfl⟩
def tX2_holds : ax_T := (yX2_holds, cX2_holds, 5, (Option.some FieldType.boolean), [])
theorem WK_X2_holds : ax_cw tX2_holds ∈ ax_W := ax_tw (ax_t4 (List.mem_of_getElem? (i := 153) (rfl))) rfl
theorem pd_8 : (parseMethodDescriptor "(LHexPond$Plans;I)Z").map (fun d => d.parameters.length) = some 2 := by decide +kernel
theorem kX2_holds : ax_Kn tX2_holds 2 := ⟨plainFor_of_name (x := yX2_holds) pl_X2, WK_X2_holds, mh_X2, pd_8, Nat.le_of_ble_eq_true rfl⟩
def tX2_cellBy : ax_T := (yX2_cellBy, cX2_cellBy, 4, (Option.some FieldType.int), [])
theorem WK_X2_cellBy : ax_cw tX2_cellBy ∈ ax_W := ax_tw (ax_t4 (List.mem_of_getElem? (i := 209) (rfl))) rfl
theorem kX2_cellBy : ax_Kn tX2_cellBy 2 := ⟨plainFor_of_name (x := yX2_cellBy) pl_X2, WK_X2_cellBy, mh_X2, pd_7, Nat.le_of_ble_eq_true rfl⟩
def tX2_toldCell : ax_T := (yX2_toldCell, cX2_toldCell, 6, (Option.some FieldType.int), [])
theorem WK_X2_toldCell : ax_cw tX2_toldCell ∈ ax_W := ax_tw (ax_t4 (List.mem_of_getElem? (i := 239) (rfl))) rfl
theorem kX2_toldCell : ax_Kn tX2_toldCell 2 := ⟨plainFor_of_name (x := yX2_toldCell) pl_X2, WK_X2_toldCell, mh_X2, pd_7, Nat.le_of_ble_eq_true rfl⟩
def tX2_remainder : ax_T := (yX2_remainder, cX2_remainder, 2, (Option.some FieldType.int), [])
theorem WK_X2_remainder : ax_cw tX2_remainder ∈ ax_W := ax_tw (ax_t5 (List.mem_of_getElem? (i := 11) (rfl))) rfl
theorem kX2_remainder : ax_Kn tX2_remainder 2 := ⟨plainFor_of_name (x := yX2_remainder) pl_X2, WK_X2_remainder, mh_X2, pd_5, Nat.le_of_ble_eq_true rfl⟩
def tX2_reckon : ax_T := (yX2_reckon, cX2_reckon, 9, (Option.some FieldType.int), [])
theorem WK_X2_reckon : ax_cw tX2_reckon ∈ ax_W := ax_tw (ax_t4 (List.mem_of_getElem? (i := 165) (rfl))) rfl
theorem pd_9 : (parseMethodDescriptor "(LHexPond$Plans;II)I").map (fun d => d.parameters.length) = some 3 := by decide +kernel
theorem kX2_reckon : ax_Kn tX2_reckon 3 := ⟨plainFor_of_name (x := yX2_reckon) pl_X2, WK_X2_reckon, mh_X2, pd_9, Nat.le_of_ble_eq_true rfl⟩
def tX2_joined : ax_T := (yX2_joined, cX2_joined, 3, (Option.some FieldType.int), [])
theorem WK_X2_joined : ax_cw tX2_joined ∈ ax_W := ax_tw (ax_t4 (List.mem_of_getElem? (i := 201) (rfl))) rfl
theorem pd_10 : (parseMethodDescriptor "(LHexPond$Kind;II)I").map (fun d => d.parameters.length) = some 3 := by decide +kernel
theorem kX2_joined : ax_Kn tX2_joined 3 := ⟨plainFor_of_name (x := yX2_joined) pl_X2, WK_X2_joined, mh_X2, pd_10, Nat.le_of_ble_eq_true rfl⟩
def tX2_push : ax_T := (yX2_push, cX2_push, 2, (Option.none : Option FieldType), [])
theorem WK_X2_push : ax_cw tX2_push ∈ ax_W := ax_tw (ax_t4 (List.mem_of_getElem? (i := 186) (rfl))) rfl
theorem pd_11 : (parseMethodDescriptor "(I)V").map (fun d => d.parameters.length) = some 1 := by decide +kernel
theorem kX2_push : ax_Kn tX2_push 1 := ⟨plainFor_of_name (x := yX2_push) pl_X2, WK_X2_push, mh_X2, pd_11, Nat.le_of_ble_eq_true rfl⟩
def tX2_pop : ax_T := (yX2_pop, cX2_pop, 1, (Option.some FieldType.int), [])
theorem WK_X2_pop : ax_cw tX2_pop ∈ ax_W := ax_tw (ax_t4 (List.mem_of_getElem? (i := 198) (rfl))) rfl
theorem pd_12 : (parseMethodDescriptor "()I").map (fun d => d.parameters.length) = some 0 := by decide +kernel
theorem kX2_pop : ax_Kn tX2_pop 0 := ⟨plainFor_of_name (x := yX2_pop) pl_X2, WK_X2_pop, mh_X2, pd_12, Nat.le_of_ble_eq_true rfl⟩
theorem pl_X3 : plainName RX3 = true := by decide +kernel
theorem mh_X3 : RX3 ≠ "java/lang/invoke/MethodHandle" ∧ RX3 ≠ "java/lang/invoke/VarHandle" := ⟨by decide +kernel, by decide +kernel⟩
def tX3_init : ax_T := (yX3_init, cX3_init, 3, (Option.none : Option FieldType), [])
theorem WK_X3_init : ax_cw tX3_init ∈ ax_W := ax_tw (ax_t1 (List.mem_of_getElem? (i := 116) (rfl))) rfl
theorem pd_13 : (parseMethodDescriptor "(LHexPond$Tokens;LHexPond$Plans;)V").map (fun d => d.parameters.length) = some 2 := by decide +kernel
theorem kX3_init : ax_Kn tX3_init 2 := ⟨plainFor_of_name (x := yX3_init) pl_X3, WK_X3_init, mh_X3, pd_13, Nat.le_of_ble_eq_true rfl⟩
def tX3_firstWrong : ax_T := (yX3_firstWrong, cX3_firstWrong, 3, (Option.some FieldType.int), [])
theorem WK_X3_firstWrong : ax_cw tX3_firstWrong ∈ ax_W := ax_tw (ax_t2 (List.mem_of_getElem? (i := 218) (rfl))) rfl
theorem pd_14 : (parseMethodDescriptor "(LHexPond$Plans;)I").map (fun d => d.parameters.length) = some 1 := by decide +kernel
theorem kX3_firstWrong : ax_Kn tX3_firstWrong 1 := ⟨plainFor_of_name (x := yX3_firstWrong) pl_X3, WK_X3_firstWrong, mh_X3, pd_14, Nat.le_of_ble_eq_true rfl⟩
def tX3_readStone : ax_T := (yX3_readStone, cX3_readStone, 1, (Option.none : Option FieldType), [])
theorem WK_X3_readStone : ax_cw tX3_readStone ∈ ax_W := ax_tw (ax_t3 (List.mem_of_getElem? (i := 12) (rfl))) rfl
theorem kX3_readStone : ax_Kn tX3_readStone 0 := ⟨plainFor_of_name (x := yX3_readStone) pl_X3, WK_X3_readStone, mh_X3, pd_2, Nat.le_of_ble_eq_true rfl⟩
def tX3_readPlan : ax_T := (yX3_readPlan, cX3_readPlan, 6, (Option.none : Option FieldType), [])
theorem WK_X3_readPlan : ax_cw tX3_readPlan ∈ ax_W := ax_tw (ax_t3 (List.mem_of_getElem? (i := 28) (rfl))) rfl
theorem kX3_readPlan : ax_Kn tX3_readPlan 0 := ⟨plainFor_of_name (x := yX3_readPlan) pl_X3, WK_X3_readPlan, mh_X3, pd_2, Nat.le_of_ble_eq_true rfl⟩
def tX3_readMove : ax_T := (yX3_readMove, cX3_readMove, 3, (Option.some (FieldType.object "HexPond$Kind")), [])
theorem WK_X3_readMove : ax_cw tX3_readMove ∈ ax_W := ax_tw (ax_t3 (List.mem_of_getElem? (i := 36) (rfl))) rfl
theorem pd_15 : (parseMethodDescriptor "()LHexPond$Kind;").map (fun d => d.parameters.length) = some 0 := by decide +kernel
theorem kX3_readMove : ax_Kn tX3_readMove 0 := ⟨plainFor_of_name (x := yX3_readMove) pl_X3, WK_X3_readMove, mh_X3, pd_15, Nat.le_of_ble_eq_true rfl⟩
def tX3_readPlayer : ax_T := (yX3_readPlayer, cX3_readPlayer, 1, (Option.some FieldType.int), [])
theorem WK_X3_readPlayer : ax_cw tX3_readPlayer ∈ ax_W := ax_tw (ax_t3 (List.mem_of_getElem? (i := 16) (rfl))) rfl
theorem kX3_readPlayer : ax_Kn tX3_readPlayer 0 := ⟨plainFor_of_name (x := yX3_readPlayer) pl_X3, WK_X3_readPlayer, mh_X3, pd_12, Nat.le_of_ble_eq_true rfl⟩
def tX3_readTest : ax_T := (yX3_readTest, cX3_readTest, 3, (Option.none : Option FieldType), [])
theorem WK_X3_readTest : ax_cw tX3_readTest ∈ ax_W := ax_tw (ax_t3 (List.mem_of_getElem? (i := 104) (rfl))) rfl
theorem kX3_readTest : ax_Kn tX3_readTest 1 := ⟨plainFor_of_name (x := yX3_readTest) pl_X3, WK_X3_readTest, mh_X3, pd_11, Nat.le_of_ble_eq_true rfl⟩
def tX3_readBoth : ax_T := (yX3_readBoth, cX3_readBoth, 3, (Option.none : Option FieldType), [])
theorem WK_X3_readBoth : ax_cw tX3_readBoth ∈ ax_W := ax_tw (ax_t3 (List.mem_of_getElem? (i := 108) (rfl))) rfl
theorem kX3_readBoth : ax_Kn tX3_readBoth 1 := ⟨plainFor_of_name (x := yX3_readBoth) pl_X3, WK_X3_readBoth, mh_X3, pd_11, Nat.le_of_ble_eq_true rfl⟩
def tX3_readSingle : ax_T := (yX3_readSingle, cX3_readSingle, 3, (Option.none : Option FieldType), [])
theorem WK_X3_readSingle : ax_cw tX3_readSingle ∈ ax_W := ax_tw (ax_t3 (List.mem_of_getElem? (i := 112) (rfl))) rfl
theorem kX3_readSingle : ax_Kn tX3_readSingle 1 := ⟨plainFor_of_name (x := yX3_readSingle) pl_X3, WK_X3_readSingle, mh_X3, pd_11, Nat.le_of_ble_eq_true rfl⟩
def tX3_readRelation : ax_T := (yX3_readRelation, cX3_readRelation, 3, (Option.some (FieldType.object "HexPond$Kind")), [])
theorem WK_X3_readRelation : ax_cw tX3_readRelation ∈ ax_W := ax_tw (ax_t3 (List.mem_of_getElem? (i := 124) (rfl))) rfl
theorem kX3_readRelation : ax_Kn tX3_readRelation 0 := ⟨plainFor_of_name (x := yX3_readRelation) pl_X3, WK_X3_readRelation, mh_X3, pd_15, Nat.le_of_ble_eq_true rfl⟩
def tX3_readSum : ax_T := (yX3_readSum, cX3_readSum, 4, (Option.none : Option FieldType), [])
theorem WK_X3_readSum : ax_cw tX3_readSum ∈ ax_W := ax_tw (ax_t3 (List.mem_of_getElem? (i := 50) (rfl))) rfl
theorem kX3_readSum : ax_Kn tX3_readSum 1 := ⟨plainFor_of_name (x := yX3_readSum) pl_X3, WK_X3_readSum, mh_X3, pd_11, Nat.le_of_ble_eq_true rfl⟩
def tX3_readProduct : ax_T := (yX3_readProduct, cX3_readProduct, 4, (Option.none : Option FieldType), [])
theorem WK_X3_readProduct : ax_cw tX3_readProduct ∈ ax_W := ax_tw (ax_t3 (List.mem_of_getElem? (i := 54) (rfl))) rfl
theorem kX3_readProduct : ax_Kn tX3_readProduct 1 := ⟨plainFor_of_name (x := yX3_readProduct) pl_X3, WK_X3_readProduct, mh_X3, pd_11, Nat.le_of_ble_eq_true rfl⟩
def tX3_readValue : ax_T := (yX3_readValue, cX3_readValue, 3, (Option.none : Option FieldType), [])
theorem WK_X3_readValue : ax_cw tX3_readValue ∈ ax_W := ax_tw (ax_t3 (List.mem_of_getElem? (i := 58) (rfl))) rfl
theorem kX3_readValue : ax_Kn tX3_readValue 1 := ⟨plainFor_of_name (x := yX3_readValue) pl_X3, WK_X3_readValue, mh_X3, pd_11, Nat.le_of_ble_eq_true rfl⟩
def tX3_readPair : ax_T := (yX3_readPair, cX3_readPair, 3, (Option.none : Option FieldType), [])
theorem WK_X3_readPair : ax_cw tX3_readPair ∈ ax_W := ax_tw (ax_t3 (List.mem_of_getElem? (i := 88) (rfl))) rfl
theorem pd_16 : (parseMethodDescriptor "(LHexPond$Kind;I)V").map (fun d => d.parameters.length) = some 2 := by decide +kernel
theorem kX3_readPair : ax_Kn tX3_readPair 2 := ⟨plainFor_of_name (x := yX3_readPair) pl_X3, WK_X3_readPair, mh_X3, pd_16, Nat.le_of_ble_eq_true rfl⟩
def tX3_sees : ax_T := (yX3_sees, cX3_sees, 2, (Option.some FieldType.boolean), [])
theorem WK_X3_sees : ax_cw tX3_sees ∈ ax_W := ax_tw (ax_t3 (List.mem_of_getElem? (i := 6) (rfl))) rfl
theorem pd_17 : (parseMethodDescriptor "(LHexPond$Kind;)Z").map (fun d => d.parameters.length) = some 1 := by decide +kernel
theorem kX3_sees : ax_Kn tX3_sees 1 := ⟨plainFor_of_name (x := yX3_sees) pl_X3, WK_X3_sees, mh_X3, pd_17, Nat.le_of_ble_eq_true rfl⟩
def tX3_take : ax_T := (yX3_take, cX3_take, 3, (Option.some FieldType.boolean), [])
theorem WK_X3_take : ax_cw tX3_take ∈ ax_W := ax_tw (ax_t2 (List.mem_of_getElem? (i := 228) (rfl))) rfl
theorem kX3_take : ax_Kn tX3_take 1 := ⟨plainFor_of_name (x := yX3_take) pl_X3, WK_X3_take, mh_X3, pd_17, Nat.le_of_ble_eq_true rfl⟩
def tX3_need : ax_T := (yX3_need, cX3_need, 2, (Option.none : Option FieldType), [])
theorem WK_X3_need : ax_cw tX3_need ∈ ax_W := ax_tw (ax_t2 (List.mem_of_getElem? (i := 237) (rfl))) rfl
theorem pd_18 : (parseMethodDescriptor "(LHexPond$Kind;)V").map (fun d => d.parameters.length) = some 1 := by decide +kernel
theorem kX3_need : ax_Kn tX3_need 1 := ⟨plainFor_of_name (x := yX3_need) pl_X3, WK_X3_need, mh_X3, pd_18, Nat.le_of_ble_eq_true rfl⟩
theorem pl_X4 : plainName RX4 = true := by decide +kernel
theorem mh_X4 : RX4 ≠ "java/lang/invoke/MethodHandle" ∧ RX4 ≠ "java/lang/invoke/VarHandle" := ⟨by decide +kernel, by decide +kernel⟩
def tX4_init : ax_T := (yX4_init, cX4_init, 2, (Option.none : Option FieldType), [])
theorem WK_X4_init : ax_cw tX4_init ∈ ax_W := ax_tw (ax_t1 (List.mem_of_getElem? (i := 216) (rfl))) rfl
theorem kX4_init : ax_Kn tX4_init 1 := ⟨plainFor_of_name (x := yX4_init) pl_X4, WK_X4_init, mh_X4, pd_0, Nat.le_of_ble_eq_true rfl⟩
def tX4_sizeAt : ax_T := (yX4_sizeAt, cX4_sizeAt, 2, (Option.some FieldType.int), [])
theorem WK_X4_sizeAt : ax_cw tX4_sizeAt ∈ ax_W := ax_tw (ax_t6 (List.mem_of_getElem? (i := 47) (rfl))) rfl
theorem kX4_sizeAt : ax_Kn tX4_sizeAt 1 := ⟨plainFor_of_name (x := yX4_sizeAt) pl_X4, WK_X4_sizeAt, mh_X4, pd_3, Nat.le_of_ble_eq_true rfl⟩
def tX4_shoresAt : ax_T := (yX4_shoresAt, cX4_shoresAt, 5, (Option.some FieldType.int), [])
theorem WK_X4_shoresAt : ax_cw tX4_shoresAt ∈ ax_W := ax_tw (ax_t6 (List.mem_of_getElem? (i := 58) (rfl))) rfl
theorem kX4_shoresAt : ax_Kn tX4_shoresAt 1 := ⟨plainFor_of_name (x := yX4_shoresAt) pl_X4, WK_X4_shoresAt, mh_X4, pd_3, Nat.le_of_ble_eq_true rfl⟩
def tX4_hasGatheredAt : ax_T := (yX4_hasGatheredAt, cX4_hasGatheredAt, 4, (Option.some FieldType.boolean), [])
theorem WK_X4_hasGatheredAt : ax_cw tX4_hasGatheredAt ∈ ax_W := ax_tw (ax_t6 (List.mem_of_getElem? (i := 62) (rfl))) rfl
theorem kX4_hasGatheredAt : ax_Kn tX4_hasGatheredAt 2 := ⟨plainFor_of_name (x := yX4_hasGatheredAt) pl_X4, WK_X4_hasGatheredAt, mh_X4, pd_1, Nat.le_of_ble_eq_true rfl⟩
def tX4_look : ax_T := (yX4_look, cX4_look, 3, (Option.none : Option FieldType), [])
theorem WK_X4_look : ax_cw tX4_look ∈ ax_W := ax_tw (ax_t5 (List.mem_of_getElem? (i := 42) (rfl))) rfl
theorem kX4_look : ax_Kn tX4_look 1 := ⟨plainFor_of_name (x := yX4_look) pl_X4, WK_X4_look, mh_X4, pd_11, Nat.le_of_ble_eq_true rfl⟩
def tX4_count : ax_T := (yX4_count, cX4_count, 1, (Option.some FieldType.int), [])
theorem WK_X4_count : ax_cw tX4_count ∈ ax_W := ax_tw (ax_t5 (List.mem_of_getElem? (i := 59) (rfl))) rfl
theorem kX4_count : ax_Kn tX4_count 0 := ⟨plainFor_of_name (x := yX4_count) pl_X4, WK_X4_count, mh_X4, pd_12, Nat.le_of_ble_eq_true rfl⟩
def tX4_greatest : ax_T := (yX4_greatest, cX4_greatest, 1, (Option.some FieldType.int), [])
theorem WK_X4_greatest : ax_cw tX4_greatest ∈ ax_W := ax_tw (ax_t5 (List.mem_of_getElem? (i := 84) (rfl))) rfl
theorem kX4_greatest : ax_Kn tX4_greatest 0 := ⟨plainFor_of_name (x := yX4_greatest) pl_X4, WK_X4_greatest, mh_X4, pd_12, Nat.le_of_ble_eq_true rfl⟩
def tX4_gather : ax_T := (yX4_gather, cX4_gather, 6, (Option.none : Option FieldType), [])
theorem WK_X4_gather : ax_cw tX4_gather ∈ ax_W := ax_tw (ax_t5 (List.mem_of_getElem? (i := 49) (rfl))) rfl
theorem kX4_gather : ax_Kn tX4_gather 1 := ⟨plainFor_of_name (x := yX4_gather) pl_X4, WK_X4_gather, mh_X4, pd_11, Nat.le_of_ble_eq_true rfl⟩
def tX4_join : ax_T := (yX4_join, cX4_join, 3, (Option.none : Option FieldType), [])
theorem WK_X4_join : ax_cw tX4_join ∈ ax_W := ax_tw (ax_t5 (List.mem_of_getElem? (i := 53) (rfl))) rfl
theorem kX4_join : ax_Kn tX4_join 1 := ⟨plainFor_of_name (x := yX4_join) pl_X4, WK_X4_join, mh_X4, pd_11, Nat.le_of_ble_eq_true rfl⟩
theorem pl_X5 : plainName RX5 = true := by decide +kernel
theorem mh_X5 : RX5 ≠ "java/lang/invoke/MethodHandle" ∧ RX5 ≠ "java/lang/invoke/VarHandle" := ⟨by decide +kernel, by decide +kernel⟩
def tX5_isWrittenAt : ax_T := (yX5_isWrittenAt, cX5_isWrittenAt, 5, (Option.some FieldType.boolean), [])
theorem WK_X5_isWrittenAt : ax_cw tX5_isWrittenAt ∈ ax_W := ax_tw (ax_t2 (List.mem_of_getElem? (i := 154) (rfl))) rfl
theorem pd_19 : (parseMethodDescriptor "(LHexPond$Tape;II)Z").map (fun d => d.parameters.length) = some 3 := by decide +kernel
theorem kX5_isWrittenAt : ax_Kn tX5_isWrittenAt 3 := ⟨plainFor_of_name (x := yX5_isWrittenAt) pl_X5, WK_X5_isWrittenAt, mh_X5, pd_19, Nat.le_of_ble_eq_true rfl⟩
theorem pl_X6 : plainName RX6 = true := by decide +kernel
theorem mh_X6 : RX6 ≠ "java/lang/invoke/MethodHandle" ∧ RX6 ≠ "java/lang/invoke/VarHandle" := ⟨by decide +kernel, by decide +kernel⟩
def tX6_init : ax_T := (yX6_init, cX6_init, 2, (Option.none : Option FieldType), [])
theorem WK_X6_init : ax_cw tX6_init ∈ ax_W := ax_tw (ax_t1 (List.mem_of_getElem? (i := 135) (rfl))) rfl
theorem pd_20 : (parseMethodDescriptor "(LHexPond$Tokens;)V").map (fun d => d.parameters.length) = some 1 := by decide +kernel
theorem kX6_init : ax_Kn tX6_init 1 := ⟨plainFor_of_name (x := yX6_init) pl_X6, WK_X6_init, mh_X6, pd_20, Nat.le_of_ble_eq_true rfl⟩
def tX6_columns : ax_T := (yX6_columns, cX6_columns, 1, (Option.some FieldType.int), [])
theorem WK_X6_columns : ax_cw tX6_columns ∈ ax_W := ax_tw (ax_t3 (List.mem_of_getElem? (i := 194) (rfl))) rfl
theorem kX6_columns : ax_Kn tX6_columns 0 := ⟨plainFor_of_name (x := yX6_columns) pl_X6, WK_X6_columns, mh_X6, pd_12, Nat.le_of_ble_eq_true rfl⟩
def tX6_rows : ax_T := (yX6_rows, cX6_rows, 1, (Option.some FieldType.int), [])
theorem WK_X6_rows : ax_cw tX6_rows ∈ ax_W := ax_tw (ax_t3 (List.mem_of_getElem? (i := 198) (rfl))) rfl
theorem kX6_rows : ax_Kn tX6_rows 0 := ⟨plainFor_of_name (x := yX6_rows) pl_X6, WK_X6_rows, mh_X6, pd_12, Nat.le_of_ble_eq_true rfl⟩
def tX6_ownerAt : ax_T := (yX6_ownerAt, cX6_ownerAt, 2, (Option.some FieldType.int), [])
theorem WK_X6_ownerAt : ax_cw tX6_ownerAt ∈ ax_W := ax_tw (ax_t3 (List.mem_of_getElem? (i := 178) (rfl))) rfl
theorem kX6_ownerAt : ax_Kn tX6_ownerAt 1 := ⟨plainFor_of_name (x := yX6_ownerAt) pl_X6, WK_X6_ownerAt, mh_X6, pd_3, Nat.le_of_ble_eq_true rfl⟩
def tX6_wrongToken : ax_T := (yX6_wrongToken, cX6_wrongToken, 1, (Option.some FieldType.int), [])
theorem WK_X6_wrongToken : ax_cw tX6_wrongToken ∈ ax_W := ax_tw (ax_t3 (List.mem_of_getElem? (i := 182) (rfl))) rfl
theorem kX6_wrongToken : ax_Kn tX6_wrongToken 0 := ⟨plainFor_of_name (x := yX6_wrongToken) pl_X6, WK_X6_wrongToken, mh_X6, pd_12, Nat.le_of_ble_eq_true rfl⟩
def tX6_firstError : ax_T := (yX6_firstError, cX6_firstError, 3, (Option.some FieldType.int), [])
theorem WK_X6_firstError : ax_cw tX6_firstError ∈ ax_W := ax_tw (ax_t3 (List.mem_of_getElem? (i := 146) (rfl))) rfl
theorem kX6_firstError : ax_Kn tX6_firstError 0 := ⟨plainFor_of_name (x := yX6_firstError) pl_X6, WK_X6_firstError, mh_X6, pd_12, Nat.le_of_ble_eq_true rfl⟩
def tX6_errorAtToken : ax_T := (yX6_errorAtToken, cX6_errorAtToken, 2, (Option.some FieldType.int), [])
theorem WK_X6_errorAtToken : ax_cw tX6_errorAtToken ∈ ax_W := ax_tw (ax_t3 (List.mem_of_getElem? (i := 155) (rfl))) rfl
theorem kX6_errorAtToken : ax_Kn tX6_errorAtToken 1 := ⟨plainFor_of_name (x := yX6_errorAtToken) pl_X6, WK_X6_errorAtToken, mh_X6, pd_3, Nat.le_of_ble_eq_true rfl⟩
def tX6_errorAtNumber : ax_T := (yX6_errorAtNumber, cX6_errorAtNumber, 4, (Option.some FieldType.int), [])
theorem WK_X6_errorAtNumber : ax_cw tX6_errorAtNumber ∈ ax_W := ax_tw (ax_t3 (List.mem_of_getElem? (i := 162) (rfl))) rfl
theorem kX6_errorAtNumber : ax_Kn tX6_errorAtNumber 1 := ⟨plainFor_of_name (x := yX6_errorAtNumber) pl_X6, WK_X6_errorAtNumber, mh_X6, pd_3, Nat.le_of_ble_eq_true rfl⟩
def tX6_errorOfStone : ax_T := (yX6_errorOfStone, cX6_errorOfStone, 5, (Option.some FieldType.int), [])
theorem WK_X6_errorOfStone : ax_cw tX6_errorOfStone ∈ ax_W := ax_tw (ax_t3 (List.mem_of_getElem? (i := 174) (rfl))) rfl
theorem pd_21 : (parseMethodDescriptor "(III)I").map (fun d => d.parameters.length) = some 3 := by decide +kernel
theorem kX6_errorOfStone : ax_Kn tX6_errorOfStone 3 := ⟨plainFor_of_name (x := yX6_errorOfStone) pl_X6, WK_X6_errorOfStone, mh_X6, pd_21, Nat.le_of_ble_eq_true rfl⟩
def tX6_isLength : ax_T := (yX6_isLength, cX6_isLength, 1, (Option.some FieldType.boolean), [])
theorem WK_X6_isLength : ax_cw tX6_isLength ∈ ax_W := ax_tw (ax_t3 (List.mem_of_getElem? (i := 167) (rfl))) rfl
theorem pd_22 : (parseMethodDescriptor "(I)Z").map (fun d => d.parameters.length) = some 1 := by decide +kernel
theorem kX6_isLength : ax_Kn tX6_isLength 1 := ⟨plainFor_of_name (x := yX6_isLength) pl_X6, WK_X6_isLength, mh_X6, pd_22, Nat.le_of_ble_eq_true rfl⟩
theorem pl_X7 : plainName RX7 = true := by decide +kernel
theorem mh_X7 : RX7 ≠ "java/lang/invoke/MethodHandle" ∧ RX7 ≠ "java/lang/invoke/VarHandle" := ⟨by decide +kernel, by decide +kernel⟩
def tX7_init : ax_T := (yX7_init, cX7_init, 1, (Option.none : Option FieldType), [])
theorem WK_X7_init : ax_cw tX7_init ∈ ax_W := ax_tw (ax_t1 (List.mem_of_getElem? (i := 78) (rfl))) rfl
theorem kX7_init : ax_Kn tX7_init 0 := ⟨plainFor_of_name (x := yX7_init) pl_X7, WK_X7_init, mh_X7, pd_2, Nat.le_of_ble_eq_true rfl⟩
def tX7_begin : ax_T := (yX7_begin, cX7_begin, 1, (Option.none : Option FieldType), [])
theorem WK_X7_begin : ax_cw tX7_begin ∈ ax_W := ax_tw (ax_t2 (List.mem_of_getElem? (i := 222) (rfl))) rfl
theorem kX7_begin : ax_Kn tX7_begin 0 := ⟨plainFor_of_name (x := yX7_begin) pl_X7, WK_X7_begin, mh_X7, pd_2, Nat.le_of_ble_eq_true rfl⟩
def tX7_write : ax_T := (yX7_write, cX7_write, 3, (Option.none : Option FieldType), [])
theorem WK_X7_write : ax_cw tX7_write ∈ ax_W := ax_tw (ax_t3 (List.mem_of_getElem? (i := 66) (rfl))) rfl
theorem kX7_write : ax_Kn tX7_write 2 := ⟨plainFor_of_name (x := yX7_write) pl_X7, WK_X7_write, mh_X7, pd_16, Nat.le_of_ble_eq_true rfl⟩
def tX7_add : ax_T := (yX7_add, cX7_add, 6, (Option.none : Option FieldType), [])
theorem WK_X7_add : ax_cw tX7_add ∈ ax_W := ax_tw (ax_t3 (List.mem_of_getElem? (i := 142) (rfl))) rfl
theorem pd_23 : (parseMethodDescriptor "(ILHexPond$Kind;III)V").map (fun d => d.parameters.length) = some 5 := by decide +kernel
theorem kX7_add : ax_Kn tX7_add 5 := ⟨plainFor_of_name (x := yX7_add) pl_X7, WK_X7_add, mh_X7, pd_23, Nat.le_of_ble_eq_true rfl⟩
def tX7_count : ax_T := (yX7_count, cX7_count, 1, (Option.some FieldType.int), [])
theorem WK_X7_count : ax_cw tX7_count ∈ ax_W := ax_tw (ax_t4 (List.mem_of_getElem? (i := 4) (rfl))) rfl
theorem kX7_count : ax_Kn tX7_count 0 := ⟨plainFor_of_name (x := yX7_count) pl_X7, WK_X7_count, mh_X7, pd_12, Nat.le_of_ble_eq_true rfl⟩
def tX7_codeLength : ax_T := (yX7_codeLength, cX7_codeLength, 1, (Option.some FieldType.int), [])
theorem WK_X7_codeLength : ax_cw tX7_codeLength ∈ ax_W := ax_tw (ax_t3 (List.mem_of_getElem? (i := 32) (rfl))) rfl
theorem kX7_codeLength : ax_Kn tX7_codeLength 0 := ⟨plainFor_of_name (x := yX7_codeLength) pl_X7, WK_X7_codeLength, mh_X7, pd_12, Nat.le_of_ble_eq_true rfl⟩
def tX7_opAt : ax_T := (yX7_opAt, cX7_opAt, 3, (Option.some (FieldType.object "HexPond$Kind")), [])
theorem WK_X7_opAt : ax_cw tX7_opAt ∈ ax_W := ax_tw (ax_t4 (List.mem_of_getElem? (i := 169) (rfl))) rfl
theorem pd_24 : (parseMethodDescriptor "(I)LHexPond$Kind;").map (fun d => d.parameters.length) = some 1 := by decide +kernel
theorem kX7_opAt : ax_Kn tX7_opAt 1 := ⟨plainFor_of_name (x := yX7_opAt) pl_X7, WK_X7_opAt, mh_X7, pd_24, Nat.le_of_ble_eq_true rfl⟩
def tX7_operandAt : ax_T := (yX7_operandAt, cX7_operandAt, 2, (Option.some FieldType.int), [])
theorem WK_X7_operandAt : ax_cw tX7_operandAt ∈ ax_W := ax_tw (ax_t4 (List.mem_of_getElem? (i := 174) (rfl))) rfl
theorem kX7_operandAt : ax_Kn tX7_operandAt 1 := ⟨plainFor_of_name (x := yX7_operandAt) pl_X7, WK_X7_operandAt, mh_X7, pd_3, Nat.le_of_ble_eq_true rfl⟩
def tX7_moveOf : ax_T := (yX7_moveOf, cX7_moveOf, 3, (Option.some (FieldType.object "HexPond$Kind")), [])
theorem WK_X7_moveOf : ax_cw tX7_moveOf ∈ ax_W := ax_tw (ax_t4 (List.mem_of_getElem? (i := 213) (rfl))) rfl
theorem kX7_moveOf : ax_Kn tX7_moveOf 1 := ⟨plainFor_of_name (x := yX7_moveOf) pl_X7, WK_X7_moveOf, mh_X7, pd_24, Nat.le_of_ble_eq_true rfl⟩
def tX7_playerOf : ax_T := (yX7_playerOf, cX7_playerOf, 2, (Option.some FieldType.int), [])
theorem WK_X7_playerOf : ax_cw tX7_playerOf ∈ ax_W := ax_tw (ax_t4 (List.mem_of_getElem? (i := 145) (rfl))) rfl
theorem kX7_playerOf : ax_Kn tX7_playerOf 1 := ⟨plainFor_of_name (x := yX7_playerOf) pl_X7, WK_X7_playerOf, mh_X7, pd_3, Nat.le_of_ble_eq_true rfl⟩
def tX7_columnStart : ax_T := (yX7_columnStart, cX7_columnStart, 2, (Option.some FieldType.int), [])
theorem WK_X7_columnStart : ax_cw tX7_columnStart ∈ ax_W := ax_tw (ax_t5 (List.mem_of_getElem? (i := 3) (rfl))) rfl
theorem kX7_columnStart : ax_Kn tX7_columnStart 1 := ⟨plainFor_of_name (x := yX7_columnStart) pl_X7, WK_X7_columnStart, mh_X7, pd_3, Nat.le_of_ble_eq_true rfl⟩
def tX7_rowStart : ax_T := (yX7_rowStart, cX7_rowStart, 2, (Option.some FieldType.int), [])
theorem WK_X7_rowStart : ax_cw tX7_rowStart ∈ ax_W := ax_tw (ax_t5 (List.mem_of_getElem? (i := 7) (rfl))) rfl
theorem kX7_rowStart : ax_Kn tX7_rowStart 1 := ⟨plainFor_of_name (x := yX7_rowStart) pl_X7, WK_X7_rowStart, mh_X7, pd_3, Nat.le_of_ble_eq_true rfl⟩
def tX7_testStart : ax_T := (yX7_testStart, cX7_testStart, 2, (Option.some FieldType.int), [])
theorem WK_X7_testStart : ax_cw tX7_testStart ∈ ax_W := ax_tw (ax_t4 (List.mem_of_getElem? (i := 157) (rfl))) rfl
theorem kX7_testStart : ax_Kn tX7_testStart 1 := ⟨plainFor_of_name (x := yX7_testStart) pl_X7, WK_X7_testStart, mh_X7, pd_3, Nat.le_of_ble_eq_true rfl⟩
def tX7_end : ax_T := (yX7_end, cX7_end, 2, (Option.some FieldType.int), [])
theorem WK_X7_end : ax_cw tX7_end ∈ ax_W := ax_tw (ax_t4 (List.mem_of_getElem? (i := 161) (rfl))) rfl
theorem kX7_end : ax_Kn tX7_end 1 := ⟨plainFor_of_name (x := yX7_end) pl_X7, WK_X7_end, mh_X7, pd_3, Nat.le_of_ble_eq_true rfl⟩
def tX7_has : ax_T := (yX7_has, cX7_has, 2, (Option.some FieldType.boolean), [])
theorem WK_X7_has : ax_cw tX7_has ∈ ax_W := ax_tw (ax_t4 (List.mem_of_getElem? (i := 149) (rfl))) rfl
theorem kX7_has : ax_Kn tX7_has 1 := ⟨plainFor_of_name (x := yX7_has) pl_X7, WK_X7_has, mh_X7, pd_22, Nat.le_of_ble_eq_true rfl⟩
theorem pl_X8 : plainName RX8 = true := by decide +kernel
theorem mh_X8 : RX8 ≠ "java/lang/invoke/MethodHandle" ∧ RX8 ≠ "java/lang/invoke/VarHandle" := ⟨by decide +kernel, by decide +kernel⟩
def tX8_init : ax_T := (yX8_init, cX8_init, 1, (Option.none : Option FieldType), [])
theorem WK_X8_init : ax_cw tX8_init ∈ ax_W := ax_tw (ax_t1 (List.mem_of_getElem? (i := 160) (rfl))) rfl
theorem kX8_init : ax_Kn tX8_init 0 := ⟨plainFor_of_name (x := yX8_init) pl_X8, WK_X8_init, mh_X8, pd_2, Nat.le_of_ble_eq_true rfl⟩
def tX8_begin : ax_T := (yX8_begin, cX8_begin, 5, (Option.none : Option FieldType), [])
theorem WK_X8_begin : ax_cw tX8_begin ∈ ax_W := ax_tw (ax_t1 (List.mem_of_getElem? (i := 165) (rfl))) rfl
theorem pd_25 : (parseMethodDescriptor "(II)V").map (fun d => d.parameters.length) = some 2 := by decide +kernel
theorem kX8_begin : ax_Kn tX8_begin 2 := ⟨plainFor_of_name (x := yX8_begin) pl_X8, WK_X8_begin, mh_X8, pd_25, Nat.le_of_ble_eq_true rfl⟩
def tX8_placeCell : ax_T := (yX8_placeCell, cX8_placeCell, 5, (Option.none : Option FieldType), [])
theorem WK_X8_placeCell : ax_cw tX8_placeCell ∈ ax_W := ax_tw (ax_t1 (List.mem_of_getElem? (i := 172) (rfl))) rfl
theorem kX8_placeCell : ax_Kn tX8_placeCell 2 := ⟨plainFor_of_name (x := yX8_placeCell) pl_X8, WK_X8_placeCell, mh_X8, pd_25, Nat.le_of_ble_eq_true rfl⟩
def tX8_columns : ax_T := (yX8_columns, cX8_columns, 1, (Option.some FieldType.int), [])
theorem WK_X8_columns : ax_cw tX8_columns ∈ ax_W := ax_tw (ax_t3 (List.mem_of_getElem? (i := 228) (rfl))) rfl
theorem kX8_columns : ax_Kn tX8_columns 0 := ⟨plainFor_of_name (x := yX8_columns) pl_X8, WK_X8_columns, mh_X8, pd_12, Nat.le_of_ble_eq_true rfl⟩
def tX8_rows : ax_T := (yX8_rows, cX8_rows, 1, (Option.some FieldType.int), [])
theorem WK_X8_rows : ax_cw tX8_rows ∈ ax_W := ax_tw (ax_t3 (List.mem_of_getElem? (i := 236) (rfl))) rfl
theorem kX8_rows : ax_Kn tX8_rows 0 := ⟨plainFor_of_name (x := yX8_rows) pl_X8, WK_X8_rows, mh_X8, pd_12, Nat.le_of_ble_eq_true rfl⟩
def tX8_cells : ax_T := (yX8_cells, cX8_cells, 1, (Option.some FieldType.int), [])
theorem WK_X8_cells : ax_cw tX8_cells ∈ ax_W := ax_tw (ax_t3 (List.mem_of_getElem? (i := 203) (rfl))) rfl
theorem kX8_cells : ax_Kn tX8_cells 0 := ⟨plainFor_of_name (x := yX8_cells) pl_X8, WK_X8_cells, mh_X8, pd_12, Nat.le_of_ble_eq_true rfl⟩
def tX8_hasCell : ax_T := (yX8_hasCell, cX8_hasCell, 2, (Option.some FieldType.boolean), [])
theorem WK_X8_hasCell : ax_cw tX8_hasCell ∈ ax_W := ax_tw (ax_t3 (List.mem_of_getElem? (i := 212) (rfl))) rfl
theorem kX8_hasCell : ax_Kn tX8_hasCell 1 := ⟨plainFor_of_name (x := yX8_hasCell) pl_X8, WK_X8_hasCell, mh_X8, pd_22, Nat.le_of_ble_eq_true rfl⟩
def tX8_cellAt : ax_T := (yX8_cellAt, cX8_cellAt, 4, (Option.some FieldType.int), [])
theorem WK_X8_cellAt : ax_cw tX8_cellAt ∈ ax_W := ax_tw (ax_t1 (List.mem_of_getElem? (i := 180) (rfl))) rfl
theorem kX8_cellAt : ax_Kn tX8_cellAt 2 := ⟨plainFor_of_name (x := yX8_cellAt) pl_X8, WK_X8_cellAt, mh_X8, pd_5, Nat.le_of_ble_eq_true rfl⟩
def tX8_beside : ax_T := (yX8_beside, cX8_beside, 5, (Option.some FieldType.int), [])
theorem WK_X8_beside : ax_cw tX8_beside ∈ ax_W := ax_tw (ax_t4 (List.mem_of_getElem? (i := 67) (rfl))) rfl
theorem kX8_beside : ax_Kn tX8_beside 2 := ⟨plainFor_of_name (x := yX8_beside) pl_X8, WK_X8_beside, mh_X8, pd_5, Nat.le_of_ble_eq_true rfl⟩
def tX8_ownerAt : ax_T := (yX8_ownerAt, cX8_ownerAt, 2, (Option.some FieldType.int), [])
theorem WK_X8_ownerAt : ax_cw tX8_ownerAt ∈ ax_W := ax_tw (ax_t4 (List.mem_of_getElem? (i := 63) (rfl))) rfl
theorem kX8_ownerAt : ax_Kn tX8_ownerAt 1 := ⟨plainFor_of_name (x := yX8_ownerAt) pl_X8, WK_X8_ownerAt, mh_X8, pd_3, Nat.le_of_ble_eq_true rfl⟩
def tX8_isAtShore : ax_T := (yX8_isAtShore, cX8_isAtShore, 6, (Option.some FieldType.boolean), [])
theorem WK_X8_isAtShore : ax_cw tX8_isAtShore ∈ ax_W := ax_tw (ax_t4 (List.mem_of_getElem? (i := 55) (rfl))) rfl
theorem pd_26 : (parseMethodDescriptor "(III)Z").map (fun d => d.parameters.length) = some 3 := by decide +kernel
theorem kX8_isAtShore : ax_Kn tX8_isAtShore 3 := ⟨plainFor_of_name (x := yX8_isAtShore) pl_X8, WK_X8_isAtShore, mh_X8, pd_26, Nat.le_of_ble_eq_true rfl⟩
def tX8_stonesOf : ax_T := (yX8_stonesOf, cX8_stonesOf, 2, (Option.some FieldType.int), [])
theorem WK_X8_stonesOf : ax_cw tX8_stonesOf ∈ ax_W := ax_tw (ax_t4 (List.mem_of_getElem? (i := 111) (rfl))) rfl
theorem kX8_stonesOf : ax_Kn tX8_stonesOf 1 := ⟨plainFor_of_name (x := yX8_stonesOf) pl_X8, WK_X8_stonesOf, mh_X8, pd_3, Nat.le_of_ble_eq_true rfl⟩
def tX8_stones : ax_T := (yX8_stones, cX8_stones, 1, (Option.some FieldType.int), [])
theorem WK_X8_stones : ax_cw tX8_stones ∈ ax_W := ax_tw (ax_t4 (List.mem_of_getElem? (i := 30) (rfl))) rfl
theorem kX8_stones : ax_Kn tX8_stones 0 := ⟨plainFor_of_name (x := yX8_stones) pl_X8, WK_X8_stones, mh_X8, pd_12, Nat.le_of_ble_eq_true rfl⟩
def tX8_freeCells : ax_T := (yX8_freeCells, cX8_freeCells, 1, (Option.some FieldType.int), [])
theorem WK_X8_freeCells : ax_cw tX8_freeCells ∈ ax_W := ax_tw (ax_t4 (List.mem_of_getElem? (i := 25) (rfl))) rfl
theorem kX8_freeCells : ax_Kn tX8_freeCells 0 := ⟨plainFor_of_name (x := yX8_freeCells) pl_X8, WK_X8_freeCells, mh_X8, pd_12, Nat.le_of_ble_eq_true rfl⟩
def tX8_turn : ax_T := (yX8_turn, cX8_turn, 1, (Option.some FieldType.int), [])
theorem WK_X8_turn : ax_cw tX8_turn ∈ ax_W := ax_tw (ax_t4 (List.mem_of_getElem? (i := 107) (rfl))) rfl
theorem kX8_turn : ax_Kn tX8_turn 0 := ⟨plainFor_of_name (x := yX8_turn) pl_X8, WK_X8_turn, mh_X8, pd_12, Nat.le_of_ble_eq_true rfl⟩
def tX8_laidStones : ax_T := (yX8_laidStones, cX8_laidStones, 1, (Option.some FieldType.int), [])
theorem WK_X8_laidStones : ax_cw tX8_laidStones ∈ ax_W := ax_tw (ax_t4 (List.mem_of_getElem? (i := 12) (rfl))) rfl
theorem kX8_laidStones : ax_Kn tX8_laidStones 0 := ⟨plainFor_of_name (x := yX8_laidStones) pl_X8, WK_X8_laidStones, mh_X8, pd_12, Nat.le_of_ble_eq_true rfl⟩
def tX8_changes : ax_T := (yX8_changes, cX8_changes, 1, (Option.some FieldType.int), [])
theorem WK_X8_changes : ax_cw tX8_changes ∈ ax_W := ax_tw (ax_t4 (List.mem_of_getElem? (i := 50) (rfl))) rfl
theorem kX8_changes : ax_Kn tX8_changes 0 := ⟨plainFor_of_name (x := yX8_changes) pl_X8, WK_X8_changes, mh_X8, pd_12, Nat.le_of_ble_eq_true rfl⟩
def tX8_put : ax_T := (yX8_put, cX8_put, 3, (Option.none : Option FieldType), [])
theorem WK_X8_put : ax_cw tX8_put ∈ ax_W := ax_tw (ax_t3 (List.mem_of_getElem? (i := 208) (rfl))) rfl
theorem kX8_put : ax_Kn tX8_put 2 := ⟨plainFor_of_name (x := yX8_put) pl_X8, WK_X8_put, mh_X8, pd_25, Nat.le_of_ble_eq_true rfl⟩
def tX8_countStone : ax_T := (yX8_countStone, cX8_countStone, 4, (Option.none : Option FieldType), [])
theorem WK_X8_countStone : ax_cw tX8_countStone ∈ ax_W := ax_tw (ax_t3 (List.mem_of_getElem? (i := 216) (rfl))) rfl
theorem kX8_countStone : ax_Kn tX8_countStone 2 := ⟨plainFor_of_name (x := yX8_countStone) pl_X8, WK_X8_countStone, mh_X8, pd_25, Nat.le_of_ble_eq_true rfl⟩
def tX8_lay : ax_T := (yX8_lay, cX8_lay, 3, (Option.none : Option FieldType), [])
theorem WK_X8_lay : ax_cw tX8_lay ∈ ax_W := ax_tw (ax_t5 (List.mem_of_getElem? (i := 21) (rfl))) rfl
theorem kX8_lay : ax_Kn tX8_lay 2 := ⟨plainFor_of_name (x := yX8_lay) pl_X8, WK_X8_lay, mh_X8, pd_25, Nat.le_of_ble_eq_true rfl⟩
def tX8_liftLatest : ax_T := (yX8_liftLatest, cX8_liftLatest, 2, (Option.some FieldType.int), [])
theorem WK_X8_liftLatest : ax_cw tX8_liftLatest ∈ ax_W := ax_tw (ax_t5 (List.mem_of_getElem? (i := 30) (rfl))) rfl
theorem kX8_liftLatest : ax_Kn tX8_liftLatest 0 := ⟨plainFor_of_name (x := yX8_liftLatest) pl_X8, WK_X8_liftLatest, mh_X8, pd_12, Nat.le_of_ble_eq_true rfl⟩
def tX8_isIced : ax_T := (yX8_isIced, cX8_isIced, 6, (Option.some FieldType.boolean), [])
theorem WK_X8_isIced : ax_cw tX8_isIced ∈ ax_W := ax_tw (ax_t4 (List.mem_of_getElem? (i := 90) (rfl))) rfl
theorem kX8_isIced : ax_Kn tX8_isIced 1 := ⟨plainFor_of_name (x := yX8_isIced) pl_X8, WK_X8_isIced, mh_X8, pd_22, Nat.le_of_ble_eq_true rfl⟩
def tX8_ownerAround : ax_T := (yX8_ownerAround, cX8_ownerAround, 8, (Option.some FieldType.int), [])
theorem WK_X8_ownerAround : ax_cw tX8_ownerAround ∈ ax_W := ax_tw (ax_t4 (List.mem_of_getElem? (i := 94) (rfl))) rfl
theorem kX8_ownerAround : ax_Kn tX8_ownerAround 3 := ⟨plainFor_of_name (x := yX8_ownerAround) pl_X8, WK_X8_ownerAround, mh_X8, pd_21, Nat.le_of_ble_eq_true rfl⟩
theorem pl_X9 : plainName RX9 = true := by decide +kernel
theorem mh_X9 : RX9 ≠ "java/lang/invoke/MethodHandle" ∧ RX9 ≠ "java/lang/invoke/VarHandle" := ⟨by decide +kernel, by decide +kernel⟩
def tX9_init : ax_T := (yX9_init, cX9_init, 1, (Option.none : Option FieldType), [])
theorem WK_X9_init : ax_cw tX9_init ∈ ax_W := ax_tw (ax_t1 (List.mem_of_getElem? (i := 42) (rfl))) rfl
theorem kX9_init : ax_Kn tX9_init 0 := ⟨plainFor_of_name (x := yX9_init) pl_X9, WK_X9_init, mh_X9, pd_2, Nat.le_of_ble_eq_true rfl⟩
def tX9_length : ax_T := (yX9_length, cX9_length, 1, (Option.some FieldType.int), [])
theorem WK_X9_length : ax_cw tX9_length ∈ ax_W := ax_tw (ax_t2 (List.mem_of_getElem? (i := 123) (rfl))) rfl
theorem kX9_length : ax_Kn tX9_length 0 := ⟨plainFor_of_name (x := yX9_length) pl_X9, WK_X9_length, mh_X9, pd_12, Nat.le_of_ble_eq_true rfl⟩
def tX9_byteAt : ax_T := (yX9_byteAt, cX9_byteAt, 2, (Option.some FieldType.int), [])
theorem WK_X9_byteAt : ax_cw tX9_byteAt ∈ ax_W := ax_tw (ax_t2 (List.mem_of_getElem? (i := 127) (rfl))) rfl
theorem kX9_byteAt : ax_Kn tX9_byteAt 1 := ⟨plainFor_of_name (x := yX9_byteAt) pl_X9, WK_X9_byteAt, mh_X9, pd_3, Nat.le_of_ble_eq_true rfl⟩
def tX9_append : ax_T := (yX9_append, cX9_append, 3, (Option.none : Option FieldType), [])
theorem WK_X9_append : ax_cw tX9_append ∈ ax_W := ax_tw (ax_t5 (List.mem_of_getElem? (i := 173) (rfl))) rfl
theorem kX9_append : ax_Kn tX9_append 1 := ⟨plainFor_of_name (x := yX9_append) pl_X9, WK_X9_append, mh_X9, pd_11, Nat.le_of_ble_eq_true rfl⟩
def tX9_shorten : ax_T := (yX9_shorten, cX9_shorten, 2, (Option.none : Option FieldType), [])
theorem WK_X9_shorten : ax_cw tX9_shorten ∈ ax_W := ax_tw (ax_t2 (List.mem_of_getElem? (i := 214) (rfl))) rfl
theorem kX9_shorten : ax_Kn tX9_shorten 1 := ⟨plainFor_of_name (x := yX9_shorten) pl_X9, WK_X9_shorten, mh_X9, pd_11, Nat.le_of_ble_eq_true rfl⟩
theorem pl_X10 : plainName RX10 = true := by decide +kernel
theorem mh_X10 : RX10 ≠ "java/lang/invoke/MethodHandle" ∧ RX10 ≠ "java/lang/invoke/VarHandle" := ⟨by decide +kernel, by decide +kernel⟩
def tX10_init : ax_T := (yX10_init, cX10_init, 1, (Option.none : Option FieldType), [])
theorem WK_X10_init : ax_cw tX10_init ∈ ax_W := ax_tw (ax_t1 (List.mem_of_getElem? (i := 56) (rfl))) rfl
theorem kX10_init : ax_Kn tX10_init 0 := ⟨plainFor_of_name (x := yX10_init) pl_X10, WK_X10_init, mh_X10, pd_2, Nat.le_of_ble_eq_true rfl⟩
def tX10_count : ax_T := (yX10_count, cX10_count, 1, (Option.some FieldType.int), [])
theorem WK_X10_count : ax_cw tX10_count ∈ ax_W := ax_tw (ax_t3 (List.mem_of_getElem? (i := 151) (rfl))) rfl
theorem kX10_count : ax_Kn tX10_count 0 := ⟨plainFor_of_name (x := yX10_count) pl_X10, WK_X10_count, mh_X10, pd_12, Nat.le_of_ble_eq_true rfl⟩
def tX10_kindOf : ax_T := (yX10_kindOf, cX10_kindOf, 3, (Option.some (FieldType.object "HexPond$Kind")), [])
theorem WK_X10_kindOf : ax_cw tX10_kindOf ∈ ax_W := ax_tw (ax_t2 (List.mem_of_getElem? (i := 232) (rfl))) rfl
theorem kX10_kindOf : ax_Kn tX10_kindOf 1 := ⟨plainFor_of_name (x := yX10_kindOf) pl_X10, WK_X10_kindOf, mh_X10, pd_24, Nat.le_of_ble_eq_true rfl⟩
def tX10_startOf : ax_T := (yX10_startOf, cX10_startOf, 2, (Option.some FieldType.int), [])
theorem WK_X10_startOf : ax_cw tX10_startOf ∈ ax_W := ax_tw (ax_t3 (List.mem_of_getElem? (i := 186) (rfl))) rfl
theorem kX10_startOf : ax_Kn tX10_startOf 1 := ⟨plainFor_of_name (x := yX10_startOf) pl_X10, WK_X10_startOf, mh_X10, pd_3, Nat.le_of_ble_eq_true rfl⟩
def tX10_valueOf : ax_T := (yX10_valueOf, cX10_valueOf, 2, (Option.some FieldType.int), [])
theorem WK_X10_valueOf : ax_cw tX10_valueOf ∈ ax_W := ax_tw (ax_t3 (List.mem_of_getElem? (i := 62) (rfl))) rfl
theorem kX10_valueOf : ax_Kn tX10_valueOf 1 := ⟨plainFor_of_name (x := yX10_valueOf) pl_X10, WK_X10_valueOf, mh_X10, pd_3, Nat.le_of_ble_eq_true rfl⟩
def tX10_read : ax_T := (yX10_read, cX10_read, 6, (Option.none : Option FieldType), [])
theorem WK_X10_read : ax_cw tX10_read ∈ ax_W := ax_tw (ax_t2 (List.mem_of_getElem? (i := 116) (rfl))) rfl
theorem pd_27 : (parseMethodDescriptor "(LHexPond$Tape;)V").map (fun d => d.parameters.length) = some 1 := by decide +kernel
theorem kX10_read : ax_Kn tX10_read 1 := ⟨plainFor_of_name (x := yX10_read) pl_X10, WK_X10_read, mh_X10, pd_27, Nat.le_of_ble_eq_true rfl⟩
def tX10_keep : ax_T := (yX10_keep, cX10_keep, 4, (Option.none : Option FieldType), [])
theorem WK_X10_keep : ax_cw tX10_keep ∈ ax_W := ax_tw (ax_t2 (List.mem_of_getElem? (i := 210) (rfl))) rfl
theorem pd_28 : (parseMethodDescriptor "(LHexPond$Kind;II)V").map (fun d => d.parameters.length) = some 3 := by decide +kernel
theorem kX10_keep : ax_Kn tX10_keep 3 := ⟨plainFor_of_name (x := yX10_keep) pl_X10, WK_X10_keep, mh_X10, pd_28, Nat.le_of_ble_eq_true rfl⟩
def tX10_behindBlanks : ax_T := (yX10_behindBlanks, cX10_behindBlanks, 3, (Option.some FieldType.int), [])
theorem WK_X10_behindBlanks : ax_cw tX10_behindBlanks ∈ ax_W := ax_tw (ax_t2 (List.mem_of_getElem? (i := 119) (rfl))) rfl
theorem pd_29 : (parseMethodDescriptor "(LHexPond$Tape;I)I").map (fun d => d.parameters.length) = some 2 := by decide +kernel
theorem kX10_behindBlanks : ax_Kn tX10_behindBlanks 2 := ⟨plainFor_of_name (x := yX10_behindBlanks) pl_X10, WK_X10_behindBlanks, mh_X10, pd_29, Nat.le_of_ble_eq_true rfl⟩
def tX10_behindToken : ax_T := (yX10_behindToken, cX10_behindToken, 4, (Option.some FieldType.int), [])
theorem WK_X10_behindToken : ax_cw tX10_behindToken ∈ ax_W := ax_tw (ax_t2 (List.mem_of_getElem? (i := 133) (rfl))) rfl
theorem kX10_behindToken : ax_Kn tX10_behindToken 2 := ⟨plainFor_of_name (x := yX10_behindToken) pl_X10, WK_X10_behindToken, mh_X10, pd_29, Nat.le_of_ble_eq_true rfl⟩
def tX10_kindBetween : ax_T := (yX10_kindBetween, cX10_kindBetween, 7, (Option.some (FieldType.object "HexPond$Kind")), [])
theorem WK_X10_kindBetween : ax_cw tX10_kindBetween ∈ ax_W := ax_tw (ax_t2 (List.mem_of_getElem? (i := 142) (rfl))) rfl
theorem pd_30 : (parseMethodDescriptor "(LHexPond$Tape;II)LHexPond$Kind;").map (fun d => d.parameters.length) = some 3 := by decide +kernel
theorem kX10_kindBetween : ax_Kn tX10_kindBetween 3 := ⟨plainFor_of_name (x := yX10_kindBetween) pl_X10, WK_X10_kindBetween, mh_X10, pd_30, Nat.le_of_ble_eq_true rfl⟩
def tX10_numberBetween : ax_T := (yX10_numberBetween, cX10_numberBetween, 5, (Option.some FieldType.int), [])
theorem WK_X10_numberBetween : ax_cw tX10_numberBetween ∈ ax_W := ax_tw (ax_t2 (List.mem_of_getElem? (i := 206) (rfl))) rfl
theorem pd_31 : (parseMethodDescriptor "(LHexPond$Tape;II)I").map (fun d => d.parameters.length) = some 3 := by decide +kernel
theorem kX10_numberBetween : ax_Kn tX10_numberBetween 3 := ⟨plainFor_of_name (x := yX10_numberBetween) pl_X10, WK_X10_numberBetween, mh_X10, pd_31, Nat.le_of_ble_eq_true rfl⟩
def tX10_isBlank : ax_T := (yX10_isBlank, cX10_isBlank, 1, (Option.some FieldType.boolean), [])
theorem WK_X10_isBlank : ax_cw tX10_isBlank ∈ ax_W := ax_tw (ax_t2 (List.mem_of_getElem? (i := 130) (rfl))) rfl
theorem kX10_isBlank : ax_Kn tX10_isBlank 1 := ⟨plainFor_of_name (x := yX10_isBlank) pl_X10, WK_X10_isBlank, mh_X10, pd_22, Nat.le_of_ble_eq_true rfl⟩
def tX10_isLetter : ax_T := (yX10_isLetter, cX10_isLetter, 1, (Option.some FieldType.boolean), [])
theorem WK_X10_isLetter : ax_cw tX10_isLetter ∈ ax_W := ax_tw (ax_t2 (List.mem_of_getElem? (i := 136) (rfl))) rfl
theorem kX10_isLetter : ax_Kn tX10_isLetter 1 := ⟨plainFor_of_name (x := yX10_isLetter) pl_X10, WK_X10_isLetter, mh_X10, pd_22, Nat.le_of_ble_eq_true rfl⟩
def tX10_isDigit : ax_T := (yX10_isDigit, cX10_isDigit, 1, (Option.some FieldType.boolean), [])
theorem WK_X10_isDigit : ax_cw tX10_isDigit ∈ ax_W := ax_tw (ax_t2 (List.mem_of_getElem? (i := 139) (rfl))) rfl
theorem kX10_isDigit : ax_Kn tX10_isDigit 1 := ⟨plainFor_of_name (x := yX10_isDigit) pl_X10, WK_X10_isDigit, mh_X10, pd_22, Nat.le_of_ble_eq_true rfl⟩
theorem pl_X11 : plainName RX11 = true := by decide +kernel
theorem mh_X11 : RX11 ≠ "java/lang/invoke/MethodHandle" ∧ RX11 ≠ "java/lang/invoke/VarHandle" := ⟨by decide +kernel, by decide +kernel⟩
def tX11_init : ax_T := (yX11_init, cX11_init, 2, (Option.none : Option FieldType), [])
theorem WK_X11_init : ax_cw tX11_init ∈ ax_W := ax_tw (ax_t2 (List.mem_of_getElem? (i := 23) (rfl))) rfl
theorem kX11_init : ax_Kn tX11_init 1 := ⟨plainFor_of_name (x := yX11_init) pl_X11, WK_X11_init, mh_X11, pd_0, Nat.le_of_ble_eq_true rfl⟩
def tX11_look : ax_T := (yX11_look, cX11_look, 2, (Option.none : Option FieldType), [])
theorem WK_X11_look : ax_cw tX11_look ∈ ax_W := ax_tw (ax_t4 (List.mem_of_getElem? (i := 42) (rfl))) rfl
theorem kX11_look : ax_Kn tX11_look 0 := ⟨plainFor_of_name (x := yX11_look) pl_X11, WK_X11_look, mh_X11, pd_2, Nat.le_of_ble_eq_true rfl⟩
def tX11_lookFromFirstShores : ax_T := (yX11_lookFromFirstShores, cX11_lookFromFirstShores, 1, (Option.none : Option FieldType), [])
theorem WK_X11_lookFromFirstShores : ax_cw tX11_lookFromFirstShores ∈ ax_W := ax_tw (ax_t6 (List.mem_of_getElem? (i := 197) (rfl))) rfl
theorem kX11_lookFromFirstShores : ax_Kn tX11_lookFromFirstShores 0 := ⟨plainFor_of_name (x := yX11_lookFromFirstShores) pl_X11, WK_X11_lookFromFirstShores, mh_X11, pd_2, Nat.le_of_ble_eq_true rfl⟩
def tX11_needed : ax_T := (yX11_needed, cX11_needed, 2, (Option.some FieldType.int), [])
theorem WK_X11_needed : ax_cw tX11_needed ∈ ax_W := ax_tw (ax_t4 (List.mem_of_getElem? (i := 82) (rfl))) rfl
theorem kX11_needed : ax_Kn tX11_needed 1 := ⟨plainFor_of_name (x := yX11_needed) pl_X11, WK_X11_needed, mh_X11, pd_3, Nat.le_of_ble_eq_true rfl⟩
def tX11_through : ax_T := (yX11_through, cX11_through, 5, (Option.some FieldType.int), [])
theorem WK_X11_through : ax_cw tX11_through ∈ ax_W := ax_tw (ax_t4 (List.mem_of_getElem? (i := 226) (rfl))) rfl
theorem kX11_through : ax_Kn tX11_through 2 := ⟨plainFor_of_name (x := yX11_through) pl_X11, WK_X11_through, mh_X11, pd_5, Nat.le_of_ble_eq_true rfl⟩
def tX11_wins : ax_T := (yX11_wins, cX11_wins, 4, (Option.some FieldType.boolean), [])
theorem WK_X11_wins : ax_cw tX11_wins ∈ ax_W := ax_tw (ax_t4 (List.mem_of_getElem? (i := 221) (rfl))) rfl
theorem kX11_wins : ax_Kn tX11_wins 2 := ⟨plainFor_of_name (x := yX11_wins) pl_X11, WK_X11_wins, mh_X11, pd_1, Nat.le_of_ble_eq_true rfl⟩
def tX11_winningCells : ax_T := (yX11_winningCells, cX11_winningCells, 4, (Option.some FieldType.int), [])
theorem WK_X11_winningCells : ax_cw tX11_winningCells ∈ ax_W := ax_tw (ax_t5 (List.mem_of_getElem? (i := 93) (rfl))) rfl
theorem kX11_winningCells : ax_Kn tX11_winningCells 1 := ⟨plainFor_of_name (x := yX11_winningCells) pl_X11, WK_X11_winningCells, mh_X11, pd_3, Nat.le_of_ble_eq_true rfl⟩
def tX11_firstWinning : ax_T := (yX11_firstWinning, cX11_firstWinning, 3, (Option.some FieldType.int), [])
theorem WK_X11_firstWinning : ax_cw tX11_firstWinning ∈ ax_W := ax_tw (ax_t4 (List.mem_of_getElem? (i := 217) (rfl))) rfl
theorem kX11_firstWinning : ax_Kn tX11_firstWinning 1 := ⟨plainFor_of_name (x := yX11_firstWinning) pl_X11, WK_X11_firstWinning, mh_X11, pd_3, Nat.le_of_ble_eq_true rfl⟩
def tX11_nearest : ax_T := (yX11_nearest, cX11_nearest, 6, (Option.some FieldType.int), [])
theorem WK_X11_nearest : ax_cw tX11_nearest ∈ ax_W := ax_tw (ax_t4 (List.mem_of_getElem? (i := 235) (rfl))) rfl
theorem kX11_nearest : ax_Kn tX11_nearest 1 := ⟨plainFor_of_name (x := yX11_nearest) pl_X11, WK_X11_nearest, mh_X11, pd_3, Nat.le_of_ble_eq_true rfl⟩
def tX11_distance : ax_T := (yX11_distance, cX11_distance, 6, (Option.some FieldType.int), [])
theorem WK_X11_distance : ax_cw tX11_distance ∈ ax_W := ax_tw (ax_t4 (List.mem_of_getElem? (i := 75) (rfl))) rfl
theorem kX11_distance : ax_Kn tX11_distance 3 := ⟨plainFor_of_name (x := yX11_distance) pl_X11, WK_X11_distance, mh_X11, pd_21, Nat.le_of_ble_eq_true rfl⟩
def tX11_measure : ax_T := (yX11_measure, cX11_measure, 8, (Option.none : Option FieldType), [])
theorem WK_X11_measure : ax_cw tX11_measure ∈ ax_W := ax_tw (ax_t4 (List.mem_of_getElem? (i := 46) (rfl))) rfl
theorem kX11_measure : ax_Kn tX11_measure 2 := ⟨plainFor_of_name (x := yX11_measure) pl_X11, WK_X11_measure, mh_X11, pd_25, Nat.le_of_ble_eq_true rfl⟩
def tX11_fewestAtOtherShore : ax_T := (yX11_fewestAtOtherShore, cX11_fewestAtOtherShore, 4, (Option.some FieldType.int), [])
theorem WK_X11_fewestAtOtherShore : ax_cw tX11_fewestAtOtherShore ∈ ax_W := ax_tw (ax_t4 (List.mem_of_getElem? (i := 71) (rfl))) rfl
theorem kX11_fewestAtOtherShore : ax_Kn tX11_fewestAtOtherShore 1 := ⟨plainFor_of_name (x := yX11_fewestAtOtherShore) pl_X11, WK_X11_fewestAtOtherShore, mh_X11, pd_3, Nat.le_of_ble_eq_true rfl⟩
def tX11_reach : ax_T := (yX11_reach, cX11_reach, 6, (Option.none : Option FieldType), [])
theorem WK_X11_reach : ax_cw tX11_reach ∈ ax_W := ax_tw (ax_t4 (List.mem_of_getElem? (i := 59) (rfl))) rfl
theorem pd_32 : (parseMethodDescriptor "(I[III)V").map (fun d => d.parameters.length) = some 4 := by decide +kernel
theorem kX11_reach : ax_Kn tX11_reach 4 := ⟨plainFor_of_name (x := yX11_reach) pl_X11, WK_X11_reach, mh_X11, pd_32, Nat.le_of_ble_eq_true rfl⟩
theorem pl_X12 : plainName RX12 = true := by decide +kernel
theorem mh_X12 : RX12 ≠ "java/lang/invoke/MethodHandle" ∧ RX12 ≠ "java/lang/invoke/VarHandle" := ⟨by decide +kernel, by decide +kernel⟩
def tX12_init : ax_T := (yX12_init, cX12_init, 1, (Option.none : Option FieldType), [])
theorem WK_X12_init : ax_cw tX12_init ∈ ax_W := ax_tw (ax_t1 (List.mem_of_getElem? (i := 34) (rfl))) rfl
theorem kX12_init : ax_Kn tX12_init 0 := ⟨plainFor_of_name (x := yX12_init) pl_X12, WK_X12_init, mh_X12, pd_2, Nat.le_of_ble_eq_true rfl⟩
def tX12_feed : ax_T := (yX12_feed, cX12_feed, 6, (Option.some FieldType.int), [])
theorem WK_X12_feed : ax_cw tX12_feed ∈ ax_W := ax_tw (ax_t5 (List.mem_of_getElem? (i := 102) (rfl))) rfl
theorem pd_33 : (parseMethodDescriptor "(IIIII)I").map (fun d => d.parameters.length) = some 5 := by decide +kernel
theorem kX12_feed : ax_Kn tX12_feed 5 := ⟨plainFor_of_name (x := yX12_feed) pl_X12, WK_X12_feed, mh_X12, pd_33, Nat.le_of_ble_eq_true rfl⟩
def tX12_trim : ax_T := (yX12_trim, cX12_trim, 2, (Option.some FieldType.int), [])
theorem WK_X12_trim : ax_cw tX12_trim ∈ ax_W := ax_tw (ax_t5 (List.mem_of_getElem? (i := 181) (rfl))) rfl
theorem kX12_trim : ax_Kn tX12_trim 1 := ⟨plainFor_of_name (x := yX12_trim) pl_X12, WK_X12_trim, mh_X12, pd_3, Nat.le_of_ble_eq_true rfl⟩
def tX12_teach : ax_T := (yX12_teach, cX12_teach, 3, (Option.some FieldType.int), [])
theorem WK_X12_teach : ax_cw tX12_teach ∈ ax_W := ax_tw (ax_t2 (List.mem_of_getElem? (i := 112) (rfl))) rfl
theorem kX12_teach : ax_Kn tX12_teach 0 := ⟨plainFor_of_name (x := yX12_teach) pl_X12, WK_X12_teach, mh_X12, pd_12, Nat.le_of_ble_eq_true rfl⟩
def tX12_beginTaughtGame : ax_T := (yX12_beginTaughtGame, cX12_beginTaughtGame, 3, (Option.none : Option FieldType), [])
theorem WK_X12_beginTaughtGame : ax_cw tX12_beginTaughtGame ∈ ax_W := ax_tw (ax_t3 (List.mem_of_getElem? (i := 190) (rfl))) rfl
theorem kX12_beginTaughtGame : ax_Kn tX12_beginTaughtGame 0 := ⟨plainFor_of_name (x := yX12_beginTaughtGame) pl_X12, WK_X12_beginTaughtGame, mh_X12, pd_2, Nat.le_of_ble_eq_true rfl⟩
def tX12_errorAt : ax_T := (yX12_errorAt, cX12_errorAt, 1, (Option.some FieldType.int), [])
theorem WK_X12_errorAt : ax_cw tX12_errorAt ∈ ax_W := ax_tw (ax_t3 (List.mem_of_getElem? (i := 220) (rfl))) rfl
theorem kX12_errorAt : ax_Kn tX12_errorAt 0 := ⟨plainFor_of_name (x := yX12_errorAt) pl_X12, WK_X12_errorAt, mh_X12, pd_12, Nat.le_of_ble_eq_true rfl⟩
def tX12_columns : ax_T := (yX12_columns, cX12_columns, 1, (Option.some FieldType.int), [])
theorem WK_X12_columns : ax_cw tX12_columns ∈ ax_W := ax_tw (ax_t3 (List.mem_of_getElem? (i := 224) (rfl))) rfl
theorem kX12_columns : ax_Kn tX12_columns 0 := ⟨plainFor_of_name (x := yX12_columns) pl_X12, WK_X12_columns, mh_X12, pd_12, Nat.le_of_ble_eq_true rfl⟩
def tX12_rows : ax_T := (yX12_rows, cX12_rows, 1, (Option.some FieldType.int), [])
theorem WK_X12_rows : ax_cw tX12_rows ∈ ax_W := ax_tw (ax_t3 (List.mem_of_getElem? (i := 232) (rfl))) rfl
theorem kX12_rows : ax_Kn tX12_rows 0 := ⟨plainFor_of_name (x := yX12_rows) pl_X12, WK_X12_rows, mh_X12, pd_12, Nat.le_of_ble_eq_true rfl⟩
def tX12_plans : ax_T := (yX12_plans, cX12_plans, 1, (Option.some FieldType.int), [])
theorem WK_X12_plans : ax_cw tX12_plans ∈ ax_W := ax_tw (ax_t4 (List.mem_of_getElem? (i := 0) (rfl))) rfl
theorem kX12_plans : ax_Kn tX12_plans 0 := ⟨plainFor_of_name (x := yX12_plans) pl_X12, WK_X12_plans, mh_X12, pd_12, Nat.le_of_ble_eq_true rfl⟩
def tX12_stonesToTakeBack : ax_T := (yX12_stonesToTakeBack, cX12_stonesToTakeBack, 1, (Option.some FieldType.int), [])
theorem WK_X12_stonesToTakeBack : ax_cw tX12_stonesToTakeBack ∈ ax_W := ax_tw (ax_t4 (List.mem_of_getElem? (i := 8) (rfl))) rfl
theorem kX12_stonesToTakeBack : ax_Kn tX12_stonesToTakeBack 0 := ⟨plainFor_of_name (x := yX12_stonesToTakeBack) pl_X12, WK_X12_stonesToTakeBack, mh_X12, pd_12, Nat.le_of_ble_eq_true rfl⟩
def tX12_tapeBytes : ax_T := (yX12_tapeBytes, cX12_tapeBytes, 1, (Option.some FieldType.int), [])
theorem WK_X12_tapeBytes : ax_cw tX12_tapeBytes ∈ ax_W := ax_tw (ax_t4 (List.mem_of_getElem? (i := 16) (rfl))) rfl
theorem kX12_tapeBytes : ax_Kn tX12_tapeBytes 0 := ⟨plainFor_of_name (x := yX12_tapeBytes) pl_X12, WK_X12_tapeBytes, mh_X12, pd_12, Nat.le_of_ble_eq_true rfl⟩
def tX12_emptyCells : ax_T := (yX12_emptyCells, cX12_emptyCells, 1, (Option.some FieldType.int), [])
theorem WK_X12_emptyCells : ax_cw tX12_emptyCells ∈ ax_W := ax_tw (ax_t4 (List.mem_of_getElem? (i := 21) (rfl))) rfl
theorem kX12_emptyCells : ax_Kn tX12_emptyCells 0 := ⟨plainFor_of_name (x := yX12_emptyCells) pl_X12, WK_X12_emptyCells, mh_X12, pd_12, Nat.le_of_ble_eq_true rfl⟩
def tX12_stonesOf : ax_T := (yX12_stonesOf, cX12_stonesOf, 2, (Option.some FieldType.int), [])
theorem WK_X12_stonesOf : ax_cw tX12_stonesOf ∈ ax_W := ax_tw (ax_t5 (List.mem_of_getElem? (i := 205) (rfl))) rfl
theorem kX12_stonesOf : ax_Kn tX12_stonesOf 1 := ⟨plainFor_of_name (x := yX12_stonesOf) pl_X12, WK_X12_stonesOf, mh_X12, pd_3, Nat.le_of_ble_eq_true rfl⟩
def tX12_isEmpty : ax_T := (yX12_isEmpty, cX12_isEmpty, 3, (Option.some FieldType.boolean), [])
theorem WK_X12_isEmpty : ax_cw tX12_isEmpty ∈ ax_W := ax_tw (ax_t5 (List.mem_of_getElem? (i := 231) (rfl))) rfl
theorem kX12_isEmpty : ax_Kn tX12_isEmpty 2 := ⟨plainFor_of_name (x := yX12_isEmpty) pl_X12, WK_X12_isEmpty, mh_X12, pd_1, Nat.le_of_ble_eq_true rfl⟩
def tX12_ownerOf : ax_T := (yX12_ownerOf, cX12_ownerOf, 3, (Option.some FieldType.int), [])
theorem WK_X12_ownerOf : ax_cw tX12_ownerOf ∈ ax_W := ax_tw (ax_t6 (List.mem_of_getElem? (i := 4) (rfl))) rfl
theorem kX12_ownerOf : ax_Kn tX12_ownerOf 2 := ⟨plainFor_of_name (x := yX12_ownerOf) pl_X12, WK_X12_ownerOf, mh_X12, pd_5, Nat.le_of_ble_eq_true rfl⟩
def tX12_hasWon : ax_T := (yX12_hasWon, cX12_hasWon, 2, (Option.some FieldType.boolean), [])
theorem WK_X12_hasWon : ax_cw tX12_hasWon ∈ ax_W := ax_tw (ax_t6 (List.mem_of_getElem? (i := 16) (rfl))) rfl
theorem kX12_hasWon : ax_Kn tX12_hasWon 1 := ⟨plainFor_of_name (x := yX12_hasWon) pl_X12, WK_X12_hasWon, mh_X12, pd_22, Nat.le_of_ble_eq_true rfl⟩
def tX12_isOver : ax_T := (yX12_isOver, cX12_isOver, 1, (Option.some FieldType.boolean), [])
theorem WK_X12_isOver : ax_cw tX12_isOver ∈ ax_W := ax_tw (ax_t4 (List.mem_of_getElem? (i := 34) (rfl))) rfl
theorem pd_34 : (parseMethodDescriptor "()Z").map (fun d => d.parameters.length) = some 0 := by decide +kernel
theorem kX12_isOver : ax_Kn tX12_isOver 0 := ⟨plainFor_of_name (x := yX12_isOver) pl_X12, WK_X12_isOver, mh_X12, pd_34, Nat.le_of_ble_eq_true rfl⟩
def tX12_playerInTurn : ax_T := (yX12_playerInTurn, cX12_playerInTurn, 1, (Option.some FieldType.int), [])
theorem WK_X12_playerInTurn : ax_cw tX12_playerInTurn ∈ ax_W := ax_tw (ax_t6 (List.mem_of_getElem? (i := 23) (rfl))) rfl
theorem kX12_playerInTurn : ax_Kn tX12_playerInTurn 0 := ⟨plainFor_of_name (x := yX12_playerInTurn) pl_X12, WK_X12_playerInTurn, mh_X12, pd_12, Nat.le_of_ble_eq_true rfl⟩
def tX12_stonesBeside : ax_T := (yX12_stonesBeside, cX12_stonesBeside, 7, (Option.some FieldType.int), [])
theorem WK_X12_stonesBeside : ax_cw tX12_stonesBeside ∈ ax_W := ax_tw (ax_t6 (List.mem_of_getElem? (i := 35) (rfl))) rfl
theorem kX12_stonesBeside : ax_Kn tX12_stonesBeside 3 := ⟨plainFor_of_name (x := yX12_stonesBeside) pl_X12, WK_X12_stonesBeside, mh_X12, pd_21, Nat.le_of_ble_eq_true rfl⟩
def tX12_groupSize : ax_T := (yX12_groupSize, cX12_groupSize, 3, (Option.some FieldType.int), [])
theorem WK_X12_groupSize : ax_cw tX12_groupSize ∈ ax_W := ax_tw (ax_t6 (List.mem_of_getElem? (i := 43) (rfl))) rfl
theorem kX12_groupSize : ax_Kn tX12_groupSize 2 := ⟨plainFor_of_name (x := yX12_groupSize) pl_X12, WK_X12_groupSize, mh_X12, pd_5, Nat.le_of_ble_eq_true rfl⟩
def tX12_shoresOf : ax_T := (yX12_shoresOf, cX12_shoresOf, 3, (Option.some FieldType.int), [])
theorem WK_X12_shoresOf : ax_cw tX12_shoresOf ∈ ax_W := ax_tw (ax_t6 (List.mem_of_getElem? (i := 54) (rfl))) rfl
theorem kX12_shoresOf : ax_Kn tX12_shoresOf 2 := ⟨plainFor_of_name (x := yX12_shoresOf) pl_X12, WK_X12_shoresOf, mh_X12, pd_5, Nat.le_of_ble_eq_true rfl⟩
def tX12_groupsOf : ax_T := (yX12_groupsOf, cX12_groupsOf, 2, (Option.some FieldType.int), [])
theorem WK_X12_groupsOf : ax_cw tX12_groupsOf ∈ ax_W := ax_tw (ax_t6 (List.mem_of_getElem? (i := 70) (rfl))) rfl
theorem kX12_groupsOf : ax_Kn tX12_groupsOf 1 := ⟨plainFor_of_name (x := yX12_groupsOf) pl_X12, WK_X12_groupsOf, mh_X12, pd_3, Nat.le_of_ble_eq_true rfl⟩
def tX12_greatestGroup : ax_T := (yX12_greatestGroup, cX12_greatestGroup, 2, (Option.some FieldType.int), [])
theorem WK_X12_greatestGroup : ax_cw tX12_greatestGroup ∈ ax_W := ax_tw (ax_t6 (List.mem_of_getElem? (i := 77) (rfl))) rfl
theorem kX12_greatestGroup : ax_Kn tX12_greatestGroup 1 := ⟨plainFor_of_name (x := yX12_greatestGroup) pl_X12, WK_X12_greatestGroup, mh_X12, pd_3, Nat.le_of_ble_eq_true rfl⟩
def tX12_isBridge : ax_T := (yX12_isBridge, cX12_isBridge, 3, (Option.some FieldType.boolean), [])
theorem WK_X12_isBridge : ax_cw tX12_isBridge ∈ ax_W := ax_tw (ax_t6 (List.mem_of_getElem? (i := 84) (rfl))) rfl
theorem kX12_isBridge : ax_Kn tX12_isBridge 2 := ⟨plainFor_of_name (x := yX12_isBridge) pl_X12, WK_X12_isBridge, mh_X12, pd_1, Nat.le_of_ble_eq_true rfl⟩
def tX12_bridgesOf : ax_T := (yX12_bridgesOf, cX12_bridgesOf, 2, (Option.some FieldType.int), [])
theorem WK_X12_bridgesOf : ax_cw tX12_bridgesOf ∈ ax_W := ax_tw (ax_t6 (List.mem_of_getElem? (i := 96) (rfl))) rfl
theorem kX12_bridgesOf : ax_Kn tX12_bridgesOf 1 := ⟨plainFor_of_name (x := yX12_bridgesOf) pl_X12, WK_X12_bridgesOf, mh_X12, pd_3, Nat.le_of_ble_eq_true rfl⟩
def tX12_brokenBridgesOf : ax_T := (yX12_brokenBridgesOf, cX12_brokenBridgesOf, 2, (Option.some FieldType.int), [])
theorem WK_X12_brokenBridgesOf : ax_cw tX12_brokenBridgesOf ∈ ax_W := ax_tw (ax_t6 (List.mem_of_getElem? (i := 103) (rfl))) rfl
theorem kX12_brokenBridgesOf : ax_Kn tX12_brokenBridgesOf 1 := ⟨plainFor_of_name (x := yX12_brokenBridgesOf) pl_X12, WK_X12_brokenBridgesOf, mh_X12, pd_3, Nat.le_of_ble_eq_true rfl⟩
def tX12_isFrozen : ax_T := (yX12_isFrozen, cX12_isFrozen, 3, (Option.some FieldType.boolean), [])
theorem WK_X12_isFrozen : ax_cw tX12_isFrozen ∈ ax_W := ax_tw (ax_t6 (List.mem_of_getElem? (i := 110) (rfl))) rfl
theorem kX12_isFrozen : ax_Kn tX12_isFrozen 2 := ⟨plainFor_of_name (x := yX12_isFrozen) pl_X12, WK_X12_isFrozen, mh_X12, pd_1, Nat.le_of_ble_eq_true rfl⟩
def tX12_frozenCells : ax_T := (yX12_frozenCells, cX12_frozenCells, 3, (Option.some FieldType.int), [])
theorem WK_X12_frozenCells : ax_cw tX12_frozenCells ∈ ax_W := ax_tw (ax_t4 (List.mem_of_getElem? (i := 86) (rfl))) rfl
theorem kX12_frozenCells : ax_Kn tX12_frozenCells 0 := ⟨plainFor_of_name (x := yX12_frozenCells) pl_X12, WK_X12_frozenCells, mh_X12, pd_12, Nat.le_of_ble_eq_true rfl⟩
def tX12_stonesNeeded : ax_T := (yX12_stonesNeeded, cX12_stonesNeeded, 3, (Option.some FieldType.int), [])
theorem WK_X12_stonesNeeded : ax_cw tX12_stonesNeeded ∈ ax_W := ax_tw (ax_t6 (List.mem_of_getElem? (i := 117) (rfl))) rfl
theorem kX12_stonesNeeded : ax_Kn tX12_stonesNeeded 1 := ⟨plainFor_of_name (x := yX12_stonesNeeded) pl_X12, WK_X12_stonesNeeded, mh_X12, pd_3, Nat.le_of_ble_eq_true rfl⟩
def tX12_stonesNeededThrough : ax_T := (yX12_stonesNeededThrough, cX12_stonesNeededThrough, 6, (Option.some FieldType.int), [])
theorem WK_X12_stonesNeededThrough : ax_cw tX12_stonesNeededThrough ∈ ax_W := ax_tw (ax_t6 (List.mem_of_getElem? (i := 125) (rfl))) rfl
theorem kX12_stonesNeededThrough : ax_Kn tX12_stonesNeededThrough 3 := ⟨plainFor_of_name (x := yX12_stonesNeededThrough) pl_X12, WK_X12_stonesNeededThrough, mh_X12, pd_21, Nat.le_of_ble_eq_true rfl⟩
def tX12_isWinningCell : ax_T := (yX12_isWinningCell, cX12_isWinningCell, 5, (Option.some FieldType.boolean), [])
theorem WK_X12_isWinningCell : ax_cw tX12_isWinningCell ∈ ax_W := ax_tw (ax_t6 (List.mem_of_getElem? (i := 134) (rfl))) rfl
theorem kX12_isWinningCell : ax_Kn tX12_isWinningCell 3 := ⟨plainFor_of_name (x := yX12_isWinningCell) pl_X12, WK_X12_isWinningCell, mh_X12, pd_26, Nat.le_of_ble_eq_true rfl⟩
def tX12_winningCells : ax_T := (yX12_winningCells, cX12_winningCells, 2, (Option.some FieldType.int), [])
theorem WK_X12_winningCells : ax_cw tX12_winningCells ∈ ax_W := ax_tw (ax_t6 (List.mem_of_getElem? (i := 142) (rfl))) rfl
theorem kX12_winningCells : ax_Kn tX12_winningCells 1 := ⟨plainFor_of_name (x := yX12_winningCells) pl_X12, WK_X12_winningCells, mh_X12, pd_3, Nat.le_of_ble_eq_true rfl⟩
def tX12_layStone : ax_T := (yX12_layStone, cX12_layStone, 5, (Option.some FieldType.int), [])
theorem WK_X12_layStone : ax_cw tX12_layStone ∈ ax_W := ax_tw (ax_t6 (List.mem_of_getElem? (i := 149) (rfl))) rfl
theorem kX12_layStone : ax_Kn tX12_layStone 2 := ⟨plainFor_of_name (x := yX12_layStone) pl_X12, WK_X12_layStone, mh_X12, pd_5, Nat.le_of_ble_eq_true rfl⟩
def tX12_takeBack : ax_T := (yX12_takeBack, cX12_takeBack, 1, (Option.some FieldType.int), [])
theorem WK_X12_takeBack : ax_cw tX12_takeBack ∈ ax_W := ax_tw (ax_t6 (List.mem_of_getElem? (i := 157) (rfl))) rfl
theorem kX12_takeBack : ax_Kn tX12_takeBack 0 := ⟨plainFor_of_name (x := yX12_takeBack) pl_X12, WK_X12_takeBack, mh_X12, pd_12, Nat.le_of_ble_eq_true rfl⟩
def tX12_plannedCell : ax_T := (yX12_plannedCell, cX12_plannedCell, 1, (Option.some FieldType.int), [])
theorem WK_X12_plannedCell : ax_cw tX12_plannedCell ∈ ax_W := ax_tw (ax_t6 (List.mem_of_getElem? (i := 165) (rfl))) rfl
theorem kX12_plannedCell : ax_Kn tX12_plannedCell 0 := ⟨plainFor_of_name (x := yX12_plannedCell) pl_X12, WK_X12_plannedCell, mh_X12, pd_12, Nat.le_of_ble_eq_true rfl⟩
def tX12_playByPlans : ax_T := (yX12_playByPlans, cX12_playByPlans, 2, (Option.some FieldType.int), [])
theorem WK_X12_playByPlans : ax_cw tX12_playByPlans ∈ ax_W := ax_tw (ax_t6 (List.mem_of_getElem? (i := 172) (rfl))) rfl
theorem kX12_playByPlans : ax_Kn tX12_playByPlans 1 := ⟨plainFor_of_name (x := yX12_playByPlans) pl_X12, WK_X12_playByPlans, mh_X12, pd_3, Nat.le_of_ble_eq_true rfl⟩
def tX12_stonesByPlans : ax_T := (yX12_stonesByPlans, cX12_stonesByPlans, 2, (Option.some FieldType.int), [])
theorem WK_X12_stonesByPlans : ax_cw tX12_stonesByPlans ∈ ax_W := ax_tw (ax_t4 (List.mem_of_getElem? (i := 99) (rfl))) rfl
theorem kX12_stonesByPlans : ax_Kn tX12_stonesByPlans 0 := ⟨plainFor_of_name (x := yX12_stonesByPlans) pl_X12, WK_X12_stonesByPlans, mh_X12, pd_12, Nat.le_of_ble_eq_true rfl⟩
def tX12_winnerByPlans : ax_T := (yX12_winnerByPlans, cX12_winnerByPlans, 3, (Option.some FieldType.int), [])
theorem WK_X12_winnerByPlans : ax_cw tX12_winnerByPlans ∈ ax_W := ax_tw (ax_t5 (List.mem_of_getElem? (i := 34) (rfl))) rfl
theorem kX12_winnerByPlans : ax_Kn tX12_winnerByPlans 0 := ⟨plainFor_of_name (x := yX12_winnerByPlans) pl_X12, WK_X12_winnerByPlans, mh_X12, pd_12, Nat.le_of_ble_eq_true rfl⟩
def tX12_mustPlay : ax_T := (yX12_mustPlay, cX12_mustPlay, 3, (Option.some FieldType.int), [])
theorem WK_X12_mustPlay : ax_cw tX12_mustPlay ∈ ax_W := ax_tw (ax_t6 (List.mem_of_getElem? (i := 180) (rfl))) rfl
theorem kX12_mustPlay : ax_Kn tX12_mustPlay 0 := ⟨plainFor_of_name (x := yX12_mustPlay) pl_X12, WK_X12_mustPlay, mh_X12, pd_12, Nat.le_of_ble_eq_true rfl⟩
def tX12_bestCell : ax_T := (yX12_bestCell, cX12_bestCell, 6, (Option.some FieldType.int), [])
theorem WK_X12_bestCell : ax_cw tX12_bestCell ∈ ax_W := ax_tw (ax_t6 (List.mem_of_getElem? (i := 189) (rfl))) rfl
theorem kX12_bestCell : ax_Kn tX12_bestCell 0 := ⟨plainFor_of_name (x := yX12_bestCell) pl_X12, WK_X12_bestCell, mh_X12, pd_12, Nat.le_of_ble_eq_true rfl⟩
def tX12_meanGroup : ax_T := (yX12_meanGroup, cX12_meanGroup, 2, (Option.some FieldType.double), [])
theorem WK_X12_meanGroup : ax_cw tX12_meanGroup ∈ ax_W := ax_tw (ax_t5 (List.mem_of_getElem? (i := 38) (rfl))) rfl
theorem pd_35 : (parseMethodDescriptor "()D").map (fun d => d.parameters.length) = some 0 := by decide +kernel
theorem kX12_meanGroup : ax_Kn tX12_meanGroup 0 := ⟨plainFor_of_name (x := yX12_meanGroup) pl_X12, WK_X12_meanGroup, mh_X12, pd_35, Nat.le_of_ble_eq_true rfl⟩
def tX12_digest : ax_T := (yX12_digest, cX12_digest, 4, (Option.some FieldType.long), [])
theorem WK_X12_digest : ax_cw tX12_digest ∈ ax_W := ax_tw (ax_t5 (List.mem_of_getElem? (i := 64) (rfl))) rfl
theorem pd_36 : (parseMethodDescriptor "()J").map (fun d => d.parameters.length) = some 0 := by decide +kernel
theorem kX12_digest : ax_Kn tX12_digest 0 := ⟨plainFor_of_name (x := yX12_digest) pl_X12, WK_X12_digest, mh_X12, pd_36, Nat.le_of_ble_eq_true rfl⟩
def tX12_digestOfPlayer : ax_T := (yX12_digestOfPlayer, cX12_digestOfPlayer, 6, (Option.some FieldType.long), [])
theorem WK_X12_digestOfPlayer : ax_cw tX12_digestOfPlayer ∈ ax_W := ax_tw (ax_t5 (List.mem_of_getElem? (i := 78) (rfl))) rfl
theorem pd_37 : (parseMethodDescriptor "(JI)J").map (fun d => d.parameters.length) = some 2 := by decide +kernel
theorem kX12_digestOfPlayer : ax_Kn tX12_digestOfPlayer 2 := ⟨plainFor_of_name (x := yX12_digestOfPlayer) pl_X12, WK_X12_digestOfPlayer, mh_X12, pd_37, Nat.le_of_ble_eq_true rfl⟩
def tX12_requirePlayer : ax_T := (yX12_requirePlayer, cX12_requirePlayer, 1, (Option.none : Option FieldType), [])
theorem WK_X12_requirePlayer : ax_cw tX12_requirePlayer ∈ ax_W := ax_tw (ax_t5 (List.mem_of_getElem? (i := 208) (rfl))) rfl
theorem kX12_requirePlayer : ax_Kn tX12_requirePlayer 1 := ⟨plainFor_of_name (x := yX12_requirePlayer) pl_X12, WK_X12_requirePlayer, mh_X12, pd_11, Nat.le_of_ble_eq_true rfl⟩
def tX12_requiredCell : ax_T := (yX12_requiredCell, cX12_requiredCell, 4, (Option.some FieldType.int), [])
theorem WK_X12_requiredCell : ax_cw tX12_requiredCell ∈ ax_W := ax_tw (ax_t5 (List.mem_of_getElem? (i := 235) (rfl))) rfl
theorem kX12_requiredCell : ax_Kn tX12_requiredCell 2 := ⟨plainFor_of_name (x := yX12_requiredCell) pl_X12, WK_X12_requiredCell, mh_X12, pd_5, Nat.le_of_ble_eq_true rfl⟩
def tX12_requiredStone : ax_T := (yX12_requiredStone, cX12_requiredStone, 4, (Option.some FieldType.int), [])
theorem WK_X12_requiredStone : ax_cw tX12_requiredStone ∈ ax_W := ax_tw (ax_t6 (List.mem_of_getElem? (i := 8) (rfl))) rfl
theorem kX12_requiredStone : ax_Kn tX12_requiredStone 2 := ⟨plainFor_of_name (x := yX12_requiredStone) pl_X12, WK_X12_requiredStone, mh_X12, pd_5, Nat.le_of_ble_eq_true rfl⟩
def tX12_requireGameOn : ax_T := (yX12_requireGameOn, cX12_requireGameOn, 1, (Option.none : Option FieldType), [])
theorem WK_X12_requireGameOn : ax_cw tX12_requireGameOn ∈ ax_W := ax_tw (ax_t6 (List.mem_of_getElem? (i := 27) (rfl))) rfl
theorem kX12_requireGameOn : ax_Kn tX12_requireGameOn 0 := ⟨plainFor_of_name (x := yX12_requireGameOn) pl_X12, WK_X12_requireGameOn, mh_X12, pd_2, Nat.le_of_ble_eq_true rfl⟩
def tX12_winner : ax_T := (yX12_winner, cX12_winner, 1, (Option.some FieldType.int), [])
theorem WK_X12_winner : ax_cw tX12_winner ∈ ax_W := ax_tw (ax_t4 (List.mem_of_getElem? (i := 38) (rfl))) rfl
theorem kX12_winner : ax_Kn tX12_winner 0 := ⟨plainFor_of_name (x := yX12_winner) pl_X12, WK_X12_winner, mh_X12, pd_12, Nat.le_of_ble_eq_true rfl⟩
def tX12_playOn : ax_T := (yX12_playOn, cX12_playOn, 5, (Option.some FieldType.int), [])
theorem WK_X12_playOn : ax_cw tX12_playOn ∈ ax_W := ax_tw (ax_t4 (List.mem_of_getElem? (i := 103) (rfl))) rfl
theorem kX12_playOn : ax_Kn tX12_playOn 1 := ⟨plainFor_of_name (x := yX12_playOn) pl_X12, WK_X12_playOn, mh_X12, pd_3, Nat.le_of_ble_eq_true rfl⟩
def tX12_liftStones : ax_T := (yX12_liftStones, cX12_liftStones, 3, (Option.none : Option FieldType), [])
theorem WK_X12_liftStones : ax_cw tX12_liftStones ∈ ax_W := ax_tw (ax_t5 (List.mem_of_getElem? (i := 26) (rfl))) rfl
theorem kX12_liftStones : ax_Kn tX12_liftStones 1 := ⟨plainFor_of_name (x := yX12_liftStones) pl_X12, WK_X12_liftStones, mh_X12, pd_11, Nat.le_of_ble_eq_true rfl⟩
def tX12_leadWith : ax_T := (yX12_leadWith, cX12_leadWith, 4, (Option.some FieldType.int), [])
theorem WK_X12_leadWith : ax_cw tX12_leadWith ∈ ax_W := ax_tw (ax_t6 (List.mem_of_getElem? (i := 193) (rfl))) rfl
theorem kX12_leadWith : ax_Kn tX12_leadWith 2 := ⟨plainFor_of_name (x := yX12_leadWith) pl_X12, WK_X12_leadWith, mh_X12, pd_5, Nat.le_of_ble_eq_true rfl⟩
theorem pl_X13 : plainName RX13 = true := by decide +kernel
theorem mh_X13 : RX13 ≠ "java/lang/invoke/MethodHandle" ∧ RX13 ≠ "java/lang/invoke/VarHandle" := ⟨by decide +kernel, by decide +kernel⟩
def tX13_init : ax_T := (yX13_init, cX13_init, 1, (Option.none : Option FieldType), [])
theorem WK_X13_init : ax_cw tX13_init ∈ ax_W := ax_tw (ax_t6 (List.mem_of_getElem? (i := 208) (rfl))) rfl
theorem kX13_init : ax_Kn tX13_init 0 := ⟨plainFor_of_name (x := yX13_init) pl_X13, WK_X13_init, mh_X13, pd_2, Nat.le_of_ble_eq_true rfl⟩
def tX13_begin : ax_T := (yX13_begin, cX13_begin, 2, (Option.none : Option FieldType), [])
theorem WK_X13_begin : ax_cw tX13_begin ∈ ax_W := ax_tw (ax_t7 (List.mem_of_getElem? (i := 34) (rfl))) rfl
theorem kX13_begin : ax_Kn tX13_begin 0 := ⟨plainFor_of_name (x := yX13_begin) pl_X13, WK_X13_begin, mh_X13, pd_2, Nat.le_of_ble_eq_true rfl⟩
def tX13_copy : ax_T := (yX13_copy, cX13_copy, 2, (Option.none : Option FieldType), [])
theorem WK_X13_copy : ax_cw tX13_copy ∈ ax_W := ax_tw (ax_t8 (List.mem_of_getElem? (i := 33) (rfl))) rfl
theorem pd_38 : (parseMethodDescriptor "([I[I)V").map (fun d => d.parameters.length) = some 2 := by decide +kernel
theorem kX13_copy : ax_Kn tX13_copy 2 := ⟨plainFor_of_name (x := yX13_copy) pl_X13, WK_X13_copy, mh_X13, pd_38, Nat.le_of_ble_eq_true rfl⟩
def tX13_become : ax_T := (yX13_become, cX13_become, 2, (Option.none : Option FieldType), [])
theorem WK_X13_become : ax_cw tX13_become ∈ ax_W := ax_tw (ax_t8 (List.mem_of_getElem? (i := 30) (rfl))) rfl
theorem pd_39 : (parseMethodDescriptor "(LHexPondModel$Told;)V").map (fun d => d.parameters.length) = some 1 := by decide +kernel
theorem kX13_become : ax_Kn tX13_become 1 := ⟨plainFor_of_name (x := yX13_become) pl_X13, WK_X13_become, mh_X13, pd_39, Nat.le_of_ble_eq_true rfl⟩
theorem pl_X14 : plainName RX14 = true := by decide +kernel
theorem mh_X14 : RX14 ≠ "java/lang/invoke/MethodHandle" ∧ RX14 ≠ "java/lang/invoke/VarHandle" := ⟨by decide +kernel, by decide +kernel⟩
def tX14_init : ax_T := (yX14_init, cX14_init, 2, (Option.none : Option FieldType), [])
theorem WK_X14_init : ax_cw tX14_init ∈ ax_W := ax_tw (ax_t6 (List.mem_of_getElem? (i := 202) (rfl))) rfl
theorem kX14_init : ax_Kn tX14_init 0 := ⟨plainFor_of_name (x := yX14_init) pl_X14, WK_X14_init, mh_X14, pd_2, Nat.le_of_ble_eq_true rfl⟩
def tX14_thrown : ax_T := (yX14_thrown, cX14_thrown, 1, (Option.some FieldType.int), [])
theorem WK_X14_thrown : ax_cw tX14_thrown ∈ ax_W := ax_tw (ax_t7 (List.mem_of_getElem? (i := 121) (rfl))) rfl
theorem kX14_thrown : ax_Kn tX14_thrown 0 := ⟨plainFor_of_name (x := yX14_thrown) pl_X14, WK_X14_thrown, mh_X14, pd_12, Nat.le_of_ble_eq_true rfl⟩
def tX14_no : ax_T := (yX14_no, cX14_no, 2, (Option.some FieldType.int), [])
theorem WK_X14_no : ax_cw tX14_no ∈ ax_W := ax_tw (ax_t7 (List.mem_of_getElem? (i := 129) (rfl))) rfl
theorem kX14_no : ax_Kn tX14_no 1 := ⟨plainFor_of_name (x := yX14_no) pl_X14, WK_X14_no, mh_X14, pd_3, Nat.le_of_ble_eq_true rfl⟩
def tX14_isNot : ax_T := (yX14_isNot, cX14_isNot, 2, (Option.some FieldType.boolean), [])
theorem WK_X14_isNot : ax_cw tX14_isNot ∈ ax_W := ax_tw (ax_t8 (List.mem_of_getElem? (i := 100) (rfl))) rfl
theorem kX14_isNot : ax_Kn tX14_isNot 1 := ⟨plainFor_of_name (x := yX14_isNot) pl_X14, WK_X14_isNot, mh_X14, pd_22, Nat.le_of_ble_eq_true rfl⟩
def tX14_ok : ax_T := (yX14_ok, cX14_ok, 2, (Option.some FieldType.int), [])
theorem WK_X14_ok : ax_cw tX14_ok ∈ ax_W := ax_tw (ax_t8 (List.mem_of_getElem? (i := 45) (rfl))) rfl
theorem kX14_ok : ax_Kn tX14_ok 1 := ⟨plainFor_of_name (x := yX14_ok) pl_X14, WK_X14_ok, mh_X14, pd_3, Nat.le_of_ble_eq_true rfl⟩
def tX14_isIn : ax_T := (yX14_isIn, cX14_isIn, 3, (Option.some FieldType.boolean), [])
theorem WK_X14_isIn : ax_cw tX14_isIn ∈ ax_W := ax_tw (ax_t7 (List.mem_of_getElem? (i := 136) (rfl))) rfl
theorem kX14_isIn : ax_Kn tX14_isIn 3 := ⟨plainFor_of_name (x := yX14_isIn) pl_X14, WK_X14_isIn, mh_X14, pd_26, Nat.le_of_ble_eq_true rfl⟩
def tX14_isLetter : ax_T := (yX14_isLetter, cX14_isLetter, 1, (Option.some FieldType.boolean), [])
theorem WK_X14_isLetter : ax_cw tX14_isLetter ∈ ax_W := ax_tw (ax_t7 (List.mem_of_getElem? (i := 159) (rfl))) rfl
theorem kX14_isLetter : ax_Kn tX14_isLetter 1 := ⟨plainFor_of_name (x := yX14_isLetter) pl_X14, WK_X14_isLetter, mh_X14, pd_22, Nat.le_of_ble_eq_true rfl⟩
def tX14_isDigit : ax_T := (yX14_isDigit, cX14_isDigit, 1, (Option.some FieldType.boolean), [])
theorem WK_X14_isDigit : ax_cw tX14_isDigit ∈ ax_W := ax_tw (ax_t7 (List.mem_of_getElem? (i := 162) (rfl))) rfl
theorem kX14_isDigit : ax_Kn tX14_isDigit 1 := ⟨plainFor_of_name (x := yX14_isDigit) pl_X14, WK_X14_isDigit, mh_X14, pd_22, Nat.le_of_ble_eq_true rfl⟩
def tX14_byteAt : ax_T := (yX14_byteAt, cX14_byteAt, 2, (Option.some FieldType.int), [])
theorem WK_X14_byteAt : ax_cw tX14_byteAt ∈ ax_W := ax_tw (ax_t7 (List.mem_of_getElem? (i := 152) (rfl))) rfl
theorem kX14_byteAt : ax_Kn tX14_byteAt 1 := ⟨plainFor_of_name (x := yX14_byteAt) pl_X14, WK_X14_byteAt, mh_X14, pd_3, Nat.le_of_ble_eq_true rfl⟩
def tX14_isWord : ax_T := (yX14_isWord, cX14_isWord, 5, (Option.some FieldType.boolean), [])
theorem WK_X14_isWord : ax_cw tX14_isWord ∈ ax_W := ax_tw (ax_t7 (List.mem_of_getElem? (i := 172) (rfl))) rfl
theorem pd_40 : (parseMethodDescriptor "(IILjava/lang/String;)Z").map (fun d => d.parameters.length) = some 3 := by decide +kernel
theorem kX14_isWord : ax_Kn tX14_isWord 3 := ⟨plainFor_of_name (x := yX14_isWord) pl_X14, WK_X14_isWord, mh_X14, pd_40, Nat.le_of_ble_eq_true rfl⟩
def tX14_keyword : ax_T := (yX14_keyword, cX14_keyword, 4, (Option.some FieldType.int), [])
theorem WK_X14_keyword : ax_cw tX14_keyword ∈ ax_W := ax_tw (ax_t7 (List.mem_of_getElem? (i := 166) (rfl))) rfl
theorem kX14_keyword : ax_Kn tX14_keyword 2 := ⟨plainFor_of_name (x := yX14_keyword) pl_X14, WK_X14_keyword, mh_X14, pd_5, Nat.le_of_ble_eq_true rfl⟩
def tX14_symbol : ax_T := (yX14_symbol, cX14_symbol, 1, (Option.some FieldType.int), [])
theorem WK_X14_symbol : ax_cw tX14_symbol ∈ ax_W := ax_tw (ax_t7 (List.mem_of_getElem? (i := 177) (rfl))) rfl
theorem kX14_symbol : ax_Kn tX14_symbol 1 := ⟨plainFor_of_name (x := yX14_symbol) pl_X14, WK_X14_symbol, mh_X14, pd_3, Nat.le_of_ble_eq_true rfl⟩
def tX14_read : ax_T := (yX14_read, cX14_read, 6, (Option.some FieldType.int), [])
theorem WK_X14_read : ax_cw tX14_read ∈ ax_W := ax_tw (ax_t7 (List.mem_of_getElem? (i := 156) (rfl))) rfl
theorem kX14_read : ax_Kn tX14_read 2 := ⟨plainFor_of_name (x := yX14_read) pl_X14, WK_X14_read, mh_X14, pd_5, Nat.le_of_ble_eq_true rfl⟩
def tX14_skip : ax_T := (yX14_skip, cX14_skip, 3, (Option.some FieldType.int), [])
theorem WK_X14_skip : ax_cw tX14_skip ∈ ax_W := ax_tw (ax_t7 (List.mem_of_getElem? (i := 148) (rfl))) rfl
theorem kX14_skip : ax_Kn tX14_skip 1 := ⟨plainFor_of_name (x := yX14_skip) pl_X14, WK_X14_skip, mh_X14, pd_3, Nat.le_of_ble_eq_true rfl⟩
def tX14_readAll : ax_T := (yX14_readAll, cX14_readAll, 3, (Option.none : Option FieldType), [])
theorem WK_X14_readAll : ax_cw tX14_readAll ∈ ax_W := ax_tw (ax_t7 (List.mem_of_getElem? (i := 144) (rfl))) rfl
theorem kX14_readAll : ax_Kn tX14_readAll 0 := ⟨plainFor_of_name (x := yX14_readAll) pl_X14, WK_X14_readAll, mh_X14, pd_2, Nat.le_of_ble_eq_true rfl⟩
def tX14_is : ax_T := (yX14_is, cX14_is, 2, (Option.some FieldType.boolean), [])
theorem WK_X14_is : ax_cw tX14_is ∈ ax_W := ax_tw (ax_t7 (List.mem_of_getElem? (i := 189) (rfl))) rfl
theorem kX14_is : ax_Kn tX14_is 1 := ⟨plainFor_of_name (x := yX14_is) pl_X14, WK_X14_is, mh_X14, pd_22, Nat.le_of_ble_eq_true rfl⟩
def tX14_wrong : ax_T := (yX14_wrong, cX14_wrong, 1, (Option.none : Option FieldType), [])
theorem WK_X14_wrong : ax_cw tX14_wrong ∈ ax_W := ax_tw (ax_t7 (List.mem_of_getElem? (i := 209) (rfl))) rfl
theorem kX14_wrong : ax_Kn tX14_wrong 0 := ⟨plainFor_of_name (x := yX14_wrong) pl_X14, WK_X14_wrong, mh_X14, pd_2, Nat.le_of_ble_eq_true rfl⟩
def tX14_take : ax_T := (yX14_take, cX14_take, 2, (Option.none : Option FieldType), [])
theorem WK_X14_take : ax_cw tX14_take ∈ ax_W := ax_tw (ax_t7 (List.mem_of_getElem? (i := 205) (rfl))) rfl
theorem kX14_take : ax_Kn tX14_take 1 := ⟨plainFor_of_name (x := yX14_take) pl_X14, WK_X14_take, mh_X14, pd_11, Nat.le_of_ble_eq_true rfl⟩
def tX14_takes : ax_T := (yX14_takes, cX14_takes, 2, (Option.some FieldType.boolean), [])
theorem WK_X14_takes : ax_cw tX14_takes ∈ ax_W := ax_tw (ax_t7 (List.mem_of_getElem? (i := 185) (rfl))) rfl
theorem kX14_takes : ax_Kn tX14_takes 1 := ⟨plainFor_of_name (x := yX14_takes) pl_X14, WK_X14_takes, mh_X14, pd_22, Nat.le_of_ble_eq_true rfl⟩
def tX14_deeper : ax_T := (yX14_deeper, cX14_deeper, 1, (Option.none : Option FieldType), [])
theorem WK_X14_deeper : ax_cw tX14_deeper ∈ ax_W := ax_tw (ax_t8 (List.mem_of_getElem? (i := 6) (rfl))) rfl
theorem kX14_deeper : ax_Kn tX14_deeper 0 := ⟨plainFor_of_name (x := yX14_deeper) pl_X14, WK_X14_deeper, mh_X14, pd_2, Nat.le_of_ble_eq_true rfl⟩
def tX14_mark : ax_T := (yX14_mark, cX14_mark, 2, (Option.none : Option FieldType), [])
theorem WK_X14_mark : ax_cw tX14_mark ∈ ax_W := ax_tw (ax_t7 (List.mem_of_getElem? (i := 201) (rfl))) rfl
theorem kX14_mark : ax_Kn tX14_mark 1 := ⟨plainFor_of_name (x := yX14_mark) pl_X14, WK_X14_mark, mh_X14, pd_11, Nat.le_of_ble_eq_true rfl⟩
def tX14_node : ax_T := (yX14_node, cX14_node, 5, (Option.some FieldType.int), [])
theorem WK_X14_node : ax_cw tX14_node ∈ ax_W := ax_tw (ax_t7 (List.mem_of_getElem? (i := 238) (rfl))) rfl
theorem kX14_node : ax_Kn tX14_node 3 := ⟨plainFor_of_name (x := yX14_node) pl_X14, WK_X14_node, mh_X14, pd_21, Nat.le_of_ble_eq_true rfl⟩
def tX14_player : ax_T := (yX14_player, cX14_player, 1, (Option.some FieldType.int), [])
theorem WK_X14_player : ax_cw tX14_player ∈ ax_W := ax_tw (ax_t7 (List.mem_of_getElem? (i := 217) (rfl))) rfl
theorem kX14_player : ax_Kn tX14_player 0 := ⟨plainFor_of_name (x := yX14_player) pl_X14, WK_X14_player, mh_X14, pd_12, Nat.le_of_ble_eq_true rfl⟩
def tX14_inBrackets : ax_T := (yX14_inBrackets, cX14_inBrackets, 2, (Option.some FieldType.int), [])
theorem WK_X14_inBrackets : ax_cw tX14_inBrackets ∈ ax_W := ax_tw (ax_t8 (List.mem_of_getElem? (i := 10) (rfl))) rfl
theorem kX14_inBrackets : ax_Kn tX14_inBrackets 0 := ⟨plainFor_of_name (x := yX14_inBrackets) pl_X14, WK_X14_inBrackets, mh_X14, pd_12, Nat.le_of_ble_eq_true rfl⟩
def tX14_ofTwo : ax_T := (yX14_ofTwo, cX14_ofTwo, 4, (Option.some FieldType.int), [])
theorem WK_X14_ofTwo : ax_cw tX14_ofTwo ∈ ax_W := ax_tw (ax_t8 (List.mem_of_getElem? (i := 2) (rfl))) rfl
theorem kX14_ofTwo : ax_Kn tX14_ofTwo 1 := ⟨plainFor_of_name (x := yX14_ofTwo) pl_X14, WK_X14_ofTwo, mh_X14, pd_3, Nat.le_of_ble_eq_true rfl⟩
def tX14_value : ax_T := (yX14_value, cX14_value, 2, (Option.some FieldType.int), [])
theorem WK_X14_value : ax_cw tX14_value ∈ ax_W := ax_tw (ax_t7 (List.mem_of_getElem? (i := 234) (rfl))) rfl
theorem kX14_value : ax_Kn tX14_value 0 := ⟨plainFor_of_name (x := yX14_value) pl_X14, WK_X14_value, mh_X14, pd_12, Nat.le_of_ble_eq_true rfl⟩
def tX14_product : ax_T := (yX14_product, cX14_product, 3, (Option.some FieldType.int), [])
theorem WK_X14_product : ax_cw tX14_product ∈ ax_W := ax_tw (ax_t7 (List.mem_of_getElem? (i := 230) (rfl))) rfl
theorem kX14_product : ax_Kn tX14_product 0 := ⟨plainFor_of_name (x := yX14_product) pl_X14, WK_X14_product, mh_X14, pd_12, Nat.le_of_ble_eq_true rfl⟩
def tX14_sum : ax_T := (yX14_sum, cX14_sum, 3, (Option.some FieldType.int), [])
theorem WK_X14_sum : ax_cw tX14_sum ∈ ax_W := ax_tw (ax_t7 (List.mem_of_getElem? (i := 226) (rfl))) rfl
theorem kX14_sum : ax_Kn tX14_sum 0 := ⟨plainFor_of_name (x := yX14_sum) pl_X14, WK_X14_sum, mh_X14, pd_12, Nat.le_of_ble_eq_true rfl⟩
def tX14_comparison : ax_T := (yX14_comparison, cX14_comparison, 3, (Option.some FieldType.int), [])
theorem WK_X14_comparison : ax_cw tX14_comparison ∈ ax_W := ax_tw (ax_t8 (List.mem_of_getElem? (i := 26) (rfl))) rfl
theorem kX14_comparison : ax_Kn tX14_comparison 0 := ⟨plainFor_of_name (x := yX14_comparison) pl_X14, WK_X14_comparison, mh_X14, pd_12, Nat.le_of_ble_eq_true rfl⟩
def tX14_single : ax_T := (yX14_single, cX14_single, 2, (Option.some FieldType.int), [])
theorem WK_X14_single : ax_cw tX14_single ∈ ax_W := ax_tw (ax_t8 (List.mem_of_getElem? (i := 22) (rfl))) rfl
theorem kX14_single : ax_Kn tX14_single 0 := ⟨plainFor_of_name (x := yX14_single) pl_X14, WK_X14_single, mh_X14, pd_12, Nat.le_of_ble_eq_true rfl⟩
def tX14_both : ax_T := (yX14_both, cX14_both, 2, (Option.some FieldType.int), [])
theorem WK_X14_both : ax_cw tX14_both ∈ ax_W := ax_tw (ax_t8 (List.mem_of_getElem? (i := 18) (rfl))) rfl
theorem kX14_both : ax_Kn tX14_both 0 := ⟨plainFor_of_name (x := yX14_both) pl_X14, WK_X14_both, mh_X14, pd_12, Nat.le_of_ble_eq_true rfl⟩
def tX14_test : ax_T := (yX14_test, cX14_test, 2, (Option.some FieldType.int), [])
theorem WK_X14_test : ax_cw tX14_test ∈ ax_W := ax_tw (ax_t8 (List.mem_of_getElem? (i := 14) (rfl))) rfl
theorem kX14_test : ax_Kn tX14_test 0 := ⟨plainFor_of_name (x := yX14_test) pl_X14, WK_X14_test, mh_X14, pd_12, Nat.le_of_ble_eq_true rfl⟩
def tX14_size : ax_T := (yX14_size, cX14_size, 1, (Option.some FieldType.int), [])
theorem WK_X14_size : ax_cw tX14_size ∈ ax_W := ax_tw (ax_t7 (List.mem_of_getElem? (i := 197) (rfl))) rfl
theorem kX14_size : ax_Kn tX14_size 0 := ⟨plainFor_of_name (x := yX14_size) pl_X14, WK_X14_size, mh_X14, pd_12, Nat.le_of_ble_eq_true rfl⟩
def tX14_pond : ax_T := (yX14_pond, cX14_pond, 1, (Option.none : Option FieldType), [])
theorem WK_X14_pond : ax_cw tX14_pond ∈ ax_W := ax_tw (ax_t7 (List.mem_of_getElem? (i := 193) (rfl))) rfl
theorem kX14_pond : ax_Kn tX14_pond 0 := ⟨plainFor_of_name (x := yX14_pond) pl_X14, WK_X14_pond, mh_X14, pd_2, Nat.le_of_ble_eq_true rfl⟩
def tX14_stone : ax_T := (yX14_stone, cX14_stone, 4, (Option.none : Option FieldType), [])
theorem WK_X14_stone : ax_cw tX14_stone ∈ ax_W := ax_tw (ax_t7 (List.mem_of_getElem? (i := 213) (rfl))) rfl
theorem kX14_stone : ax_Kn tX14_stone 0 := ⟨plainFor_of_name (x := yX14_stone) pl_X14, WK_X14_stone, mh_X14, pd_2, Nat.le_of_ble_eq_true rfl⟩
def tX14_plan : ax_T := (yX14_plan, cX14_plan, 2, (Option.none : Option FieldType), [])
theorem WK_X14_plan : ax_cw tX14_plan ∈ ax_W := ax_tw (ax_t7 (List.mem_of_getElem? (i := 221) (rfl))) rfl
theorem kX14_plan : ax_Kn tX14_plan 0 := ⟨plainFor_of_name (x := yX14_plan) pl_X14, WK_X14_plan, mh_X14, pd_2, Nat.le_of_ble_eq_true rfl⟩
def tX14_game : ax_T := (yX14_game, cX14_game, 1, (Option.none : Option FieldType), [])
theorem WK_X14_game : ax_cw tX14_game ∈ ax_W := ax_tw (ax_t7 (List.mem_of_getElem? (i := 181) (rfl))) rfl
theorem kX14_game : ax_Kn tX14_game 0 := ⟨plainFor_of_name (x := yX14_game) pl_X14, WK_X14_game, mh_X14, pd_2, Nat.le_of_ble_eq_true rfl⟩
def tX14_feed : ax_T := (yX14_feed, cX14_feed, 12, (Option.some FieldType.int), [])
theorem WK_X14_feed : ax_cw tX14_feed ∈ ax_W := ax_tw (ax_t7 (List.mem_of_getElem? (i := 125) (rfl))) rfl
theorem kX14_feed : ax_Kn tX14_feed 5 := ⟨plainFor_of_name (x := yX14_feed) pl_X14, WK_X14_feed, mh_X14, pd_33, Nat.le_of_ble_eq_true rfl⟩
def tX14_trim : ax_T := (yX14_trim, cX14_trim, 2, (Option.some FieldType.int), [])
theorem WK_X14_trim : ax_cw tX14_trim ∈ ax_W := ax_tw (ax_t7 (List.mem_of_getElem? (i := 133) (rfl))) rfl
theorem kX14_trim : ax_Kn tX14_trim 1 := ⟨plainFor_of_name (x := yX14_trim) pl_X14, WK_X14_trim, mh_X14, pd_3, Nat.le_of_ble_eq_true rfl⟩
def tX14_teach : ax_T := (yX14_teach, cX14_teach, 1, (Option.some FieldType.int), [])
theorem WK_X14_teach : ax_cw tX14_teach ∈ ax_W := ax_tw (ax_t7 (List.mem_of_getElem? (i := 140) (rfl))) rfl
theorem kX14_teach : ax_Kn tX14_teach 0 := ⟨plainFor_of_name (x := yX14_teach) pl_X14, WK_X14_teach, mh_X14, pd_12, Nat.le_of_ble_eq_true rfl⟩
def tX14_errorAt : ax_T := (yX14_errorAt, cX14_errorAt, 1, (Option.some FieldType.int), [])
theorem WK_X14_errorAt : ax_cw tX14_errorAt ∈ ax_W := ax_tw (ax_t8 (List.mem_of_getElem? (i := 41) (rfl))) rfl
theorem kX14_errorAt : ax_Kn tX14_errorAt 0 := ⟨plainFor_of_name (x := yX14_errorAt) pl_X14, WK_X14_errorAt, mh_X14, pd_12, Nat.le_of_ble_eq_true rfl⟩
def tX14_cells : ax_T := (yX14_cells, cX14_cells, 1, (Option.some FieldType.int), [])
theorem WK_X14_cells : ax_cw tX14_cells ∈ ax_W := ax_tw (ax_t8 (List.mem_of_getElem? (i := 77) (rfl))) rfl
theorem kX14_cells : ax_Kn tX14_cells 0 := ⟨plainFor_of_name (x := yX14_cells) pl_X14, WK_X14_cells, mh_X14, pd_12, Nat.le_of_ble_eq_true rfl⟩
def tX14_isOn : ax_T := (yX14_isOn, cX14_isOn, 3, (Option.some FieldType.boolean), [])
theorem WK_X14_isOn : ax_cw tX14_isOn ∈ ax_W := ax_tw (ax_t8 (List.mem_of_getElem? (i := 92) (rfl))) rfl
theorem kX14_isOn : ax_Kn tX14_isOn 2 := ⟨plainFor_of_name (x := yX14_isOn) pl_X14, WK_X14_isOn, mh_X14, pd_1, Nat.le_of_ble_eq_true rfl⟩
def tX14_at : ax_T := (yX14_at, cX14_at, 3, (Option.some FieldType.int), [])
theorem WK_X14_at : ax_cw tX14_at ∈ ax_W := ax_tw (ax_t8 (List.mem_of_getElem? (i := 96) (rfl))) rfl
theorem kX14_at : ax_Kn tX14_at 2 := ⟨plainFor_of_name (x := yX14_at) pl_X14, WK_X14_at, mh_X14, pd_5, Nat.le_of_ble_eq_true rfl⟩
def tX14_isPlayer : ax_T := (yX14_isPlayer, cX14_isPlayer, 1, (Option.some FieldType.boolean), [])
theorem WK_X14_isPlayer : ax_cw tX14_isPlayer ∈ ax_W := ax_tw (ax_t8 (List.mem_of_getElem? (i := 84) (rfl))) rfl
theorem kX14_isPlayer : ax_Kn tX14_isPlayer 1 := ⟨plainFor_of_name (x := yX14_isPlayer) pl_X14, WK_X14_isPlayer, mh_X14, pd_22, Nat.le_of_ble_eq_true rfl⟩
def tX14_isCell : ax_T := (yX14_isCell, cX14_isCell, 2, (Option.some FieldType.boolean), [])
theorem WK_X14_isCell : ax_cw tX14_isCell ∈ ax_W := ax_tw (ax_t8 (List.mem_of_getElem? (i := 193) (rfl))) rfl
theorem kX14_isCell : ax_Kn tX14_isCell 1 := ⟨plainFor_of_name (x := yX14_isCell) pl_X14, WK_X14_isCell, mh_X14, pd_22, Nat.le_of_ble_eq_true rfl⟩
def tX14_beside : ax_T := (yX14_beside, cX14_beside, 5, (Option.some FieldType.int), [])
theorem WK_X14_beside : ax_cw tX14_beside ∈ ax_W := ax_tw (ax_t8 (List.mem_of_getElem? (i := 124) (rfl))) rfl
theorem kX14_beside : ax_Kn tX14_beside 2 := ⟨plainFor_of_name (x := yX14_beside) pl_X14, WK_X14_beside, mh_X14, pd_5, Nat.le_of_ble_eq_true rfl⟩
def tX14_count : ax_T := (yX14_count, cX14_count, 4, (Option.some FieldType.int), [])
theorem WK_X14_count : ax_cw tX14_count ∈ ax_W := ax_tw (ax_t8 (List.mem_of_getElem? (i := 73) (rfl))) rfl
theorem kX14_count : ax_Kn tX14_count 1 := ⟨plainFor_of_name (x := yX14_count) pl_X14, WK_X14_count, mh_X14, pd_3, Nat.le_of_ble_eq_true rfl⟩
def tX14_isShore : ax_T := (yX14_isShore, cX14_isShore, 5, (Option.some FieldType.boolean), [])
theorem WK_X14_isShore : ax_cw tX14_isShore ∈ ax_W := ax_tw (ax_t8 (List.mem_of_getElem? (i := 120) (rfl))) rfl
theorem pd_41 : (parseMethodDescriptor "(IIZ)Z").map (fun d => d.parameters.length) = some 3 := by decide +kernel
theorem kX14_isShore : ax_Kn tX14_isShore 3 := ⟨plainFor_of_name (x := yX14_isShore) pl_X14, WK_X14_isShore, mh_X14, pd_41, Nat.le_of_ble_eq_true rfl⟩
def tX14_gather : ax_T := (yX14_gather, cX14_gather, 3, (Option.none : Option FieldType), [])
theorem WK_X14_gather : ax_cw tX14_gather ∈ ax_W := ax_tw (ax_t8 (List.mem_of_getElem? (i := 156) (rfl))) rfl
theorem kX14_gather : ax_Kn tX14_gather 1 := ⟨plainFor_of_name (x := yX14_gather) pl_X14, WK_X14_gather, mh_X14, pd_11, Nat.le_of_ble_eq_true rfl⟩
def tX14_spread : ax_T := (yX14_spread, cX14_spread, 6, (Option.none : Option FieldType), [])
theorem WK_X14_spread : ax_cw tX14_spread ∈ ax_W := ax_tw (ax_t8 (List.mem_of_getElem? (i := 160) (rfl))) rfl
theorem kX14_spread : ax_Kn tX14_spread 1 := ⟨plainFor_of_name (x := yX14_spread) pl_X14, WK_X14_spread, mh_X14, pd_11, Nat.le_of_ble_eq_true rfl⟩
def tX14_hasShore : ax_T := (yX14_hasShore, cX14_hasShore, 5, (Option.some FieldType.boolean), [])
theorem WK_X14_hasShore : ax_cw tX14_hasShore ∈ ax_W := ax_tw (ax_t8 (List.mem_of_getElem? (i := 168) (rfl))) rfl
theorem kX14_hasShore : ax_Kn tX14_hasShore 3 := ⟨plainFor_of_name (x := yX14_hasShore) pl_X14, WK_X14_hasShore, mh_X14, pd_41, Nat.le_of_ble_eq_true rfl⟩
def tX14_won : ax_T := (yX14_won, cX14_won, 6, (Option.some FieldType.boolean), [])
theorem WK_X14_won : ax_cw tX14_won ∈ ax_W := ax_tw (ax_t8 (List.mem_of_getElem? (i := 116) (rfl))) rfl
theorem kX14_won : ax_Kn tX14_won 1 := ⟨plainFor_of_name (x := yX14_won) pl_X14, WK_X14_won, mh_X14, pd_22, Nat.le_of_ble_eq_true rfl⟩
def tX14_over : ax_T := (yX14_over, cX14_over, 1, (Option.some FieldType.boolean), [])
theorem WK_X14_over : ax_cw tX14_over ∈ ax_W := ax_tw (ax_t8 (List.mem_of_getElem? (i := 136) (rfl))) rfl
theorem kX14_over : ax_Kn tX14_over 0 := ⟨plainFor_of_name (x := yX14_over) pl_X14, WK_X14_over, mh_X14, pd_34, Nat.le_of_ble_eq_true rfl⟩
def tX14_inTurn : ax_T := (yX14_inTurn, cX14_inTurn, 1, (Option.some FieldType.int), [])
theorem WK_X14_inTurn : ax_cw tX14_inTurn ∈ ax_W := ax_tw (ax_t8 (List.mem_of_getElem? (i := 144) (rfl))) rfl
theorem kX14_inTurn : ax_Kn tX14_inTurn 0 := ⟨plainFor_of_name (x := yX14_inTurn) pl_X14, WK_X14_inTurn, mh_X14, pd_12, Nat.le_of_ble_eq_true rfl⟩
def tX14_between : ax_T := (yX14_between, cX14_between, 9, (Option.some FieldType.int), [])
theorem WK_X14_between : ax_cw tX14_between ∈ ax_W := ax_tw (ax_t8 (List.mem_of_getElem? (i := 201) (rfl))) rfl
theorem pd_42 : (parseMethodDescriptor "(IIZ)I").map (fun d => d.parameters.length) = some 3 := by decide +kernel
theorem kX14_between : ax_Kn tX14_between 3 := ⟨plainFor_of_name (x := yX14_between) pl_X14, WK_X14_between, mh_X14, pd_42, Nat.le_of_ble_eq_true rfl⟩
def tX14_bridge : ax_T := (yX14_bridge, cX14_bridge, 6, (Option.some FieldType.int), [])
theorem WK_X14_bridge : ax_cw tX14_bridge ∈ ax_W := ax_tw (ax_t8 (List.mem_of_getElem? (i := 197) (rfl))) rfl
theorem kX14_bridge : ax_Kn tX14_bridge 3 := ⟨plainFor_of_name (x := yX14_bridge) pl_X14, WK_X14_bridge, mh_X14, pd_21, Nat.le_of_ble_eq_true rfl⟩
def tX14_bridges : ax_T := (yX14_bridges, cX14_bridges, 6, (Option.some FieldType.int), [])
theorem WK_X14_bridges : ax_cw tX14_bridges ∈ ax_W := ax_tw (ax_t8 (List.mem_of_getElem? (i := 209) (rfl))) rfl
theorem kX14_bridges : ax_Kn tX14_bridges 2 := ⟨plainFor_of_name (x := yX14_bridges) pl_X14, WK_X14_bridges, mh_X14, pd_5, Nat.le_of_ble_eq_true rfl⟩
def tX14_around : ax_T := (yX14_around, cX14_around, 7, (Option.some FieldType.int), [])
theorem WK_X14_around : ax_cw tX14_around ∈ ax_W := ax_tw (ax_t8 (List.mem_of_getElem? (i := 225) (rfl))) rfl
theorem kX14_around : ax_Kn tX14_around 2 := ⟨plainFor_of_name (x := yX14_around) pl_X14, WK_X14_around, mh_X14, pd_5, Nat.le_of_ble_eq_true rfl⟩
def tX14_frozen : ax_T := (yX14_frozen, cX14_frozen, 4, (Option.some FieldType.boolean), [])
theorem WK_X14_frozen : ax_cw tX14_frozen ∈ ax_W := ax_tw (ax_t8 (List.mem_of_getElem? (i := 221) (rfl))) rfl
theorem kX14_frozen : ax_Kn tX14_frozen 1 := ⟨plainFor_of_name (x := yX14_frozen) pl_X14, WK_X14_frozen, mh_X14, pd_22, Nat.le_of_ble_eq_true rfl⟩
def tX14_allFrozen : ax_T := (yX14_allFrozen, cX14_allFrozen, 3, (Option.some FieldType.int), [])
theorem WK_X14_allFrozen : ax_cw tX14_allFrozen ∈ ax_W := ax_tw (ax_t8 (List.mem_of_getElem? (i := 233) (rfl))) rfl
theorem kX14_allFrozen : ax_Kn tX14_allFrozen 0 := ⟨plainFor_of_name (x := yX14_allFrozen) pl_X14, WK_X14_allFrozen, mh_X14, pd_12, Nat.le_of_ble_eq_true rfl⟩
def tX14_cost : ax_T := (yX14_cost, cX14_cost, 2, (Option.some FieldType.int), [])
theorem WK_X14_cost : ax_cw tX14_cost ∈ ax_W := ax_tw (ax_t9 (List.mem_of_getElem? (i := 9) (rfl))) rfl
theorem kX14_cost : ax_Kn tX14_cost 1 := ⟨plainFor_of_name (x := yX14_cost) pl_X14, WK_X14_cost, mh_X14, pd_3, Nat.le_of_ble_eq_true rfl⟩
def tX14_reach : ax_T := (yX14_reach, cX14_reach, 8, (Option.none : Option FieldType), [])
theorem WK_X14_reach : ax_cw tX14_reach ∈ ax_W := ax_tw (ax_t9 (List.mem_of_getElem? (i := 5) (rfl))) rfl
theorem pd_43 : (parseMethodDescriptor "([IIZ)V").map (fun d => d.parameters.length) = some 3 := by decide +kernel
theorem kX14_reach : ax_Kn tX14_reach 3 := ⟨plainFor_of_name (x := yX14_reach) pl_X14, WK_X14_reach, mh_X14, pd_43, Nat.le_of_ble_eq_true rfl⟩
def tX14_reachBoth : ax_T := (yX14_reachBoth, cX14_reachBoth, 2, (Option.none : Option FieldType), [])
theorem WK_X14_reachBoth : ax_cw tX14_reachBoth ∈ ax_W := ax_tw (ax_t9 (List.mem_of_getElem? (i := 25) (rfl))) rfl
theorem kX14_reachBoth : ax_Kn tX14_reachBoth 1 := ⟨plainFor_of_name (x := yX14_reachBoth) pl_X14, WK_X14_reachBoth, mh_X14, pd_11, Nat.le_of_ble_eq_true rfl⟩
def tX14_throughThen : ax_T := (yX14_throughThen, cX14_throughThen, 2, (Option.some FieldType.int), [])
theorem WK_X14_throughThen : ax_cw tX14_throughThen ∈ ax_W := ax_tw (ax_t9 (List.mem_of_getElem? (i := 29) (rfl))) rfl
theorem kX14_throughThen : ax_Kn tX14_throughThen 1 := ⟨plainFor_of_name (x := yX14_throughThen) pl_X14, WK_X14_throughThen, mh_X14, pd_3, Nat.le_of_ble_eq_true rfl⟩
def tX14_through : ax_T := (yX14_through, cX14_through, 3, (Option.some FieldType.int), [])
theorem WK_X14_through : ax_cw tX14_through ∈ ax_W := ax_tw (ax_t9 (List.mem_of_getElem? (i := 21) (rfl))) rfl
theorem kX14_through : ax_Kn tX14_through 2 := ⟨plainFor_of_name (x := yX14_through) pl_X14, WK_X14_through, mh_X14, pd_5, Nat.le_of_ble_eq_true rfl⟩
def tX14_needs : ax_T := (yX14_needs, cX14_needs, 4, (Option.some FieldType.int), [])
theorem WK_X14_needs : ax_cw tX14_needs ∈ ax_W := ax_tw (ax_t9 (List.mem_of_getElem? (i := 1) (rfl))) rfl
theorem kX14_needs : ax_Kn tX14_needs 1 := ⟨plainFor_of_name (x := yX14_needs) pl_X14, WK_X14_needs, mh_X14, pd_3, Nat.le_of_ble_eq_true rfl⟩
def tX14_wins : ax_T := (yX14_wins, cX14_wins, 4, (Option.some FieldType.boolean), [])
theorem WK_X14_wins : ax_cw tX14_wins ∈ ax_W := ax_tw (ax_t9 (List.mem_of_getElem? (i := 37) (rfl))) rfl
theorem kX14_wins : ax_Kn tX14_wins 2 := ⟨plainFor_of_name (x := yX14_wins) pl_X14, WK_X14_wins, mh_X14, pd_1, Nat.le_of_ble_eq_true rfl⟩
def tX14_winning : ax_T := (yX14_winning, cX14_winning, 5, (Option.some FieldType.int), [])
theorem WK_X14_winning : ax_cw tX14_winning ∈ ax_W := ax_tw (ax_t9 (List.mem_of_getElem? (i := 45) (rfl))) rfl
theorem pd_44 : (parseMethodDescriptor "(IZ)I").map (fun d => d.parameters.length) = some 2 := by decide +kernel
theorem kX14_winning : ax_Kn tX14_winning 2 := ⟨plainFor_of_name (x := yX14_winning) pl_X14, WK_X14_winning, mh_X14, pd_44, Nat.le_of_ble_eq_true rfl⟩
def tX14_reckon : ax_T := (yX14_reckon, cX14_reckon, 4, (Option.some FieldType.int), [])
theorem WK_X14_reckon : ax_cw tX14_reckon ∈ ax_W := ax_tw (ax_t9 (List.mem_of_getElem? (i := 69) (rfl))) rfl
theorem kX14_reckon : ax_Kn tX14_reckon 3 := ⟨plainFor_of_name (x := yX14_reckon) pl_X14, WK_X14_reckon, mh_X14, pd_21, Nat.le_of_ble_eq_true rfl⟩
def tX14_compared : ax_T := (yX14_compared, cX14_compared, 3, (Option.some FieldType.boolean), [])
theorem WK_X14_compared : ax_cw tX14_compared ∈ ax_W := ax_tw (ax_t9 (List.mem_of_getElem? (i := 72) (rfl))) rfl
theorem kX14_compared : ax_Kn tX14_compared 3 := ⟨plainFor_of_name (x := yX14_compared) pl_X14, WK_X14_compared, mh_X14, pd_26, Nat.le_of_ble_eq_true rfl⟩
def tX14_saved : ax_T := (yX14_saved, cX14_saved, 7, (Option.some FieldType.int), [])
theorem WK_X14_saved : ax_cw tX14_saved ∈ ax_W := ax_tw (ax_t9 (List.mem_of_getElem? (i := 80) (rfl))) rfl
theorem kX14_saved : ax_Kn tX14_saved 1 := ⟨plainFor_of_name (x := yX14_saved) pl_X14, WK_X14_saved, mh_X14, pd_3, Nat.le_of_ble_eq_true rfl⟩
def tX14_nearest : ax_T := (yX14_nearest, cX14_nearest, 5, (Option.some FieldType.int), [])
theorem WK_X14_nearest : ax_cw tX14_nearest ∈ ax_W := ax_tw (ax_t9 (List.mem_of_getElem? (i := 84) (rfl))) rfl
theorem kX14_nearest : ax_Kn tX14_nearest 1 := ⟨plainFor_of_name (x := yX14_nearest) pl_X14, WK_X14_nearest, mh_X14, pd_3, Nat.le_of_ble_eq_true rfl⟩
def tX14_found : ax_T := (yX14_found, cX14_found, 4, (Option.some FieldType.int), [])
theorem WK_X14_found : ax_cw tX14_found ∈ ax_W := ax_tw (ax_t9 (List.mem_of_getElem? (i := 76) (rfl))) rfl
theorem kX14_found : ax_Kn tX14_found 1 := ⟨plainFor_of_name (x := yX14_found) pl_X14, WK_X14_found, mh_X14, pd_3, Nat.le_of_ble_eq_true rfl⟩
def tX14_planned : ax_T := (yX14_planned, cX14_planned, 4, (Option.some FieldType.int), [])
theorem WK_X14_planned : ax_cw tX14_planned ∈ ax_W := ax_tw (ax_t9 (List.mem_of_getElem? (i := 65) (rfl))) rfl
theorem kX14_planned : ax_Kn tX14_planned 1 := ⟨plainFor_of_name (x := yX14_planned) pl_X14, WK_X14_planned, mh_X14, pd_3, Nat.le_of_ble_eq_true rfl⟩
def tX14_play : ax_T := (yX14_play, cX14_play, 6, (Option.some FieldType.int), [])
theorem WK_X14_play : ax_cw tX14_play ∈ ax_W := ax_tw (ax_t9 (List.mem_of_getElem? (i := 93) (rfl))) rfl
theorem kX14_play : ax_Kn tX14_play 2 := ⟨plainFor_of_name (x := yX14_play) pl_X14, WK_X14_play, mh_X14, pd_44, Nat.le_of_ble_eq_true rfl⟩
def tX14_keep : ax_T := (yX14_keep, cX14_keep, 1, (Option.none : Option FieldType), [])
theorem WK_X14_keep : ax_cw tX14_keep ∈ ax_W := ax_tw (ax_t9 (List.mem_of_getElem? (i := 101) (rfl))) rfl
theorem kX14_keep : ax_Kn tX14_keep 0 := ⟨plainFor_of_name (x := yX14_keep) pl_X14, WK_X14_keep, mh_X14, pd_2, Nat.le_of_ble_eq_true rfl⟩
def tX14_bringBack : ax_T := (yX14_bringBack, cX14_bringBack, 1, (Option.none : Option FieldType), [])
theorem WK_X14_bringBack : ax_cw tX14_bringBack ∈ ax_W := ax_tw (ax_t9 (List.mem_of_getElem? (i := 105) (rfl))) rfl
theorem kX14_bringBack : ax_Kn tX14_bringBack 0 := ⟨plainFor_of_name (x := yX14_bringBack) pl_X14, WK_X14_bringBack, mh_X14, pd_2, Nat.le_of_ble_eq_true rfl⟩
def tX14_columns : ax_T := (yX14_columns, cX14_columns, 1, (Option.some FieldType.int), [])
theorem WK_X14_columns : ax_cw tX14_columns ∈ ax_W := ax_tw (ax_t8 (List.mem_of_getElem? (i := 49) (rfl))) rfl
theorem kX14_columns : ax_Kn tX14_columns 0 := ⟨plainFor_of_name (x := yX14_columns) pl_X14, WK_X14_columns, mh_X14, pd_12, Nat.le_of_ble_eq_true rfl⟩
def tX14_rows : ax_T := (yX14_rows, cX14_rows, 1, (Option.some FieldType.int), [])
theorem WK_X14_rows : ax_cw tX14_rows ∈ ax_W := ax_tw (ax_t8 (List.mem_of_getElem? (i := 53) (rfl))) rfl
theorem kX14_rows : ax_Kn tX14_rows 0 := ⟨plainFor_of_name (x := yX14_rows) pl_X14, WK_X14_rows, mh_X14, pd_12, Nat.le_of_ble_eq_true rfl⟩
def tX14_plans : ax_T := (yX14_plans, cX14_plans, 1, (Option.some FieldType.int), [])
theorem WK_X14_plans : ax_cw tX14_plans ∈ ax_W := ax_tw (ax_t8 (List.mem_of_getElem? (i := 57) (rfl))) rfl
theorem kX14_plans : ax_Kn tX14_plans 0 := ⟨plainFor_of_name (x := yX14_plans) pl_X14, WK_X14_plans, mh_X14, pd_12, Nat.le_of_ble_eq_true rfl⟩
def tX14_stonesToTakeBack : ax_T := (yX14_stonesToTakeBack, cX14_stonesToTakeBack, 1, (Option.some FieldType.int), [])
theorem WK_X14_stonesToTakeBack : ax_cw tX14_stonesToTakeBack ∈ ax_W := ax_tw (ax_t8 (List.mem_of_getElem? (i := 61) (rfl))) rfl
theorem kX14_stonesToTakeBack : ax_Kn tX14_stonesToTakeBack 0 := ⟨plainFor_of_name (x := yX14_stonesToTakeBack) pl_X14, WK_X14_stonesToTakeBack, mh_X14, pd_12, Nat.le_of_ble_eq_true rfl⟩
def tX14_tapeBytes : ax_T := (yX14_tapeBytes, cX14_tapeBytes, 1, (Option.some FieldType.int), [])
theorem WK_X14_tapeBytes : ax_cw tX14_tapeBytes ∈ ax_W := ax_tw (ax_t8 (List.mem_of_getElem? (i := 65) (rfl))) rfl
theorem kX14_tapeBytes : ax_Kn tX14_tapeBytes 0 := ⟨plainFor_of_name (x := yX14_tapeBytes) pl_X14, WK_X14_tapeBytes, mh_X14, pd_12, Nat.le_of_ble_eq_true rfl⟩
def tX14_emptyCells : ax_T := (yX14_emptyCells, cX14_emptyCells, 1, (Option.some FieldType.int), [])
theorem WK_X14_emptyCells : ax_cw tX14_emptyCells ∈ ax_W := ax_tw (ax_t8 (List.mem_of_getElem? (i := 69) (rfl))) rfl
theorem kX14_emptyCells : ax_Kn tX14_emptyCells 0 := ⟨plainFor_of_name (x := yX14_emptyCells) pl_X14, WK_X14_emptyCells, mh_X14, pd_12, Nat.le_of_ble_eq_true rfl⟩
def tX14_stonesOf : ax_T := (yX14_stonesOf, cX14_stonesOf, 2, (Option.some FieldType.int), [])
theorem WK_X14_stonesOf : ax_cw tX14_stonesOf ∈ ax_W := ax_tw (ax_t8 (List.mem_of_getElem? (i := 81) (rfl))) rfl
theorem kX14_stonesOf : ax_Kn tX14_stonesOf 1 := ⟨plainFor_of_name (x := yX14_stonesOf) pl_X14, WK_X14_stonesOf, mh_X14, pd_3, Nat.le_of_ble_eq_true rfl⟩
def tX14_isEmpty : ax_T := (yX14_isEmpty, cX14_isEmpty, 3, (Option.some FieldType.boolean), [])
theorem WK_X14_isEmpty : ax_cw tX14_isEmpty ∈ ax_W := ax_tw (ax_t8 (List.mem_of_getElem? (i := 88) (rfl))) rfl
theorem kX14_isEmpty : ax_Kn tX14_isEmpty 2 := ⟨plainFor_of_name (x := yX14_isEmpty) pl_X14, WK_X14_isEmpty, mh_X14, pd_1, Nat.le_of_ble_eq_true rfl⟩
def tX14_stoneAt : ax_T := (yX14_stoneAt, cX14_stoneAt, 3, (Option.some FieldType.int), [])
theorem WK_X14_stoneAt : ax_cw tX14_stoneAt ∈ ax_W := ax_tw (ax_t8 (List.mem_of_getElem? (i := 108) (rfl))) rfl
theorem kX14_stoneAt : ax_Kn tX14_stoneAt 2 := ⟨plainFor_of_name (x := yX14_stoneAt) pl_X14, WK_X14_stoneAt, mh_X14, pd_5, Nat.le_of_ble_eq_true rfl⟩
def tX14_ownerOf : ax_T := (yX14_ownerOf, cX14_ownerOf, 3, (Option.some FieldType.int), [])
theorem WK_X14_ownerOf : ax_cw tX14_ownerOf ∈ ax_W := ax_tw (ax_t8 (List.mem_of_getElem? (i := 104) (rfl))) rfl
theorem kX14_ownerOf : ax_Kn tX14_ownerOf 2 := ⟨plainFor_of_name (x := yX14_ownerOf) pl_X14, WK_X14_ownerOf, mh_X14, pd_5, Nat.le_of_ble_eq_true rfl⟩
def tX14_hasWon : ax_T := (yX14_hasWon, cX14_hasWon, 2, (Option.some FieldType.boolean), [])
theorem WK_X14_hasWon : ax_cw tX14_hasWon ∈ ax_W := ax_tw (ax_t8 (List.mem_of_getElem? (i := 112) (rfl))) rfl
theorem kX14_hasWon : ax_Kn tX14_hasWon 1 := ⟨plainFor_of_name (x := yX14_hasWon) pl_X14, WK_X14_hasWon, mh_X14, pd_22, Nat.le_of_ble_eq_true rfl⟩
def tX14_isOver : ax_T := (yX14_isOver, cX14_isOver, 1, (Option.some FieldType.boolean), [])
theorem WK_X14_isOver : ax_cw tX14_isOver ∈ ax_W := ax_tw (ax_t8 (List.mem_of_getElem? (i := 132) (rfl))) rfl
theorem kX14_isOver : ax_Kn tX14_isOver 0 := ⟨plainFor_of_name (x := yX14_isOver) pl_X14, WK_X14_isOver, mh_X14, pd_34, Nat.le_of_ble_eq_true rfl⟩
def tX14_playerInTurn : ax_T := (yX14_playerInTurn, cX14_playerInTurn, 1, (Option.some FieldType.int), [])
theorem WK_X14_playerInTurn : ax_cw tX14_playerInTurn ∈ ax_W := ax_tw (ax_t8 (List.mem_of_getElem? (i := 140) (rfl))) rfl
theorem kX14_playerInTurn : ax_Kn tX14_playerInTurn 0 := ⟨plainFor_of_name (x := yX14_playerInTurn) pl_X14, WK_X14_playerInTurn, mh_X14, pd_12, Nat.le_of_ble_eq_true rfl⟩
def tX14_stonesBeside : ax_T := (yX14_stonesBeside, cX14_stonesBeside, 7, (Option.some FieldType.int), [])
theorem WK_X14_stonesBeside : ax_cw tX14_stonesBeside ∈ ax_W := ax_tw (ax_t8 (List.mem_of_getElem? (i := 148) (rfl))) rfl
theorem kX14_stonesBeside : ax_Kn tX14_stonesBeside 3 := ⟨plainFor_of_name (x := yX14_stonesBeside) pl_X14, WK_X14_stonesBeside, mh_X14, pd_21, Nat.le_of_ble_eq_true rfl⟩
def tX14_groupSize : ax_T := (yX14_groupSize, cX14_groupSize, 4, (Option.some FieldType.int), [])
theorem WK_X14_groupSize : ax_cw tX14_groupSize ∈ ax_W := ax_tw (ax_t8 (List.mem_of_getElem? (i := 152) (rfl))) rfl
theorem kX14_groupSize : ax_Kn tX14_groupSize 2 := ⟨plainFor_of_name (x := yX14_groupSize) pl_X14, WK_X14_groupSize, mh_X14, pd_5, Nat.le_of_ble_eq_true rfl⟩
def tX14_shoresOf : ax_T := (yX14_shoresOf, cX14_shoresOf, 5, (Option.some FieldType.int), [])
theorem WK_X14_shoresOf : ax_cw tX14_shoresOf ∈ ax_W := ax_tw (ax_t8 (List.mem_of_getElem? (i := 164) (rfl))) rfl
theorem kX14_shoresOf : ax_Kn tX14_shoresOf 2 := ⟨plainFor_of_name (x := yX14_shoresOf) pl_X14, WK_X14_shoresOf, mh_X14, pd_5, Nat.le_of_ble_eq_true rfl⟩
def tX14_groupsThen : ax_T := (yX14_groupsThen, cX14_groupsThen, 2, (Option.some FieldType.int), [])
theorem WK_X14_groupsThen : ax_cw tX14_groupsThen ∈ ax_W := ax_tw (ax_t8 (List.mem_of_getElem? (i := 176) (rfl))) rfl
theorem kX14_groupsThen : ax_Kn tX14_groupsThen 1 := ⟨plainFor_of_name (x := yX14_groupsThen) pl_X14, WK_X14_groupsThen, mh_X14, pd_3, Nat.le_of_ble_eq_true rfl⟩
def tX14_groupsOf : ax_T := (yX14_groupsOf, cX14_groupsOf, 2, (Option.some FieldType.int), [])
theorem WK_X14_groupsOf : ax_cw tX14_groupsOf ∈ ax_W := ax_tw (ax_t8 (List.mem_of_getElem? (i := 172) (rfl))) rfl
theorem kX14_groupsOf : ax_Kn tX14_groupsOf 1 := ⟨plainFor_of_name (x := yX14_groupsOf) pl_X14, WK_X14_groupsOf, mh_X14, pd_3, Nat.le_of_ble_eq_true rfl⟩
def tX14_greatest : ax_T := (yX14_greatest, cX14_greatest, 4, (Option.some FieldType.int), [])
theorem WK_X14_greatest : ax_cw tX14_greatest ∈ ax_W := ax_tw (ax_t8 (List.mem_of_getElem? (i := 184) (rfl))) rfl
theorem kX14_greatest : ax_Kn tX14_greatest 1 := ⟨plainFor_of_name (x := yX14_greatest) pl_X14, WK_X14_greatest, mh_X14, pd_3, Nat.le_of_ble_eq_true rfl⟩
def tX14_greatestGroup : ax_T := (yX14_greatestGroup, cX14_greatestGroup, 2, (Option.some FieldType.int), [])
theorem WK_X14_greatestGroup : ax_cw tX14_greatestGroup ∈ ax_W := ax_tw (ax_t8 (List.mem_of_getElem? (i := 180) (rfl))) rfl
theorem kX14_greatestGroup : ax_Kn tX14_greatestGroup 1 := ⟨plainFor_of_name (x := yX14_greatestGroup) pl_X14, WK_X14_greatestGroup, mh_X14, pd_3, Nat.le_of_ble_eq_true rfl⟩
def tX14_isBridge : ax_T := (yX14_isBridge, cX14_isBridge, 3, (Option.some FieldType.boolean), [])
theorem WK_X14_isBridge : ax_cw tX14_isBridge ∈ ax_W := ax_tw (ax_t8 (List.mem_of_getElem? (i := 189) (rfl))) rfl
theorem kX14_isBridge : ax_Kn tX14_isBridge 2 := ⟨plainFor_of_name (x := yX14_isBridge) pl_X14, WK_X14_isBridge, mh_X14, pd_1, Nat.le_of_ble_eq_true rfl⟩
def tX14_bridgesOf : ax_T := (yX14_bridgesOf, cX14_bridgesOf, 2, (Option.some FieldType.int), [])
theorem WK_X14_bridgesOf : ax_cw tX14_bridgesOf ∈ ax_W := ax_tw (ax_t8 (List.mem_of_getElem? (i := 205) (rfl))) rfl
theorem kX14_bridgesOf : ax_Kn tX14_bridgesOf 1 := ⟨plainFor_of_name (x := yX14_bridgesOf) pl_X14, WK_X14_bridgesOf, mh_X14, pd_3, Nat.le_of_ble_eq_true rfl⟩
def tX14_brokenBridgesOf : ax_T := (yX14_brokenBridgesOf, cX14_brokenBridgesOf, 2, (Option.some FieldType.int), [])
theorem WK_X14_brokenBridgesOf : ax_cw tX14_brokenBridgesOf ∈ ax_W := ax_tw (ax_t8 (List.mem_of_getElem? (i := 213) (rfl))) rfl
theorem kX14_brokenBridgesOf : ax_Kn tX14_brokenBridgesOf 1 := ⟨plainFor_of_name (x := yX14_brokenBridgesOf) pl_X14, WK_X14_brokenBridgesOf, mh_X14, pd_3, Nat.le_of_ble_eq_true rfl⟩
def tX14_isFrozen : ax_T := (yX14_isFrozen, cX14_isFrozen, 3, (Option.some FieldType.boolean), [])
theorem WK_X14_isFrozen : ax_cw tX14_isFrozen ∈ ax_W := ax_tw (ax_t8 (List.mem_of_getElem? (i := 217) (rfl))) rfl
theorem kX14_isFrozen : ax_Kn tX14_isFrozen 2 := ⟨plainFor_of_name (x := yX14_isFrozen) pl_X14, WK_X14_isFrozen, mh_X14, pd_1, Nat.le_of_ble_eq_true rfl⟩
def tX14_frozenCells : ax_T := (yX14_frozenCells, cX14_frozenCells, 1, (Option.some FieldType.int), [])
theorem WK_X14_frozenCells : ax_cw tX14_frozenCells ∈ ax_W := ax_tw (ax_t8 (List.mem_of_getElem? (i := 229) (rfl))) rfl
theorem kX14_frozenCells : ax_Kn tX14_frozenCells 0 := ⟨plainFor_of_name (x := yX14_frozenCells) pl_X14, WK_X14_frozenCells, mh_X14, pd_12, Nat.le_of_ble_eq_true rfl⟩
def tX14_orNone : ax_T := (yX14_orNone, cX14_orNone, 2, (Option.some FieldType.int), [])
theorem WK_X14_orNone : ax_cw tX14_orNone ∈ ax_W := ax_tw (ax_t9 (List.mem_of_getElem? (i := 13) (rfl))) rfl
theorem kX14_orNone : ax_Kn tX14_orNone 1 := ⟨plainFor_of_name (x := yX14_orNone) pl_X14, WK_X14_orNone, mh_X14, pd_3, Nat.le_of_ble_eq_true rfl⟩
def tX14_stonesNeeded : ax_T := (yX14_stonesNeeded, cX14_stonesNeeded, 2, (Option.some FieldType.int), [])
theorem WK_X14_stonesNeeded : ax_cw tX14_stonesNeeded ∈ ax_W := ax_tw (ax_t8 (List.mem_of_getElem? (i := 237) (rfl))) rfl
theorem kX14_stonesNeeded : ax_Kn tX14_stonesNeeded 1 := ⟨plainFor_of_name (x := yX14_stonesNeeded) pl_X14, WK_X14_stonesNeeded, mh_X14, pd_3, Nat.le_of_ble_eq_true rfl⟩
def tX14_stonesNeededThrough : ax_T := (yX14_stonesNeededThrough, cX14_stonesNeededThrough, 5, (Option.some FieldType.int), [])
theorem WK_X14_stonesNeededThrough : ax_cw tX14_stonesNeededThrough ∈ ax_W := ax_tw (ax_t9 (List.mem_of_getElem? (i := 17) (rfl))) rfl
theorem kX14_stonesNeededThrough : ax_Kn tX14_stonesNeededThrough 3 := ⟨plainFor_of_name (x := yX14_stonesNeededThrough) pl_X14, WK_X14_stonesNeededThrough, mh_X14, pd_21, Nat.le_of_ble_eq_true rfl⟩
def tX14_isWinningCell : ax_T := (yX14_isWinningCell, cX14_isWinningCell, 4, (Option.some FieldType.boolean), [])
theorem WK_X14_isWinningCell : ax_cw tX14_isWinningCell ∈ ax_W := ax_tw (ax_t9 (List.mem_of_getElem? (i := 33) (rfl))) rfl
theorem kX14_isWinningCell : ax_Kn tX14_isWinningCell 3 := ⟨plainFor_of_name (x := yX14_isWinningCell) pl_X14, WK_X14_isWinningCell, mh_X14, pd_26, Nat.le_of_ble_eq_true rfl⟩
def tX14_winningCells : ax_T := (yX14_winningCells, cX14_winningCells, 2, (Option.some FieldType.int), [])
theorem WK_X14_winningCells : ax_cw tX14_winningCells ∈ ax_W := ax_tw (ax_t9 (List.mem_of_getElem? (i := 41) (rfl))) rfl
theorem kX14_winningCells : ax_Kn tX14_winningCells 1 := ⟨plainFor_of_name (x := yX14_winningCells) pl_X14, WK_X14_winningCells, mh_X14, pd_3, Nat.le_of_ble_eq_true rfl⟩
def tX14_lay : ax_T := (yX14_lay, cX14_lay, 3, (Option.some FieldType.int), [])
theorem WK_X14_lay : ax_cw tX14_lay ∈ ax_W := ax_tw (ax_t9 (List.mem_of_getElem? (i := 53) (rfl))) rfl
theorem kX14_lay : ax_Kn tX14_lay 1 := ⟨plainFor_of_name (x := yX14_lay) pl_X14, WK_X14_lay, mh_X14, pd_3, Nat.le_of_ble_eq_true rfl⟩
def tX14_layStone : ax_T := (yX14_layStone, cX14_layStone, 3, (Option.some FieldType.int), [])
theorem WK_X14_layStone : ax_cw tX14_layStone ∈ ax_W := ax_tw (ax_t9 (List.mem_of_getElem? (i := 49) (rfl))) rfl
theorem kX14_layStone : ax_Kn tX14_layStone 2 := ⟨plainFor_of_name (x := yX14_layStone) pl_X14, WK_X14_layStone, mh_X14, pd_5, Nat.le_of_ble_eq_true rfl⟩
def tX14_takeBack : ax_T := (yX14_takeBack, cX14_takeBack, 1, (Option.some FieldType.int), [])
theorem WK_X14_takeBack : ax_cw tX14_takeBack ∈ ax_W := ax_tw (ax_t9 (List.mem_of_getElem? (i := 57) (rfl))) rfl
theorem kX14_takeBack : ax_Kn tX14_takeBack 0 := ⟨plainFor_of_name (x := yX14_takeBack) pl_X14, WK_X14_takeBack, mh_X14, pd_12, Nat.le_of_ble_eq_true rfl⟩
def tX14_plannedCell : ax_T := (yX14_plannedCell, cX14_plannedCell, 1, (Option.some FieldType.int), [])
theorem WK_X14_plannedCell : ax_cw tX14_plannedCell ∈ ax_W := ax_tw (ax_t9 (List.mem_of_getElem? (i := 61) (rfl))) rfl
theorem kX14_plannedCell : ax_Kn tX14_plannedCell 0 := ⟨plainFor_of_name (x := yX14_plannedCell) pl_X14, WK_X14_plannedCell, mh_X14, pd_12, Nat.le_of_ble_eq_true rfl⟩
def tX14_playByPlans : ax_T := (yX14_playByPlans, cX14_playByPlans, 2, (Option.some FieldType.int), [])
theorem WK_X14_playByPlans : ax_cw tX14_playByPlans ∈ ax_W := ax_tw (ax_t9 (List.mem_of_getElem? (i := 89) (rfl))) rfl
theorem kX14_playByPlans : ax_Kn tX14_playByPlans 1 := ⟨plainFor_of_name (x := yX14_playByPlans) pl_X14, WK_X14_playByPlans, mh_X14, pd_3, Nat.le_of_ble_eq_true rfl⟩
def tX14_stonesByPlans : ax_T := (yX14_stonesByPlans, cX14_stonesByPlans, 2, (Option.some FieldType.int), [])
theorem WK_X14_stonesByPlans : ax_cw tX14_stonesByPlans ∈ ax_W := ax_tw (ax_t9 (List.mem_of_getElem? (i := 97) (rfl))) rfl
theorem kX14_stonesByPlans : ax_Kn tX14_stonesByPlans 0 := ⟨plainFor_of_name (x := yX14_stonesByPlans) pl_X14, WK_X14_stonesByPlans, mh_X14, pd_12, Nat.le_of_ble_eq_true rfl⟩
def tX14_winnerByPlans : ax_T := (yX14_winnerByPlans, cX14_winnerByPlans, 2, (Option.some FieldType.int), [])
theorem WK_X14_winnerByPlans : ax_cw tX14_winnerByPlans ∈ ax_W := ax_tw (ax_t9 (List.mem_of_getElem? (i := 109) (rfl))) rfl
theorem kX14_winnerByPlans : ax_Kn tX14_winnerByPlans 0 := ⟨plainFor_of_name (x := yX14_winnerByPlans) pl_X14, WK_X14_winnerByPlans, mh_X14, pd_12, Nat.le_of_ble_eq_true rfl⟩
def tX14_mustPlay : ax_T := (yX14_mustPlay, cX14_mustPlay, 2, (Option.some FieldType.int), [])
theorem WK_X14_mustPlay : ax_cw tX14_mustPlay ∈ ax_W := ax_tw (ax_t9 (List.mem_of_getElem? (i := 113) (rfl))) rfl
theorem kX14_mustPlay : ax_Kn tX14_mustPlay 0 := ⟨plainFor_of_name (x := yX14_mustPlay) pl_X14, WK_X14_mustPlay, mh_X14, pd_12, Nat.le_of_ble_eq_true rfl⟩
def tX14_best : ax_T := (yX14_best, cX14_best, 6, (Option.some FieldType.int), [])
theorem WK_X14_best : ax_cw tX14_best ∈ ax_W := ax_tw (ax_t9 (List.mem_of_getElem? (i := 121) (rfl))) rfl
theorem kX14_best : ax_Kn tX14_best 1 := ⟨plainFor_of_name (x := yX14_best) pl_X14, WK_X14_best, mh_X14, pd_3, Nat.le_of_ble_eq_true rfl⟩
def tX14_bestCell : ax_T := (yX14_bestCell, cX14_bestCell, 1, (Option.some FieldType.int), [])
theorem WK_X14_bestCell : ax_cw tX14_bestCell ∈ ax_W := ax_tw (ax_t9 (List.mem_of_getElem? (i := 117) (rfl))) rfl
theorem kX14_bestCell : ax_Kn tX14_bestCell 0 := ⟨plainFor_of_name (x := yX14_bestCell) pl_X14, WK_X14_bestCell, mh_X14, pd_12, Nat.le_of_ble_eq_true rfl⟩
def tX14_meanGroup : ax_T := (yX14_meanGroup, cX14_meanGroup, 2, (Option.some FieldType.double), [])
theorem WK_X14_meanGroup : ax_cw tX14_meanGroup ∈ ax_W := ax_tw (ax_t9 (List.mem_of_getElem? (i := 125) (rfl))) rfl
theorem kX14_meanGroup : ax_Kn tX14_meanGroup 0 := ⟨plainFor_of_name (x := yX14_meanGroup) pl_X14, WK_X14_meanGroup, mh_X14, pd_35, Nat.le_of_ble_eq_true rfl⟩
def tX14_digestPlayer : ax_T := (yX14_digestPlayer, cX14_digestPlayer, 6, (Option.some FieldType.long), [])
theorem WK_X14_digestPlayer : ax_cw tX14_digestPlayer ∈ ax_W := ax_tw (ax_t9 (List.mem_of_getElem? (i := 135) (rfl))) rfl
theorem kX14_digestPlayer : ax_Kn tX14_digestPlayer 2 := ⟨plainFor_of_name (x := yX14_digestPlayer) pl_X14, WK_X14_digestPlayer, mh_X14, pd_37, Nat.le_of_ble_eq_true rfl⟩
def tX14_digest : ax_T := (yX14_digest, cX14_digest, 8, (Option.some FieldType.long), [])
theorem WK_X14_digest : ax_cw tX14_digest ∈ ax_W := ax_tw (ax_t9 (List.mem_of_getElem? (i := 129) (rfl))) rfl
theorem kX14_digest : ax_Kn tX14_digest 0 := ⟨plainFor_of_name (x := yX14_digest) pl_X14, WK_X14_digest, mh_X14, pd_36, Nat.le_of_ble_eq_true rfl⟩
theorem pl_Jx29ce0 : plainName RJx29ce0 = true := by decide +kernel
theorem mh_Jx29ce0 : RJx29ce0 ≠ "java/lang/invoke/MethodHandle" ∧ RJx29ce0 ≠ "java/lang/invoke/VarHandle" := ⟨by decide +kernel, by decide +kernel⟩
def tJx29ce0_ordinal_8abf5 : ax_T := (yJx29ce0_ordinal_8abf5, cJx29ce0_ordinal_8abf5, 1, (Option.some FieldType.int), [])
theorem WK_Jx29ce0_ordinal_8abf5 : ax_cw tJx29ce0_ordinal_8abf5 ∈ ax_W := ax_tw (ax_t4 (List.mem_of_getElem? (i := 182) (rfl))) rfl
theorem kJx29ce0_ordinal_8abf5 : ax_Kn tJx29ce0_ordinal_8abf5 0 := ⟨plainFor_of_name (x := yJx29ce0_ordinal_8abf5) pl_Jx29ce0, WK_Jx29ce0_ordinal_8abf5, mh_Jx29ce0, pd_12, Nat.le_of_ble_eq_true rfl⟩
theorem mh_J9 : RJ9 ≠ "java/lang/invoke/MethodHandle" ∧ RJ9 ≠ "java/lang/invoke/VarHandle" := ⟨by decide +kernel, by decide +kernel⟩
def tJ9_floorMod_7cf53 : ax_T := (yJ9_floorMod_7cf53, cJ9_floorMod_7cf53, 3, (Option.some FieldType.int), [])
theorem WK_J9_floorMod_7cf53 : ax_cw tJ9_floorMod_7cf53 ∈ ax_W := ax_tw (ax_t5 (List.mem_of_getElem? (i := 14) (rfl))) rfl
theorem kJ9_floorMod_7cf53 : ax_Kn tJ9_floorMod_7cf53 2 := ⟨(by decide +kernel), WK_J9_floorMod_7cf53, mh_J9, pd_5, Nat.le_of_ble_eq_true rfl⟩
def tJ9_max_7cf53 : ax_T := (yJ9_max_7cf53, cJ9_max_7cf53, 2, (Option.some FieldType.int), [])
theorem WK_J9_max_7cf53 : ax_cw tJ9_max_7cf53 ∈ ax_W := ax_tw (ax_t4 (List.mem_of_getElem? (i := 205) (rfl))) rfl
theorem kJ9_max_7cf53 : ax_Kn tJ9_max_7cf53 2 := ⟨(by decide +kernel), WK_J9_max_7cf53, mh_J9, pd_5, Nat.le_of_ble_eq_true rfl⟩
def tJ9_min_7cf53 : ax_T := (yJ9_min_7cf53, cJ9_min_7cf53, 2, (Option.some FieldType.int), [])
theorem WK_J9_min_7cf53 : ax_cw tJ9_min_7cf53 ∈ ax_W := ax_tw (ax_t4 (List.mem_of_getElem? (i := 78) (rfl))) rfl
theorem kJ9_min_7cf53 : ax_Kn tJ9_min_7cf53 2 := ⟨(by decide +kernel), WK_J9_min_7cf53, mh_J9, pd_5, Nat.le_of_ble_eq_true rfl⟩
theorem pl_J0 : plainName RJ0 = true := by decide +kernel
theorem mh_J0 : RJ0 ≠ "java/lang/invoke/MethodHandle" ∧ RJ0 ≠ "java/lang/invoke/VarHandle" := ⟨by decide +kernel, by decide +kernel⟩
def tJ0_length_8abf5 : ax_T := (yJ0_length_8abf5, cJ0_length_8abf5, 1, (Option.some FieldType.int), [])
theorem WK_J0_length_8abf5 : ax_cw tJ0_length_8abf5 ∈ ax_W := ax_tw (ax_t2 (List.mem_of_getElem? (i := 158) (rfl))) rfl
theorem kJ0_length_8abf5 : ax_Kn tJ0_length_8abf5 0 := ⟨plainFor_of_name (x := yJ0_length_8abf5) pl_J0, WK_J0_length_8abf5, mh_J0, pd_12, Nat.le_of_ble_eq_true rfl⟩
def tJ0_charAt_5068e : ax_T := (yJ0_charAt_5068e, cJ0_charAt_5068e, 2, (Option.some FieldType.char), [])
theorem WK_J0_charAt_5068e : ax_cw tJ0_charAt_5068e ∈ ax_W := ax_tw (ax_t2 (List.mem_of_getElem? (i := 168) (rfl))) rfl
theorem pd_45 : (parseMethodDescriptor "(I)C").map (fun d => d.parameters.length) = some 1 := by decide +kernel
theorem kJ0_charAt_5068e : ax_Kn tJ0_charAt_5068e 1 := ⟨plainFor_of_name (x := yJ0_charAt_5068e) pl_J0, WK_J0_charAt_5068e, mh_J0, pd_45, Nat.le_of_ble_eq_true rfl⟩
def tJ0_coder_7d493 : ax_T := (yJ0_coder_7d493, cJ0_coder_7d493, 1, (Option.some FieldType.byte), [])
theorem WK_J0_coder_7d493 : ax_cw tJ0_coder_7d493 ∈ ax_W := ax_tw (ax_t2 (List.mem_of_getElem? (i := 162) (rfl))) rfl
theorem pd_46 : (parseMethodDescriptor "()B").map (fun d => d.parameters.length) = some 0 := by decide +kernel
theorem kJ0_coder_7d493 : ax_Kn tJ0_coder_7d493 0 := ⟨plainFor_of_name (x := yJ0_coder_7d493) pl_J0, WK_J0_coder_7d493, mh_J0, pd_46, Nat.le_of_ble_eq_true rfl⟩
def tJ0_isLatin1_aae02 : ax_T := (yJ0_isLatin1_aae02, cJ0_isLatin1_aae02, 1, (Option.some FieldType.boolean), [])
theorem WK_J0_isLatin1_aae02 : ax_cw tJ0_isLatin1_aae02 ∈ ax_W := ax_tw (ax_t2 (List.mem_of_getElem? (i := 172) (rfl))) rfl
theorem kJ0_isLatin1_aae02 : ax_Kn tJ0_isLatin1_aae02 0 := ⟨plainFor_of_name (x := yJ0_isLatin1_aae02) pl_J0, WK_J0_isLatin1_aae02, mh_J0, pd_34, Nat.le_of_ble_eq_true rfl⟩
def tJ0_checkIndex_df160 : ax_T := (yJ0_checkIndex_df160, cJ0_checkIndex_df160, 2, (Option.none : Option FieldType), [])
theorem WK_J0_checkIndex_df160 : ax_cw tJ0_checkIndex_df160 ∈ ax_W := ax_tw (ax_t2 (List.mem_of_getElem? (i := 178) (rfl))) rfl
theorem kJ0_checkIndex_df160 : ax_Kn tJ0_checkIndex_df160 2 := ⟨plainFor_of_name (x := yJ0_checkIndex_df160) pl_J0, WK_J0_checkIndex_df160, mh_J0, pd_25, Nat.le_of_ble_eq_true rfl⟩
theorem pl_J1 : plainName RJ1 = true := by decide +kernel
theorem mh_J1 : RJ1 ≠ "java/lang/invoke/MethodHandle" ∧ RJ1 ≠ "java/lang/invoke/VarHandle" := ⟨by decide +kernel, by decide +kernel⟩
def tJ1_charAt_3b067 : ax_T := (yJ1_charAt_3b067, cJ1_charAt_3b067, 2, (Option.some FieldType.char), [])
theorem WK_J1_charAt_3b067 : ax_cw tJ1_charAt_3b067 ∈ ax_W := ax_tw (ax_t2 (List.mem_of_getElem? (i := 175) (rfl))) rfl
theorem pd_47 : (parseMethodDescriptor "([BI)C").map (fun d => d.parameters.length) = some 2 := by decide +kernel
theorem kJ1_charAt_3b067 : ax_Kn tJ1_charAt_3b067 2 := ⟨plainFor_of_name (x := yJ1_charAt_3b067) pl_J1, WK_J1_charAt_3b067, mh_J1, pd_47, Nat.le_of_ble_eq_true rfl⟩
theorem pl_J2 : plainName RJ2 = true := by decide +kernel
theorem mh_J2 : RJ2 ≠ "java/lang/invoke/MethodHandle" ∧ RJ2 ≠ "java/lang/invoke/VarHandle" := ⟨by decide +kernel, by decide +kernel⟩
def tJ2_getChar_3b067 : ax_T := (yJ2_getChar_3b067, cJ2_getChar_3b067, 2, (Option.some FieldType.char), [])
theorem WK_J2_getChar_3b067 : ax_cw tJ2_getChar_3b067 ∈ ax_W := ax_tw (ax_t2 (List.mem_of_getElem? (i := 196) (rfl))) rfl
theorem kJ2_getChar_3b067 : ax_Kn tJ2_getChar_3b067 2 := ⟨plainFor_of_name (x := yJ2_getChar_3b067) pl_J2, WK_J2_getChar_3b067, mh_J2, pd_47, Nat.le_of_ble_eq_true rfl⟩
def tJ2_length_9d52b : ax_T := (yJ2_length_9d52b, cJ2_length_9d52b, 1, (Option.some FieldType.int), [])
theorem WK_J2_length_9d52b : ax_cw tJ2_length_9d52b ∈ ax_W := ax_tw (ax_t2 (List.mem_of_getElem? (i := 192) (rfl))) rfl
theorem pd_48 : (parseMethodDescriptor "([B)I").map (fun d => d.parameters.length) = some 1 := by decide +kernel
theorem kJ2_length_9d52b : ax_Kn tJ2_length_9d52b 1 := ⟨plainFor_of_name (x := yJ2_length_9d52b) pl_J2, WK_J2_length_9d52b, mh_J2, pd_48, Nat.le_of_ble_eq_true rfl⟩
def tJ2_charAt_3b067 : ax_T := (yJ2_charAt_3b067, cJ2_charAt_3b067, 2, (Option.some FieldType.char), [])
theorem WK_J2_charAt_3b067 : ax_cw tJ2_charAt_3b067 ∈ ax_W := ax_tw (ax_t2 (List.mem_of_getElem? (i := 186) (rfl))) rfl
theorem kJ2_charAt_3b067 : ax_Kn tJ2_charAt_3b067 2 := ⟨plainFor_of_name (x := yJ2_charAt_3b067) pl_J2, WK_J2_charAt_3b067, mh_J2, pd_47, Nat.le_of_ble_eq_true rfl⟩
def tJ2_checkIndex_2214a : ax_T := (yJ2_checkIndex_2214a, cJ2_checkIndex_2214a, 2, (Option.none : Option FieldType), [])
theorem WK_J2_checkIndex_2214a : ax_cw tJ2_checkIndex_2214a ∈ ax_W := ax_tw (ax_t2 (List.mem_of_getElem? (i := 189) (rfl))) rfl
theorem pd_49 : (parseMethodDescriptor "(I[B)V").map (fun d => d.parameters.length) = some 2 := by decide +kernel
theorem kJ2_checkIndex_2214a : ax_Kn tJ2_checkIndex_2214a 2 := ⟨plainFor_of_name (x := yJ2_checkIndex_2214a) pl_J2, WK_J2_checkIndex_2214a, mh_J2, pd_49, Nat.le_of_ble_eq_true rfl⟩
theorem pl_J7 : plainName RJ7 = true := by decide +kernel
theorem mh_J7 : RJ7 ≠ "java/lang/invoke/MethodHandle" ∧ RJ7 ≠ "java/lang/invoke/VarHandle" := ⟨by decide +kernel, by decide +kernel⟩
def tJ7_fill_53178 : ax_T := (yJ7_fill_53178, cJ7_fill_53178, 4, (Option.none : Option FieldType), [])
theorem WK_J7_fill_53178 : ax_cw tJ7_fill_53178 ∈ ax_W := ax_tw (ax_t1 (List.mem_of_getElem? (i := 168) (rfl))) rfl
theorem pd_50 : (parseMethodDescriptor "([II)V").map (fun d => d.parameters.length) = some 2 := by decide +kernel
theorem kJ7_fill_53178 : ax_Kn tJ7_fill_53178 2 := ⟨plainFor_of_name (x := yJ7_fill_53178) pl_J7, WK_J7_fill_53178, mh_J7, pd_50, Nat.le_of_ble_eq_true rfl⟩
theorem pl_J3 : plainName RJ3 = true := by decide +kernel
theorem mh_J3 : RJ3 ≠ "java/lang/invoke/MethodHandle" ∧ RJ3 ≠ "java/lang/invoke/VarHandle" := ⟨by decide +kernel, by decide +kernel⟩
def tJ3_checkIndex_8e157 : ax_T := (yJ3_checkIndex_8e157, cJ3_checkIndex_8e157, 3, (Option.some FieldType.int), [])
theorem WK_J3_checkIndex_8e157 : ax_cw tJ3_checkIndex_8e157 ∈ ax_W := ax_tw (ax_t2 (List.mem_of_getElem? (i := 183) (rfl))) rfl
theorem pd_51 : (parseMethodDescriptor "(IILjava/util/function/BiFunction;)I").map (fun d => d.parameters.length) = some 3 := by decide +kernel
theorem kJ3_checkIndex_8e157 : ax_Kn tJ3_checkIndex_8e157 3 := ⟨plainFor_of_name (x := yJ3_checkIndex_8e157) pl_J3, WK_J3_checkIndex_8e157, mh_J3, pd_51, Nat.le_of_ble_eq_true rfl⟩
theorem pl_L : plainName RL = true := by decide +kernel
theorem mh_L : RL ≠ "java/lang/invoke/MethodHandle" ∧ RL ≠ "java/lang/invoke/VarHandle" := ⟨by decide +kernel, by decide +kernel⟩
def tL_feed : ax_T := (yL_feed, cL_feed, 8, (Option.some FieldType.int), [(0, 16, 19, 13)])
theorem WK_L_feed : ax_cw tL_feed ∈ ax_W := ax_tw (ax_t5 (List.mem_of_getElem? (i := 97) (rfl))) rfl
theorem pd_52 : (parseMethodDescriptor "(LHexPond;IIIII[J)I").map (fun d => d.parameters.length) = some 7 := by decide +kernel
theorem kL_feed : ax_Kn tL_feed 7 := ⟨plainFor_of_name (x := yL_feed) pl_L, WK_L_feed, mh_L, pd_52, Nat.le_of_ble_eq_true rfl⟩
def tL_trim : ax_T := (yL_trim, cL_trim, 4, (Option.some FieldType.int), [(0, 9, 12, 19)])
theorem WK_L_trim : ax_cw tL_trim ∈ ax_W := ax_tw (ax_t5 (List.mem_of_getElem? (i := 176) (rfl))) rfl
theorem pd_53 : (parseMethodDescriptor "(LHexPond;I[J)I").map (fun d => d.parameters.length) = some 3 := by decide +kernel
theorem kL_trim : ax_Kn tL_trim 3 := ⟨plainFor_of_name (x := yL_trim) pl_L, WK_L_trim, mh_L, pd_53, Nat.le_of_ble_eq_true rfl⟩
def tL_stonesOf : ax_T := (yL_stonesOf, cL_stonesOf, 4, (Option.some FieldType.int), [(0, 9, 12, 24)])
theorem WK_L_stonesOf : ax_cw tL_stonesOf ∈ ax_W := ax_tw (ax_t5 (List.mem_of_getElem? (i := 200) (rfl))) rfl
theorem kL_stonesOf : ax_Kn tL_stonesOf 3 := ⟨plainFor_of_name (x := yL_stonesOf) pl_L, WK_L_stonesOf, mh_L, pd_53, Nat.le_of_ble_eq_true rfl⟩
def tL_isEmpty : ax_T := (yL_isEmpty, cL_isEmpty, 5, (Option.some FieldType.int), [(0, 17, 20, 24)])
theorem WK_L_isEmpty : ax_cw tL_isEmpty ∈ ax_W := ax_tw (ax_t5 (List.mem_of_getElem? (i := 227) (rfl))) rfl
theorem pd_54 : (parseMethodDescriptor "(LHexPond;II[J)I").map (fun d => d.parameters.length) = some 4 := by decide +kernel
theorem kL_isEmpty : ax_Kn tL_isEmpty 4 := ⟨plainFor_of_name (x := yL_isEmpty) pl_L, WK_L_isEmpty, mh_L, pd_54, Nat.le_of_ble_eq_true rfl⟩
def tL_ownerOf : ax_T := (yL_ownerOf, cL_ownerOf, 5, (Option.some FieldType.int), [(0, 10, 13, 24), (0, 10, 17, 13)])
theorem WK_L_ownerOf : ax_cw tL_ownerOf ∈ ax_W := ax_tw (ax_t6 (List.mem_of_getElem? (i := 0) (rfl))) rfl
theorem kL_ownerOf : ax_Kn tL_ownerOf 4 := ⟨plainFor_of_name (x := yL_ownerOf) pl_L, WK_L_ownerOf, mh_L, pd_54, Nat.le_of_ble_eq_true rfl⟩
def tL_hasWon : ax_T := (yL_hasWon, cL_hasWon, 4, (Option.some FieldType.int), [(0, 16, 19, 24)])
theorem WK_L_hasWon : ax_cw tL_hasWon ∈ ax_W := ax_tw (ax_t6 (List.mem_of_getElem? (i := 12) (rfl))) rfl
theorem kL_hasWon : ax_Kn tL_hasWon 3 := ⟨plainFor_of_name (x := yL_hasWon) pl_L, WK_L_hasWon, mh_L, pd_53, Nat.le_of_ble_eq_true rfl⟩
def tL_playerInTurn : ax_T := (yL_playerInTurn, cL_playerInTurn, 3, (Option.some FieldType.int), [(0, 8, 11, 13)])
theorem WK_L_playerInTurn : ax_cw tL_playerInTurn ∈ ax_W := ax_tw (ax_t6 (List.mem_of_getElem? (i := 19) (rfl))) rfl
theorem pd_55 : (parseMethodDescriptor "(LHexPond;[J)I").map (fun d => d.parameters.length) = some 2 := by decide +kernel
theorem kL_playerInTurn : ax_Kn tL_playerInTurn 2 := ⟨plainFor_of_name (x := yL_playerInTurn) pl_L, WK_L_playerInTurn, mh_L, pd_55, Nat.le_of_ble_eq_true rfl⟩
def tL_stonesBeside : ax_T := (yL_stonesBeside, cL_stonesBeside, 6, (Option.some FieldType.int), [(0, 12, 15, 24)])
theorem WK_L_stonesBeside : ax_cw tL_stonesBeside ∈ ax_W := ax_tw (ax_t6 (List.mem_of_getElem? (i := 31) (rfl))) rfl
theorem pd_56 : (parseMethodDescriptor "(LHexPond;III[J)I").map (fun d => d.parameters.length) = some 5 := by decide +kernel
theorem kL_stonesBeside : ax_Kn tL_stonesBeside 5 := ⟨plainFor_of_name (x := yL_stonesBeside) pl_L, WK_L_stonesBeside, mh_L, pd_56, Nat.le_of_ble_eq_true rfl⟩
def tL_groupSize : ax_T := (yL_groupSize, cL_groupSize, 5, (Option.some FieldType.int), [(0, 10, 13, 24), (0, 10, 17, 13)])
theorem WK_L_groupSize : ax_cw tL_groupSize ∈ ax_W := ax_tw (ax_t6 (List.mem_of_getElem? (i := 39) (rfl))) rfl
theorem kL_groupSize : ax_Kn tL_groupSize 4 := ⟨plainFor_of_name (x := yL_groupSize) pl_L, WK_L_groupSize, mh_L, pd_54, Nat.le_of_ble_eq_true rfl⟩
def tL_shoresOf : ax_T := (yL_shoresOf, cL_shoresOf, 5, (Option.some FieldType.int), [(0, 10, 13, 24), (0, 10, 17, 13)])
theorem WK_L_shoresOf : ax_cw tL_shoresOf ∈ ax_W := ax_tw (ax_t6 (List.mem_of_getElem? (i := 50) (rfl))) rfl
theorem kL_shoresOf : ax_Kn tL_shoresOf 4 := ⟨plainFor_of_name (x := yL_shoresOf) pl_L, WK_L_shoresOf, mh_L, pd_54, Nat.le_of_ble_eq_true rfl⟩
def tL_groupsOf : ax_T := (yL_groupsOf, cL_groupsOf, 4, (Option.some FieldType.int), [(0, 9, 12, 24)])
theorem WK_L_groupsOf : ax_cw tL_groupsOf ∈ ax_W := ax_tw (ax_t6 (List.mem_of_getElem? (i := 66) (rfl))) rfl
theorem kL_groupsOf : ax_Kn tL_groupsOf 3 := ⟨plainFor_of_name (x := yL_groupsOf) pl_L, WK_L_groupsOf, mh_L, pd_53, Nat.le_of_ble_eq_true rfl⟩
def tL_greatestGroup : ax_T := (yL_greatestGroup, cL_greatestGroup, 4, (Option.some FieldType.int), [(0, 9, 12, 24)])
theorem WK_L_greatestGroup : ax_cw tL_greatestGroup ∈ ax_W := ax_tw (ax_t6 (List.mem_of_getElem? (i := 73) (rfl))) rfl
theorem kL_greatestGroup : ax_Kn tL_greatestGroup 3 := ⟨plainFor_of_name (x := yL_greatestGroup) pl_L, WK_L_greatestGroup, mh_L, pd_53, Nat.le_of_ble_eq_true rfl⟩
def tL_isBridge : ax_T := (yL_isBridge, cL_isBridge, 5, (Option.some FieldType.int), [(0, 17, 20, 24)])
theorem WK_L_isBridge : ax_cw tL_isBridge ∈ ax_W := ax_tw (ax_t6 (List.mem_of_getElem? (i := 80) (rfl))) rfl
theorem kL_isBridge : ax_Kn tL_isBridge 4 := ⟨plainFor_of_name (x := yL_isBridge) pl_L, WK_L_isBridge, mh_L, pd_54, Nat.le_of_ble_eq_true rfl⟩
def tL_bridgesOf : ax_T := (yL_bridgesOf, cL_bridgesOf, 4, (Option.some FieldType.int), [(0, 9, 12, 24)])
theorem WK_L_bridgesOf : ax_cw tL_bridgesOf ∈ ax_W := ax_tw (ax_t6 (List.mem_of_getElem? (i := 92) (rfl))) rfl
theorem kL_bridgesOf : ax_Kn tL_bridgesOf 3 := ⟨plainFor_of_name (x := yL_bridgesOf) pl_L, WK_L_bridgesOf, mh_L, pd_53, Nat.le_of_ble_eq_true rfl⟩
def tL_brokenBridgesOf : ax_T := (yL_brokenBridgesOf, cL_brokenBridgesOf, 4, (Option.some FieldType.int), [(0, 9, 12, 24)])
theorem WK_L_brokenBridgesOf : ax_cw tL_brokenBridgesOf ∈ ax_W := ax_tw (ax_t6 (List.mem_of_getElem? (i := 99) (rfl))) rfl
theorem kL_brokenBridgesOf : ax_Kn tL_brokenBridgesOf 3 := ⟨plainFor_of_name (x := yL_brokenBridgesOf) pl_L, WK_L_brokenBridgesOf, mh_L, pd_53, Nat.le_of_ble_eq_true rfl⟩
def tL_isFrozen : ax_T := (yL_isFrozen, cL_isFrozen, 5, (Option.some FieldType.int), [(0, 17, 20, 24)])
theorem WK_L_isFrozen : ax_cw tL_isFrozen ∈ ax_W := ax_tw (ax_t6 (List.mem_of_getElem? (i := 106) (rfl))) rfl
theorem kL_isFrozen : ax_Kn tL_isFrozen 4 := ⟨plainFor_of_name (x := yL_isFrozen) pl_L, WK_L_isFrozen, mh_L, pd_54, Nat.le_of_ble_eq_true rfl⟩
def tL_stonesNeeded : ax_T := (yL_stonesNeeded, cL_stonesNeeded, 4, (Option.some FieldType.int), [(0, 9, 12, 24), (0, 9, 15, 13)])
theorem WK_L_stonesNeeded : ax_cw tL_stonesNeeded ∈ ax_W := ax_tw (ax_t6 (List.mem_of_getElem? (i := 113) (rfl))) rfl
theorem kL_stonesNeeded : ax_Kn tL_stonesNeeded 3 := ⟨plainFor_of_name (x := yL_stonesNeeded) pl_L, WK_L_stonesNeeded, mh_L, pd_53, Nat.le_of_ble_eq_true rfl⟩
def tL_stonesNeededThrough : ax_T := (yL_stonesNeededThrough, cL_stonesNeededThrough, 6, (Option.some FieldType.int), [(0, 12, 15, 24), (0, 12, 19, 13)])
theorem WK_L_stonesNeededThrough : ax_cw tL_stonesNeededThrough ∈ ax_W := ax_tw (ax_t6 (List.mem_of_getElem? (i := 121) (rfl))) rfl
theorem kL_stonesNeededThrough : ax_Kn tL_stonesNeededThrough 5 := ⟨plainFor_of_name (x := yL_stonesNeededThrough) pl_L, WK_L_stonesNeededThrough, mh_L, pd_56, Nat.le_of_ble_eq_true rfl⟩
def tL_isWinningCell : ax_T := (yL_isWinningCell, cL_isWinningCell, 6, (Option.some FieldType.int), [(0, 19, 22, 24)])
theorem WK_L_isWinningCell : ax_cw tL_isWinningCell ∈ ax_W := ax_tw (ax_t6 (List.mem_of_getElem? (i := 130) (rfl))) rfl
theorem kL_isWinningCell : ax_Kn tL_isWinningCell 5 := ⟨plainFor_of_name (x := yL_isWinningCell) pl_L, WK_L_isWinningCell, mh_L, pd_56, Nat.le_of_ble_eq_true rfl⟩
def tL_winningCells : ax_T := (yL_winningCells, cL_winningCells, 4, (Option.some FieldType.int), [(0, 9, 12, 24)])
theorem WK_L_winningCells : ax_cw tL_winningCells ∈ ax_W := ax_tw (ax_t6 (List.mem_of_getElem? (i := 138) (rfl))) rfl
theorem kL_winningCells : ax_Kn tL_winningCells 3 := ⟨plainFor_of_name (x := yL_winningCells) pl_L, WK_L_winningCells, mh_L, pd_53, Nat.le_of_ble_eq_true rfl⟩
def tL_layStone : ax_T := (yL_layStone, cL_layStone, 5, (Option.some FieldType.int), [(0, 10, 13, 24), (0, 10, 17, 13)])
theorem WK_L_layStone : ax_cw tL_layStone ∈ ax_W := ax_tw (ax_t6 (List.mem_of_getElem? (i := 145) (rfl))) rfl
theorem kL_layStone : ax_Kn tL_layStone 4 := ⟨plainFor_of_name (x := yL_layStone) pl_L, WK_L_layStone, mh_L, pd_54, Nat.le_of_ble_eq_true rfl⟩
def tL_takeBack : ax_T := (yL_takeBack, cL_takeBack, 3, (Option.some FieldType.int), [(0, 8, 11, 13)])
theorem WK_L_takeBack : ax_cw tL_takeBack ∈ ax_W := ax_tw (ax_t6 (List.mem_of_getElem? (i := 153) (rfl))) rfl
theorem kL_takeBack : ax_Kn tL_takeBack 2 := ⟨plainFor_of_name (x := yL_takeBack) pl_L, WK_L_takeBack, mh_L, pd_55, Nat.le_of_ble_eq_true rfl⟩
def tL_plannedCell : ax_T := (yL_plannedCell, cL_plannedCell, 3, (Option.some FieldType.int), [(0, 8, 11, 13)])
theorem WK_L_plannedCell : ax_cw tL_plannedCell ∈ ax_W := ax_tw (ax_t6 (List.mem_of_getElem? (i := 161) (rfl))) rfl
theorem kL_plannedCell : ax_Kn tL_plannedCell 2 := ⟨plainFor_of_name (x := yL_plannedCell) pl_L, WK_L_plannedCell, mh_L, pd_55, Nat.le_of_ble_eq_true rfl⟩
def tL_playByPlans : ax_T := (yL_playByPlans, cL_playByPlans, 4, (Option.some FieldType.int), [(0, 9, 12, 19)])
theorem WK_L_playByPlans : ax_cw tL_playByPlans ∈ ax_W := ax_tw (ax_t6 (List.mem_of_getElem? (i := 168) (rfl))) rfl
theorem kL_playByPlans : ax_Kn tL_playByPlans 3 := ⟨plainFor_of_name (x := yL_playByPlans) pl_L, WK_L_playByPlans, mh_L, pd_53, Nat.le_of_ble_eq_true rfl⟩
def tL_mustPlay : ax_T := (yL_mustPlay, cL_mustPlay, 3, (Option.some FieldType.int), [(0, 8, 11, 13)])
theorem WK_L_mustPlay : ax_cw tL_mustPlay ∈ ax_W := ax_tw (ax_t6 (List.mem_of_getElem? (i := 176) (rfl))) rfl
theorem kL_mustPlay : ax_Kn tL_mustPlay 2 := ⟨plainFor_of_name (x := yL_mustPlay) pl_L, WK_L_mustPlay, mh_L, pd_55, Nat.le_of_ble_eq_true rfl⟩
def tL_bestCell : ax_T := (yL_bestCell, cL_bestCell, 3, (Option.some FieldType.int), [(0, 8, 11, 13)])
theorem WK_L_bestCell : ax_cw tL_bestCell ∈ ax_W := ax_tw (ax_t6 (List.mem_of_getElem? (i := 185) (rfl))) rfl
theorem kL_bestCell : ax_Kn tL_bestCell 2 := ⟨plainFor_of_name (x := yL_bestCell) pl_L, WK_L_bestCell, mh_L, pd_55, Nat.le_of_ble_eq_true rfl⟩
