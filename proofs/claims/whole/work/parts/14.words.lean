/-! words by their places -/
theorem ax_tw {w : Cond} (h : w ∈ tables_1) (g : goodWord w = true) : w ∈ ax_W := List.mem_filter.mpr ⟨List.mem_append_right _ h, g⟩
theorem ax_tn {w : Cond} (h : w ∈ tables_1) (g : axNest w = true) : w ∈ axNw := List.mem_filter.mpr ⟨List.mem_append_right _ h, g⟩
theorem ax_ts {w : Cond} (h : w ∈ k2_sels lw_privs) (g : goodWord w = true) : w ∈ ax_W := List.mem_filter.mpr ⟨List.mem_append_left _ h, g⟩
theorem ax_tp {q : MethodName × Nat} (h : q ∈ lw_privs) : Cond.selects q.1.cls q.1 q.1 ∈ k2_sels lw_privs := List.mem_map.mpr ⟨q, h, rfl⟩
theorem ax_t1 {w : Cond} (h : w ∈ tables_1_1) : w ∈ tables_1 := List.mem_append_left _ h
theorem ax_t2 {w : Cond} (h : w ∈ tables_1_2) : w ∈ tables_1 := List.mem_append_right _ (List.mem_append_left _ h)
theorem ax_t3 {w : Cond} (h : w ∈ tables_1_3) : w ∈ tables_1 := List.mem_append_right _ (List.mem_append_right _ (List.mem_append_left _ h))
theorem ax_t4 {w : Cond} (h : w ∈ tables_1_4) : w ∈ tables_1 := List.mem_append_right _ (List.mem_append_right _ (List.mem_append_right _ (List.mem_append_left _ h)))
theorem ax_t5 {w : Cond} (h : w ∈ tables_1_5) : w ∈ tables_1 := List.mem_append_right _ (List.mem_append_right _ (List.mem_append_right _ (List.mem_append_right _ (List.mem_append_left _ h))))
theorem ax_t6 {w : Cond} (h : w ∈ tables_1_6) : w ∈ tables_1 := List.mem_append_right _ (List.mem_append_right _ (List.mem_append_right _ (List.mem_append_right _ (List.mem_append_right _ (List.mem_append_left _ h)))))
theorem ax_t7 {w : Cond} (h : w ∈ tables_1_7) : w ∈ tables_1 := List.mem_append_right _ (List.mem_append_right _ (List.mem_append_right _ (List.mem_append_right _ (List.mem_append_right _ (List.mem_append_right _ (List.mem_append_left _ h))))))
theorem ax_t8 {w : Cond} (h : w ∈ tables_1_8) : w ∈ tables_1 := List.mem_append_right _ (List.mem_append_right _ (List.mem_append_right _ (List.mem_append_right _ (List.mem_append_right _ (List.mem_append_right _ (List.mem_append_right _ (List.mem_append_left _ h)))))))
theorem ax_t9 {w : Cond} (h : w ∈ tables_1_9) : w ∈ tables_1 := List.mem_append_right _ (List.mem_append_right _ (List.mem_append_right _ (List.mem_append_right _ (List.mem_append_right _ (List.mem_append_right _ (List.mem_append_right _ (List.mem_append_right _ (h))))))))
theorem ax_p1 {w : MethodName × Nat} (h : w ∈ lw_privs_1) : w ∈ lw_privs := List.mem_append_left _ h
theorem ax_p2 {w : MethodName × Nat} (h : w ∈ lw_privs_2) : w ∈ lw_privs := List.mem_append_right _ (List.mem_append_left _ h)
theorem ax_p3 {w : MethodName × Nat} (h : w ∈ lw_privs_3) : w ∈ lw_privs := List.mem_append_right _ (List.mem_append_right _ (List.mem_append_left _ h))
theorem ax_p4 {w : MethodName × Nat} (h : w ∈ lw_privs_4) : w ∈ lw_privs := List.mem_append_right _ (List.mem_append_right _ (List.mem_append_right _ (List.mem_append_left _ h)))
theorem ax_p5 {w : MethodName × Nat} (h : w ∈ lw_privs_5) : w ∈ lw_privs := List.mem_append_right _ (List.mem_append_right _ (List.mem_append_right _ (List.mem_append_right _ (List.mem_append_left _ h))))
theorem ax_p6 {w : MethodName × Nat} (h : w ∈ lw_privs_6) : w ∈ lw_privs := List.mem_append_right _ (List.mem_append_right _ (List.mem_append_right _ (List.mem_append_right _ (List.mem_append_right _ (List.mem_append_left _ h)))))
theorem ax_p7 {w : MethodName × Nat} (h : w ∈ lw_privs_7) : w ∈ lw_privs := List.mem_append_right _ (List.mem_append_right _ (List.mem_append_right _ (List.mem_append_right _ (List.mem_append_right _ (List.mem_append_right _ (List.mem_append_left _ h))))))
theorem ax_p8 {w : MethodName × Nat} (h : w ∈ lw_privs_8) : w ∈ lw_privs := List.mem_append_right _ (List.mem_append_right _ (List.mem_append_right _ (List.mem_append_right _ (List.mem_append_right _ (List.mem_append_right _ (List.mem_append_right _ (h)))))))
theorem WN_L : Cond.initialized RL ∈ ax_W := ax_tw (ax_t1 (List.mem_of_getElem? (i := 0) (by decide +kernel))) rfl
theorem WN_X12 : Cond.initialized RX12 ∈ ax_W := ax_tw (ax_t1 (List.mem_of_getElem? (i := 1) (by decide +kernel))) rfl
theorem WN_X9 : Cond.initialized RX9 ∈ ax_W := ax_tw (ax_t1 (List.mem_of_getElem? (i := 2) (by decide +kernel))) rfl
theorem WN_X10 : Cond.initialized RX10 ∈ ax_W := ax_tw (ax_t1 (List.mem_of_getElem? (i := 3) (by decide +kernel))) rfl
theorem WN_X7 : Cond.initialized RX7 ∈ ax_W := ax_tw (ax_t1 (List.mem_of_getElem? (i := 4) (by decide +kernel))) rfl
theorem WN_X3 : Cond.initialized RX3 ∈ ax_W := ax_tw (ax_t1 (List.mem_of_getElem? (i := 5) (by decide +kernel))) rfl
theorem WN_X6 : Cond.initialized RX6 ∈ ax_W := ax_tw (ax_t1 (List.mem_of_getElem? (i := 6) (by decide +kernel))) rfl
theorem WN_X8 : Cond.initialized RX8 ∈ ax_W := ax_tw (ax_t1 (List.mem_of_getElem? (i := 7) (by decide +kernel))) rfl
theorem WN_J7 : Cond.initialized RJ7 ∈ ax_W := ax_tw (ax_t1 (List.mem_of_getElem? (i := 8) (by decide +kernel))) rfl
theorem WN_X4 : Cond.initialized RX4 ∈ ax_W := ax_tw (ax_t1 (List.mem_of_getElem? (i := 9) (by decide +kernel))) rfl
theorem WN_X1 : Cond.initialized RX1 ∈ ax_W := ax_tw (ax_t1 (List.mem_of_getElem? (i := 10) (by decide +kernel))) rfl
theorem WN_X11 : Cond.initialized RX11 ∈ ax_W := ax_tw (ax_t1 (List.mem_of_getElem? (i := 11) (by decide +kernel))) rfl
theorem WN_X2 : Cond.initialized RX2 ∈ ax_W := ax_tw (ax_t1 (List.mem_of_getElem? (i := 12) (by decide +kernel))) rfl
theorem WN_X14 : Cond.initialized RX14 ∈ ax_W := ax_tw (ax_t1 (List.mem_of_getElem? (i := 13) (by decide +kernel))) rfl
theorem WN_X13 : Cond.initialized RX13 ∈ ax_W := ax_tw (ax_t1 (List.mem_of_getElem? (i := 14) (by decide +kernel))) rfl
theorem WN_Jx29ce0 : Cond.initialized RJx29ce0 ∈ ax_W := ax_tw (ax_t1 (List.mem_of_getElem? (i := 20) (by decide +kernel))) rfl
theorem WN_X5 : Cond.initialized RX5 ∈ ax_W := ax_tw (ax_t1 (List.mem_of_getElem? (i := 21) (by decide +kernel))) rfl
theorem WN_J0 : Cond.initialized RJ0 ∈ ax_W := ax_tw (ax_t1 (List.mem_of_getElem? (i := 22) (by decide +kernel))) rfl
theorem WN_J1 : Cond.initialized RJ1 ∈ ax_W := ax_tw (ax_t1 (List.mem_of_getElem? (i := 23) (by decide +kernel))) rfl
theorem WN_J3 : Cond.initialized RJ3 ∈ ax_W := ax_tw (ax_t1 (List.mem_of_getElem? (i := 24) (by decide +kernel))) rfl
theorem WN_J2 : Cond.initialized RJ2 ∈ ax_W := ax_tw (ax_t1 (List.mem_of_getElem? (i := 25) (by decide +kernel))) rfl
theorem WN_J9 : Cond.initialized RJ9 ∈ ax_W := ax_tw (ax_t1 (List.mem_of_getElem? (i := 26) (by decide +kernel))) rfl
theorem WN_J10 : Cond.initialized RJ10 ∈ ax_W := ax_tw (ax_t1 (List.mem_of_getElem? (i := 27) (by decide +kernel))) rfl
theorem WN_X0 : Cond.initialized RX0 ∈ ax_W := ax_tw (ax_t1 (List.mem_of_getElem? (i := 29) (by decide +kernel))) rfl
theorem WC_L_8 : Cond.classLink RL 8 "HexPond" ∈ ax_W := ax_tw (ax_t1 (List.mem_of_getElem? (i := 30) (by decide +kernel))) rfl
theorem WB_X12 : Cond.instantiable RX12 12 ∈ ax_W := ax_tw (ax_t1 (List.mem_of_getElem? (i := 31) (by decide +kernel))) rfl
theorem WM_L_101 : Cond.methodLink RL 101 yX12_init ∈ ax_W := ax_tw (ax_t1 (List.mem_of_getElem? (i := 32) (by decide +kernel))) rfl
theorem WI_X12_init : Cond.instanceMethod yX12_init ∈ ax_W := ax_tw (ax_t1 (List.mem_of_getElem? (i := 33) (by decide +kernel))) rfl
theorem WM_X12_3 : Cond.methodLink RX12 3 ⟨"java/lang/Object", "<init>", "()V"⟩ ∈ ax_W := ax_tw (ax_t1 (List.mem_of_getElem? (i := 35) (by decide +kernel))) rfl
theorem WC_X12_9 : Cond.classLink RX12 9 "HexPond$Tape" ∈ ax_W := ax_tw (ax_t1 (List.mem_of_getElem? (i := 38) (by decide +kernel))) rfl
theorem WB_X9 : Cond.instantiable RX9 2 ∈ ax_W := ax_tw (ax_t1 (List.mem_of_getElem? (i := 39) (by decide +kernel))) rfl
theorem NM_X12_11 : Cond.methodLinkNest RX12 11 yX9_init "HexPond" ∈ axNw := ax_tn (ax_t1 (List.mem_of_getElem? (i := 40) (by decide +kernel))) rfl
theorem WI_X9_init : Cond.instanceMethod yX9_init ∈ ax_W := ax_tw (ax_t1 (List.mem_of_getElem? (i := 41) (by decide +kernel))) rfl
theorem WM_X9_3 : Cond.methodLink RX9 3 ⟨"java/lang/Object", "<init>", "()V"⟩ ∈ ax_W := ax_tw (ax_t1 (List.mem_of_getElem? (i := 43) (by decide +kernel))) rfl
theorem WF_X9_9 : Cond.fieldLink RX9 9 "HexPond$Tape" "bytes" "[B" ∈ ax_W := ax_tw (ax_t1 (List.mem_of_getElem? (i := 44) (by decide +kernel))) rfl
theorem WF_X9_15 : Cond.fieldLink RX9 15 "HexPond$Tape" "length" "I" ∈ ax_W := ax_tw (ax_t1 (List.mem_of_getElem? (i := 45) (by decide +kernel))) rfl
theorem WC_X12_16 : Cond.classLink RX12 16 "HexPond$Tokens" ∈ ax_W := ax_tw (ax_t1 (List.mem_of_getElem? (i := 52) (by decide +kernel))) rfl
theorem WB_X10 : Cond.instantiable RX10 4 ∈ ax_W := ax_tw (ax_t1 (List.mem_of_getElem? (i := 53) (by decide +kernel))) rfl
theorem NM_X12_18 : Cond.methodLinkNest RX12 18 yX10_init "HexPond" ∈ axNw := ax_tn (ax_t1 (List.mem_of_getElem? (i := 54) (by decide +kernel))) rfl
theorem WI_X10_init : Cond.instanceMethod yX10_init ∈ ax_W := ax_tw (ax_t1 (List.mem_of_getElem? (i := 55) (by decide +kernel))) rfl
theorem WM_X10_3 : Cond.methodLink RX10 3 ⟨"java/lang/Object", "<init>", "()V"⟩ ∈ ax_W := ax_tw (ax_t1 (List.mem_of_getElem? (i := 57) (by decide +kernel))) rfl
theorem WC_X10_9 : Cond.classLink RX10 9 "HexPond$Kind" ∈ ax_W := ax_tw (ax_t1 (List.mem_of_getElem? (i := 58) (by decide +kernel))) rfl
theorem WF_X10_11 : Cond.fieldLink RX10 11 "HexPond$Tokens" "kinds" "[LHexPond$Kind;" ∈ ax_W := ax_tw (ax_t1 (List.mem_of_getElem? (i := 60) (by decide +kernel))) rfl
theorem WF_X10_17 : Cond.fieldLink RX10 17 "HexPond$Tokens" "starts" "[I" ∈ ax_W := ax_tw (ax_t1 (List.mem_of_getElem? (i := 61) (by decide +kernel))) rfl
theorem WF_X10_21 : Cond.fieldLink RX10 21 "HexPond$Tokens" "values" "[I" ∈ ax_W := ax_tw (ax_t1 (List.mem_of_getElem? (i := 62) (by decide +kernel))) rfl
theorem WF_X10_24 : Cond.fieldLink RX10 24 "HexPond$Tokens" "count" "I" ∈ ax_W := ax_tw (ax_t1 (List.mem_of_getElem? (i := 63) (by decide +kernel))) rfl
theorem WC_X12_23 : Cond.classLink RX12 23 "HexPond$Plans" ∈ ax_W := ax_tw (ax_t1 (List.mem_of_getElem? (i := 74) (by decide +kernel))) rfl
theorem WB_X7 : Cond.instantiable RX7 10 ∈ ax_W := ax_tw (ax_t1 (List.mem_of_getElem? (i := 75) (by decide +kernel))) rfl
theorem NM_X12_25 : Cond.methodLinkNest RX12 25 yX7_init "HexPond" ∈ axNw := ax_tn (ax_t1 (List.mem_of_getElem? (i := 76) (by decide +kernel))) rfl
theorem WI_X7_init : Cond.instanceMethod yX7_init ∈ ax_W := ax_tw (ax_t1 (List.mem_of_getElem? (i := 77) (by decide +kernel))) rfl
theorem WM_X7_3 : Cond.methodLink RX7 3 ⟨"java/lang/Object", "<init>", "()V"⟩ ∈ ax_W := ax_tw (ax_t1 (List.mem_of_getElem? (i := 79) (by decide +kernel))) rfl
theorem WC_X7_9 : Cond.classLink RX7 9 "HexPond$Kind" ∈ ax_W := ax_tw (ax_t1 (List.mem_of_getElem? (i := 80) (by decide +kernel))) rfl
theorem WF_X7_11 : Cond.fieldLink RX7 11 "HexPond$Plans" "ops" "[LHexPond$Kind;" ∈ ax_W := ax_tw (ax_t1 (List.mem_of_getElem? (i := 81) (by decide +kernel))) rfl
theorem WF_X7_17 : Cond.fieldLink RX7 17 "HexPond$Plans" "operands" "[I" ∈ ax_W := ax_tw (ax_t1 (List.mem_of_getElem? (i := 82) (by decide +kernel))) rfl
theorem WF_X7_39 : Cond.fieldLink RX7 39 "HexPond$Plans" "codeLength" "I" ∈ ax_W := ax_tw (ax_t1 (List.mem_of_getElem? (i := 83) (by decide +kernel))) rfl
theorem WF_X7_21 : Cond.fieldLink RX7 21 "HexPond$Plans" "moves" "[LHexPond$Kind;" ∈ ax_W := ax_tw (ax_t1 (List.mem_of_getElem? (i := 84) (by decide +kernel))) rfl
theorem WF_X7_24 : Cond.fieldLink RX7 24 "HexPond$Plans" "players" "[I" ∈ ax_W := ax_tw (ax_t1 (List.mem_of_getElem? (i := 85) (by decide +kernel))) rfl
theorem WF_X7_27 : Cond.fieldLink RX7 27 "HexPond$Plans" "columnStarts" "[I" ∈ ax_W := ax_tw (ax_t1 (List.mem_of_getElem? (i := 86) (by decide +kernel))) rfl
theorem WF_X7_30 : Cond.fieldLink RX7 30 "HexPond$Plans" "rowStarts" "[I" ∈ ax_W := ax_tw (ax_t1 (List.mem_of_getElem? (i := 87) (by decide +kernel))) rfl
theorem WF_X7_33 : Cond.fieldLink RX7 33 "HexPond$Plans" "testStarts" "[I" ∈ ax_W := ax_tw (ax_t1 (List.mem_of_getElem? (i := 88) (by decide +kernel))) rfl
theorem WF_X7_36 : Cond.fieldLink RX7 36 "HexPond$Plans" "ends" "[I" ∈ ax_W := ax_tw (ax_t1 (List.mem_of_getElem? (i := 89) (by decide +kernel))) rfl
theorem WF_X7_43 : Cond.fieldLink RX7 43 "HexPond$Plans" "count" "I" ∈ ax_W := ax_tw (ax_t1 (List.mem_of_getElem? (i := 90) (by decide +kernel))) rfl
theorem WC_X12_30 : Cond.classLink RX12 30 "HexPond$Grammar" ∈ ax_W := ax_tw (ax_t1 (List.mem_of_getElem? (i := 112) (by decide +kernel))) rfl
theorem WB_X3 : Cond.instantiable RX3 4 ∈ ax_W := ax_tw (ax_t1 (List.mem_of_getElem? (i := 113) (by decide +kernel))) rfl
theorem WM_X12_32 : Cond.methodLink RX12 32 yX3_init ∈ ax_W := ax_tw (ax_t1 (List.mem_of_getElem? (i := 114) (by decide +kernel))) rfl
theorem WI_X3_init : Cond.instanceMethod yX3_init ∈ ax_W := ax_tw (ax_t1 (List.mem_of_getElem? (i := 115) (by decide +kernel))) rfl
theorem WM_X3_3 : Cond.methodLink RX3 3 ⟨"java/lang/Object", "<init>", "()V"⟩ ∈ ax_W := ax_tw (ax_t1 (List.mem_of_getElem? (i := 117) (by decide +kernel))) rfl
theorem WF_X3_9 : Cond.fieldLink RX3 9 "HexPond$Grammar" "tokens" "LHexPond$Tokens;" ∈ ax_W := ax_tw (ax_t1 (List.mem_of_getElem? (i := 118) (by decide +kernel))) rfl
theorem WF_X3_15 : Cond.fieldLink RX3 15 "HexPond$Grammar" "plans" "LHexPond$Plans;" ∈ ax_W := ax_tw (ax_t1 (List.mem_of_getElem? (i := 119) (by decide +kernel))) rfl
theorem WF_X3_24 : Cond.fieldLink RX3 24 "HexPond$Grammar" "token" "I" ∈ ax_W := ax_tw (ax_t1 (List.mem_of_getElem? (i := 120) (by decide +kernel))) rfl
theorem WF_X3_28 : Cond.fieldLink RX3 28 "HexPond$Grammar" "failed" "Z" ∈ ax_W := ax_tw (ax_t1 (List.mem_of_getElem? (i := 121) (by decide +kernel))) rfl
theorem WC_X12_39 : Cond.classLink RX12 39 "HexPond$Meaning" ∈ ax_W := ax_tw (ax_t1 (List.mem_of_getElem? (i := 131) (by decide +kernel))) rfl
theorem WB_X6 : Cond.instantiable RX6 6 ∈ ax_W := ax_tw (ax_t1 (List.mem_of_getElem? (i := 132) (by decide +kernel))) rfl
theorem WM_X12_41 : Cond.methodLink RX12 41 yX6_init ∈ ax_W := ax_tw (ax_t1 (List.mem_of_getElem? (i := 133) (by decide +kernel))) rfl
theorem WI_X6_init : Cond.instanceMethod yX6_init ∈ ax_W := ax_tw (ax_t1 (List.mem_of_getElem? (i := 134) (by decide +kernel))) rfl
theorem WM_X6_3 : Cond.methodLink RX6 3 ⟨"java/lang/Object", "<init>", "()V"⟩ ∈ ax_W := ax_tw (ax_t1 (List.mem_of_getElem? (i := 136) (by decide +kernel))) rfl
theorem WF_X6_15 : Cond.fieldLink RX6 15 "HexPond$Meaning" "tokens" "LHexPond$Tokens;" ∈ ax_W := ax_tw (ax_t1 (List.mem_of_getElem? (i := 137) (by decide +kernel))) rfl
theorem WF_X6_9 : Cond.fieldLink RX6 9 "HexPond$Meaning" "owners" "[I" ∈ ax_W := ax_tw (ax_t1 (List.mem_of_getElem? (i := 138) (by decide +kernel))) rfl
theorem WF_X6_19 : Cond.fieldLink RX6 19 "HexPond$Meaning" "columns" "I" ∈ ax_W := ax_tw (ax_t1 (List.mem_of_getElem? (i := 139) (by decide +kernel))) rfl
theorem WF_X6_23 : Cond.fieldLink RX6 23 "HexPond$Meaning" "rows" "I" ∈ ax_W := ax_tw (ax_t1 (List.mem_of_getElem? (i := 140) (by decide +kernel))) rfl
theorem WF_X6_29 : Cond.fieldLink RX6 29 "HexPond$Meaning" "plans" "I" ∈ ax_W := ax_tw (ax_t1 (List.mem_of_getElem? (i := 141) (by decide +kernel))) rfl
theorem WF_X6_26 : Cond.fieldLink RX6 26 "HexPond$Meaning" "wrongToken" "I" ∈ ax_W := ax_tw (ax_t1 (List.mem_of_getElem? (i := 142) (by decide +kernel))) rfl
theorem WC_X12_48 : Cond.classLink RX12 48 "HexPond$Pond" ∈ ax_W := ax_tw (ax_t1 (List.mem_of_getElem? (i := 156) (by decide +kernel))) rfl
theorem WB_X8 : Cond.instantiable RX8 10 ∈ ax_W := ax_tw (ax_t1 (List.mem_of_getElem? (i := 157) (by decide +kernel))) rfl
theorem WM_X12_50 : Cond.methodLink RX12 50 yX8_init ∈ ax_W := ax_tw (ax_t1 (List.mem_of_getElem? (i := 158) (by decide +kernel))) rfl
theorem WI_X8_init : Cond.instanceMethod yX8_init ∈ ax_W := ax_tw (ax_t1 (List.mem_of_getElem? (i := 159) (by decide +kernel))) rfl
theorem WM_X8_3 : Cond.methodLink RX8 3 ⟨"java/lang/Object", "<init>", "()V"⟩ ∈ ax_W := ax_tw (ax_t1 (List.mem_of_getElem? (i := 161) (by decide +kernel))) rfl
theorem WM_X8_30 : Cond.methodLink RX8 30 yX8_begin ∈ ax_W := ax_tw (ax_t1 (List.mem_of_getElem? (i := 162) (by decide +kernel))) rfl
theorem WI_X8_begin : Cond.instanceMethod yX8_begin ∈ ax_W := ax_tw (ax_t1 (List.mem_of_getElem? (i := 163) (by decide +kernel))) rfl
theorem WS_X8_begin : Cond.selects RX8 yX8_begin yX8_begin ∈ ax_W := ax_tw (ax_t1 (List.mem_of_getElem? (i := 164) (by decide +kernel))) rfl
theorem WM_X8_47 : Cond.methodLink RX8 47 yJ7_fill_53178 ∈ ax_W := ax_tw (ax_t1 (List.mem_of_getElem? (i := 166) (by decide +kernel))) rfl
theorem WT_J7_fill_53178 : Cond.static yJ7_fill_53178 ∈ ax_W := ax_tw (ax_t1 (List.mem_of_getElem? (i := 167) (by decide +kernel))) rfl
theorem WM_X8_53 : Cond.methodLink RX8 53 yX8_placeCell ∈ ax_W := ax_tw (ax_t1 (List.mem_of_getElem? (i := 169) (by decide +kernel))) rfl
theorem WI_X8_placeCell : Cond.instanceMethod yX8_placeCell ∈ ax_W := ax_tw (ax_t1 (List.mem_of_getElem? (i := 171) (by decide +kernel))) rfl
theorem NF_X8_56 : Cond.fieldLinkNest RX8 56 "HexPond" "COLUMN_STEPS" "[I" "HexPond" ∈ axNw := ax_tn (ax_t1 (List.mem_of_getElem? (i := 173) (by decide +kernel))) rfl
theorem NF_X8_59 : Cond.fieldLinkNest RX8 59 "HexPond" "ROW_STEPS" "[I" "HexPond" ∈ axNw := ax_tn (ax_t1 (List.mem_of_getElem? (i := 175) (by decide +kernel))) rfl
theorem WM_X8_62 : Cond.methodLink RX8 62 yX8_cellAt ∈ ax_W := ax_tw (ax_t1 (List.mem_of_getElem? (i := 177) (by decide +kernel))) rfl
theorem WI_X8_cellAt : Cond.instanceMethod yX8_cellAt ∈ ax_W := ax_tw (ax_t1 (List.mem_of_getElem? (i := 178) (by decide +kernel))) rfl
theorem WS_X8_cellAt : Cond.selects RX8 yX8_cellAt yX8_cellAt ∈ ax_W := ax_tw (ax_t1 (List.mem_of_getElem? (i := 179) (by decide +kernel))) rfl
theorem WF_X8_34 : Cond.fieldLink RX8 34 "HexPond$Pond" "columns" "I" ∈ ax_W := ax_tw (ax_t1 (List.mem_of_getElem? (i := 181) (by decide +kernel))) rfl
theorem WF_X8_38 : Cond.fieldLink RX8 38 "HexPond$Pond" "rows" "I" ∈ ax_W := ax_tw (ax_t1 (List.mem_of_getElem? (i := 182) (by decide +kernel))) rfl
theorem WF_X8_9 : Cond.fieldLink RX8 9 "HexPond$Pond" "owners" "[I" ∈ ax_W := ax_tw (ax_t1 (List.mem_of_getElem? (i := 183) (by decide +kernel))) rfl
theorem WF_X8_15 : Cond.fieldLink RX8 15 "HexPond$Pond" "besides" "[I" ∈ ax_W := ax_tw (ax_t1 (List.mem_of_getElem? (i := 184) (by decide +kernel))) rfl
theorem WF_X8_18 : Cond.fieldLink RX8 18 "HexPond$Pond" "columnsOf" "[I" ∈ ax_W := ax_tw (ax_t1 (List.mem_of_getElem? (i := 185) (by decide +kernel))) rfl
theorem WF_X8_21 : Cond.fieldLink RX8 21 "HexPond$Pond" "rowsOf" "[I" ∈ ax_W := ax_tw (ax_t1 (List.mem_of_getElem? (i := 186) (by decide +kernel))) rfl
theorem WF_X8_24 : Cond.fieldLink RX8 24 "HexPond$Pond" "stones" "[I" ∈ ax_W := ax_tw (ax_t1 (List.mem_of_getElem? (i := 187) (by decide +kernel))) rfl
theorem WF_X8_27 : Cond.fieldLink RX8 27 "HexPond$Pond" "laid" "[I" ∈ ax_W := ax_tw (ax_t1 (List.mem_of_getElem? (i := 188) (by decide +kernel))) rfl
theorem WF_X8_41 : Cond.fieldLink RX8 41 "HexPond$Pond" "laidStones" "I" ∈ ax_W := ax_tw (ax_t1 (List.mem_of_getElem? (i := 189) (by decide +kernel))) rfl
theorem WF_X8_44 : Cond.fieldLink RX8 44 "HexPond$Pond" "changes" "I" ∈ ax_W := ax_tw (ax_t1 (List.mem_of_getElem? (i := 190) (by decide +kernel))) rfl
theorem WC_X12_55 : Cond.classLink RX12 55 "HexPond$Groups" ∈ ax_W := ax_tw (ax_t1 (List.mem_of_getElem? (i := 212) (by decide +kernel))) rfl
theorem WB_X4 : Cond.instantiable RX4 6 ∈ ax_W := ax_tw (ax_t1 (List.mem_of_getElem? (i := 213) (by decide +kernel))) rfl
theorem WM_X12_57 : Cond.methodLink RX12 57 yX4_init ∈ ax_W := ax_tw (ax_t1 (List.mem_of_getElem? (i := 214) (by decide +kernel))) rfl
theorem WI_X4_init : Cond.instanceMethod yX4_init ∈ ax_W := ax_tw (ax_t1 (List.mem_of_getElem? (i := 215) (by decide +kernel))) rfl
theorem WM_X4_3 : Cond.methodLink RX4 3 ⟨"java/lang/Object", "<init>", "()V"⟩ ∈ ax_W := ax_tw (ax_t1 (List.mem_of_getElem? (i := 217) (by decide +kernel))) rfl
theorem WF_X4_18 : Cond.fieldLink RX4 18 "HexPond$Groups" "pond" "LHexPond$Pond;" ∈ ax_W := ax_tw (ax_t1 (List.mem_of_getElem? (i := 218) (by decide +kernel))) rfl
theorem WF_X4_9 : Cond.fieldLink RX4 9 "HexPond$Groups" "marks" "[I" ∈ ax_W := ax_tw (ax_t1 (List.mem_of_getElem? (i := 219) (by decide +kernel))) rfl
theorem WF_X4_15 : Cond.fieldLink RX4 15 "HexPond$Groups" "queue" "[I" ∈ ax_W := ax_tw (ax_t1 (List.mem_of_getElem? (i := 220) (by decide +kernel))) rfl
theorem WF_X4_32 : Cond.fieldLink RX4 32 "HexPond$Groups" "queued" "I" ∈ ax_W := ax_tw (ax_t1 (List.mem_of_getElem? (i := 221) (by decide +kernel))) rfl
theorem WF_X4_50 : Cond.fieldLink RX4 50 "HexPond$Groups" "count" "I" ∈ ax_W := ax_tw (ax_t1 (List.mem_of_getElem? (i := 222) (by decide +kernel))) rfl
theorem WF_X4_53 : Cond.fieldLink RX4 53 "HexPond$Groups" "greatest" "I" ∈ ax_W := ax_tw (ax_t1 (List.mem_of_getElem? (i := 223) (by decide +kernel))) rfl
theorem WC_X12_64 : Cond.classLink RX12 64 "HexPond$Bridges" ∈ ax_W := ax_tw (ax_t1 (List.mem_of_getElem? (i := 237) (by decide +kernel))) rfl
theorem WB_X1 : Cond.instantiable RX1 5 ∈ ax_W := ax_tw (ax_t1 (List.mem_of_getElem? (i := 238) (by decide +kernel))) rfl
theorem WM_X12_66 : Cond.methodLink RX12 66 yX1_init ∈ ax_W := ax_tw (ax_t1 (List.mem_of_getElem? (i := 239) (by decide +kernel))) rfl
theorem WI_X1_init : Cond.instanceMethod yX1_init ∈ ax_W := ax_tw (ax_t2 (List.mem_of_getElem? (i := 0) (by decide +kernel))) rfl
theorem WM_X1_3 : Cond.methodLink RX1 3 ⟨"java/lang/Object", "<init>", "()V"⟩ ∈ ax_W := ax_tw (ax_t2 (List.mem_of_getElem? (i := 2) (by decide +kernel))) rfl
theorem WF_X1_25 : Cond.fieldLink RX1 25 "HexPond$Bridges" "pond" "LHexPond$Pond;" ∈ ax_W := ax_tw (ax_t2 (List.mem_of_getElem? (i := 3) (by decide +kernel))) rfl
theorem WF_X1_9 : Cond.fieldLink RX1 9 "HexPond$Bridges" "whole" "[I" ∈ ax_W := ax_tw (ax_t2 (List.mem_of_getElem? (i := 4) (by decide +kernel))) rfl
theorem WF_X1_15 : Cond.fieldLink RX1 15 "HexPond$Bridges" "broken" "[I" ∈ ax_W := ax_tw (ax_t2 (List.mem_of_getElem? (i := 5) (by decide +kernel))) rfl
theorem WF_X1_18 : Cond.fieldLink RX1 18 "HexPond$Bridges" "saving" "[I" ∈ ax_W := ax_tw (ax_t2 (List.mem_of_getElem? (i := 6) (by decide +kernel))) rfl
theorem WF_X1_21 : Cond.fieldLink RX1 21 "HexPond$Bridges" "seenChanges" "I" ∈ ax_W := ax_tw (ax_t2 (List.mem_of_getElem? (i := 7) (by decide +kernel))) rfl
theorem WC_X12_71 : Cond.classLink RX12 71 "HexPond$Ways" ∈ ax_W := ax_tw (ax_t2 (List.mem_of_getElem? (i := 19) (by decide +kernel))) rfl
theorem WB_X11 : Cond.instantiable RX11 7 ∈ ax_W := ax_tw (ax_t2 (List.mem_of_getElem? (i := 20) (by decide +kernel))) rfl
theorem WM_X12_73 : Cond.methodLink RX12 73 yX11_init ∈ ax_W := ax_tw (ax_t2 (List.mem_of_getElem? (i := 21) (by decide +kernel))) rfl
theorem WI_X11_init : Cond.instanceMethod yX11_init ∈ ax_W := ax_tw (ax_t2 (List.mem_of_getElem? (i := 22) (by decide +kernel))) rfl
theorem WM_X11_3 : Cond.methodLink RX11 3 ⟨"java/lang/Object", "<init>", "()V"⟩ ∈ ax_W := ax_tw (ax_t2 (List.mem_of_getElem? (i := 24) (by decide +kernel))) rfl
theorem WC_X11_9 : Cond.classLink RX11 9 "[[I" ∈ ax_W := ax_tw (ax_t2 (List.mem_of_getElem? (i := 25) (by decide +kernel))) rfl
theorem WM_X11_30 : Cond.methodLink RX11 30 yJ7_fill_53178 ∈ ax_W := ax_tw (ax_t2 (List.mem_of_getElem? (i := 27) (by decide +kernel))) rfl
theorem WF_X11_26 : Cond.fieldLink RX11 26 "HexPond$Ways" "pond" "LHexPond$Pond;" ∈ ax_W := ax_tw (ax_t2 (List.mem_of_getElem? (i := 28) (by decide +kernel))) rfl
theorem WF_X11_11 : Cond.fieldLink RX11 11 "HexPond$Ways" "distances" "[[I" ∈ ax_W := ax_tw (ax_t2 (List.mem_of_getElem? (i := 29) (by decide +kernel))) rfl
theorem WF_X11_16 : Cond.fieldLink RX11 16 "HexPond$Ways" "seenChanges" "[I" ∈ ax_W := ax_tw (ax_t2 (List.mem_of_getElem? (i := 30) (by decide +kernel))) rfl
theorem WF_X11_20 : Cond.fieldLink RX11 20 "HexPond$Ways" "needs" "[I" ∈ ax_W := ax_tw (ax_t2 (List.mem_of_getElem? (i := 31) (by decide +kernel))) rfl
theorem WF_X11_23 : Cond.fieldLink RX11 23 "HexPond$Ways" "queue" "[I" ∈ ax_W := ax_tw (ax_t2 (List.mem_of_getElem? (i := 32) (by decide +kernel))) rfl
theorem WF_X11_72 : Cond.fieldLink RX11 72 "HexPond$Ways" "queueFirst" "I" ∈ ax_W := ax_tw (ax_t2 (List.mem_of_getElem? (i := 33) (by decide +kernel))) rfl
theorem WF_X11_76 : Cond.fieldLink RX11 76 "HexPond$Ways" "queueEnd" "I" ∈ ax_W := ax_tw (ax_t2 (List.mem_of_getElem? (i := 34) (by decide +kernel))) rfl
theorem WC_X12_78 : Cond.classLink RX12 78 "HexPond$Chooser" ∈ ax_W := ax_tw (ax_t2 (List.mem_of_getElem? (i := 50) (by decide +kernel))) rfl
theorem WB_X2 : Cond.instantiable RX2 5 ∈ ax_W := ax_tw (ax_t2 (List.mem_of_getElem? (i := 51) (by decide +kernel))) rfl
theorem WM_X12_80 : Cond.methodLink RX12 80 yX2_init ∈ ax_W := ax_tw (ax_t2 (List.mem_of_getElem? (i := 52) (by decide +kernel))) rfl
theorem WI_X2_init : Cond.instanceMethod yX2_init ∈ ax_W := ax_tw (ax_t2 (List.mem_of_getElem? (i := 53) (by decide +kernel))) rfl
theorem WM_X2_3 : Cond.methodLink RX2 3 ⟨"java/lang/Object", "<init>", "()V"⟩ ∈ ax_W := ax_tw (ax_t2 (List.mem_of_getElem? (i := 55) (by decide +kernel))) rfl
theorem WF_X2_15 : Cond.fieldLink RX2 15 "HexPond$Chooser" "pond" "LHexPond$Pond;" ∈ ax_W := ax_tw (ax_t2 (List.mem_of_getElem? (i := 56) (by decide +kernel))) rfl
theorem WF_X2_19 : Cond.fieldLink RX2 19 "HexPond$Chooser" "bridges" "LHexPond$Bridges;" ∈ ax_W := ax_tw (ax_t2 (List.mem_of_getElem? (i := 57) (by decide +kernel))) rfl
theorem WF_X2_23 : Cond.fieldLink RX2 23 "HexPond$Chooser" "ways" "LHexPond$Ways;" ∈ ax_W := ax_tw (ax_t2 (List.mem_of_getElem? (i := 58) (by decide +kernel))) rfl
theorem WF_X2_9 : Cond.fieldLink RX2 9 "HexPond$Chooser" "stack" "[I" ∈ ax_W := ax_tw (ax_t2 (List.mem_of_getElem? (i := 59) (by decide +kernel))) rfl
theorem WF_X2_118 : Cond.fieldLink RX2 118 "HexPond$Chooser" "height" "I" ∈ ax_W := ax_tw (ax_t2 (List.mem_of_getElem? (i := 60) (by decide +kernel))) rfl
theorem WF_X12_12 : Cond.fieldLink RX12 12 "HexPond" "tape" "LHexPond$Tape;" ∈ ax_W := ax_tw (ax_t2 (List.mem_of_getElem? (i := 72) (by decide +kernel))) rfl
theorem WF_X12_19 : Cond.fieldLink RX12 19 "HexPond" "tokens" "LHexPond$Tokens;" ∈ ax_W := ax_tw (ax_t2 (List.mem_of_getElem? (i := 73) (by decide +kernel))) rfl
theorem WF_X12_35 : Cond.fieldLink RX12 35 "HexPond" "grammar" "LHexPond$Grammar;" ∈ ax_W := ax_tw (ax_t2 (List.mem_of_getElem? (i := 74) (by decide +kernel))) rfl
theorem WF_X12_44 : Cond.fieldLink RX12 44 "HexPond" "meaning" "LHexPond$Meaning;" ∈ ax_W := ax_tw (ax_t2 (List.mem_of_getElem? (i := 75) (by decide +kernel))) rfl
theorem WF_X12_51 : Cond.fieldLink RX12 51 "HexPond" "pond" "LHexPond$Pond;" ∈ ax_W := ax_tw (ax_t2 (List.mem_of_getElem? (i := 76) (by decide +kernel))) rfl
theorem WF_X12_60 : Cond.fieldLink RX12 60 "HexPond" "groups" "LHexPond$Groups;" ∈ ax_W := ax_tw (ax_t2 (List.mem_of_getElem? (i := 77) (by decide +kernel))) rfl
theorem WF_X12_67 : Cond.fieldLink RX12 67 "HexPond" "bridges" "LHexPond$Bridges;" ∈ ax_W := ax_tw (ax_t2 (List.mem_of_getElem? (i := 78) (by decide +kernel))) rfl
theorem WF_X12_74 : Cond.fieldLink RX12 74 "HexPond" "ways" "LHexPond$Ways;" ∈ ax_W := ax_tw (ax_t2 (List.mem_of_getElem? (i := 79) (by decide +kernel))) rfl
theorem WF_X12_83 : Cond.fieldLink RX12 83 "HexPond" "chooser" "LHexPond$Chooser;" ∈ ax_W := ax_tw (ax_t2 (List.mem_of_getElem? (i := 80) (by decide +kernel))) rfl
theorem WF_X12_87 : Cond.fieldLink RX12 87 "HexPond" "plans" "LHexPond$Plans;" ∈ ax_W := ax_tw (ax_t2 (List.mem_of_getElem? (i := 81) (by decide +kernel))) rfl
theorem WF_X12_26 : Cond.fieldLink RX12 26 "HexPond" "sparePlans" "LHexPond$Plans;" ∈ ax_W := ax_tw (ax_t2 (List.mem_of_getElem? (i := 82) (by decide +kernel))) rfl
theorem WF_X12_90 : Cond.fieldLink RX12 90 "HexPond" "errorAt" "I" ∈ ax_W := ax_tw (ax_t2 (List.mem_of_getElem? (i := 83) (by decide +kernel))) rfl
theorem WM_L_118 : Cond.methodLink RL 118 yX12_teach ∈ ax_W := ax_tw (ax_t2 (List.mem_of_getElem? (i := 109) (by decide +kernel))) rfl
theorem WI_X12_teach : Cond.instanceMethod yX12_teach ∈ ax_W := ax_tw (ax_t2 (List.mem_of_getElem? (i := 110) (by decide +kernel))) rfl
theorem WS_X12_teach : Cond.selects RX12 yX12_teach yX12_teach ∈ ax_W := ax_tw (ax_t2 (List.mem_of_getElem? (i := 111) (by decide +kernel))) rfl
theorem WM_X12_117 : Cond.methodLink RX12 117 yX10_read ∈ ax_W := ax_tw (ax_t2 (List.mem_of_getElem? (i := 113) (by decide +kernel))) rfl
theorem WI_X10_read : Cond.instanceMethod yX10_read ∈ ax_W := ax_tw (ax_t2 (List.mem_of_getElem? (i := 114) (by decide +kernel))) rfl
theorem WS_X10_read : Cond.selects RX10 yX10_read yX10_read ∈ ax_W := ax_tw (ax_t2 (List.mem_of_getElem? (i := 115) (by decide +kernel))) rfl
theorem WM_X10_32 : Cond.methodLink RX10 32 yX10_behindBlanks ∈ ax_W := ax_tw (ax_t2 (List.mem_of_getElem? (i := 117) (by decide +kernel))) rfl
theorem WT_X10_behindBlanks : Cond.static yX10_behindBlanks ∈ ax_W := ax_tw (ax_t2 (List.mem_of_getElem? (i := 118) (by decide +kernel))) rfl
theorem WM_X10_57 : Cond.methodLink RX10 57 yX9_length ∈ ax_W := ax_tw (ax_t2 (List.mem_of_getElem? (i := 120) (by decide +kernel))) rfl
theorem WI_X9_length : Cond.instanceMethod yX9_length ∈ ax_W := ax_tw (ax_t2 (List.mem_of_getElem? (i := 121) (by decide +kernel))) rfl
theorem WS_X9_length : Cond.selects RX9 yX9_length yX9_length ∈ ax_W := ax_tw (ax_t2 (List.mem_of_getElem? (i := 122) (by decide +kernel))) rfl
theorem WM_X10_63 : Cond.methodLink RX10 63 yX9_byteAt ∈ ax_W := ax_tw (ax_t2 (List.mem_of_getElem? (i := 124) (by decide +kernel))) rfl
theorem WI_X9_byteAt : Cond.instanceMethod yX9_byteAt ∈ ax_W := ax_tw (ax_t2 (List.mem_of_getElem? (i := 125) (by decide +kernel))) rfl
theorem WS_X9_byteAt : Cond.selects RX9 yX9_byteAt yX9_byteAt ∈ ax_W := ax_tw (ax_t2 (List.mem_of_getElem? (i := 126) (by decide +kernel))) rfl
theorem WM_X10_67 : Cond.methodLink RX10 67 yX10_isBlank ∈ ax_W := ax_tw (ax_t2 (List.mem_of_getElem? (i := 128) (by decide +kernel))) rfl
theorem WT_X10_isBlank : Cond.static yX10_isBlank ∈ ax_W := ax_tw (ax_t2 (List.mem_of_getElem? (i := 129) (by decide +kernel))) rfl
theorem WM_X10_36 : Cond.methodLink RX10 36 yX10_behindToken ∈ ax_W := ax_tw (ax_t2 (List.mem_of_getElem? (i := 131) (by decide +kernel))) rfl
theorem WT_X10_behindToken : Cond.static yX10_behindToken ∈ ax_W := ax_tw (ax_t2 (List.mem_of_getElem? (i := 132) (by decide +kernel))) rfl
theorem WM_X10_71 : Cond.methodLink RX10 71 yX10_isLetter ∈ ax_W := ax_tw (ax_t2 (List.mem_of_getElem? (i := 134) (by decide +kernel))) rfl
theorem WT_X10_isLetter : Cond.static yX10_isLetter ∈ ax_W := ax_tw (ax_t2 (List.mem_of_getElem? (i := 135) (by decide +kernel))) rfl
theorem WM_X10_74 : Cond.methodLink RX10 74 yX10_isDigit ∈ ax_W := ax_tw (ax_t2 (List.mem_of_getElem? (i := 137) (by decide +kernel))) rfl
theorem WT_X10_isDigit : Cond.static yX10_isDigit ∈ ax_W := ax_tw (ax_t2 (List.mem_of_getElem? (i := 138) (by decide +kernel))) rfl
theorem WM_X10_39 : Cond.methodLink RX10 39 yX10_kindBetween ∈ ax_W := ax_tw (ax_t2 (List.mem_of_getElem? (i := 140) (by decide +kernel))) rfl
theorem WT_X10_kindBetween : Cond.static yX10_kindBetween ∈ ax_W := ax_tw (ax_t2 (List.mem_of_getElem? (i := 141) (by decide +kernel))) rfl
theorem WF_X10_28 : Cond.fieldLink RX10 28 "HexPond$Kind" "END" "LHexPond$Kind;" ∈ ax_W := ax_tw (ax_t2 (List.mem_of_getElem? (i := 143) (by decide +kernel))) rfl
theorem WF_X10_46 : Cond.fieldLink RX10 46 "HexPond$Kind" "NUMBER" "LHexPond$Kind;" ∈ ax_W := ax_tw (ax_t2 (List.mem_of_getElem? (i := 145) (by decide +kernel))) rfl
theorem WF_X10_43 : Cond.fieldLink RX10 43 "HexPond$Kind" "WRONG" "LHexPond$Kind;" ∈ ax_W := ax_tw (ax_t2 (List.mem_of_getElem? (i := 147) (by decide +kernel))) rfl
theorem NF_X10_77 : Cond.fieldLinkNest RX10 77 "HexPond" "KINDS" "[LHexPond$Kind;" "HexPond" ∈ axNw := ax_tn (ax_t2 (List.mem_of_getElem? (i := 149) (by decide +kernel))) rfl
theorem WM_X10_80 : Cond.methodLink RX10 80 yX5_isWrittenAt ∈ ax_W := ax_tw (ax_t2 (List.mem_of_getElem? (i := 151) (by decide +kernel))) rfl
theorem WI_X5_isWrittenAt : Cond.instanceMethod yX5_isWrittenAt ∈ ax_W := ax_tw (ax_t2 (List.mem_of_getElem? (i := 152) (by decide +kernel))) rfl
theorem WS_X5_isWrittenAt : Cond.selects RX5 yX5_isWrittenAt yX5_isWrittenAt ∈ ax_W := ax_tw (ax_t2 (List.mem_of_getElem? (i := 153) (by decide +kernel))) rfl
theorem WM_X5_153 : Cond.methodLink RX5 153 yJ0_length_8abf5 ∈ ax_W := ax_tw (ax_t2 (List.mem_of_getElem? (i := 155) (by decide +kernel))) rfl
theorem WI_J0_length_8abf5 : Cond.instanceMethod yJ0_length_8abf5 ∈ ax_W := ax_tw (ax_t2 (List.mem_of_getElem? (i := 156) (by decide +kernel))) rfl
theorem WS_J0_length_8abf5 : Cond.selects RJ0 yJ0_length_8abf5 yJ0_length_8abf5 ∈ ax_W := ax_tw (ax_t2 (List.mem_of_getElem? (i := 157) (by decide +kernel))) rfl
theorem WM_J0_335 : Cond.methodLink RJ0 335 yJ0_coder_7d493 ∈ ax_W := ax_tw (ax_t2 (List.mem_of_getElem? (i := 159) (by decide +kernel))) rfl
theorem WI_J0_coder_7d493 : Cond.instanceMethod yJ0_coder_7d493 ∈ ax_W := ax_tw (ax_t2 (List.mem_of_getElem? (i := 160) (by decide +kernel))) rfl
theorem WS_J0_coder_7d493 : Cond.selects RJ0 yJ0_coder_7d493 yJ0_coder_7d493 ∈ ax_W := ax_tw (ax_t2 (List.mem_of_getElem? (i := 161) (by decide +kernel))) rfl
theorem WF_J0_38 : Cond.fieldLink RJ0 38 "java/lang/String" "COMPACT_STRINGS" "Z" ∈ ax_W := ax_tw (ax_t2 (List.mem_of_getElem? (i := 163) (by decide +kernel))) rfl
theorem WM_X5_159 : Cond.methodLink RX5 159 yJ0_charAt_5068e ∈ ax_W := ax_tw (ax_t2 (List.mem_of_getElem? (i := 165) (by decide +kernel))) rfl
theorem WI_J0_charAt_5068e : Cond.instanceMethod yJ0_charAt_5068e ∈ ax_W := ax_tw (ax_t2 (List.mem_of_getElem? (i := 166) (by decide +kernel))) rfl
theorem WS_J0_charAt_5068e : Cond.selects RJ0 yJ0_charAt_5068e yJ0_charAt_5068e ∈ ax_W := ax_tw (ax_t2 (List.mem_of_getElem? (i := 167) (by decide +kernel))) rfl
theorem WM_J0_492 : Cond.methodLink RJ0 492 yJ0_isLatin1_aae02 ∈ ax_W := ax_tw (ax_t2 (List.mem_of_getElem? (i := 169) (by decide +kernel))) rfl
theorem WI_J0_isLatin1_aae02 : Cond.instanceMethod yJ0_isLatin1_aae02 ∈ ax_W := ax_tw (ax_t2 (List.mem_of_getElem? (i := 170) (by decide +kernel))) rfl
theorem WS_J0_isLatin1_aae02 : Cond.selects RJ0 yJ0_isLatin1_aae02 yJ0_isLatin1_aae02 ∈ ax_W := ax_tw (ax_t2 (List.mem_of_getElem? (i := 171) (by decide +kernel))) rfl
theorem WM_J0_495 : Cond.methodLink RJ0 495 yJ1_charAt_3b067 ∈ ax_W := ax_tw (ax_t2 (List.mem_of_getElem? (i := 173) (by decide +kernel))) rfl
theorem WT_J1_charAt_3b067 : Cond.static yJ1_charAt_3b067 ∈ ax_W := ax_tw (ax_t2 (List.mem_of_getElem? (i := 174) (by decide +kernel))) rfl
theorem WM_J1_9 : Cond.methodLink RJ1 9 yJ0_checkIndex_df160 ∈ ax_W := ax_tw (ax_t2 (List.mem_of_getElem? (i := 176) (by decide +kernel))) rfl
theorem WT_J0_checkIndex_df160 : Cond.static yJ0_checkIndex_df160 ∈ ax_W := ax_tw (ax_t2 (List.mem_of_getElem? (i := 177) (by decide +kernel))) rfl
theorem WF_J0_1053 : Cond.fieldLink RJ0 1053 "jdk/internal/util/Preconditions" "SIOOBE_FORMATTER" "Ljava/util/function/BiFunction;" ∈ ax_W := ax_tw (ax_t2 (List.mem_of_getElem? (i := 179) (by decide +kernel))) rfl
theorem WM_J0_1059 : Cond.methodLink RJ0 1059 yJ3_checkIndex_8e157 ∈ ax_W := ax_tw (ax_t2 (List.mem_of_getElem? (i := 181) (by decide +kernel))) rfl
theorem WT_J3_checkIndex_8e157 : Cond.static yJ3_checkIndex_8e157 ∈ ax_W := ax_tw (ax_t2 (List.mem_of_getElem? (i := 182) (by decide +kernel))) rfl
theorem WM_J0_498 : Cond.methodLink RJ0 498 yJ2_charAt_3b067 ∈ ax_W := ax_tw (ax_t2 (List.mem_of_getElem? (i := 184) (by decide +kernel))) rfl
theorem WT_J2_charAt_3b067 : Cond.static yJ2_charAt_3b067 ∈ ax_W := ax_tw (ax_t2 (List.mem_of_getElem? (i := 185) (by decide +kernel))) rfl
theorem WM_J2_67 : Cond.methodLink RJ2 67 yJ2_checkIndex_2214a ∈ ax_W := ax_tw (ax_t2 (List.mem_of_getElem? (i := 187) (by decide +kernel))) rfl
theorem WT_J2_checkIndex_2214a : Cond.static yJ2_checkIndex_2214a ∈ ax_W := ax_tw (ax_t2 (List.mem_of_getElem? (i := 188) (by decide +kernel))) rfl
theorem WM_J2_48 : Cond.methodLink RJ2 48 yJ2_length_9d52b ∈ ax_W := ax_tw (ax_t2 (List.mem_of_getElem? (i := 190) (by decide +kernel))) rfl
theorem WT_J2_length_9d52b : Cond.static yJ2_length_9d52b ∈ ax_W := ax_tw (ax_t2 (List.mem_of_getElem? (i := 191) (by decide +kernel))) rfl
theorem WM_J2_414 : Cond.methodLink RJ2 414 yJ0_checkIndex_df160 ∈ ax_W := ax_tw (ax_t2 (List.mem_of_getElem? (i := 193) (by decide +kernel))) rfl
theorem WM_J2_71 : Cond.methodLink RJ2 71 yJ2_getChar_3b067 ∈ ax_W := ax_tw (ax_t2 (List.mem_of_getElem? (i := 194) (by decide +kernel))) rfl
theorem WT_J2_getChar_3b067 : Cond.static yJ2_getChar_3b067 ∈ ax_W := ax_tw (ax_t2 (List.mem_of_getElem? (i := 195) (by decide +kernel))) rfl
theorem WF_J2_44 : Cond.fieldLink RJ2 44 "java/lang/StringUTF16" "$assertionsDisabled" "Z" ∈ ax_W := ax_tw (ax_t2 (List.mem_of_getElem? (i := 197) (by decide +kernel))) rfl
theorem WF_J2_59 : Cond.fieldLink RJ2 59 "java/lang/StringUTF16" "HI_BYTE_SHIFT" "I" ∈ ax_W := ax_tw (ax_t2 (List.mem_of_getElem? (i := 199) (by decide +kernel))) rfl
theorem WF_J2_63 : Cond.fieldLink RJ2 63 "java/lang/StringUTF16" "LO_BYTE_SHIFT" "I" ∈ ax_W := ax_tw (ax_t2 (List.mem_of_getElem? (i := 201) (by decide +kernel))) rfl
theorem WM_X5_163 : Cond.methodLink RX5 163 yX9_byteAt ∈ ax_W := ax_tw (ax_t2 (List.mem_of_getElem? (i := 203) (by decide +kernel))) rfl
theorem WM_X10_49 : Cond.methodLink RX10 49 yX10_numberBetween ∈ ax_W := ax_tw (ax_t2 (List.mem_of_getElem? (i := 204) (by decide +kernel))) rfl
theorem WT_X10_numberBetween : Cond.static yX10_numberBetween ∈ ax_W := ax_tw (ax_t2 (List.mem_of_getElem? (i := 205) (by decide +kernel))) rfl
theorem WM_X10_53 : Cond.methodLink RX10 53 yX10_keep ∈ ax_W := ax_tw (ax_t2 (List.mem_of_getElem? (i := 207) (by decide +kernel))) rfl
theorem WI_X10_keep : Cond.instanceMethod yX10_keep ∈ ax_W := ax_tw (ax_t2 (List.mem_of_getElem? (i := 209) (by decide +kernel))) rfl
theorem WM_X12_114 : Cond.methodLink RX12 114 yX9_shorten ∈ ax_W := ax_tw (ax_t2 (List.mem_of_getElem? (i := 211) (by decide +kernel))) rfl
theorem WI_X9_shorten : Cond.instanceMethod yX9_shorten ∈ ax_W := ax_tw (ax_t2 (List.mem_of_getElem? (i := 212) (by decide +kernel))) rfl
theorem WS_X9_shorten : Cond.selects RX9 yX9_shorten yX9_shorten ∈ ax_W := ax_tw (ax_t2 (List.mem_of_getElem? (i := 213) (by decide +kernel))) rfl
theorem WM_X12_121 : Cond.methodLink RX12 121 yX3_firstWrong ∈ ax_W := ax_tw (ax_t2 (List.mem_of_getElem? (i := 215) (by decide +kernel))) rfl
theorem WI_X3_firstWrong : Cond.instanceMethod yX3_firstWrong ∈ ax_W := ax_tw (ax_t2 (List.mem_of_getElem? (i := 216) (by decide +kernel))) rfl
theorem WS_X3_firstWrong : Cond.selects RX3 yX3_firstWrong yX3_firstWrong ∈ ax_W := ax_tw (ax_t2 (List.mem_of_getElem? (i := 217) (by decide +kernel))) rfl
theorem WM_X3_19 : Cond.methodLink RX3 19 yX7_begin ∈ ax_W := ax_tw (ax_t2 (List.mem_of_getElem? (i := 219) (by decide +kernel))) rfl
theorem WI_X7_begin : Cond.instanceMethod yX7_begin ∈ ax_W := ax_tw (ax_t2 (List.mem_of_getElem? (i := 220) (by decide +kernel))) rfl
theorem WS_X7_begin : Cond.selects RX7 yX7_begin yX7_begin ∈ ax_W := ax_tw (ax_t2 (List.mem_of_getElem? (i := 221) (by decide +kernel))) rfl
theorem WF_X3_32 : Cond.fieldLink RX3 32 "HexPond$Kind" "POND" "LHexPond$Kind;" ∈ ax_W := ax_tw (ax_t2 (List.mem_of_getElem? (i := 223) (by decide +kernel))) rfl
theorem WM_X3_38 : Cond.methodLink RX3 38 yX3_take ∈ ax_W := ax_tw (ax_t2 (List.mem_of_getElem? (i := 225) (by decide +kernel))) rfl
theorem WI_X3_take : Cond.instanceMethod yX3_take ∈ ax_W := ax_tw (ax_t2 (List.mem_of_getElem? (i := 227) (by decide +kernel))) rfl
theorem WM_X3_104 : Cond.methodLink RX3 104 yX10_kindOf ∈ ax_W := ax_tw (ax_t2 (List.mem_of_getElem? (i := 229) (by decide +kernel))) rfl
theorem WI_X10_kindOf : Cond.instanceMethod yX10_kindOf ∈ ax_W := ax_tw (ax_t2 (List.mem_of_getElem? (i := 230) (by decide +kernel))) rfl
theorem WS_X10_kindOf : Cond.selects RX10 yX10_kindOf yX10_kindOf ∈ ax_W := ax_tw (ax_t2 (List.mem_of_getElem? (i := 231) (by decide +kernel))) rfl
theorem WF_X3_42 : Cond.fieldLink RX3 42 "HexPond$Kind" "NUMBER" "LHexPond$Kind;" ∈ ax_W := ax_tw (ax_t2 (List.mem_of_getElem? (i := 233) (by decide +kernel))) rfl
theorem WM_X3_45 : Cond.methodLink RX3 45 yX3_need ∈ ax_W := ax_tw (ax_t2 (List.mem_of_getElem? (i := 234) (by decide +kernel))) rfl
theorem WI_X3_need : Cond.instanceMethod yX3_need ∈ ax_W := ax_tw (ax_t2 (List.mem_of_getElem? (i := 236) (by decide +kernel))) rfl
theorem WF_X3_49 : Cond.fieldLink RX3 49 "HexPond$Kind" "BY" "LHexPond$Kind;" ∈ ax_W := ax_tw (ax_t2 (List.mem_of_getElem? (i := 238) (by decide +kernel))) rfl
theorem WF_X3_52 : Cond.fieldLink RX3 52 "HexPond$Kind" "SEMICOLON" "LHexPond$Kind;" ∈ ax_W := ax_tw (ax_t3 (List.mem_of_getElem? (i := 0) (by decide +kernel))) rfl
theorem WF_X3_55 : Cond.fieldLink RX3 55 "HexPond$Kind" "END" "LHexPond$Kind;" ∈ ax_W := ax_tw (ax_t3 (List.mem_of_getElem? (i := 2) (by decide +kernel))) rfl
theorem WM_X3_58 : Cond.methodLink RX3 58 yX3_sees ∈ ax_W := ax_tw (ax_t3 (List.mem_of_getElem? (i := 3) (by decide +kernel))) rfl
theorem WI_X3_sees : Cond.instanceMethod yX3_sees ∈ ax_W := ax_tw (ax_t3 (List.mem_of_getElem? (i := 5) (by decide +kernel))) rfl
theorem WF_X3_61 : Cond.fieldLink RX3 61 "HexPond$Kind" "STONE" "LHexPond$Kind;" ∈ ax_W := ax_tw (ax_t3 (List.mem_of_getElem? (i := 7) (by decide +kernel))) rfl
theorem WM_X3_64 : Cond.methodLink RX3 64 yX3_readStone ∈ ax_W := ax_tw (ax_t3 (List.mem_of_getElem? (i := 9) (by decide +kernel))) rfl
theorem WI_X3_readStone : Cond.instanceMethod yX3_readStone ∈ ax_W := ax_tw (ax_t3 (List.mem_of_getElem? (i := 11) (by decide +kernel))) rfl
theorem WM_X3_73 : Cond.methodLink RX3 73 yX3_readPlayer ∈ ax_W := ax_tw (ax_t3 (List.mem_of_getElem? (i := 13) (by decide +kernel))) rfl
theorem WI_X3_readPlayer : Cond.instanceMethod yX3_readPlayer ∈ ax_W := ax_tw (ax_t3 (List.mem_of_getElem? (i := 15) (by decide +kernel))) rfl
theorem WF_X3_122 : Cond.fieldLink RX3 122 "HexPond$Kind" "RED_PLAYER" "LHexPond$Kind;" ∈ ax_W := ax_tw (ax_t3 (List.mem_of_getElem? (i := 17) (by decide +kernel))) rfl
theorem WF_X3_125 : Cond.fieldLink RX3 125 "HexPond$Kind" "BLUE_PLAYER" "LHexPond$Kind;" ∈ ax_W := ax_tw (ax_t3 (List.mem_of_getElem? (i := 19) (by decide +kernel))) rfl
theorem WF_X3_77 : Cond.fieldLink RX3 77 "HexPond$Kind" "COMMA" "LHexPond$Kind;" ∈ ax_W := ax_tw (ax_t3 (List.mem_of_getElem? (i := 21) (by decide +kernel))) rfl
theorem WF_X3_67 : Cond.fieldLink RX3 67 "HexPond$Kind" "PLAN" "LHexPond$Kind;" ∈ ax_W := ax_tw (ax_t3 (List.mem_of_getElem? (i := 23) (by decide +kernel))) rfl
theorem WM_X3_70 : Cond.methodLink RX3 70 yX3_readPlan ∈ ax_W := ax_tw (ax_t3 (List.mem_of_getElem? (i := 25) (by decide +kernel))) rfl
theorem WI_X3_readPlan : Cond.instanceMethod yX3_readPlan ∈ ax_W := ax_tw (ax_t3 (List.mem_of_getElem? (i := 27) (by decide +kernel))) rfl
theorem WM_X3_80 : Cond.methodLink RX3 80 yX7_codeLength ∈ ax_W := ax_tw (ax_t3 (List.mem_of_getElem? (i := 29) (by decide +kernel))) rfl
theorem WI_X7_codeLength : Cond.instanceMethod yX7_codeLength ∈ ax_W := ax_tw (ax_t3 (List.mem_of_getElem? (i := 30) (by decide +kernel))) rfl
theorem WS_X7_codeLength : Cond.selects RX7 yX7_codeLength yX7_codeLength ∈ ax_W := ax_tw (ax_t3 (List.mem_of_getElem? (i := 31) (by decide +kernel))) rfl
theorem WM_X3_83 : Cond.methodLink RX3 83 yX3_readMove ∈ ax_W := ax_tw (ax_t3 (List.mem_of_getElem? (i := 33) (by decide +kernel))) rfl
theorem WI_X3_readMove : Cond.instanceMethod yX3_readMove ∈ ax_W := ax_tw (ax_t3 (List.mem_of_getElem? (i := 35) (by decide +kernel))) rfl
theorem WF_X3_110 : Cond.fieldLink RX3 110 "HexPond$Kind" "WIN" "LHexPond$Kind;" ∈ ax_W := ax_tw (ax_t3 (List.mem_of_getElem? (i := 37) (by decide +kernel))) rfl
theorem WF_X3_113 : Cond.fieldLink RX3 113 "HexPond$Kind" "GUARD" "LHexPond$Kind;" ∈ ax_W := ax_tw (ax_t3 (List.mem_of_getElem? (i := 39) (by decide +kernel))) rfl
theorem WF_X3_116 : Cond.fieldLink RX3 116 "HexPond$Kind" "SAVE" "LHexPond$Kind;" ∈ ax_W := ax_tw (ax_t3 (List.mem_of_getElem? (i := 41) (by decide +kernel))) rfl
theorem WF_X3_119 : Cond.fieldLink RX3 119 "HexPond$Kind" "NEAR" "LHexPond$Kind;" ∈ ax_W := ax_tw (ax_t3 (List.mem_of_getElem? (i := 43) (by decide +kernel))) rfl
theorem WF_X3_87 : Cond.fieldLink RX3 87 "HexPond$Kind" "AT" "LHexPond$Kind;" ∈ ax_W := ax_tw (ax_t3 (List.mem_of_getElem? (i := 45) (by decide +kernel))) rfl
theorem WM_X3_90 : Cond.methodLink RX3 90 yX3_readSum ∈ ax_W := ax_tw (ax_t3 (List.mem_of_getElem? (i := 47) (by decide +kernel))) rfl
theorem WI_X3_readSum : Cond.instanceMethod yX3_readSum ∈ ax_W := ax_tw (ax_t3 (List.mem_of_getElem? (i := 49) (by decide +kernel))) rfl
theorem WM_X3_174 : Cond.methodLink RX3 174 yX3_readProduct ∈ ax_W := ax_tw (ax_t3 (List.mem_of_getElem? (i := 51) (by decide +kernel))) rfl
theorem WI_X3_readProduct : Cond.instanceMethod yX3_readProduct ∈ ax_W := ax_tw (ax_t3 (List.mem_of_getElem? (i := 53) (by decide +kernel))) rfl
theorem WM_X3_183 : Cond.methodLink RX3 183 yX3_readValue ∈ ax_W := ax_tw (ax_t3 (List.mem_of_getElem? (i := 55) (by decide +kernel))) rfl
theorem WI_X3_readValue : Cond.instanceMethod yX3_readValue ∈ ax_W := ax_tw (ax_t3 (List.mem_of_getElem? (i := 57) (by decide +kernel))) rfl
theorem WM_X3_192 : Cond.methodLink RX3 192 yX10_valueOf ∈ ax_W := ax_tw (ax_t3 (List.mem_of_getElem? (i := 59) (by decide +kernel))) rfl
theorem WI_X10_valueOf : Cond.instanceMethod yX10_valueOf ∈ ax_W := ax_tw (ax_t3 (List.mem_of_getElem? (i := 60) (by decide +kernel))) rfl
theorem WS_X10_valueOf : Cond.selects RX10 yX10_valueOf yX10_valueOf ∈ ax_W := ax_tw (ax_t3 (List.mem_of_getElem? (i := 61) (by decide +kernel))) rfl
theorem WM_X3_134 : Cond.methodLink RX3 134 yX7_write ∈ ax_W := ax_tw (ax_t3 (List.mem_of_getElem? (i := 63) (by decide +kernel))) rfl
theorem WI_X7_write : Cond.instanceMethod yX7_write ∈ ax_W := ax_tw (ax_t3 (List.mem_of_getElem? (i := 64) (by decide +kernel))) rfl
theorem WS_X7_write : Cond.selects RX7 yX7_write yX7_write ∈ ax_W := ax_tw (ax_t3 (List.mem_of_getElem? (i := 65) (by decide +kernel))) rfl
theorem WF_X3_196 : Cond.fieldLink RX3 196 "HexPond$Kind" "TURN" "LHexPond$Kind;" ∈ ax_W := ax_tw (ax_t3 (List.mem_of_getElem? (i := 67) (by decide +kernel))) rfl
theorem WF_X3_199 : Cond.fieldLink RX3 199 "HexPond$Kind" "FREE" "LHexPond$Kind;" ∈ ax_W := ax_tw (ax_t3 (List.mem_of_getElem? (i := 69) (by decide +kernel))) rfl
theorem WF_X3_202 : Cond.fieldLink RX3 202 "HexPond$Kind" "STONES" "LHexPond$Kind;" ∈ ax_W := ax_tw (ax_t3 (List.mem_of_getElem? (i := 71) (by decide +kernel))) rfl
theorem WF_X3_205 : Cond.fieldLink RX3 205 "HexPond$Kind" "BRIDGES" "LHexPond$Kind;" ∈ ax_W := ax_tw (ax_t3 (List.mem_of_getElem? (i := 73) (by decide +kernel))) rfl
theorem WF_X3_208 : Cond.fieldLink RX3 208 "HexPond$Kind" "NEEDS" "LHexPond$Kind;" ∈ ax_W := ax_tw (ax_t3 (List.mem_of_getElem? (i := 75) (by decide +kernel))) rfl
theorem WF_X3_180 : Cond.fieldLink RX3 180 "HexPond$Kind" "MINUS" "LHexPond$Kind;" ∈ ax_W := ax_tw (ax_t3 (List.mem_of_getElem? (i := 77) (by decide +kernel))) rfl
theorem WF_X3_211 : Cond.fieldLink RX3 211 "HexPond$Kind" "NEGATE" "LHexPond$Kind;" ∈ ax_W := ax_tw (ax_t3 (List.mem_of_getElem? (i := 79) (by decide +kernel))) rfl
theorem WF_X3_214 : Cond.fieldLink RX3 214 "HexPond$Kind" "MIN" "LHexPond$Kind;" ∈ ax_W := ax_tw (ax_t3 (List.mem_of_getElem? (i := 81) (by decide +kernel))) rfl
theorem WF_X3_217 : Cond.fieldLink RX3 217 "HexPond$Kind" "MAX" "LHexPond$Kind;" ∈ ax_W := ax_tw (ax_t3 (List.mem_of_getElem? (i := 83) (by decide +kernel))) rfl
theorem WM_X3_220 : Cond.methodLink RX3 220 yX3_readPair ∈ ax_W := ax_tw (ax_t3 (List.mem_of_getElem? (i := 85) (by decide +kernel))) rfl
theorem WI_X3_readPair : Cond.instanceMethod yX3_readPair ∈ ax_W := ax_tw (ax_t3 (List.mem_of_getElem? (i := 87) (by decide +kernel))) rfl
theorem WF_X3_223 : Cond.fieldLink RX3 223 "HexPond$Kind" "OPEN" "LHexPond$Kind;" ∈ ax_W := ax_tw (ax_t3 (List.mem_of_getElem? (i := 89) (by decide +kernel))) rfl
theorem WF_X3_226 : Cond.fieldLink RX3 226 "HexPond$Kind" "CLOSE" "LHexPond$Kind;" ∈ ax_W := ax_tw (ax_t3 (List.mem_of_getElem? (i := 91) (by decide +kernel))) rfl
theorem WF_X3_186 : Cond.fieldLink RX3 186 "HexPond$Kind" "TIMES" "LHexPond$Kind;" ∈ ax_W := ax_tw (ax_t3 (List.mem_of_getElem? (i := 93) (by decide +kernel))) rfl
theorem WF_X3_189 : Cond.fieldLink RX3 189 "HexPond$Kind" "OVER" "LHexPond$Kind;" ∈ ax_W := ax_tw (ax_t3 (List.mem_of_getElem? (i := 95) (by decide +kernel))) rfl
theorem WF_X3_177 : Cond.fieldLink RX3 177 "HexPond$Kind" "PLUS" "LHexPond$Kind;" ∈ ax_W := ax_tw (ax_t3 (List.mem_of_getElem? (i := 97) (by decide +kernel))) rfl
theorem WF_X3_94 : Cond.fieldLink RX3 94 "HexPond$Kind" "WHEN" "LHexPond$Kind;" ∈ ax_W := ax_tw (ax_t3 (List.mem_of_getElem? (i := 99) (by decide +kernel))) rfl
theorem WM_X3_97 : Cond.methodLink RX3 97 yX3_readTest ∈ ax_W := ax_tw (ax_t3 (List.mem_of_getElem? (i := 101) (by decide +kernel))) rfl
theorem WI_X3_readTest : Cond.instanceMethod yX3_readTest ∈ ax_W := ax_tw (ax_t3 (List.mem_of_getElem? (i := 103) (by decide +kernel))) rfl
theorem WM_X3_128 : Cond.methodLink RX3 128 yX3_readBoth ∈ ax_W := ax_tw (ax_t3 (List.mem_of_getElem? (i := 105) (by decide +kernel))) rfl
theorem WI_X3_readBoth : Cond.instanceMethod yX3_readBoth ∈ ax_W := ax_tw (ax_t3 (List.mem_of_getElem? (i := 107) (by decide +kernel))) rfl
theorem WM_X3_138 : Cond.methodLink RX3 138 yX3_readSingle ∈ ax_W := ax_tw (ax_t3 (List.mem_of_getElem? (i := 109) (by decide +kernel))) rfl
theorem WI_X3_readSingle : Cond.instanceMethod yX3_readSingle ∈ ax_W := ax_tw (ax_t3 (List.mem_of_getElem? (i := 111) (by decide +kernel))) rfl
theorem WF_X3_144 : Cond.fieldLink RX3 144 "HexPond$Kind" "NOT" "LHexPond$Kind;" ∈ ax_W := ax_tw (ax_t3 (List.mem_of_getElem? (i := 113) (by decide +kernel))) rfl
theorem WF_X3_147 : Cond.fieldLink RX3 147 "HexPond$Kind" "SQUARE_OPEN" "LHexPond$Kind;" ∈ ax_W := ax_tw (ax_t3 (List.mem_of_getElem? (i := 115) (by decide +kernel))) rfl
theorem WF_X3_150 : Cond.fieldLink RX3 150 "HexPond$Kind" "SQUARE_CLOSE" "LHexPond$Kind;" ∈ ax_W := ax_tw (ax_t3 (List.mem_of_getElem? (i := 117) (by decide +kernel))) rfl
theorem WF_X3_153 : Cond.fieldLink RX3 153 "HexPond$Kind" "WON" "LHexPond$Kind;" ∈ ax_W := ax_tw (ax_t3 (List.mem_of_getElem? (i := 119) (by decide +kernel))) rfl
theorem WM_X3_156 : Cond.methodLink RX3 156 yX3_readRelation ∈ ax_W := ax_tw (ax_t3 (List.mem_of_getElem? (i := 121) (by decide +kernel))) rfl
theorem WI_X3_readRelation : Cond.instanceMethod yX3_readRelation ∈ ax_W := ax_tw (ax_t3 (List.mem_of_getElem? (i := 123) (by decide +kernel))) rfl
theorem WF_X3_159 : Cond.fieldLink RX3 159 "HexPond$Kind" "LESS" "LHexPond$Kind;" ∈ ax_W := ax_tw (ax_t3 (List.mem_of_getElem? (i := 125) (by decide +kernel))) rfl
theorem WF_X3_162 : Cond.fieldLink RX3 162 "HexPond$Kind" "MORE" "LHexPond$Kind;" ∈ ax_W := ax_tw (ax_t3 (List.mem_of_getElem? (i := 127) (by decide +kernel))) rfl
theorem WF_X3_165 : Cond.fieldLink RX3 165 "HexPond$Kind" "EQUAL" "LHexPond$Kind;" ∈ ax_W := ax_tw (ax_t3 (List.mem_of_getElem? (i := 129) (by decide +kernel))) rfl
theorem WF_X3_168 : Cond.fieldLink RX3 168 "HexPond$Kind" "AT_MOST" "LHexPond$Kind;" ∈ ax_W := ax_tw (ax_t3 (List.mem_of_getElem? (i := 131) (by decide +kernel))) rfl
theorem WF_X3_171 : Cond.fieldLink RX3 171 "HexPond$Kind" "AT_LEAST" "LHexPond$Kind;" ∈ ax_W := ax_tw (ax_t3 (List.mem_of_getElem? (i := 133) (by decide +kernel))) rfl
theorem WF_X3_141 : Cond.fieldLink RX3 141 "HexPond$Kind" "AND" "LHexPond$Kind;" ∈ ax_W := ax_tw (ax_t3 (List.mem_of_getElem? (i := 135) (by decide +kernel))) rfl
theorem WF_X3_131 : Cond.fieldLink RX3 131 "HexPond$Kind" "OR" "LHexPond$Kind;" ∈ ax_W := ax_tw (ax_t3 (List.mem_of_getElem? (i := 137) (by decide +kernel))) rfl
theorem WM_X3_100 : Cond.methodLink RX3 100 yX7_add ∈ ax_W := ax_tw (ax_t3 (List.mem_of_getElem? (i := 139) (by decide +kernel))) rfl
theorem WI_X7_add : Cond.instanceMethod yX7_add ∈ ax_W := ax_tw (ax_t3 (List.mem_of_getElem? (i := 140) (by decide +kernel))) rfl
theorem WS_X7_add : Cond.selects RX7 yX7_add yX7_add ∈ ax_W := ax_tw (ax_t3 (List.mem_of_getElem? (i := 141) (by decide +kernel))) rfl
theorem WM_X12_125 : Cond.methodLink RX12 125 yX6_firstError ∈ ax_W := ax_tw (ax_t3 (List.mem_of_getElem? (i := 143) (by decide +kernel))) rfl
theorem WI_X6_firstError : Cond.instanceMethod yX6_firstError ∈ ax_W := ax_tw (ax_t3 (List.mem_of_getElem? (i := 144) (by decide +kernel))) rfl
theorem WS_X6_firstError : Cond.selects RX6 yX6_firstError yX6_firstError ∈ ax_W := ax_tw (ax_t3 (List.mem_of_getElem? (i := 145) (by decide +kernel))) rfl
theorem WM_X6_32 : Cond.methodLink RX6 32 yJ7_fill_53178 ∈ ax_W := ax_tw (ax_t3 (List.mem_of_getElem? (i := 147) (by decide +kernel))) rfl
theorem WM_X6_38 : Cond.methodLink RX6 38 yX10_count ∈ ax_W := ax_tw (ax_t3 (List.mem_of_getElem? (i := 148) (by decide +kernel))) rfl
theorem WI_X10_count : Cond.instanceMethod yX10_count ∈ ax_W := ax_tw (ax_t3 (List.mem_of_getElem? (i := 149) (by decide +kernel))) rfl
theorem WS_X10_count : Cond.selects RX10 yX10_count yX10_count ∈ ax_W := ax_tw (ax_t3 (List.mem_of_getElem? (i := 150) (by decide +kernel))) rfl
theorem WM_X6_44 : Cond.methodLink RX6 44 yX6_errorAtToken ∈ ax_W := ax_tw (ax_t3 (List.mem_of_getElem? (i := 152) (by decide +kernel))) rfl
theorem WI_X6_errorAtToken : Cond.instanceMethod yX6_errorAtToken ∈ ax_W := ax_tw (ax_t3 (List.mem_of_getElem? (i := 154) (by decide +kernel))) rfl
theorem WM_X6_48 : Cond.methodLink RX6 48 yX10_kindOf ∈ ax_W := ax_tw (ax_t3 (List.mem_of_getElem? (i := 156) (by decide +kernel))) rfl
theorem WF_X6_52 : Cond.fieldLink RX6 52 "HexPond$Kind" "PLAN" "LHexPond$Kind;" ∈ ax_W := ax_tw (ax_t3 (List.mem_of_getElem? (i := 157) (by decide +kernel))) rfl
theorem WF_X6_58 : Cond.fieldLink RX6 58 "HexPond$Kind" "NUMBER" "LHexPond$Kind;" ∈ ax_W := ax_tw (ax_t3 (List.mem_of_getElem? (i := 158) (by decide +kernel))) rfl
theorem WM_X6_61 : Cond.methodLink RX6 61 yX6_errorAtNumber ∈ ax_W := ax_tw (ax_t3 (List.mem_of_getElem? (i := 159) (by decide +kernel))) rfl
theorem WI_X6_errorAtNumber : Cond.instanceMethod yX6_errorAtNumber ∈ ax_W := ax_tw (ax_t3 (List.mem_of_getElem? (i := 161) (by decide +kernel))) rfl
theorem WM_X6_64 : Cond.methodLink RX6 64 yX10_valueOf ∈ ax_W := ax_tw (ax_t3 (List.mem_of_getElem? (i := 163) (by decide +kernel))) rfl
theorem WF_X6_67 : Cond.fieldLink RX6 67 "HexPond$Kind" "POND" "LHexPond$Kind;" ∈ ax_W := ax_tw (ax_t3 (List.mem_of_getElem? (i := 164) (by decide +kernel))) rfl
theorem WM_X6_70 : Cond.methodLink RX6 70 yX6_isLength ∈ ax_W := ax_tw (ax_t3 (List.mem_of_getElem? (i := 165) (by decide +kernel))) rfl
theorem WT_X6_isLength : Cond.static yX6_isLength ∈ ax_W := ax_tw (ax_t3 (List.mem_of_getElem? (i := 166) (by decide +kernel))) rfl
theorem WF_X6_74 : Cond.fieldLink RX6 74 "HexPond$Kind" "BY" "LHexPond$Kind;" ∈ ax_W := ax_tw (ax_t3 (List.mem_of_getElem? (i := 168) (by decide +kernel))) rfl
theorem WF_X6_77 : Cond.fieldLink RX6 77 "HexPond$Kind" "STONE" "LHexPond$Kind;" ∈ ax_W := ax_tw (ax_t3 (List.mem_of_getElem? (i := 169) (by decide +kernel))) rfl
theorem WF_X6_80 : Cond.fieldLink RX6 80 "HexPond$Kind" "RED_PLAYER" "LHexPond$Kind;" ∈ ax_W := ax_tw (ax_t3 (List.mem_of_getElem? (i := 170) (by decide +kernel))) rfl
theorem WM_X6_83 : Cond.methodLink RX6 83 yX6_errorOfStone ∈ ax_W := ax_tw (ax_t3 (List.mem_of_getElem? (i := 171) (by decide +kernel))) rfl
theorem WI_X6_errorOfStone : Cond.instanceMethod yX6_errorOfStone ∈ ax_W := ax_tw (ax_t3 (List.mem_of_getElem? (i := 173) (by decide +kernel))) rfl
theorem WM_X6_87 : Cond.methodLink RX6 87 yX6_ownerAt ∈ ax_W := ax_tw (ax_t3 (List.mem_of_getElem? (i := 175) (by decide +kernel))) rfl
theorem WI_X6_ownerAt : Cond.instanceMethod yX6_ownerAt ∈ ax_W := ax_tw (ax_t3 (List.mem_of_getElem? (i := 176) (by decide +kernel))) rfl
theorem WS_X6_ownerAt : Cond.selects RX6 yX6_ownerAt yX6_ownerAt ∈ ax_W := ax_tw (ax_t3 (List.mem_of_getElem? (i := 177) (by decide +kernel))) rfl
theorem WM_X12_128 : Cond.methodLink RX12 128 yX6_wrongToken ∈ ax_W := ax_tw (ax_t3 (List.mem_of_getElem? (i := 179) (by decide +kernel))) rfl
theorem WI_X6_wrongToken : Cond.instanceMethod yX6_wrongToken ∈ ax_W := ax_tw (ax_t3 (List.mem_of_getElem? (i := 180) (by decide +kernel))) rfl
theorem WS_X6_wrongToken : Cond.selects RX6 yX6_wrongToken yX6_wrongToken ∈ ax_W := ax_tw (ax_t3 (List.mem_of_getElem? (i := 181) (by decide +kernel))) rfl
theorem WM_X12_131 : Cond.methodLink RX12 131 yX10_startOf ∈ ax_W := ax_tw (ax_t3 (List.mem_of_getElem? (i := 183) (by decide +kernel))) rfl
theorem WI_X10_startOf : Cond.instanceMethod yX10_startOf ∈ ax_W := ax_tw (ax_t3 (List.mem_of_getElem? (i := 184) (by decide +kernel))) rfl
theorem WS_X10_startOf : Cond.selects RX10 yX10_startOf yX10_startOf ∈ ax_W := ax_tw (ax_t3 (List.mem_of_getElem? (i := 185) (by decide +kernel))) rfl
theorem WM_X12_135 : Cond.methodLink RX12 135 yX12_beginTaughtGame ∈ ax_W := ax_tw (ax_t3 (List.mem_of_getElem? (i := 187) (by decide +kernel))) rfl
theorem WI_X12_beginTaughtGame : Cond.instanceMethod yX12_beginTaughtGame ∈ ax_W := ax_tw (ax_t3 (List.mem_of_getElem? (i := 189) (by decide +kernel))) rfl
theorem WM_X12_138 : Cond.methodLink RX12 138 yX6_columns ∈ ax_W := ax_tw (ax_t3 (List.mem_of_getElem? (i := 191) (by decide +kernel))) rfl
theorem WI_X6_columns : Cond.instanceMethod yX6_columns ∈ ax_W := ax_tw (ax_t3 (List.mem_of_getElem? (i := 192) (by decide +kernel))) rfl
theorem WS_X6_columns : Cond.selects RX6 yX6_columns yX6_columns ∈ ax_W := ax_tw (ax_t3 (List.mem_of_getElem? (i := 193) (by decide +kernel))) rfl
theorem WM_X12_141 : Cond.methodLink RX12 141 yX6_rows ∈ ax_W := ax_tw (ax_t3 (List.mem_of_getElem? (i := 195) (by decide +kernel))) rfl
theorem WI_X6_rows : Cond.instanceMethod yX6_rows ∈ ax_W := ax_tw (ax_t3 (List.mem_of_getElem? (i := 196) (by decide +kernel))) rfl
theorem WS_X6_rows : Cond.selects RX6 yX6_rows yX6_rows ∈ ax_W := ax_tw (ax_t3 (List.mem_of_getElem? (i := 197) (by decide +kernel))) rfl
theorem WM_X12_144 : Cond.methodLink RX12 144 yX8_begin ∈ ax_W := ax_tw (ax_t3 (List.mem_of_getElem? (i := 199) (by decide +kernel))) rfl
theorem WM_X12_148 : Cond.methodLink RX12 148 yX8_cells ∈ ax_W := ax_tw (ax_t3 (List.mem_of_getElem? (i := 200) (by decide +kernel))) rfl
theorem WI_X8_cells : Cond.instanceMethod yX8_cells ∈ ax_W := ax_tw (ax_t3 (List.mem_of_getElem? (i := 201) (by decide +kernel))) rfl
theorem WS_X8_cells : Cond.selects RX8 yX8_cells yX8_cells ∈ ax_W := ax_tw (ax_t3 (List.mem_of_getElem? (i := 202) (by decide +kernel))) rfl
theorem WM_X12_151 : Cond.methodLink RX12 151 yX6_ownerAt ∈ ax_W := ax_tw (ax_t3 (List.mem_of_getElem? (i := 204) (by decide +kernel))) rfl
theorem WM_X12_154 : Cond.methodLink RX12 154 yX8_put ∈ ax_W := ax_tw (ax_t3 (List.mem_of_getElem? (i := 205) (by decide +kernel))) rfl
theorem WI_X8_put : Cond.instanceMethod yX8_put ∈ ax_W := ax_tw (ax_t3 (List.mem_of_getElem? (i := 206) (by decide +kernel))) rfl
theorem WS_X8_put : Cond.selects RX8 yX8_put yX8_put ∈ ax_W := ax_tw (ax_t3 (List.mem_of_getElem? (i := 207) (by decide +kernel))) rfl
theorem WM_X8_76 : Cond.methodLink RX8 76 yX8_hasCell ∈ ax_W := ax_tw (ax_t3 (List.mem_of_getElem? (i := 209) (by decide +kernel))) rfl
theorem WI_X8_hasCell : Cond.instanceMethod yX8_hasCell ∈ ax_W := ax_tw (ax_t3 (List.mem_of_getElem? (i := 210) (by decide +kernel))) rfl
theorem WS_X8_hasCell : Cond.selects RX8 yX8_hasCell yX8_hasCell ∈ ax_W := ax_tw (ax_t3 (List.mem_of_getElem? (i := 211) (by decide +kernel))) rfl
theorem WM_X8_80 : Cond.methodLink RX8 80 yX8_countStone ∈ ax_W := ax_tw (ax_t3 (List.mem_of_getElem? (i := 213) (by decide +kernel))) rfl
theorem WI_X8_countStone : Cond.instanceMethod yX8_countStone ∈ ax_W := ax_tw (ax_t3 (List.mem_of_getElem? (i := 215) (by decide +kernel))) rfl
theorem WM_L_122 : Cond.methodLink RL 122 yX12_errorAt ∈ ax_W := ax_tw (ax_t3 (List.mem_of_getElem? (i := 217) (by decide +kernel))) rfl
theorem WI_X12_errorAt : Cond.instanceMethod yX12_errorAt ∈ ax_W := ax_tw (ax_t3 (List.mem_of_getElem? (i := 218) (by decide +kernel))) rfl
theorem WS_X12_errorAt : Cond.selects RX12 yX12_errorAt yX12_errorAt ∈ ax_W := ax_tw (ax_t3 (List.mem_of_getElem? (i := 219) (by decide +kernel))) rfl
theorem WM_L_126 : Cond.methodLink RL 126 yX12_columns ∈ ax_W := ax_tw (ax_t3 (List.mem_of_getElem? (i := 221) (by decide +kernel))) rfl
theorem WI_X12_columns : Cond.instanceMethod yX12_columns ∈ ax_W := ax_tw (ax_t3 (List.mem_of_getElem? (i := 222) (by decide +kernel))) rfl
theorem WS_X12_columns : Cond.selects RX12 yX12_columns yX12_columns ∈ ax_W := ax_tw (ax_t3 (List.mem_of_getElem? (i := 223) (by decide +kernel))) rfl
theorem WM_X12_157 : Cond.methodLink RX12 157 yX8_columns ∈ ax_W := ax_tw (ax_t3 (List.mem_of_getElem? (i := 225) (by decide +kernel))) rfl
theorem WI_X8_columns : Cond.instanceMethod yX8_columns ∈ ax_W := ax_tw (ax_t3 (List.mem_of_getElem? (i := 226) (by decide +kernel))) rfl
theorem WS_X8_columns : Cond.selects RX8 yX8_columns yX8_columns ∈ ax_W := ax_tw (ax_t3 (List.mem_of_getElem? (i := 227) (by decide +kernel))) rfl
theorem WM_L_130 : Cond.methodLink RL 130 yX12_rows ∈ ax_W := ax_tw (ax_t3 (List.mem_of_getElem? (i := 229) (by decide +kernel))) rfl
theorem WI_X12_rows : Cond.instanceMethod yX12_rows ∈ ax_W := ax_tw (ax_t3 (List.mem_of_getElem? (i := 230) (by decide +kernel))) rfl
theorem WS_X12_rows : Cond.selects RX12 yX12_rows yX12_rows ∈ ax_W := ax_tw (ax_t3 (List.mem_of_getElem? (i := 231) (by decide +kernel))) rfl
theorem WM_X12_158 : Cond.methodLink RX12 158 yX8_rows ∈ ax_W := ax_tw (ax_t3 (List.mem_of_getElem? (i := 233) (by decide +kernel))) rfl
theorem WI_X8_rows : Cond.instanceMethod yX8_rows ∈ ax_W := ax_tw (ax_t3 (List.mem_of_getElem? (i := 234) (by decide +kernel))) rfl
theorem WS_X8_rows : Cond.selects RX8 yX8_rows yX8_rows ∈ ax_W := ax_tw (ax_t3 (List.mem_of_getElem? (i := 235) (by decide +kernel))) rfl
theorem WM_L_134 : Cond.methodLink RL 134 yX12_plans ∈ ax_W := ax_tw (ax_t3 (List.mem_of_getElem? (i := 237) (by decide +kernel))) rfl
theorem WI_X12_plans : Cond.instanceMethod yX12_plans ∈ ax_W := ax_tw (ax_t3 (List.mem_of_getElem? (i := 238) (by decide +kernel))) rfl
theorem WS_X12_plans : Cond.selects RX12 yX12_plans yX12_plans ∈ ax_W := ax_tw (ax_t3 (List.mem_of_getElem? (i := 239) (by decide +kernel))) rfl
theorem WM_X12_159 : Cond.methodLink RX12 159 yX7_count ∈ ax_W := ax_tw (ax_t4 (List.mem_of_getElem? (i := 1) (by decide +kernel))) rfl
theorem WI_X7_count : Cond.instanceMethod yX7_count ∈ ax_W := ax_tw (ax_t4 (List.mem_of_getElem? (i := 2) (by decide +kernel))) rfl
theorem WS_X7_count : Cond.selects RX7 yX7_count yX7_count ∈ ax_W := ax_tw (ax_t4 (List.mem_of_getElem? (i := 3) (by decide +kernel))) rfl
theorem WM_L_138 : Cond.methodLink RL 138 yX12_stonesToTakeBack ∈ ax_W := ax_tw (ax_t4 (List.mem_of_getElem? (i := 5) (by decide +kernel))) rfl
theorem WI_X12_stonesToTakeBack : Cond.instanceMethod yX12_stonesToTakeBack ∈ ax_W := ax_tw (ax_t4 (List.mem_of_getElem? (i := 6) (by decide +kernel))) rfl
theorem WS_X12_stonesToTakeBack : Cond.selects RX12 yX12_stonesToTakeBack yX12_stonesToTakeBack ∈ ax_W := ax_tw (ax_t4 (List.mem_of_getElem? (i := 7) (by decide +kernel))) rfl
theorem WM_X12_162 : Cond.methodLink RX12 162 yX8_laidStones ∈ ax_W := ax_tw (ax_t4 (List.mem_of_getElem? (i := 9) (by decide +kernel))) rfl
theorem WI_X8_laidStones : Cond.instanceMethod yX8_laidStones ∈ ax_W := ax_tw (ax_t4 (List.mem_of_getElem? (i := 10) (by decide +kernel))) rfl
theorem WS_X8_laidStones : Cond.selects RX8 yX8_laidStones yX8_laidStones ∈ ax_W := ax_tw (ax_t4 (List.mem_of_getElem? (i := 11) (by decide +kernel))) rfl
theorem WM_L_142 : Cond.methodLink RL 142 yX12_tapeBytes ∈ ax_W := ax_tw (ax_t4 (List.mem_of_getElem? (i := 13) (by decide +kernel))) rfl
theorem WI_X12_tapeBytes : Cond.instanceMethod yX12_tapeBytes ∈ ax_W := ax_tw (ax_t4 (List.mem_of_getElem? (i := 14) (by decide +kernel))) rfl
theorem WS_X12_tapeBytes : Cond.selects RX12 yX12_tapeBytes yX12_tapeBytes ∈ ax_W := ax_tw (ax_t4 (List.mem_of_getElem? (i := 15) (by decide +kernel))) rfl
theorem WM_X12_94 : Cond.methodLink RX12 94 yX9_length ∈ ax_W := ax_tw (ax_t4 (List.mem_of_getElem? (i := 17) (by decide +kernel))) rfl
theorem WM_L_146 : Cond.methodLink RL 146 yX12_emptyCells ∈ ax_W := ax_tw (ax_t4 (List.mem_of_getElem? (i := 18) (by decide +kernel))) rfl
theorem WI_X12_emptyCells : Cond.instanceMethod yX12_emptyCells ∈ ax_W := ax_tw (ax_t4 (List.mem_of_getElem? (i := 19) (by decide +kernel))) rfl
theorem WS_X12_emptyCells : Cond.selects RX12 yX12_emptyCells yX12_emptyCells ∈ ax_W := ax_tw (ax_t4 (List.mem_of_getElem? (i := 20) (by decide +kernel))) rfl
theorem WM_X12_165 : Cond.methodLink RX12 165 yX8_freeCells ∈ ax_W := ax_tw (ax_t4 (List.mem_of_getElem? (i := 22) (by decide +kernel))) rfl
theorem WI_X8_freeCells : Cond.instanceMethod yX8_freeCells ∈ ax_W := ax_tw (ax_t4 (List.mem_of_getElem? (i := 23) (by decide +kernel))) rfl
theorem WS_X8_freeCells : Cond.selects RX8 yX8_freeCells yX8_freeCells ∈ ax_W := ax_tw (ax_t4 (List.mem_of_getElem? (i := 24) (by decide +kernel))) rfl
theorem WM_X8_66 : Cond.methodLink RX8 66 yX8_cells ∈ ax_W := ax_tw (ax_t4 (List.mem_of_getElem? (i := 26) (by decide +kernel))) rfl
theorem WM_X8_70 : Cond.methodLink RX8 70 yX8_stones ∈ ax_W := ax_tw (ax_t4 (List.mem_of_getElem? (i := 27) (by decide +kernel))) rfl
theorem WI_X8_stones : Cond.instanceMethod yX8_stones ∈ ax_W := ax_tw (ax_t4 (List.mem_of_getElem? (i := 28) (by decide +kernel))) rfl
theorem WS_X8_stones : Cond.selects RX8 yX8_stones yX8_stones ∈ ax_W := ax_tw (ax_t4 (List.mem_of_getElem? (i := 29) (by decide +kernel))) rfl
theorem WM_L_163 : Cond.methodLink RL 163 yX12_isOver ∈ ax_W := ax_tw (ax_t4 (List.mem_of_getElem? (i := 31) (by decide +kernel))) rfl
theorem WI_X12_isOver : Cond.instanceMethod yX12_isOver ∈ ax_W := ax_tw (ax_t4 (List.mem_of_getElem? (i := 32) (by decide +kernel))) rfl
theorem WS_X12_isOver : Cond.selects RX12 yX12_isOver yX12_isOver ∈ ax_W := ax_tw (ax_t4 (List.mem_of_getElem? (i := 33) (by decide +kernel))) rfl
theorem WM_X12_182 : Cond.methodLink RX12 182 yX12_winner ∈ ax_W := ax_tw (ax_t4 (List.mem_of_getElem? (i := 35) (by decide +kernel))) rfl
theorem WI_X12_winner : Cond.instanceMethod yX12_winner ∈ ax_W := ax_tw (ax_t4 (List.mem_of_getElem? (i := 37) (by decide +kernel))) rfl
theorem WM_X12_231 : Cond.methodLink RX12 231 yX11_look ∈ ax_W := ax_tw (ax_t4 (List.mem_of_getElem? (i := 39) (by decide +kernel))) rfl
theorem WI_X11_look : Cond.instanceMethod yX11_look ∈ ax_W := ax_tw (ax_t4 (List.mem_of_getElem? (i := 40) (by decide +kernel))) rfl
theorem WS_X11_look : Cond.selects RX11 yX11_look yX11_look ∈ ax_W := ax_tw (ax_t4 (List.mem_of_getElem? (i := 41) (by decide +kernel))) rfl
theorem WM_X11_36 : Cond.methodLink RX11 36 yX11_measure ∈ ax_W := ax_tw (ax_t4 (List.mem_of_getElem? (i := 43) (by decide +kernel))) rfl
theorem WI_X11_measure : Cond.instanceMethod yX11_measure ∈ ax_W := ax_tw (ax_t4 (List.mem_of_getElem? (i := 45) (by decide +kernel))) rfl
theorem WM_X11_69 : Cond.methodLink RX11 69 yX8_changes ∈ ax_W := ax_tw (ax_t4 (List.mem_of_getElem? (i := 47) (by decide +kernel))) rfl
theorem WI_X8_changes : Cond.instanceMethod yX8_changes ∈ ax_W := ax_tw (ax_t4 (List.mem_of_getElem? (i := 48) (by decide +kernel))) rfl
theorem WS_X8_changes : Cond.selects RX8 yX8_changes yX8_changes ∈ ax_W := ax_tw (ax_t4 (List.mem_of_getElem? (i := 49) (by decide +kernel))) rfl
theorem WM_X11_61 : Cond.methodLink RX11 61 yX8_cells ∈ ax_W := ax_tw (ax_t4 (List.mem_of_getElem? (i := 51) (by decide +kernel))) rfl
theorem WM_X11_79 : Cond.methodLink RX11 79 yX8_isAtShore ∈ ax_W := ax_tw (ax_t4 (List.mem_of_getElem? (i := 52) (by decide +kernel))) rfl
theorem WI_X8_isAtShore : Cond.instanceMethod yX8_isAtShore ∈ ax_W := ax_tw (ax_t4 (List.mem_of_getElem? (i := 53) (by decide +kernel))) rfl
theorem WS_X8_isAtShore : Cond.selects RX8 yX8_isAtShore yX8_isAtShore ∈ ax_W := ax_tw (ax_t4 (List.mem_of_getElem? (i := 54) (by decide +kernel))) rfl
theorem WM_X11_83 : Cond.methodLink RX11 83 yX11_reach ∈ ax_W := ax_tw (ax_t4 (List.mem_of_getElem? (i := 56) (by decide +kernel))) rfl
theorem WI_X11_reach : Cond.instanceMethod yX11_reach ∈ ax_W := ax_tw (ax_t4 (List.mem_of_getElem? (i := 58) (by decide +kernel))) rfl
theorem WM_X11_44 : Cond.methodLink RX11 44 yX8_ownerAt ∈ ax_W := ax_tw (ax_t4 (List.mem_of_getElem? (i := 60) (by decide +kernel))) rfl
theorem WI_X8_ownerAt : Cond.instanceMethod yX8_ownerAt ∈ ax_W := ax_tw (ax_t4 (List.mem_of_getElem? (i := 61) (by decide +kernel))) rfl
theorem WS_X8_ownerAt : Cond.selects RX8 yX8_ownerAt yX8_ownerAt ∈ ax_W := ax_tw (ax_t4 (List.mem_of_getElem? (i := 62) (by decide +kernel))) rfl
theorem WM_X11_87 : Cond.methodLink RX11 87 yX8_beside ∈ ax_W := ax_tw (ax_t4 (List.mem_of_getElem? (i := 64) (by decide +kernel))) rfl
theorem WI_X8_beside : Cond.instanceMethod yX8_beside ∈ ax_W := ax_tw (ax_t4 (List.mem_of_getElem? (i := 65) (by decide +kernel))) rfl
theorem WS_X8_beside : Cond.selects RX8 yX8_beside yX8_beside ∈ ax_W := ax_tw (ax_t4 (List.mem_of_getElem? (i := 66) (by decide +kernel))) rfl
theorem WM_X11_90 : Cond.methodLink RX11 90 yX11_fewestAtOtherShore ∈ ax_W := ax_tw (ax_t4 (List.mem_of_getElem? (i := 68) (by decide +kernel))) rfl
theorem WI_X11_fewestAtOtherShore : Cond.instanceMethod yX11_fewestAtOtherShore ∈ ax_W := ax_tw (ax_t4 (List.mem_of_getElem? (i := 70) (by decide +kernel))) rfl
theorem WM_X11_40 : Cond.methodLink RX11 40 yX11_distance ∈ ax_W := ax_tw (ax_t4 (List.mem_of_getElem? (i := 72) (by decide +kernel))) rfl
theorem WI_X11_distance : Cond.instanceMethod yX11_distance ∈ ax_W := ax_tw (ax_t4 (List.mem_of_getElem? (i := 74) (by decide +kernel))) rfl
theorem WM_X11_93 : Cond.methodLink RX11 93 yJ9_min_7cf53 ∈ ax_W := ax_tw (ax_t4 (List.mem_of_getElem? (i := 76) (by decide +kernel))) rfl
theorem WT_J9_min_7cf53 : Cond.static yJ9_min_7cf53 ∈ ax_W := ax_tw (ax_t4 (List.mem_of_getElem? (i := 77) (by decide +kernel))) rfl
theorem WM_X12_232 : Cond.methodLink RX12 232 yX11_needed ∈ ax_W := ax_tw (ax_t4 (List.mem_of_getElem? (i := 79) (by decide +kernel))) rfl
theorem WI_X11_needed : Cond.instanceMethod yX11_needed ∈ ax_W := ax_tw (ax_t4 (List.mem_of_getElem? (i := 80) (by decide +kernel))) rfl
theorem WS_X11_needed : Cond.selects RX11 yX11_needed yX11_needed ∈ ax_W := ax_tw (ax_t4 (List.mem_of_getElem? (i := 81) (by decide +kernel))) rfl
theorem WM_L_200 : Cond.methodLink RL 200 yX12_frozenCells ∈ ax_W := ax_tw (ax_t4 (List.mem_of_getElem? (i := 83) (by decide +kernel))) rfl
theorem WI_X12_frozenCells : Cond.instanceMethod yX12_frozenCells ∈ ax_W := ax_tw (ax_t4 (List.mem_of_getElem? (i := 84) (by decide +kernel))) rfl
theorem WS_X12_frozenCells : Cond.selects RX12 yX12_frozenCells yX12_frozenCells ∈ ax_W := ax_tw (ax_t4 (List.mem_of_getElem? (i := 85) (by decide +kernel))) rfl
theorem WM_X12_228 : Cond.methodLink RX12 228 yX8_isIced ∈ ax_W := ax_tw (ax_t4 (List.mem_of_getElem? (i := 87) (by decide +kernel))) rfl
theorem WI_X8_isIced : Cond.instanceMethod yX8_isIced ∈ ax_W := ax_tw (ax_t4 (List.mem_of_getElem? (i := 88) (by decide +kernel))) rfl
theorem WS_X8_isIced : Cond.selects RX8 yX8_isIced yX8_isIced ∈ ax_W := ax_tw (ax_t4 (List.mem_of_getElem? (i := 89) (by decide +kernel))) rfl
theorem WM_X8_86 : Cond.methodLink RX8 86 yX8_ownerAround ∈ ax_W := ax_tw (ax_t4 (List.mem_of_getElem? (i := 91) (by decide +kernel))) rfl
theorem WI_X8_ownerAround : Cond.instanceMethod yX8_ownerAround ∈ ax_W := ax_tw (ax_t4 (List.mem_of_getElem? (i := 93) (by decide +kernel))) rfl
theorem WM_X8_90 : Cond.methodLink RX8 90 yX8_ownerAt ∈ ax_W := ax_tw (ax_t4 (List.mem_of_getElem? (i := 95) (by decide +kernel))) rfl
theorem WM_L_228 : Cond.methodLink RL 228 yX12_stonesByPlans ∈ ax_W := ax_tw (ax_t4 (List.mem_of_getElem? (i := 96) (by decide +kernel))) rfl
theorem WI_X12_stonesByPlans : Cond.instanceMethod yX12_stonesByPlans ∈ ax_W := ax_tw (ax_t4 (List.mem_of_getElem? (i := 97) (by decide +kernel))) rfl
theorem WS_X12_stonesByPlans : Cond.selects RX12 yX12_stonesByPlans yX12_stonesByPlans ∈ ax_W := ax_tw (ax_t4 (List.mem_of_getElem? (i := 98) (by decide +kernel))) rfl
theorem WM_X12_264 : Cond.methodLink RX12 264 yX12_playOn ∈ ax_W := ax_tw (ax_t4 (List.mem_of_getElem? (i := 100) (by decide +kernel))) rfl
theorem WI_X12_playOn : Cond.instanceMethod yX12_playOn ∈ ax_W := ax_tw (ax_t4 (List.mem_of_getElem? (i := 102) (by decide +kernel))) rfl
theorem WM_X12_188 : Cond.methodLink RX12 188 yX8_turn ∈ ax_W := ax_tw (ax_t4 (List.mem_of_getElem? (i := 104) (by decide +kernel))) rfl
theorem WI_X8_turn : Cond.instanceMethod yX8_turn ∈ ax_W := ax_tw (ax_t4 (List.mem_of_getElem? (i := 105) (by decide +kernel))) rfl
theorem WS_X8_turn : Cond.selects RX8 yX8_turn yX8_turn ∈ ax_W := ax_tw (ax_t4 (List.mem_of_getElem? (i := 106) (by decide +kernel))) rfl
theorem WM_X8_72 : Cond.methodLink RX8 72 yX8_stonesOf ∈ ax_W := ax_tw (ax_t4 (List.mem_of_getElem? (i := 108) (by decide +kernel))) rfl
theorem WI_X8_stonesOf : Cond.instanceMethod yX8_stonesOf ∈ ax_W := ax_tw (ax_t4 (List.mem_of_getElem? (i := 109) (by decide +kernel))) rfl
theorem WS_X8_stonesOf : Cond.selects RX8 yX8_stonesOf yX8_stonesOf ∈ ax_W := ax_tw (ax_t4 (List.mem_of_getElem? (i := 110) (by decide +kernel))) rfl
theorem WM_X12_258 : Cond.methodLink RX12 258 yX2_choose ∈ ax_W := ax_tw (ax_t4 (List.mem_of_getElem? (i := 112) (by decide +kernel))) rfl
theorem WI_X2_choose : Cond.instanceMethod yX2_choose ∈ ax_W := ax_tw (ax_t4 (List.mem_of_getElem? (i := 113) (by decide +kernel))) rfl
theorem WS_X2_choose : Cond.selects RX2 yX2_choose yX2_choose ∈ ax_W := ax_tw (ax_t4 (List.mem_of_getElem? (i := 114) (by decide +kernel))) rfl
theorem WM_X2_27 : Cond.methodLink RX2 27 yX1_look ∈ ax_W := ax_tw (ax_t4 (List.mem_of_getElem? (i := 116) (by decide +kernel))) rfl
theorem WI_X1_look : Cond.instanceMethod yX1_look ∈ ax_W := ax_tw (ax_t4 (List.mem_of_getElem? (i := 117) (by decide +kernel))) rfl
theorem WS_X1_look : Cond.selects RX1 yX1_look yX1_look ∈ ax_W := ax_tw (ax_t4 (List.mem_of_getElem? (i := 118) (by decide +kernel))) rfl
theorem WM_X1_36 : Cond.methodLink RX1 36 yX8_changes ∈ ax_W := ax_tw (ax_t4 (List.mem_of_getElem? (i := 120) (by decide +kernel))) rfl
theorem WM_X1_42 : Cond.methodLink RX1 42 yJ7_fill_53178 ∈ ax_W := ax_tw (ax_t4 (List.mem_of_getElem? (i := 121) (by decide +kernel))) rfl
theorem WM_X1_48 : Cond.methodLink RX1 48 yX8_cells ∈ ax_W := ax_tw (ax_t4 (List.mem_of_getElem? (i := 122) (by decide +kernel))) rfl
theorem WM_X1_33 : Cond.methodLink RX1 33 yX1_stateAt ∈ ax_W := ax_tw (ax_t4 (List.mem_of_getElem? (i := 123) (by decide +kernel))) rfl
theorem WI_X1_stateAt : Cond.instanceMethod yX1_stateAt ∈ ax_W := ax_tw (ax_t4 (List.mem_of_getElem? (i := 125) (by decide +kernel))) rfl
theorem WM_X1_55 : Cond.methodLink RX1 55 yX8_ownerAt ∈ ax_W := ax_tw (ax_t4 (List.mem_of_getElem? (i := 127) (by decide +kernel))) rfl
theorem WM_X1_29 : Cond.methodLink RX1 29 yX1_farEnd ∈ ax_W := ax_tw (ax_t4 (List.mem_of_getElem? (i := 128) (by decide +kernel))) rfl
theorem WI_X1_farEnd : Cond.instanceMethod yX1_farEnd ∈ ax_W := ax_tw (ax_t4 (List.mem_of_getElem? (i := 130) (by decide +kernel))) rfl
theorem WM_X1_59 : Cond.methodLink RX1 59 yX8_beside ∈ ax_W := ax_tw (ax_t4 (List.mem_of_getElem? (i := 132) (by decide +kernel))) rfl
theorem WM_X1_62 : Cond.methodLink RX1 62 yX1_nextSide ∈ ax_W := ax_tw (ax_t4 (List.mem_of_getElem? (i := 133) (by decide +kernel))) rfl
theorem WT_X1_nextSide : Cond.static yX1_nextSide ∈ ax_W := ax_tw (ax_t4 (List.mem_of_getElem? (i := 134) (by decide +kernel))) rfl
theorem WM_X1_51 : Cond.methodLink RX1 51 yX1_note ∈ ax_W := ax_tw (ax_t4 (List.mem_of_getElem? (i := 136) (by decide +kernel))) rfl
theorem WI_X1_note : Cond.instanceMethod yX1_note ∈ ax_W := ax_tw (ax_t4 (List.mem_of_getElem? (i := 138) (by decide +kernel))) rfl
theorem WM_X2_32 : Cond.methodLink RX2 32 yX11_look ∈ ax_W := ax_tw (ax_t4 (List.mem_of_getElem? (i := 140) (by decide +kernel))) rfl
theorem WM_X2_35 : Cond.methodLink RX2 35 yX7_count ∈ ax_W := ax_tw (ax_t4 (List.mem_of_getElem? (i := 141) (by decide +kernel))) rfl
theorem WM_X2_41 : Cond.methodLink RX2 41 yX7_playerOf ∈ ax_W := ax_tw (ax_t4 (List.mem_of_getElem? (i := 142) (by decide +kernel))) rfl
theorem WI_X7_playerOf : Cond.instanceMethod yX7_playerOf ∈ ax_W := ax_tw (ax_t4 (List.mem_of_getElem? (i := 143) (by decide +kernel))) rfl
theorem WS_X7_playerOf : Cond.selects RX7 yX7_playerOf yX7_playerOf ∈ ax_W := ax_tw (ax_t4 (List.mem_of_getElem? (i := 144) (by decide +kernel))) rfl
theorem WM_X7_50 : Cond.methodLink RX7 50 yX7_has ∈ ax_W := ax_tw (ax_t4 (List.mem_of_getElem? (i := 146) (by decide +kernel))) rfl
theorem WI_X7_has : Cond.instanceMethod yX7_has ∈ ax_W := ax_tw (ax_t4 (List.mem_of_getElem? (i := 148) (by decide +kernel))) rfl
theorem WM_X2_45 : Cond.methodLink RX2 45 yX2_holds ∈ ax_W := ax_tw (ax_t4 (List.mem_of_getElem? (i := 150) (by decide +kernel))) rfl
theorem WI_X2_holds : Cond.instanceMethod yX2_holds ∈ ax_W := ax_tw (ax_t4 (List.mem_of_getElem? (i := 152) (by decide +kernel))) rfl
theorem WM_X2_53 : Cond.methodLink RX2 53 yX7_testStart ∈ ax_W := ax_tw (ax_t4 (List.mem_of_getElem? (i := 154) (by decide +kernel))) rfl
theorem WI_X7_testStart : Cond.instanceMethod yX7_testStart ∈ ax_W := ax_tw (ax_t4 (List.mem_of_getElem? (i := 155) (by decide +kernel))) rfl
theorem WS_X7_testStart : Cond.selects RX7 yX7_testStart yX7_testStart ∈ ax_W := ax_tw (ax_t4 (List.mem_of_getElem? (i := 156) (by decide +kernel))) rfl
theorem WM_X2_56 : Cond.methodLink RX2 56 yX7_end ∈ ax_W := ax_tw (ax_t4 (List.mem_of_getElem? (i := 158) (by decide +kernel))) rfl
theorem WI_X7_end : Cond.instanceMethod yX7_end ∈ ax_W := ax_tw (ax_t4 (List.mem_of_getElem? (i := 159) (by decide +kernel))) rfl
theorem WS_X7_end : Cond.selects RX7 yX7_end yX7_end ∈ ax_W := ax_tw (ax_t4 (List.mem_of_getElem? (i := 160) (by decide +kernel))) rfl
theorem WM_X2_59 : Cond.methodLink RX2 59 yX2_reckon ∈ ax_W := ax_tw (ax_t4 (List.mem_of_getElem? (i := 162) (by decide +kernel))) rfl
theorem WI_X2_reckon : Cond.instanceMethod yX2_reckon ∈ ax_W := ax_tw (ax_t4 (List.mem_of_getElem? (i := 164) (by decide +kernel))) rfl
theorem WM_X2_122 : Cond.methodLink RX2 122 yX7_opAt ∈ ax_W := ax_tw (ax_t4 (List.mem_of_getElem? (i := 166) (by decide +kernel))) rfl
theorem WI_X7_opAt : Cond.instanceMethod yX7_opAt ∈ ax_W := ax_tw (ax_t4 (List.mem_of_getElem? (i := 167) (by decide +kernel))) rfl
theorem WS_X7_opAt : Cond.selects RX7 yX7_opAt yX7_opAt ∈ ax_W := ax_tw (ax_t4 (List.mem_of_getElem? (i := 168) (by decide +kernel))) rfl
theorem WF_X7_46 : Cond.fieldLink RX7 46 "HexPond$Kind" "WRONG" "LHexPond$Kind;" ∈ ax_W := ax_tw (ax_t4 (List.mem_of_getElem? (i := 170) (by decide +kernel))) rfl
theorem WM_X2_125 : Cond.methodLink RX2 125 yX7_operandAt ∈ ax_W := ax_tw (ax_t4 (List.mem_of_getElem? (i := 171) (by decide +kernel))) rfl
theorem WI_X7_operandAt : Cond.instanceMethod yX7_operandAt ∈ ax_W := ax_tw (ax_t4 (List.mem_of_getElem? (i := 172) (by decide +kernel))) rfl
theorem WS_X7_operandAt : Cond.selects RX7 yX7_operandAt yX7_operandAt ∈ ax_W := ax_tw (ax_t4 (List.mem_of_getElem? (i := 173) (by decide +kernel))) rfl
theorem WF_X2_63 : Cond.fieldLink RX2 63 "HexPond$1" "$SwitchMap$HexPond$Kind" "[I" ∈ ax_W := ax_tw (ax_t4 (List.mem_of_getElem? (i := 175) (by decide +kernel))) rfl
theorem WM_X2_72 : Cond.methodLink RX2 72 ⟨"HexPond$Kind", "ordinal", "()I"⟩ ∈ ax_W := ax_tw (ax_t4 (List.mem_of_getElem? (i := 177) (by decide +kernel))) rfl
theorem WI_Jx29ce0_ordinal_8abf5 : Cond.instanceMethod yJx29ce0_ordinal_8abf5 ∈ ax_W := ax_tw (ax_t4 (List.mem_of_getElem? (i := 181) (by decide +kernel))) rfl
theorem WM_X2_128 : Cond.methodLink RX2 128 yX2_push ∈ ax_W := ax_tw (ax_t4 (List.mem_of_getElem? (i := 183) (by decide +kernel))) rfl
theorem WI_X2_push : Cond.instanceMethod yX2_push ∈ ax_W := ax_tw (ax_t4 (List.mem_of_getElem? (i := 185) (by decide +kernel))) rfl
theorem WM_X2_132 : Cond.methodLink RX2 132 yX8_stones ∈ ax_W := ax_tw (ax_t4 (List.mem_of_getElem? (i := 187) (by decide +kernel))) rfl
theorem WM_X2_135 : Cond.methodLink RX2 135 yX8_freeCells ∈ ax_W := ax_tw (ax_t4 (List.mem_of_getElem? (i := 188) (by decide +kernel))) rfl
theorem WM_X2_138 : Cond.methodLink RX2 138 yX8_stonesOf ∈ ax_W := ax_tw (ax_t4 (List.mem_of_getElem? (i := 189) (by decide +kernel))) rfl
theorem WM_X2_141 : Cond.methodLink RX2 141 yX1_whole ∈ ax_W := ax_tw (ax_t4 (List.mem_of_getElem? (i := 190) (by decide +kernel))) rfl
theorem WI_X1_whole : Cond.instanceMethod yX1_whole ∈ ax_W := ax_tw (ax_t4 (List.mem_of_getElem? (i := 191) (by decide +kernel))) rfl
theorem WS_X1_whole : Cond.selects RX1 yX1_whole yX1_whole ∈ ax_W := ax_tw (ax_t4 (List.mem_of_getElem? (i := 192) (by decide +kernel))) rfl
theorem WM_X2_144 : Cond.methodLink RX2 144 yX11_needed ∈ ax_W := ax_tw (ax_t4 (List.mem_of_getElem? (i := 194) (by decide +kernel))) rfl
theorem WM_X2_147 : Cond.methodLink RX2 147 yX2_pop ∈ ax_W := ax_tw (ax_t4 (List.mem_of_getElem? (i := 195) (by decide +kernel))) rfl
theorem WI_X2_pop : Cond.instanceMethod yX2_pop ∈ ax_W := ax_tw (ax_t4 (List.mem_of_getElem? (i := 197) (by decide +kernel))) rfl
theorem WM_X2_150 : Cond.methodLink RX2 150 yX2_joined ∈ ax_W := ax_tw (ax_t4 (List.mem_of_getElem? (i := 199) (by decide +kernel))) rfl
theorem WT_X2_joined : Cond.static yX2_joined ∈ ax_W := ax_tw (ax_t4 (List.mem_of_getElem? (i := 200) (by decide +kernel))) rfl
theorem WM_X2_154 : Cond.methodLink RX2 154 yJ9_min_7cf53 ∈ ax_W := ax_tw (ax_t4 (List.mem_of_getElem? (i := 202) (by decide +kernel))) rfl
theorem WM_X2_157 : Cond.methodLink RX2 157 yJ9_max_7cf53 ∈ ax_W := ax_tw (ax_t4 (List.mem_of_getElem? (i := 203) (by decide +kernel))) rfl
theorem WT_J9_max_7cf53 : Cond.static yJ9_max_7cf53 ∈ ax_W := ax_tw (ax_t4 (List.mem_of_getElem? (i := 204) (by decide +kernel))) rfl
theorem WM_X2_49 : Cond.methodLink RX2 49 yX2_cellBy ∈ ax_W := ax_tw (ax_t4 (List.mem_of_getElem? (i := 206) (by decide +kernel))) rfl
theorem WI_X2_cellBy : Cond.instanceMethod yX2_cellBy ∈ ax_W := ax_tw (ax_t4 (List.mem_of_getElem? (i := 208) (by decide +kernel))) rfl
theorem WM_X2_68 : Cond.methodLink RX2 68 yX7_moveOf ∈ ax_W := ax_tw (ax_t4 (List.mem_of_getElem? (i := 210) (by decide +kernel))) rfl
theorem WI_X7_moveOf : Cond.instanceMethod yX7_moveOf ∈ ax_W := ax_tw (ax_t4 (List.mem_of_getElem? (i := 211) (by decide +kernel))) rfl
theorem WS_X7_moveOf : Cond.selects RX7 yX7_moveOf yX7_moveOf ∈ ax_W := ax_tw (ax_t4 (List.mem_of_getElem? (i := 212) (by decide +kernel))) rfl
theorem WM_X2_77 : Cond.methodLink RX2 77 yX11_firstWinning ∈ ax_W := ax_tw (ax_t4 (List.mem_of_getElem? (i := 214) (by decide +kernel))) rfl
theorem WI_X11_firstWinning : Cond.instanceMethod yX11_firstWinning ∈ ax_W := ax_tw (ax_t4 (List.mem_of_getElem? (i := 215) (by decide +kernel))) rfl
theorem WS_X11_firstWinning : Cond.selects RX11 yX11_firstWinning yX11_firstWinning ∈ ax_W := ax_tw (ax_t4 (List.mem_of_getElem? (i := 216) (by decide +kernel))) rfl
theorem WM_X11_65 : Cond.methodLink RX11 65 yX11_wins ∈ ax_W := ax_tw (ax_t4 (List.mem_of_getElem? (i := 218) (by decide +kernel))) rfl
theorem WI_X11_wins : Cond.instanceMethod yX11_wins ∈ ax_W := ax_tw (ax_t4 (List.mem_of_getElem? (i := 219) (by decide +kernel))) rfl
theorem WS_X11_wins : Cond.selects RX11 yX11_wins yX11_wins ∈ ax_W := ax_tw (ax_t4 (List.mem_of_getElem? (i := 220) (by decide +kernel))) rfl
theorem WM_X11_50 : Cond.methodLink RX11 50 yX8_hasCell ∈ ax_W := ax_tw (ax_t4 (List.mem_of_getElem? (i := 222) (by decide +kernel))) rfl
theorem WM_X11_54 : Cond.methodLink RX11 54 yX11_through ∈ ax_W := ax_tw (ax_t4 (List.mem_of_getElem? (i := 223) (by decide +kernel))) rfl
theorem WI_X11_through : Cond.instanceMethod yX11_through ∈ ax_W := ax_tw (ax_t4 (List.mem_of_getElem? (i := 224) (by decide +kernel))) rfl
theorem WS_X11_through : Cond.selects RX11 yX11_through yX11_through ∈ ax_W := ax_tw (ax_t4 (List.mem_of_getElem? (i := 225) (by decide +kernel))) rfl
theorem WM_X11_58 : Cond.methodLink RX11 58 yX11_needed ∈ ax_W := ax_tw (ax_t4 (List.mem_of_getElem? (i := 227) (by decide +kernel))) rfl
theorem WM_X2_80 : Cond.methodLink RX2 80 yX1_saving ∈ ax_W := ax_tw (ax_t4 (List.mem_of_getElem? (i := 228) (by decide +kernel))) rfl
theorem WI_X1_saving : Cond.instanceMethod yX1_saving ∈ ax_W := ax_tw (ax_t4 (List.mem_of_getElem? (i := 229) (by decide +kernel))) rfl
theorem WS_X1_saving : Cond.selects RX1 yX1_saving yX1_saving ∈ ax_W := ax_tw (ax_t4 (List.mem_of_getElem? (i := 230) (by decide +kernel))) rfl
theorem WM_X2_83 : Cond.methodLink RX2 83 yX11_nearest ∈ ax_W := ax_tw (ax_t4 (List.mem_of_getElem? (i := 232) (by decide +kernel))) rfl
theorem WI_X11_nearest : Cond.instanceMethod yX11_nearest ∈ ax_W := ax_tw (ax_t4 (List.mem_of_getElem? (i := 233) (by decide +kernel))) rfl
theorem WS_X11_nearest : Cond.selects RX11 yX11_nearest yX11_nearest ∈ ax_W := ax_tw (ax_t4 (List.mem_of_getElem? (i := 234) (by decide +kernel))) rfl
theorem WM_X2_86 : Cond.methodLink RX2 86 yX2_toldCell ∈ ax_W := ax_tw (ax_t4 (List.mem_of_getElem? (i := 236) (by decide +kernel))) rfl
theorem WI_X2_toldCell : Cond.instanceMethod yX2_toldCell ∈ ax_W := ax_tw (ax_t4 (List.mem_of_getElem? (i := 238) (by decide +kernel))) rfl
theorem WM_X2_89 : Cond.methodLink RX2 89 yX7_columnStart ∈ ax_W := ax_tw (ax_t5 (List.mem_of_getElem? (i := 0) (by decide +kernel))) rfl
theorem WI_X7_columnStart : Cond.instanceMethod yX7_columnStart ∈ ax_W := ax_tw (ax_t5 (List.mem_of_getElem? (i := 1) (by decide +kernel))) rfl
theorem WS_X7_columnStart : Cond.selects RX7 yX7_columnStart yX7_columnStart ∈ ax_W := ax_tw (ax_t5 (List.mem_of_getElem? (i := 2) (by decide +kernel))) rfl
theorem WM_X2_92 : Cond.methodLink RX2 92 yX7_rowStart ∈ ax_W := ax_tw (ax_t5 (List.mem_of_getElem? (i := 4) (by decide +kernel))) rfl
theorem WI_X7_rowStart : Cond.instanceMethod yX7_rowStart ∈ ax_W := ax_tw (ax_t5 (List.mem_of_getElem? (i := 5) (by decide +kernel))) rfl
theorem WS_X7_rowStart : Cond.selects RX7 yX7_rowStart yX7_rowStart ∈ ax_W := ax_tw (ax_t5 (List.mem_of_getElem? (i := 6) (by decide +kernel))) rfl
theorem WM_X2_95 : Cond.methodLink RX2 95 yX8_columns ∈ ax_W := ax_tw (ax_t5 (List.mem_of_getElem? (i := 8) (by decide +kernel))) rfl
theorem WM_X2_100 : Cond.methodLink RX2 100 yX2_remainder ∈ ax_W := ax_tw (ax_t5 (List.mem_of_getElem? (i := 9) (by decide +kernel))) rfl
theorem WT_X2_remainder : Cond.static yX2_remainder ∈ ax_W := ax_tw (ax_t5 (List.mem_of_getElem? (i := 10) (by decide +kernel))) rfl
theorem WM_X2_113 : Cond.methodLink RX2 113 yJ9_floorMod_7cf53 ∈ ax_W := ax_tw (ax_t5 (List.mem_of_getElem? (i := 12) (by decide +kernel))) rfl
theorem WT_J9_floorMod_7cf53 : Cond.static yJ9_floorMod_7cf53 ∈ ax_W := ax_tw (ax_t5 (List.mem_of_getElem? (i := 13) (by decide +kernel))) rfl
theorem WM_X2_104 : Cond.methodLink RX2 104 yX8_rows ∈ ax_W := ax_tw (ax_t5 (List.mem_of_getElem? (i := 15) (by decide +kernel))) rfl
theorem WM_X2_107 : Cond.methodLink RX2 107 yX8_cellAt ∈ ax_W := ax_tw (ax_t5 (List.mem_of_getElem? (i := 16) (by decide +kernel))) rfl
theorem WM_X2_110 : Cond.methodLink RX2 110 yX8_ownerAt ∈ ax_W := ax_tw (ax_t5 (List.mem_of_getElem? (i := 17) (by decide +kernel))) rfl
theorem WM_X12_250 : Cond.methodLink RX12 250 yX8_lay ∈ ax_W := ax_tw (ax_t5 (List.mem_of_getElem? (i := 18) (by decide +kernel))) rfl
theorem WI_X8_lay : Cond.instanceMethod yX8_lay ∈ ax_W := ax_tw (ax_t5 (List.mem_of_getElem? (i := 19) (by decide +kernel))) rfl
theorem WS_X8_lay : Cond.selects RX8 yX8_lay yX8_lay ∈ ax_W := ax_tw (ax_t5 (List.mem_of_getElem? (i := 20) (by decide +kernel))) rfl
theorem WM_X8_83 : Cond.methodLink RX8 83 yX8_put ∈ ax_W := ax_tw (ax_t5 (List.mem_of_getElem? (i := 22) (by decide +kernel))) rfl
theorem WM_X12_267 : Cond.methodLink RX12 267 yX12_liftStones ∈ ax_W := ax_tw (ax_t5 (List.mem_of_getElem? (i := 23) (by decide +kernel))) rfl
theorem WI_X12_liftStones : Cond.instanceMethod yX12_liftStones ∈ ax_W := ax_tw (ax_t5 (List.mem_of_getElem? (i := 25) (by decide +kernel))) rfl
theorem WM_X12_255 : Cond.methodLink RX12 255 yX8_liftLatest ∈ ax_W := ax_tw (ax_t5 (List.mem_of_getElem? (i := 27) (by decide +kernel))) rfl
theorem WI_X8_liftLatest : Cond.instanceMethod yX8_liftLatest ∈ ax_W := ax_tw (ax_t5 (List.mem_of_getElem? (i := 28) (by decide +kernel))) rfl
theorem WS_X8_liftLatest : Cond.selects RX8 yX8_liftLatest yX8_liftLatest ∈ ax_W := ax_tw (ax_t5 (List.mem_of_getElem? (i := 29) (by decide +kernel))) rfl
theorem WM_L_232 : Cond.methodLink RL 232 yX12_winnerByPlans ∈ ax_W := ax_tw (ax_t5 (List.mem_of_getElem? (i := 31) (by decide +kernel))) rfl
theorem WI_X12_winnerByPlans : Cond.instanceMethod yX12_winnerByPlans ∈ ax_W := ax_tw (ax_t5 (List.mem_of_getElem? (i := 32) (by decide +kernel))) rfl
theorem WS_X12_winnerByPlans : Cond.selects RX12 yX12_winnerByPlans yX12_winnerByPlans ∈ ax_W := ax_tw (ax_t5 (List.mem_of_getElem? (i := 33) (by decide +kernel))) rfl
theorem WM_L_242 : Cond.methodLink RL 242 yX12_meanGroup ∈ ax_W := ax_tw (ax_t5 (List.mem_of_getElem? (i := 35) (by decide +kernel))) rfl
theorem WI_X12_meanGroup : Cond.instanceMethod yX12_meanGroup ∈ ax_W := ax_tw (ax_t5 (List.mem_of_getElem? (i := 36) (by decide +kernel))) rfl
theorem WS_X12_meanGroup : Cond.selects RX12 yX12_meanGroup yX12_meanGroup ∈ ax_W := ax_tw (ax_t5 (List.mem_of_getElem? (i := 37) (by decide +kernel))) rfl
theorem WM_X12_200 : Cond.methodLink RX12 200 yX4_look ∈ ax_W := ax_tw (ax_t5 (List.mem_of_getElem? (i := 39) (by decide +kernel))) rfl
theorem WI_X4_look : Cond.instanceMethod yX4_look ∈ ax_W := ax_tw (ax_t5 (List.mem_of_getElem? (i := 40) (by decide +kernel))) rfl
theorem WS_X4_look : Cond.selects RX4 yX4_look yX4_look ∈ ax_W := ax_tw (ax_t5 (List.mem_of_getElem? (i := 41) (by decide +kernel))) rfl
theorem WM_X4_22 : Cond.methodLink RX4 22 yJ7_fill_53178 ∈ ax_W := ax_tw (ax_t5 (List.mem_of_getElem? (i := 43) (by decide +kernel))) rfl
theorem WM_X4_56 : Cond.methodLink RX4 56 yX8_cells ∈ ax_W := ax_tw (ax_t5 (List.mem_of_getElem? (i := 44) (by decide +kernel))) rfl
theorem WM_X4_36 : Cond.methodLink RX4 36 yX8_ownerAt ∈ ax_W := ax_tw (ax_t5 (List.mem_of_getElem? (i := 45) (by decide +kernel))) rfl
theorem WM_X4_28 : Cond.methodLink RX4 28 yX4_gather ∈ ax_W := ax_tw (ax_t5 (List.mem_of_getElem? (i := 46) (by decide +kernel))) rfl
theorem WI_X4_gather : Cond.instanceMethod yX4_gather ∈ ax_W := ax_tw (ax_t5 (List.mem_of_getElem? (i := 48) (by decide +kernel))) rfl
theorem WM_X4_66 : Cond.methodLink RX4 66 yX4_join ∈ ax_W := ax_tw (ax_t5 (List.mem_of_getElem? (i := 50) (by decide +kernel))) rfl
theorem WI_X4_join : Cond.instanceMethod yX4_join ∈ ax_W := ax_tw (ax_t5 (List.mem_of_getElem? (i := 52) (by decide +kernel))) rfl
theorem WM_X4_69 : Cond.methodLink RX4 69 yX8_beside ∈ ax_W := ax_tw (ax_t5 (List.mem_of_getElem? (i := 54) (by decide +kernel))) rfl
theorem WM_X4_60 : Cond.methodLink RX4 60 yJ9_max_7cf53 ∈ ax_W := ax_tw (ax_t5 (List.mem_of_getElem? (i := 55) (by decide +kernel))) rfl
theorem WM_X12_203 : Cond.methodLink RX12 203 yX4_count ∈ ax_W := ax_tw (ax_t5 (List.mem_of_getElem? (i := 56) (by decide +kernel))) rfl
theorem WI_X4_count : Cond.instanceMethod yX4_count ∈ ax_W := ax_tw (ax_t5 (List.mem_of_getElem? (i := 57) (by decide +kernel))) rfl
theorem WS_X4_count : Cond.selects RX4 yX4_count yX4_count ∈ ax_W := ax_tw (ax_t5 (List.mem_of_getElem? (i := 58) (by decide +kernel))) rfl
theorem WM_X12_278 : Cond.methodLink RX12 278 yX8_stones ∈ ax_W := ax_tw (ax_t5 (List.mem_of_getElem? (i := 60) (by decide +kernel))) rfl
theorem WM_L_247 : Cond.methodLink RL 247 yX12_digest ∈ ax_W := ax_tw (ax_t5 (List.mem_of_getElem? (i := 61) (by decide +kernel))) rfl
theorem WI_X12_digest : Cond.instanceMethod yX12_digest ∈ ax_W := ax_tw (ax_t5 (List.mem_of_getElem? (i := 62) (by decide +kernel))) rfl
theorem WS_X12_digest : Cond.selects RX12 yX12_digest yX12_digest ∈ ax_W := ax_tw (ax_t5 (List.mem_of_getElem? (i := 63) (by decide +kernel))) rfl
theorem WJ_X12_281 : Cond.constantLong RX12 281 (953 : Int64) ∈ ax_W := ax_tw (ax_t5 (List.mem_of_getElem? (i := 65) (by decide +kernel))) rfl
theorem WJ_X12_283 : Cond.constantLong RX12 283 (31 : Int64) ∈ ax_W := ax_tw (ax_t5 (List.mem_of_getElem? (i := 66) (by decide +kernel))) rfl
theorem WM_X12_285 : Cond.methodLink RX12 285 yX12_columns ∈ ax_W := ax_tw (ax_t5 (List.mem_of_getElem? (i := 67) (by decide +kernel))) rfl
theorem WM_X12_286 : Cond.methodLink RX12 286 yX12_rows ∈ ax_W := ax_tw (ax_t5 (List.mem_of_getElem? (i := 68) (by decide +kernel))) rfl
theorem WM_X12_287 : Cond.methodLink RX12 287 yX12_plans ∈ ax_W := ax_tw (ax_t5 (List.mem_of_getElem? (i := 69) (by decide +kernel))) rfl
theorem WM_X12_289 : Cond.methodLink RX12 289 yX12_stonesToTakeBack ∈ ax_W := ax_tw (ax_t5 (List.mem_of_getElem? (i := 70) (by decide +kernel))) rfl
theorem WM_X12_292 : Cond.methodLink RX12 292 yX12_tapeBytes ∈ ax_W := ax_tw (ax_t5 (List.mem_of_getElem? (i := 71) (by decide +kernel))) rfl
theorem WM_X12_295 : Cond.methodLink RX12 295 yX12_emptyCells ∈ ax_W := ax_tw (ax_t5 (List.mem_of_getElem? (i := 72) (by decide +kernel))) rfl
theorem WM_X12_298 : Cond.methodLink RX12 298 yX12_frozenCells ∈ ax_W := ax_tw (ax_t5 (List.mem_of_getElem? (i := 73) (by decide +kernel))) rfl
theorem WM_X12_301 : Cond.methodLink RX12 301 yX12_isOver ∈ ax_W := ax_tw (ax_t5 (List.mem_of_getElem? (i := 74) (by decide +kernel))) rfl
theorem WM_X12_305 : Cond.methodLink RX12 305 yX12_digestOfPlayer ∈ ax_W := ax_tw (ax_t5 (List.mem_of_getElem? (i := 75) (by decide +kernel))) rfl
theorem WI_X12_digestOfPlayer : Cond.instanceMethod yX12_digestOfPlayer ∈ ax_W := ax_tw (ax_t5 (List.mem_of_getElem? (i := 77) (by decide +kernel))) rfl
theorem WM_X12_220 : Cond.methodLink RX12 220 yX1_look ∈ ax_W := ax_tw (ax_t5 (List.mem_of_getElem? (i := 79) (by decide +kernel))) rfl
theorem WM_X12_171 : Cond.methodLink RX12 171 yX8_stonesOf ∈ ax_W := ax_tw (ax_t5 (List.mem_of_getElem? (i := 80) (by decide +kernel))) rfl
theorem WM_X12_204 : Cond.methodLink RX12 204 yX4_greatest ∈ ax_W := ax_tw (ax_t5 (List.mem_of_getElem? (i := 81) (by decide +kernel))) rfl
theorem WI_X4_greatest : Cond.instanceMethod yX4_greatest ∈ ax_W := ax_tw (ax_t5 (List.mem_of_getElem? (i := 82) (by decide +kernel))) rfl
theorem WS_X4_greatest : Cond.selects RX4 yX4_greatest yX4_greatest ∈ ax_W := ax_tw (ax_t5 (List.mem_of_getElem? (i := 83) (by decide +kernel))) rfl
theorem WM_X12_222 : Cond.methodLink RX12 222 yX1_whole ∈ ax_W := ax_tw (ax_t5 (List.mem_of_getElem? (i := 85) (by decide +kernel))) rfl
theorem WM_X12_225 : Cond.methodLink RX12 225 yX1_broken ∈ ax_W := ax_tw (ax_t5 (List.mem_of_getElem? (i := 86) (by decide +kernel))) rfl
theorem WI_X1_broken : Cond.instanceMethod yX1_broken ∈ ax_W := ax_tw (ax_t5 (List.mem_of_getElem? (i := 87) (by decide +kernel))) rfl
theorem WS_X1_broken : Cond.selects RX1 yX1_broken yX1_broken ∈ ax_W := ax_tw (ax_t5 (List.mem_of_getElem? (i := 88) (by decide +kernel))) rfl
theorem WM_X12_245 : Cond.methodLink RX12 245 yX11_winningCells ∈ ax_W := ax_tw (ax_t5 (List.mem_of_getElem? (i := 90) (by decide +kernel))) rfl
theorem WI_X11_winningCells : Cond.instanceMethod yX11_winningCells ∈ ax_W := ax_tw (ax_t5 (List.mem_of_getElem? (i := 91) (by decide +kernel))) rfl
theorem WS_X11_winningCells : Cond.selects RX11 yX11_winningCells yX11_winningCells ∈ ax_W := ax_tw (ax_t5 (List.mem_of_getElem? (i := 92) (by decide +kernel))) rfl
theorem WM_X12_178 : Cond.methodLink RX12 178 yX8_ownerAt ∈ ax_W := ax_tw (ax_t5 (List.mem_of_getElem? (i := 94) (by decide +kernel))) rfl
theorem WM_L_105 : Cond.methodLink RL 105 yL_feed ∈ ax_W := ax_tw (ax_t5 (List.mem_of_getElem? (i := 95) (by decide +kernel))) rfl
theorem WT_L_feed : Cond.static yL_feed ∈ ax_W := ax_tw (ax_t5 (List.mem_of_getElem? (i := 96) (by decide +kernel))) rfl
theorem WC_L_13 : Cond.classLink RL 13 "java/lang/IllegalStateException" ∈ ax_W := ax_tw (ax_t5 (List.mem_of_getElem? (i := 98) (by decide +kernel))) rfl
theorem WM_L_7 : Cond.methodLink RL 7 yX12_feed ∈ ax_W := ax_tw (ax_t5 (List.mem_of_getElem? (i := 99) (by decide +kernel))) rfl
theorem WI_X12_feed : Cond.instanceMethod yX12_feed ∈ ax_W := ax_tw (ax_t5 (List.mem_of_getElem? (i := 100) (by decide +kernel))) rfl
theorem WS_X12_feed : Cond.selects RX12 yX12_feed yX12_feed ∈ ax_W := ax_tw (ax_t5 (List.mem_of_getElem? (i := 101) (by decide +kernel))) rfl
theorem WC_X12_98 : Cond.classLink RX12 98 "java/lang/IllegalStateException" ∈ ax_W := ax_tw (ax_t5 (List.mem_of_getElem? (i := 103) (by decide +kernel))) rfl
theorem WM_X12_102 : Cond.methodLink RX12 102 ⟨"java/lang/IllegalStateException", "<init>", "(Ljava/lang/String;)V"⟩ ∈ ax_W := ax_tw (ax_t5 (List.mem_of_getElem? (i := 145) (by decide +kernel))) rfl
theorem WM_X12_105 : Cond.methodLink RX12 105 yX9_append ∈ ax_W := ax_tw (ax_t5 (List.mem_of_getElem? (i := 170) (by decide +kernel))) rfl
theorem WI_X9_append : Cond.instanceMethod yX9_append ∈ ax_W := ax_tw (ax_t5 (List.mem_of_getElem? (i := 171) (by decide +kernel))) rfl
theorem WS_X9_append : Cond.selects RX9 yX9_append yX9_append ∈ ax_W := ax_tw (ax_t5 (List.mem_of_getElem? (i := 172) (by decide +kernel))) rfl
theorem WM_L_114 : Cond.methodLink RL 114 yL_trim ∈ ax_W := ax_tw (ax_t5 (List.mem_of_getElem? (i := 174) (by decide +kernel))) rfl
theorem WT_L_trim : Cond.static yL_trim ∈ ax_W := ax_tw (ax_t5 (List.mem_of_getElem? (i := 175) (by decide +kernel))) rfl
theorem WC_L_19 : Cond.classLink RL 19 "java/lang/IllegalArgumentException" ∈ ax_W := ax_tw (ax_t5 (List.mem_of_getElem? (i := 177) (by decide +kernel))) rfl
theorem WM_L_15 : Cond.methodLink RL 15 yX12_trim ∈ ax_W := ax_tw (ax_t5 (List.mem_of_getElem? (i := 178) (by decide +kernel))) rfl
theorem WI_X12_trim : Cond.instanceMethod yX12_trim ∈ ax_W := ax_tw (ax_t5 (List.mem_of_getElem? (i := 179) (by decide +kernel))) rfl
theorem WS_X12_trim : Cond.selects RX12 yX12_trim yX12_trim ∈ ax_W := ax_tw (ax_t5 (List.mem_of_getElem? (i := 180) (by decide +kernel))) rfl
theorem WC_X12_109 : Cond.classLink RX12 109 "java/lang/IllegalArgumentException" ∈ ax_W := ax_tw (ax_t5 (List.mem_of_getElem? (i := 182) (by decide +kernel))) rfl
theorem WM_X12_113 : Cond.methodLink RX12 113 ⟨"java/lang/IllegalArgumentException", "<init>", "(Ljava/lang/String;)V"⟩ ∈ ax_W := ax_tw (ax_t5 (List.mem_of_getElem? (i := 192) (by decide +kernel))) rfl
theorem WM_L_150 : Cond.methodLink RL 150 yL_stonesOf ∈ ax_W := ax_tw (ax_t5 (List.mem_of_getElem? (i := 198) (by decide +kernel))) rfl
theorem WT_L_stonesOf : Cond.static yL_stonesOf ∈ ax_W := ax_tw (ax_t5 (List.mem_of_getElem? (i := 199) (by decide +kernel))) rfl
theorem WC_L_24 : Cond.classLink RL 24 "java/lang/IndexOutOfBoundsException" ∈ ax_W := ax_tw (ax_t5 (List.mem_of_getElem? (i := 201) (by decide +kernel))) rfl
theorem WM_L_21 : Cond.methodLink RL 21 yX12_stonesOf ∈ ax_W := ax_tw (ax_t5 (List.mem_of_getElem? (i := 202) (by decide +kernel))) rfl
theorem WI_X12_stonesOf : Cond.instanceMethod yX12_stonesOf ∈ ax_W := ax_tw (ax_t5 (List.mem_of_getElem? (i := 203) (by decide +kernel))) rfl
theorem WS_X12_stonesOf : Cond.selects RX12 yX12_stonesOf yX12_stonesOf ∈ ax_W := ax_tw (ax_t5 (List.mem_of_getElem? (i := 204) (by decide +kernel))) rfl
theorem WM_X12_168 : Cond.methodLink RX12 168 yX12_requirePlayer ∈ ax_W := ax_tw (ax_t5 (List.mem_of_getElem? (i := 206) (by decide +kernel))) rfl
theorem WT_X12_requirePlayer : Cond.static yX12_requirePlayer ∈ ax_W := ax_tw (ax_t5 (List.mem_of_getElem? (i := 207) (by decide +kernel))) rfl
theorem WC_X12_211 : Cond.classLink RX12 211 "java/lang/IndexOutOfBoundsException" ∈ ax_W := ax_tw (ax_t5 (List.mem_of_getElem? (i := 209) (by decide +kernel))) rfl
theorem WM_X12_215 : Cond.methodLink RX12 215 ⟨"java/lang/IndexOutOfBoundsException", "<init>", "(Ljava/lang/String;)V"⟩ ∈ ax_W := ax_tw (ax_t5 (List.mem_of_getElem? (i := 219) (by decide +kernel))) rfl
theorem WM_L_153 : Cond.methodLink RL 153 yL_isEmpty ∈ ax_W := ax_tw (ax_t5 (List.mem_of_getElem? (i := 225) (by decide +kernel))) rfl
theorem WT_L_isEmpty : Cond.static yL_isEmpty ∈ ax_W := ax_tw (ax_t5 (List.mem_of_getElem? (i := 226) (by decide +kernel))) rfl
theorem WM_L_26 : Cond.methodLink RL 26 yX12_isEmpty ∈ ax_W := ax_tw (ax_t5 (List.mem_of_getElem? (i := 228) (by decide +kernel))) rfl
theorem WI_X12_isEmpty : Cond.instanceMethod yX12_isEmpty ∈ ax_W := ax_tw (ax_t5 (List.mem_of_getElem? (i := 229) (by decide +kernel))) rfl
theorem WS_X12_isEmpty : Cond.selects RX12 yX12_isEmpty yX12_isEmpty ∈ ax_W := ax_tw (ax_t5 (List.mem_of_getElem? (i := 230) (by decide +kernel))) rfl
theorem WM_X12_174 : Cond.methodLink RX12 174 yX12_requiredCell ∈ ax_W := ax_tw (ax_t5 (List.mem_of_getElem? (i := 232) (by decide +kernel))) rfl
theorem WI_X12_requiredCell : Cond.instanceMethod yX12_requiredCell ∈ ax_W := ax_tw (ax_t5 (List.mem_of_getElem? (i := 234) (by decide +kernel))) rfl
theorem WM_X12_311 : Cond.methodLink RX12 311 yX8_cellAt ∈ ax_W := ax_tw (ax_t5 (List.mem_of_getElem? (i := 236) (by decide +kernel))) rfl
theorem WM_L_157 : Cond.methodLink RL 157 yL_ownerOf ∈ ax_W := ax_tw (ax_t5 (List.mem_of_getElem? (i := 238) (by decide +kernel))) rfl
theorem WT_L_ownerOf : Cond.static yL_ownerOf ∈ ax_W := ax_tw (ax_t5 (List.mem_of_getElem? (i := 239) (by decide +kernel))) rfl
theorem WM_L_30 : Cond.methodLink RL 30 yX12_ownerOf ∈ ax_W := ax_tw (ax_t6 (List.mem_of_getElem? (i := 1) (by decide +kernel))) rfl
theorem WI_X12_ownerOf : Cond.instanceMethod yX12_ownerOf ∈ ax_W := ax_tw (ax_t6 (List.mem_of_getElem? (i := 2) (by decide +kernel))) rfl
theorem WS_X12_ownerOf : Cond.selects RX12 yX12_ownerOf yX12_ownerOf ∈ ax_W := ax_tw (ax_t6 (List.mem_of_getElem? (i := 3) (by decide +kernel))) rfl
theorem WM_X12_179 : Cond.methodLink RX12 179 yX12_requiredStone ∈ ax_W := ax_tw (ax_t6 (List.mem_of_getElem? (i := 5) (by decide +kernel))) rfl
theorem WI_X12_requiredStone : Cond.instanceMethod yX12_requiredStone ∈ ax_W := ax_tw (ax_t6 (List.mem_of_getElem? (i := 7) (by decide +kernel))) rfl
theorem WM_L_160 : Cond.methodLink RL 160 yL_hasWon ∈ ax_W := ax_tw (ax_t6 (List.mem_of_getElem? (i := 10) (by decide +kernel))) rfl
theorem WT_L_hasWon : Cond.static yL_hasWon ∈ ax_W := ax_tw (ax_t6 (List.mem_of_getElem? (i := 11) (by decide +kernel))) rfl
theorem WM_L_34 : Cond.methodLink RL 34 yX12_hasWon ∈ ax_W := ax_tw (ax_t6 (List.mem_of_getElem? (i := 13) (by decide +kernel))) rfl
theorem WI_X12_hasWon : Cond.instanceMethod yX12_hasWon ∈ ax_W := ax_tw (ax_t6 (List.mem_of_getElem? (i := 14) (by decide +kernel))) rfl
theorem WS_X12_hasWon : Cond.selects RX12 yX12_hasWon yX12_hasWon ∈ ax_W := ax_tw (ax_t6 (List.mem_of_getElem? (i := 15) (by decide +kernel))) rfl
theorem WM_L_168 : Cond.methodLink RL 168 yL_playerInTurn ∈ ax_W := ax_tw (ax_t6 (List.mem_of_getElem? (i := 17) (by decide +kernel))) rfl
theorem WT_L_playerInTurn : Cond.static yL_playerInTurn ∈ ax_W := ax_tw (ax_t6 (List.mem_of_getElem? (i := 18) (by decide +kernel))) rfl
theorem WM_L_38 : Cond.methodLink RL 38 yX12_playerInTurn ∈ ax_W := ax_tw (ax_t6 (List.mem_of_getElem? (i := 20) (by decide +kernel))) rfl
theorem WI_X12_playerInTurn : Cond.instanceMethod yX12_playerInTurn ∈ ax_W := ax_tw (ax_t6 (List.mem_of_getElem? (i := 21) (by decide +kernel))) rfl
theorem WS_X12_playerInTurn : Cond.selects RX12 yX12_playerInTurn yX12_playerInTurn ∈ ax_W := ax_tw (ax_t6 (List.mem_of_getElem? (i := 22) (by decide +kernel))) rfl
theorem WM_X12_185 : Cond.methodLink RX12 185 yX12_requireGameOn ∈ ax_W := ax_tw (ax_t6 (List.mem_of_getElem? (i := 24) (by decide +kernel))) rfl
theorem WI_X12_requireGameOn : Cond.instanceMethod yX12_requireGameOn ∈ ax_W := ax_tw (ax_t6 (List.mem_of_getElem? (i := 26) (by decide +kernel))) rfl
theorem WM_L_172 : Cond.methodLink RL 172 yL_stonesBeside ∈ ax_W := ax_tw (ax_t6 (List.mem_of_getElem? (i := 29) (by decide +kernel))) rfl
theorem WT_L_stonesBeside : Cond.static yL_stonesBeside ∈ ax_W := ax_tw (ax_t6 (List.mem_of_getElem? (i := 30) (by decide +kernel))) rfl
theorem WM_L_42 : Cond.methodLink RL 42 yX12_stonesBeside ∈ ax_W := ax_tw (ax_t6 (List.mem_of_getElem? (i := 32) (by decide +kernel))) rfl
theorem WI_X12_stonesBeside : Cond.instanceMethod yX12_stonesBeside ∈ ax_W := ax_tw (ax_t6 (List.mem_of_getElem? (i := 33) (by decide +kernel))) rfl
theorem WS_X12_stonesBeside : Cond.selects RX12 yX12_stonesBeside yX12_stonesBeside ∈ ax_W := ax_tw (ax_t6 (List.mem_of_getElem? (i := 34) (by decide +kernel))) rfl
theorem WM_X12_191 : Cond.methodLink RX12 191 yX8_beside ∈ ax_W := ax_tw (ax_t6 (List.mem_of_getElem? (i := 36) (by decide +kernel))) rfl
theorem WM_L_176 : Cond.methodLink RL 176 yL_groupSize ∈ ax_W := ax_tw (ax_t6 (List.mem_of_getElem? (i := 37) (by decide +kernel))) rfl
theorem WT_L_groupSize : Cond.static yL_groupSize ∈ ax_W := ax_tw (ax_t6 (List.mem_of_getElem? (i := 38) (by decide +kernel))) rfl
theorem WM_L_46 : Cond.methodLink RL 46 yX12_groupSize ∈ ax_W := ax_tw (ax_t6 (List.mem_of_getElem? (i := 40) (by decide +kernel))) rfl
theorem WI_X12_groupSize : Cond.instanceMethod yX12_groupSize ∈ ax_W := ax_tw (ax_t6 (List.mem_of_getElem? (i := 41) (by decide +kernel))) rfl
theorem WS_X12_groupSize : Cond.selects RX12 yX12_groupSize yX12_groupSize ∈ ax_W := ax_tw (ax_t6 (List.mem_of_getElem? (i := 42) (by decide +kernel))) rfl
theorem WM_X12_194 : Cond.methodLink RX12 194 yX4_sizeAt ∈ ax_W := ax_tw (ax_t6 (List.mem_of_getElem? (i := 44) (by decide +kernel))) rfl
theorem WI_X4_sizeAt : Cond.instanceMethod yX4_sizeAt ∈ ax_W := ax_tw (ax_t6 (List.mem_of_getElem? (i := 45) (by decide +kernel))) rfl
theorem WS_X4_sizeAt : Cond.selects RX4 yX4_sizeAt yX4_sizeAt ∈ ax_W := ax_tw (ax_t6 (List.mem_of_getElem? (i := 46) (by decide +kernel))) rfl
theorem WM_L_179 : Cond.methodLink RL 179 yL_shoresOf ∈ ax_W := ax_tw (ax_t6 (List.mem_of_getElem? (i := 48) (by decide +kernel))) rfl
theorem WT_L_shoresOf : Cond.static yL_shoresOf ∈ ax_W := ax_tw (ax_t6 (List.mem_of_getElem? (i := 49) (by decide +kernel))) rfl
theorem WM_L_49 : Cond.methodLink RL 49 yX12_shoresOf ∈ ax_W := ax_tw (ax_t6 (List.mem_of_getElem? (i := 51) (by decide +kernel))) rfl
theorem WI_X12_shoresOf : Cond.instanceMethod yX12_shoresOf ∈ ax_W := ax_tw (ax_t6 (List.mem_of_getElem? (i := 52) (by decide +kernel))) rfl
theorem WS_X12_shoresOf : Cond.selects RX12 yX12_shoresOf yX12_shoresOf ∈ ax_W := ax_tw (ax_t6 (List.mem_of_getElem? (i := 53) (by decide +kernel))) rfl
theorem WM_X12_197 : Cond.methodLink RX12 197 yX4_shoresAt ∈ ax_W := ax_tw (ax_t6 (List.mem_of_getElem? (i := 55) (by decide +kernel))) rfl
theorem WI_X4_shoresAt : Cond.instanceMethod yX4_shoresAt ∈ ax_W := ax_tw (ax_t6 (List.mem_of_getElem? (i := 56) (by decide +kernel))) rfl
theorem WS_X4_shoresAt : Cond.selects RX4 yX4_shoresAt yX4_shoresAt ∈ ax_W := ax_tw (ax_t6 (List.mem_of_getElem? (i := 57) (by decide +kernel))) rfl
theorem WM_X4_42 : Cond.methodLink RX4 42 yX4_hasGatheredAt ∈ ax_W := ax_tw (ax_t6 (List.mem_of_getElem? (i := 59) (by decide +kernel))) rfl
theorem WI_X4_hasGatheredAt : Cond.instanceMethod yX4_hasGatheredAt ∈ ax_W := ax_tw (ax_t6 (List.mem_of_getElem? (i := 61) (by decide +kernel))) rfl
theorem WM_X4_46 : Cond.methodLink RX4 46 yX8_isAtShore ∈ ax_W := ax_tw (ax_t6 (List.mem_of_getElem? (i := 63) (by decide +kernel))) rfl
theorem WM_L_182 : Cond.methodLink RL 182 yL_groupsOf ∈ ax_W := ax_tw (ax_t6 (List.mem_of_getElem? (i := 64) (by decide +kernel))) rfl
theorem WT_L_groupsOf : Cond.static yL_groupsOf ∈ ax_W := ax_tw (ax_t6 (List.mem_of_getElem? (i := 65) (by decide +kernel))) rfl
theorem WM_L_52 : Cond.methodLink RL 52 yX12_groupsOf ∈ ax_W := ax_tw (ax_t6 (List.mem_of_getElem? (i := 67) (by decide +kernel))) rfl
theorem WI_X12_groupsOf : Cond.instanceMethod yX12_groupsOf ∈ ax_W := ax_tw (ax_t6 (List.mem_of_getElem? (i := 68) (by decide +kernel))) rfl
theorem WS_X12_groupsOf : Cond.selects RX12 yX12_groupsOf yX12_groupsOf ∈ ax_W := ax_tw (ax_t6 (List.mem_of_getElem? (i := 69) (by decide +kernel))) rfl
theorem WM_L_185 : Cond.methodLink RL 185 yL_greatestGroup ∈ ax_W := ax_tw (ax_t6 (List.mem_of_getElem? (i := 71) (by decide +kernel))) rfl
theorem WT_L_greatestGroup : Cond.static yL_greatestGroup ∈ ax_W := ax_tw (ax_t6 (List.mem_of_getElem? (i := 72) (by decide +kernel))) rfl
theorem WM_L_55 : Cond.methodLink RL 55 yX12_greatestGroup ∈ ax_W := ax_tw (ax_t6 (List.mem_of_getElem? (i := 74) (by decide +kernel))) rfl
theorem WI_X12_greatestGroup : Cond.instanceMethod yX12_greatestGroup ∈ ax_W := ax_tw (ax_t6 (List.mem_of_getElem? (i := 75) (by decide +kernel))) rfl
theorem WS_X12_greatestGroup : Cond.selects RX12 yX12_greatestGroup yX12_greatestGroup ∈ ax_W := ax_tw (ax_t6 (List.mem_of_getElem? (i := 76) (by decide +kernel))) rfl
theorem WM_L_188 : Cond.methodLink RL 188 yL_isBridge ∈ ax_W := ax_tw (ax_t6 (List.mem_of_getElem? (i := 78) (by decide +kernel))) rfl
theorem WT_L_isBridge : Cond.static yL_isBridge ∈ ax_W := ax_tw (ax_t6 (List.mem_of_getElem? (i := 79) (by decide +kernel))) rfl
theorem WM_L_58 : Cond.methodLink RL 58 yX12_isBridge ∈ ax_W := ax_tw (ax_t6 (List.mem_of_getElem? (i := 81) (by decide +kernel))) rfl
theorem WI_X12_isBridge : Cond.instanceMethod yX12_isBridge ∈ ax_W := ax_tw (ax_t6 (List.mem_of_getElem? (i := 82) (by decide +kernel))) rfl
theorem WS_X12_isBridge : Cond.selects RX12 yX12_isBridge yX12_isBridge ∈ ax_W := ax_tw (ax_t6 (List.mem_of_getElem? (i := 83) (by decide +kernel))) rfl
theorem WM_X12_207 : Cond.methodLink RX12 207 yX8_hasCell ∈ ax_W := ax_tw (ax_t6 (List.mem_of_getElem? (i := 85) (by decide +kernel))) rfl
theorem WM_X12_216 : Cond.methodLink RX12 216 yX1_isWhole ∈ ax_W := ax_tw (ax_t6 (List.mem_of_getElem? (i := 86) (by decide +kernel))) rfl
theorem WI_X1_isWhole : Cond.instanceMethod yX1_isWhole ∈ ax_W := ax_tw (ax_t6 (List.mem_of_getElem? (i := 87) (by decide +kernel))) rfl
theorem WS_X1_isWhole : Cond.selects RX1 yX1_isWhole yX1_isWhole ∈ ax_W := ax_tw (ax_t6 (List.mem_of_getElem? (i := 88) (by decide +kernel))) rfl
theorem WM_L_191 : Cond.methodLink RL 191 yL_bridgesOf ∈ ax_W := ax_tw (ax_t6 (List.mem_of_getElem? (i := 90) (by decide +kernel))) rfl
theorem WT_L_bridgesOf : Cond.static yL_bridgesOf ∈ ax_W := ax_tw (ax_t6 (List.mem_of_getElem? (i := 91) (by decide +kernel))) rfl
theorem WM_L_61 : Cond.methodLink RL 61 yX12_bridgesOf ∈ ax_W := ax_tw (ax_t6 (List.mem_of_getElem? (i := 93) (by decide +kernel))) rfl
theorem WI_X12_bridgesOf : Cond.instanceMethod yX12_bridgesOf ∈ ax_W := ax_tw (ax_t6 (List.mem_of_getElem? (i := 94) (by decide +kernel))) rfl
theorem WS_X12_bridgesOf : Cond.selects RX12 yX12_bridgesOf yX12_bridgesOf ∈ ax_W := ax_tw (ax_t6 (List.mem_of_getElem? (i := 95) (by decide +kernel))) rfl
theorem WM_L_194 : Cond.methodLink RL 194 yL_brokenBridgesOf ∈ ax_W := ax_tw (ax_t6 (List.mem_of_getElem? (i := 97) (by decide +kernel))) rfl
theorem WT_L_brokenBridgesOf : Cond.static yL_brokenBridgesOf ∈ ax_W := ax_tw (ax_t6 (List.mem_of_getElem? (i := 98) (by decide +kernel))) rfl
theorem WM_L_64 : Cond.methodLink RL 64 yX12_brokenBridgesOf ∈ ax_W := ax_tw (ax_t6 (List.mem_of_getElem? (i := 100) (by decide +kernel))) rfl
theorem WI_X12_brokenBridgesOf : Cond.instanceMethod yX12_brokenBridgesOf ∈ ax_W := ax_tw (ax_t6 (List.mem_of_getElem? (i := 101) (by decide +kernel))) rfl
theorem WS_X12_brokenBridgesOf : Cond.selects RX12 yX12_brokenBridgesOf yX12_brokenBridgesOf ∈ ax_W := ax_tw (ax_t6 (List.mem_of_getElem? (i := 102) (by decide +kernel))) rfl
theorem WM_L_197 : Cond.methodLink RL 197 yL_isFrozen ∈ ax_W := ax_tw (ax_t6 (List.mem_of_getElem? (i := 104) (by decide +kernel))) rfl
theorem WT_L_isFrozen : Cond.static yL_isFrozen ∈ ax_W := ax_tw (ax_t6 (List.mem_of_getElem? (i := 105) (by decide +kernel))) rfl
theorem WM_L_67 : Cond.methodLink RL 67 yX12_isFrozen ∈ ax_W := ax_tw (ax_t6 (List.mem_of_getElem? (i := 107) (by decide +kernel))) rfl
theorem WI_X12_isFrozen : Cond.instanceMethod yX12_isFrozen ∈ ax_W := ax_tw (ax_t6 (List.mem_of_getElem? (i := 108) (by decide +kernel))) rfl
theorem WS_X12_isFrozen : Cond.selects RX12 yX12_isFrozen yX12_isFrozen ∈ ax_W := ax_tw (ax_t6 (List.mem_of_getElem? (i := 109) (by decide +kernel))) rfl
theorem WM_L_204 : Cond.methodLink RL 204 yL_stonesNeeded ∈ ax_W := ax_tw (ax_t6 (List.mem_of_getElem? (i := 111) (by decide +kernel))) rfl
theorem WT_L_stonesNeeded : Cond.static yL_stonesNeeded ∈ ax_W := ax_tw (ax_t6 (List.mem_of_getElem? (i := 112) (by decide +kernel))) rfl
theorem WM_L_70 : Cond.methodLink RL 70 yX12_stonesNeeded ∈ ax_W := ax_tw (ax_t6 (List.mem_of_getElem? (i := 114) (by decide +kernel))) rfl
theorem WI_X12_stonesNeeded : Cond.instanceMethod yX12_stonesNeeded ∈ ax_W := ax_tw (ax_t6 (List.mem_of_getElem? (i := 115) (by decide +kernel))) rfl
theorem WS_X12_stonesNeeded : Cond.selects RX12 yX12_stonesNeeded yX12_stonesNeeded ∈ ax_W := ax_tw (ax_t6 (List.mem_of_getElem? (i := 116) (by decide +kernel))) rfl
theorem WM_L_207 : Cond.methodLink RL 207 yL_stonesNeededThrough ∈ ax_W := ax_tw (ax_t6 (List.mem_of_getElem? (i := 119) (by decide +kernel))) rfl
theorem WT_L_stonesNeededThrough : Cond.static yL_stonesNeededThrough ∈ ax_W := ax_tw (ax_t6 (List.mem_of_getElem? (i := 120) (by decide +kernel))) rfl
theorem WM_L_73 : Cond.methodLink RL 73 yX12_stonesNeededThrough ∈ ax_W := ax_tw (ax_t6 (List.mem_of_getElem? (i := 122) (by decide +kernel))) rfl
theorem WI_X12_stonesNeededThrough : Cond.instanceMethod yX12_stonesNeededThrough ∈ ax_W := ax_tw (ax_t6 (List.mem_of_getElem? (i := 123) (by decide +kernel))) rfl
theorem WS_X12_stonesNeededThrough : Cond.selects RX12 yX12_stonesNeededThrough yX12_stonesNeededThrough ∈ ax_W := ax_tw (ax_t6 (List.mem_of_getElem? (i := 124) (by decide +kernel))) rfl
theorem WM_X12_237 : Cond.methodLink RX12 237 yX11_through ∈ ax_W := ax_tw (ax_t6 (List.mem_of_getElem? (i := 126) (by decide +kernel))) rfl
theorem WM_L_210 : Cond.methodLink RL 210 yL_isWinningCell ∈ ax_W := ax_tw (ax_t6 (List.mem_of_getElem? (i := 128) (by decide +kernel))) rfl
theorem WT_L_isWinningCell : Cond.static yL_isWinningCell ∈ ax_W := ax_tw (ax_t6 (List.mem_of_getElem? (i := 129) (by decide +kernel))) rfl
theorem WM_L_76 : Cond.methodLink RL 76 yX12_isWinningCell ∈ ax_W := ax_tw (ax_t6 (List.mem_of_getElem? (i := 131) (by decide +kernel))) rfl
theorem WI_X12_isWinningCell : Cond.instanceMethod yX12_isWinningCell ∈ ax_W := ax_tw (ax_t6 (List.mem_of_getElem? (i := 132) (by decide +kernel))) rfl
theorem WS_X12_isWinningCell : Cond.selects RX12 yX12_isWinningCell yX12_isWinningCell ∈ ax_W := ax_tw (ax_t6 (List.mem_of_getElem? (i := 133) (by decide +kernel))) rfl
theorem WM_X12_242 : Cond.methodLink RX12 242 yX11_wins ∈ ax_W := ax_tw (ax_t6 (List.mem_of_getElem? (i := 135) (by decide +kernel))) rfl
theorem WM_L_213 : Cond.methodLink RL 213 yL_winningCells ∈ ax_W := ax_tw (ax_t6 (List.mem_of_getElem? (i := 136) (by decide +kernel))) rfl
theorem WT_L_winningCells : Cond.static yL_winningCells ∈ ax_W := ax_tw (ax_t6 (List.mem_of_getElem? (i := 137) (by decide +kernel))) rfl
theorem WM_L_80 : Cond.methodLink RL 80 yX12_winningCells ∈ ax_W := ax_tw (ax_t6 (List.mem_of_getElem? (i := 139) (by decide +kernel))) rfl
theorem WI_X12_winningCells : Cond.instanceMethod yX12_winningCells ∈ ax_W := ax_tw (ax_t6 (List.mem_of_getElem? (i := 140) (by decide +kernel))) rfl
theorem WS_X12_winningCells : Cond.selects RX12 yX12_winningCells yX12_winningCells ∈ ax_W := ax_tw (ax_t6 (List.mem_of_getElem? (i := 141) (by decide +kernel))) rfl
theorem WM_L_216 : Cond.methodLink RL 216 yL_layStone ∈ ax_W := ax_tw (ax_t6 (List.mem_of_getElem? (i := 143) (by decide +kernel))) rfl
theorem WT_L_layStone : Cond.static yL_layStone ∈ ax_W := ax_tw (ax_t6 (List.mem_of_getElem? (i := 144) (by decide +kernel))) rfl
theorem WM_L_83 : Cond.methodLink RL 83 yX12_layStone ∈ ax_W := ax_tw (ax_t6 (List.mem_of_getElem? (i := 146) (by decide +kernel))) rfl
theorem WI_X12_layStone : Cond.instanceMethod yX12_layStone ∈ ax_W := ax_tw (ax_t6 (List.mem_of_getElem? (i := 147) (by decide +kernel))) rfl
theorem WS_X12_layStone : Cond.selects RX12 yX12_layStone yX12_layStone ∈ ax_W := ax_tw (ax_t6 (List.mem_of_getElem? (i := 148) (by decide +kernel))) rfl
theorem WM_L_219 : Cond.methodLink RL 219 yL_takeBack ∈ ax_W := ax_tw (ax_t6 (List.mem_of_getElem? (i := 151) (by decide +kernel))) rfl
theorem WT_L_takeBack : Cond.static yL_takeBack ∈ ax_W := ax_tw (ax_t6 (List.mem_of_getElem? (i := 152) (by decide +kernel))) rfl
theorem WM_L_86 : Cond.methodLink RL 86 yX12_takeBack ∈ ax_W := ax_tw (ax_t6 (List.mem_of_getElem? (i := 154) (by decide +kernel))) rfl
theorem WI_X12_takeBack : Cond.instanceMethod yX12_takeBack ∈ ax_W := ax_tw (ax_t6 (List.mem_of_getElem? (i := 155) (by decide +kernel))) rfl
theorem WS_X12_takeBack : Cond.selects RX12 yX12_takeBack yX12_takeBack ∈ ax_W := ax_tw (ax_t6 (List.mem_of_getElem? (i := 156) (by decide +kernel))) rfl
theorem WM_L_222 : Cond.methodLink RL 222 yL_plannedCell ∈ ax_W := ax_tw (ax_t6 (List.mem_of_getElem? (i := 159) (by decide +kernel))) rfl
theorem WT_L_plannedCell : Cond.static yL_plannedCell ∈ ax_W := ax_tw (ax_t6 (List.mem_of_getElem? (i := 160) (by decide +kernel))) rfl
theorem WM_L_89 : Cond.methodLink RL 89 yX12_plannedCell ∈ ax_W := ax_tw (ax_t6 (List.mem_of_getElem? (i := 162) (by decide +kernel))) rfl
theorem WI_X12_plannedCell : Cond.instanceMethod yX12_plannedCell ∈ ax_W := ax_tw (ax_t6 (List.mem_of_getElem? (i := 163) (by decide +kernel))) rfl
theorem WS_X12_plannedCell : Cond.selects RX12 yX12_plannedCell yX12_plannedCell ∈ ax_W := ax_tw (ax_t6 (List.mem_of_getElem? (i := 164) (by decide +kernel))) rfl
theorem WM_L_225 : Cond.methodLink RL 225 yL_playByPlans ∈ ax_W := ax_tw (ax_t6 (List.mem_of_getElem? (i := 166) (by decide +kernel))) rfl
theorem WT_L_playByPlans : Cond.static yL_playByPlans ∈ ax_W := ax_tw (ax_t6 (List.mem_of_getElem? (i := 167) (by decide +kernel))) rfl
theorem WM_L_92 : Cond.methodLink RL 92 yX12_playByPlans ∈ ax_W := ax_tw (ax_t6 (List.mem_of_getElem? (i := 169) (by decide +kernel))) rfl
theorem WI_X12_playByPlans : Cond.instanceMethod yX12_playByPlans ∈ ax_W := ax_tw (ax_t6 (List.mem_of_getElem? (i := 170) (by decide +kernel))) rfl
theorem WS_X12_playByPlans : Cond.selects RX12 yX12_playByPlans yX12_playByPlans ∈ ax_W := ax_tw (ax_t6 (List.mem_of_getElem? (i := 171) (by decide +kernel))) rfl
theorem WM_L_236 : Cond.methodLink RL 236 yL_mustPlay ∈ ax_W := ax_tw (ax_t6 (List.mem_of_getElem? (i := 174) (by decide +kernel))) rfl
theorem WT_L_mustPlay : Cond.static yL_mustPlay ∈ ax_W := ax_tw (ax_t6 (List.mem_of_getElem? (i := 175) (by decide +kernel))) rfl
theorem WM_L_95 : Cond.methodLink RL 95 yX12_mustPlay ∈ ax_W := ax_tw (ax_t6 (List.mem_of_getElem? (i := 177) (by decide +kernel))) rfl
theorem WI_X12_mustPlay : Cond.instanceMethod yX12_mustPlay ∈ ax_W := ax_tw (ax_t6 (List.mem_of_getElem? (i := 178) (by decide +kernel))) rfl
theorem WS_X12_mustPlay : Cond.selects RX12 yX12_mustPlay yX12_mustPlay ∈ ax_W := ax_tw (ax_t6 (List.mem_of_getElem? (i := 179) (by decide +kernel))) rfl
theorem WM_X12_272 : Cond.methodLink RX12 272 yX11_firstWinning ∈ ax_W := ax_tw (ax_t6 (List.mem_of_getElem? (i := 182) (by decide +kernel))) rfl
theorem WM_L_239 : Cond.methodLink RL 239 yL_bestCell ∈ ax_W := ax_tw (ax_t6 (List.mem_of_getElem? (i := 183) (by decide +kernel))) rfl
theorem WT_L_bestCell : Cond.static yL_bestCell ∈ ax_W := ax_tw (ax_t6 (List.mem_of_getElem? (i := 184) (by decide +kernel))) rfl
theorem WM_L_98 : Cond.methodLink RL 98 yX12_bestCell ∈ ax_W := ax_tw (ax_t6 (List.mem_of_getElem? (i := 186) (by decide +kernel))) rfl
theorem WI_X12_bestCell : Cond.instanceMethod yX12_bestCell ∈ ax_W := ax_tw (ax_t6 (List.mem_of_getElem? (i := 187) (by decide +kernel))) rfl
theorem WS_X12_bestCell : Cond.selects RX12 yX12_bestCell yX12_bestCell ∈ ax_W := ax_tw (ax_t6 (List.mem_of_getElem? (i := 188) (by decide +kernel))) rfl
theorem WM_X12_275 : Cond.methodLink RX12 275 yX12_leadWith ∈ ax_W := ax_tw (ax_t6 (List.mem_of_getElem? (i := 190) (by decide +kernel))) rfl
theorem WI_X12_leadWith : Cond.instanceMethod yX12_leadWith ∈ ax_W := ax_tw (ax_t6 (List.mem_of_getElem? (i := 192) (by decide +kernel))) rfl
theorem WM_X12_318 : Cond.methodLink RX12 318 yX11_lookFromFirstShores ∈ ax_W := ax_tw (ax_t6 (List.mem_of_getElem? (i := 194) (by decide +kernel))) rfl
theorem WI_X11_lookFromFirstShores : Cond.instanceMethod yX11_lookFromFirstShores ∈ ax_W := ax_tw (ax_t6 (List.mem_of_getElem? (i := 195) (by decide +kernel))) rfl
theorem WS_X11_lookFromFirstShores : Cond.selects RX11 yX11_lookFromFirstShores yX11_lookFromFirstShores ∈ ax_W := ax_tw (ax_t6 (List.mem_of_getElem? (i := 196) (by decide +kernel))) rfl
theorem WC_L_102 : Cond.classLink RL 102 "HexPondModel" ∈ ax_W := ax_tw (ax_t6 (List.mem_of_getElem? (i := 198) (by decide +kernel))) rfl
theorem WB_X14 : Cond.instantiable RX14 27 ∈ ax_W := ax_tw (ax_t6 (List.mem_of_getElem? (i := 199) (by decide +kernel))) rfl
theorem WM_L_104 : Cond.methodLink RL 104 yX14_init ∈ ax_W := ax_tw (ax_t6 (List.mem_of_getElem? (i := 200) (by decide +kernel))) rfl
theorem WI_X14_init : Cond.instanceMethod yX14_init ∈ ax_W := ax_tw (ax_t6 (List.mem_of_getElem? (i := 201) (by decide +kernel))) rfl
theorem WM_X14_1 : Cond.methodLink RX14 1 ⟨"java/lang/Object", "<init>", "()V"⟩ ∈ ax_W := ax_tw (ax_t6 (List.mem_of_getElem? (i := 203) (by decide +kernel))) rfl
theorem WC_X14_26 : Cond.classLink RX14 26 "HexPondModel$Told" ∈ ax_W := ax_tw (ax_t6 (List.mem_of_getElem? (i := 204) (by decide +kernel))) rfl
theorem WB_X13 : Cond.instantiable RX13 15 ∈ ax_W := ax_tw (ax_t6 (List.mem_of_getElem? (i := 205) (by decide +kernel))) rfl
theorem NM_X14_28 : Cond.methodLinkNest RX14 28 yX13_init "HexPondModel" ∈ axNw := ax_tn (ax_t6 (List.mem_of_getElem? (i := 206) (by decide +kernel))) rfl
theorem WI_X13_init : Cond.instanceMethod yX13_init ∈ ax_W := ax_tw (ax_t6 (List.mem_of_getElem? (i := 207) (by decide +kernel))) rfl
theorem WM_X13_3 : Cond.methodLink RX13 3 ⟨"java/lang/Object", "<init>", "()V"⟩ ∈ ax_W := ax_tw (ax_t6 (List.mem_of_getElem? (i := 209) (by decide +kernel))) rfl
theorem WF_X13_9 : Cond.fieldLink RX13 9 "HexPondModel$Told" "columns" "I" ∈ ax_W := ax_tw (ax_t6 (List.mem_of_getElem? (i := 210) (by decide +kernel))) rfl
theorem NF_X14_208 : Cond.fieldLinkNest RX14 208 "HexPondModel$Told" "columns" "I" "HexPondModel" ∈ axNw := ax_tn (ax_t6 (List.mem_of_getElem? (i := 211) (by decide +kernel))) rfl
theorem WF_X13_15 : Cond.fieldLink RX13 15 "HexPondModel$Told" "rows" "I" ∈ ax_W := ax_tw (ax_t6 (List.mem_of_getElem? (i := 212) (by decide +kernel))) rfl
theorem NF_X14_211 : Cond.fieldLinkNest RX14 211 "HexPondModel$Told" "rows" "I" "HexPondModel" ∈ axNw := ax_tn (ax_t6 (List.mem_of_getElem? (i := 213) (by decide +kernel))) rfl
theorem WF_X13_18 : Cond.fieldLink RX13 18 "HexPondModel$Told" "stone" "[I" ∈ ax_W := ax_tw (ax_t6 (List.mem_of_getElem? (i := 214) (by decide +kernel))) rfl
theorem NF_X14_214 : Cond.fieldLinkNest RX14 214 "HexPondModel$Told" "stone" "[I" "HexPondModel" ∈ axNw := ax_tn (ax_t6 (List.mem_of_getElem? (i := 215) (by decide +kernel))) rfl
theorem WF_X13_52 : Cond.fieldLink RX13 52 "HexPondModel$Told" "plans" "I" ∈ ax_W := ax_tw (ax_t6 (List.mem_of_getElem? (i := 216) (by decide +kernel))) rfl
theorem NF_X14_215 : Cond.fieldLinkNest RX14 215 "HexPondModel$Told" "plans" "I" "HexPondModel" ∈ axNw := ax_tn (ax_t6 (List.mem_of_getElem? (i := 217) (by decide +kernel))) rfl
theorem WF_X13_22 : Cond.fieldLink RX13 22 "HexPondModel$Told" "player" "[I" ∈ ax_W := ax_tw (ax_t6 (List.mem_of_getElem? (i := 218) (by decide +kernel))) rfl
theorem NF_X14_226 : Cond.fieldLinkNest RX14 226 "HexPondModel$Told" "player" "[I" "HexPondModel" ∈ axNw := ax_tn (ax_t6 (List.mem_of_getElem? (i := 219) (by decide +kernel))) rfl
theorem WF_X13_25 : Cond.fieldLink RX13 25 "HexPondModel$Told" "move" "[I" ∈ ax_W := ax_tw (ax_t6 (List.mem_of_getElem? (i := 220) (by decide +kernel))) rfl
theorem NF_X14_228 : Cond.fieldLinkNest RX14 228 "HexPondModel$Told" "move" "[I" "HexPondModel" ∈ axNw := ax_tn (ax_t6 (List.mem_of_getElem? (i := 221) (by decide +kernel))) rfl
theorem WF_X13_28 : Cond.fieldLink RX13 28 "HexPondModel$Told" "from" "[I" ∈ ax_W := ax_tw (ax_t6 (List.mem_of_getElem? (i := 222) (by decide +kernel))) rfl
theorem NF_X14_223 : Cond.fieldLinkNest RX14 223 "HexPondModel$Told" "from" "[I" "HexPondModel" ∈ axNw := ax_tn (ax_t6 (List.mem_of_getElem? (i := 223) (by decide +kernel))) rfl
theorem WF_X13_31 : Cond.fieldLink RX13 31 "HexPondModel$Told" "to" "[I" ∈ ax_W := ax_tw (ax_t6 (List.mem_of_getElem? (i := 224) (by decide +kernel))) rfl
theorem NF_X14_239 : Cond.fieldLinkNest RX14 239 "HexPondModel$Told" "to" "[I" "HexPondModel" ∈ axNw := ax_tn (ax_t6 (List.mem_of_getElem? (i := 225) (by decide +kernel))) rfl
theorem WF_X13_34 : Cond.fieldLink RX13 34 "HexPondModel$Told" "first" "[I" ∈ ax_W := ax_tw (ax_t6 (List.mem_of_getElem? (i := 226) (by decide +kernel))) rfl
theorem NF_X14_231 : Cond.fieldLinkNest RX14 231 "HexPondModel$Told" "first" "[I" "HexPondModel" ∈ axNw := ax_tn (ax_t6 (List.mem_of_getElem? (i := 227) (by decide +kernel))) rfl
theorem WF_X13_37 : Cond.fieldLink RX13 37 "HexPondModel$Told" "second" "[I" ∈ ax_W := ax_tw (ax_t6 (List.mem_of_getElem? (i := 228) (by decide +kernel))) rfl
theorem NF_X14_234 : Cond.fieldLinkNest RX14 234 "HexPondModel$Told" "second" "[I" "HexPondModel" ∈ axNw := ax_tn (ax_t6 (List.mem_of_getElem? (i := 229) (by decide +kernel))) rfl
theorem WF_X13_40 : Cond.fieldLink RX13 40 "HexPondModel$Told" "test" "[I" ∈ ax_W := ax_tw (ax_t6 (List.mem_of_getElem? (i := 230) (by decide +kernel))) rfl
theorem NF_X14_237 : Cond.fieldLinkNest RX14 237 "HexPondModel$Told" "test" "[I" "HexPondModel" ∈ axNw := ax_tn (ax_t6 (List.mem_of_getElem? (i := 231) (by decide +kernel))) rfl
theorem WF_X13_55 : Cond.fieldLink RX13 55 "HexPondModel$Told" "nodes" "I" ∈ ax_W := ax_tw (ax_t6 (List.mem_of_getElem? (i := 232) (by decide +kernel))) rfl
theorem NF_X14_147 : Cond.fieldLinkNest RX14 147 "HexPondModel$Told" "nodes" "I" "HexPondModel" ∈ axNw := ax_tn (ax_t6 (List.mem_of_getElem? (i := 233) (by decide +kernel))) rfl
theorem WF_X13_43 : Cond.fieldLink RX13 43 "HexPondModel$Told" "sort" "[I" ∈ ax_W := ax_tw (ax_t6 (List.mem_of_getElem? (i := 234) (by decide +kernel))) rfl
theorem NF_X14_150 : Cond.fieldLinkNest RX14 150 "HexPondModel$Told" "sort" "[I" "HexPondModel" ∈ axNw := ax_tn (ax_t6 (List.mem_of_getElem? (i := 235) (by decide +kernel))) rfl
theorem WF_X13_46 : Cond.fieldLink RX13 46 "HexPondModel$Told" "left" "[I" ∈ ax_W := ax_tw (ax_t6 (List.mem_of_getElem? (i := 236) (by decide +kernel))) rfl
theorem NF_X14_153 : Cond.fieldLinkNest RX14 153 "HexPondModel$Told" "left" "[I" "HexPondModel" ∈ axNw := ax_tn (ax_t6 (List.mem_of_getElem? (i := 237) (by decide +kernel))) rfl
theorem WF_X13_49 : Cond.fieldLink RX13 49 "HexPondModel$Told" "right" "[I" ∈ ax_W := ax_tw (ax_t6 (List.mem_of_getElem? (i := 238) (by decide +kernel))) rfl
theorem NF_X14_156 : Cond.fieldLinkNest RX14 156 "HexPondModel$Told" "right" "[I" "HexPondModel" ∈ axNw := ax_tn (ax_t6 (List.mem_of_getElem? (i := 239) (by decide +kernel))) rfl
theorem WM_X14_70 : Cond.methodLink RX14 70 yX13_begin ∈ ax_W := ax_tw (ax_t7 (List.mem_of_getElem? (i := 31) (by decide +kernel))) rfl
theorem WI_X13_begin : Cond.instanceMethod yX13_begin ∈ ax_W := ax_tw (ax_t7 (List.mem_of_getElem? (i := 32) (by decide +kernel))) rfl
theorem WS_X13_begin : Cond.selects RX13 yX13_begin yX13_begin ∈ ax_W := ax_tw (ax_t7 (List.mem_of_getElem? (i := 33) (by decide +kernel))) rfl
theorem WF_X14_73 : Cond.fieldLink RX14 73 "HexPondModel" "thrown" "I" ∈ ax_W := ax_tw (ax_t7 (List.mem_of_getElem? (i := 35) (by decide +kernel))) rfl
theorem WF_X14_9 : Cond.fieldLink RX14 9 "HexPondModel" "tape" "[I" ∈ ax_W := ax_tw (ax_t7 (List.mem_of_getElem? (i := 36) (by decide +kernel))) rfl
theorem WF_X14_80 : Cond.fieldLink RX14 80 "HexPondModel" "bytes" "I" ∈ ax_W := ax_tw (ax_t7 (List.mem_of_getElem? (i := 37) (by decide +kernel))) rfl
theorem WF_X14_13 : Cond.fieldLink RX14 13 "HexPondModel" "errorAt" "I" ∈ ax_W := ax_tw (ax_t7 (List.mem_of_getElem? (i := 38) (by decide +kernel))) rfl
theorem WF_X14_17 : Cond.fieldLink RX14 17 "HexPondModel" "kind" "[I" ∈ ax_W := ax_tw (ax_t7 (List.mem_of_getElem? (i := 39) (by decide +kernel))) rfl
theorem WF_X14_20 : Cond.fieldLink RX14 20 "HexPondModel" "number" "[I" ∈ ax_W := ax_tw (ax_t7 (List.mem_of_getElem? (i := 40) (by decide +kernel))) rfl
theorem WF_X14_23 : Cond.fieldLink RX14 23 "HexPondModel" "position" "[I" ∈ ax_W := ax_tw (ax_t7 (List.mem_of_getElem? (i := 41) (by decide +kernel))) rfl
theorem WF_X14_129 : Cond.fieldLink RX14 129 "HexPondModel" "token" "I" ∈ ax_W := ax_tw (ax_t7 (List.mem_of_getElem? (i := 42) (by decide +kernel))) rfl
theorem WF_X14_125 : Cond.fieldLink RX14 125 "HexPondModel" "isWrong" "Z" ∈ ax_W := ax_tw (ax_t7 (List.mem_of_getElem? (i := 43) (by decide +kernel))) rfl
theorem WF_X14_132 : Cond.fieldLink RX14 132 "HexPondModel" "error" "I" ∈ ax_W := ax_tw (ax_t7 (List.mem_of_getElem? (i := 44) (by decide +kernel))) rfl
theorem WF_X14_135 : Cond.fieldLink RX14 135 "HexPondModel" "errorToken" "I" ∈ ax_W := ax_tw (ax_t7 (List.mem_of_getElem? (i := 45) (by decide +kernel))) rfl
theorem WF_X14_144 : Cond.fieldLink RX14 144 "HexPondModel" "deep" "I" ∈ ax_W := ax_tw (ax_t7 (List.mem_of_getElem? (i := 46) (by decide +kernel))) rfl
theorem WF_X14_29 : Cond.fieldLink RX14 29 "HexPondModel" "told" "LHexPondModel$Told;" ∈ ax_W := ax_tw (ax_t7 (List.mem_of_getElem? (i := 47) (by decide +kernel))) rfl
theorem WF_X14_33 : Cond.fieldLink RX14 33 "HexPondModel" "fresh" "LHexPondModel$Told;" ∈ ax_W := ax_tw (ax_t7 (List.mem_of_getElem? (i := 48) (by decide +kernel))) rfl
theorem WF_X14_36 : Cond.fieldLink RX14 36 "HexPondModel" "value" "[I" ∈ ax_W := ax_tw (ax_t7 (List.mem_of_getElem? (i := 49) (by decide +kernel))) rfl
theorem WF_X14_39 : Cond.fieldLink RX14 39 "HexPondModel" "stone" "[I" ∈ ax_W := ax_tw (ax_t7 (List.mem_of_getElem? (i := 50) (by decide +kernel))) rfl
theorem WF_X14_42 : Cond.fieldLink RX14 42 "HexPondModel" "back" "[I" ∈ ax_W := ax_tw (ax_t7 (List.mem_of_getElem? (i := 51) (by decide +kernel))) rfl
theorem WF_X14_269 : Cond.fieldLink RX14 269 "HexPondModel" "backs" "I" ∈ ax_W := ax_tw (ax_t7 (List.mem_of_getElem? (i := 52) (by decide +kernel))) rfl
theorem WF_X14_45 : Cond.fieldLink RX14 45 "HexPondModel" "kept" "[I" ∈ ax_W := ax_tw (ax_t7 (List.mem_of_getElem? (i := 53) (by decide +kernel))) rfl
theorem WF_X14_48 : Cond.fieldLink RX14 48 "HexPondModel" "away" "[I" ∈ ax_W := ax_tw (ax_t7 (List.mem_of_getElem? (i := 54) (by decide +kernel))) rfl
theorem WF_X14_51 : Cond.fieldLink RX14 51 "HexPondModel" "home" "[I" ∈ ax_W := ax_tw (ax_t7 (List.mem_of_getElem? (i := 55) (by decide +kernel))) rfl
theorem WF_X14_54 : Cond.fieldLink RX14 54 "HexPondModel" "group" "[I" ∈ ax_W := ax_tw (ax_t7 (List.mem_of_getElem? (i := 56) (by decide +kernel))) rfl
theorem WF_X14_57 : Cond.fieldLink RX14 57 "HexPondModel" "many" "[I" ∈ ax_W := ax_tw (ax_t7 (List.mem_of_getElem? (i := 57) (by decide +kernel))) rfl
theorem WF_X14_60 : Cond.fieldLink RX14 60 "HexPondModel" "line" "[I" ∈ ax_W := ax_tw (ax_t7 (List.mem_of_getElem? (i := 58) (by decide +kernel))) rfl
theorem WF_X14_63 : Cond.fieldLink RX14 63 "HexPondModel" "seen" "[Z" ∈ ax_W := ax_tw (ax_t7 (List.mem_of_getElem? (i := 59) (by decide +kernel))) rfl
theorem WF_X14_291 : Cond.fieldLink RX14 291 "HexPondModel" "groups" "I" ∈ ax_W := ax_tw (ax_t7 (List.mem_of_getElem? (i := 60) (by decide +kernel))) rfl
theorem WF_X14_67 : Cond.fieldLink RX14 67 "HexPondModel" "ring" "[I" ∈ ax_W := ax_tw (ax_t7 (List.mem_of_getElem? (i := 61) (by decide +kernel))) rfl
theorem WM_L_111 : Cond.methodLink RL 111 yX14_thrown ∈ ax_W := ax_tw (ax_t7 (List.mem_of_getElem? (i := 118) (by decide +kernel))) rfl
theorem WI_X14_thrown : Cond.instanceMethod yX14_thrown ∈ ax_W := ax_tw (ax_t7 (List.mem_of_getElem? (i := 119) (by decide +kernel))) rfl
theorem WS_X14_thrown : Cond.selects RX14 yX14_thrown yX14_thrown ∈ ax_W := ax_tw (ax_t7 (List.mem_of_getElem? (i := 120) (by decide +kernel))) rfl
theorem WM_L_110 : Cond.methodLink RL 110 yX14_feed ∈ ax_W := ax_tw (ax_t7 (List.mem_of_getElem? (i := 122) (by decide +kernel))) rfl
theorem WI_X14_feed : Cond.instanceMethod yX14_feed ∈ ax_W := ax_tw (ax_t7 (List.mem_of_getElem? (i := 123) (by decide +kernel))) rfl
theorem WS_X14_feed : Cond.selects RX14 yX14_feed yX14_feed ∈ ax_W := ax_tw (ax_t7 (List.mem_of_getElem? (i := 124) (by decide +kernel))) rfl
theorem WM_X14_250 : Cond.methodLink RX14 250 yX14_no ∈ ax_W := ax_tw (ax_t7 (List.mem_of_getElem? (i := 126) (by decide +kernel))) rfl
theorem WI_X14_no : Cond.instanceMethod yX14_no ∈ ax_W := ax_tw (ax_t7 (List.mem_of_getElem? (i := 128) (by decide +kernel))) rfl
theorem WM_L_117 : Cond.methodLink RL 117 yX14_trim ∈ ax_W := ax_tw (ax_t7 (List.mem_of_getElem? (i := 130) (by decide +kernel))) rfl
theorem WI_X14_trim : Cond.instanceMethod yX14_trim ∈ ax_W := ax_tw (ax_t7 (List.mem_of_getElem? (i := 131) (by decide +kernel))) rfl
theorem WS_X14_trim : Cond.selects RX14 yX14_trim yX14_trim ∈ ax_W := ax_tw (ax_t7 (List.mem_of_getElem? (i := 132) (by decide +kernel))) rfl
theorem WM_X14_76 : Cond.methodLink RX14 76 yX14_isIn ∈ ax_W := ax_tw (ax_t7 (List.mem_of_getElem? (i := 134) (by decide +kernel))) rfl
theorem WT_X14_isIn : Cond.static yX14_isIn ∈ ax_W := ax_tw (ax_t7 (List.mem_of_getElem? (i := 135) (by decide +kernel))) rfl
theorem WM_L_121 : Cond.methodLink RL 121 yX14_teach ∈ ax_W := ax_tw (ax_t7 (List.mem_of_getElem? (i := 137) (by decide +kernel))) rfl
theorem WI_X14_teach : Cond.instanceMethod yX14_teach ∈ ax_W := ax_tw (ax_t7 (List.mem_of_getElem? (i := 138) (by decide +kernel))) rfl
theorem WS_X14_teach : Cond.selects RX14 yX14_teach yX14_teach ∈ ax_W := ax_tw (ax_t7 (List.mem_of_getElem? (i := 139) (by decide +kernel))) rfl
theorem WM_X14_253 : Cond.methodLink RX14 253 yX14_readAll ∈ ax_W := ax_tw (ax_t7 (List.mem_of_getElem? (i := 141) (by decide +kernel))) rfl
theorem WI_X14_readAll : Cond.instanceMethod yX14_readAll ∈ ax_W := ax_tw (ax_t7 (List.mem_of_getElem? (i := 143) (by decide +kernel))) rfl
theorem WM_X14_119 : Cond.methodLink RX14 119 yX14_skip ∈ ax_W := ax_tw (ax_t7 (List.mem_of_getElem? (i := 145) (by decide +kernel))) rfl
theorem WI_X14_skip : Cond.instanceMethod yX14_skip ∈ ax_W := ax_tw (ax_t7 (List.mem_of_getElem? (i := 147) (by decide +kernel))) rfl
theorem WM_X14_105 : Cond.methodLink RX14 105 yX14_byteAt ∈ ax_W := ax_tw (ax_t7 (List.mem_of_getElem? (i := 149) (by decide +kernel))) rfl
theorem WI_X14_byteAt : Cond.instanceMethod yX14_byteAt ∈ ax_W := ax_tw (ax_t7 (List.mem_of_getElem? (i := 151) (by decide +kernel))) rfl
theorem WM_X14_122 : Cond.methodLink RX14 122 yX14_read ∈ ax_W := ax_tw (ax_t7 (List.mem_of_getElem? (i := 153) (by decide +kernel))) rfl
theorem WI_X14_read : Cond.instanceMethod yX14_read ∈ ax_W := ax_tw (ax_t7 (List.mem_of_getElem? (i := 155) (by decide +kernel))) rfl
theorem WM_X14_101 : Cond.methodLink RX14 101 yX14_isLetter ∈ ax_W := ax_tw (ax_t7 (List.mem_of_getElem? (i := 157) (by decide +kernel))) rfl
theorem WT_X14_isLetter : Cond.static yX14_isLetter ∈ ax_W := ax_tw (ax_t7 (List.mem_of_getElem? (i := 158) (by decide +kernel))) rfl
theorem WM_X14_109 : Cond.methodLink RX14 109 yX14_isDigit ∈ ax_W := ax_tw (ax_t7 (List.mem_of_getElem? (i := 160) (by decide +kernel))) rfl
theorem WT_X14_isDigit : Cond.static yX14_isDigit ∈ ax_W := ax_tw (ax_t7 (List.mem_of_getElem? (i := 161) (by decide +kernel))) rfl
theorem WM_X14_112 : Cond.methodLink RX14 112 yX14_keyword ∈ ax_W := ax_tw (ax_t7 (List.mem_of_getElem? (i := 163) (by decide +kernel))) rfl
theorem WI_X14_keyword : Cond.instanceMethod yX14_keyword ∈ ax_W := ax_tw (ax_t7 (List.mem_of_getElem? (i := 165) (by decide +kernel))) rfl
theorem WF_X14_93 : Cond.fieldLink RX14 93 "HexPondModel" "WORDS" "[Ljava/lang/String;" ∈ ax_W := ax_tw (ax_t7 (List.mem_of_getElem? (i := 167) (by decide +kernel))) rfl
theorem WM_X14_97 : Cond.methodLink RX14 97 yX14_isWord ∈ ax_W := ax_tw (ax_t7 (List.mem_of_getElem? (i := 169) (by decide +kernel))) rfl
theorem WI_X14_isWord : Cond.instanceMethod yX14_isWord ∈ ax_W := ax_tw (ax_t7 (List.mem_of_getElem? (i := 171) (by decide +kernel))) rfl
theorem WM_X14_83 : Cond.methodLink RX14 83 yJ0_length_8abf5 ∈ ax_W := ax_tw (ax_t7 (List.mem_of_getElem? (i := 173) (by decide +kernel))) rfl
theorem WM_X14_89 : Cond.methodLink RX14 89 yJ0_charAt_5068e ∈ ax_W := ax_tw (ax_t7 (List.mem_of_getElem? (i := 174) (by decide +kernel))) rfl
theorem WM_X14_116 : Cond.methodLink RX14 116 yX14_symbol ∈ ax_W := ax_tw (ax_t7 (List.mem_of_getElem? (i := 175) (by decide +kernel))) rfl
theorem WT_X14_symbol : Cond.static yX14_symbol ∈ ax_W := ax_tw (ax_t7 (List.mem_of_getElem? (i := 176) (by decide +kernel))) rfl
theorem WM_X14_256 : Cond.methodLink RX14 256 yX14_game ∈ ax_W := ax_tw (ax_t7 (List.mem_of_getElem? (i := 178) (by decide +kernel))) rfl
theorem WI_X14_game : Cond.instanceMethod yX14_game ∈ ax_W := ax_tw (ax_t7 (List.mem_of_getElem? (i := 180) (by decide +kernel))) rfl
theorem WM_X14_159 : Cond.methodLink RX14 159 yX14_takes ∈ ax_W := ax_tw (ax_t7 (List.mem_of_getElem? (i := 182) (by decide +kernel))) rfl
theorem WI_X14_takes : Cond.instanceMethod yX14_takes ∈ ax_W := ax_tw (ax_t7 (List.mem_of_getElem? (i := 184) (by decide +kernel))) rfl
theorem WM_X14_138 : Cond.methodLink RX14 138 yX14_is ∈ ax_W := ax_tw (ax_t7 (List.mem_of_getElem? (i := 186) (by decide +kernel))) rfl
theorem WI_X14_is : Cond.instanceMethod yX14_is ∈ ax_W := ax_tw (ax_t7 (List.mem_of_getElem? (i := 188) (by decide +kernel))) rfl
theorem WM_X14_242 : Cond.methodLink RX14 242 yX14_pond ∈ ax_W := ax_tw (ax_t7 (List.mem_of_getElem? (i := 190) (by decide +kernel))) rfl
theorem WI_X14_pond : Cond.instanceMethod yX14_pond ∈ ax_W := ax_tw (ax_t7 (List.mem_of_getElem? (i := 192) (by decide +kernel))) rfl
theorem WM_X14_205 : Cond.methodLink RX14 205 yX14_size ∈ ax_W := ax_tw (ax_t7 (List.mem_of_getElem? (i := 194) (by decide +kernel))) rfl
theorem WI_X14_size : Cond.instanceMethod yX14_size ∈ ax_W := ax_tw (ax_t7 (List.mem_of_getElem? (i := 196) (by decide +kernel))) rfl
theorem WM_X14_202 : Cond.methodLink RX14 202 yX14_mark ∈ ax_W := ax_tw (ax_t7 (List.mem_of_getElem? (i := 198) (by decide +kernel))) rfl
theorem WI_X14_mark : Cond.instanceMethod yX14_mark ∈ ax_W := ax_tw (ax_t7 (List.mem_of_getElem? (i := 200) (by decide +kernel))) rfl
theorem WM_X14_162 : Cond.methodLink RX14 162 yX14_take ∈ ax_W := ax_tw (ax_t7 (List.mem_of_getElem? (i := 202) (by decide +kernel))) rfl
theorem WI_X14_take : Cond.instanceMethod yX14_take ∈ ax_W := ax_tw (ax_t7 (List.mem_of_getElem? (i := 204) (by decide +kernel))) rfl
theorem WM_X14_141 : Cond.methodLink RX14 141 yX14_wrong ∈ ax_W := ax_tw (ax_t7 (List.mem_of_getElem? (i := 206) (by decide +kernel))) rfl
theorem WI_X14_wrong : Cond.instanceMethod yX14_wrong ∈ ax_W := ax_tw (ax_t7 (List.mem_of_getElem? (i := 208) (by decide +kernel))) rfl
theorem WM_X14_245 : Cond.methodLink RX14 245 yX14_stone ∈ ax_W := ax_tw (ax_t7 (List.mem_of_getElem? (i := 210) (by decide +kernel))) rfl
theorem WI_X14_stone : Cond.instanceMethod yX14_stone ∈ ax_W := ax_tw (ax_t7 (List.mem_of_getElem? (i := 212) (by decide +kernel))) rfl
theorem WM_X14_176 : Cond.methodLink RX14 176 yX14_player ∈ ax_W := ax_tw (ax_t7 (List.mem_of_getElem? (i := 214) (by decide +kernel))) rfl
theorem WI_X14_player : Cond.instanceMethod yX14_player ∈ ax_W := ax_tw (ax_t7 (List.mem_of_getElem? (i := 216) (by decide +kernel))) rfl
theorem WM_X14_247 : Cond.methodLink RX14 247 yX14_plan ∈ ax_W := ax_tw (ax_t7 (List.mem_of_getElem? (i := 218) (by decide +kernel))) rfl
theorem WI_X14_plan : Cond.instanceMethod yX14_plan ∈ ax_W := ax_tw (ax_t7 (List.mem_of_getElem? (i := 220) (by decide +kernel))) rfl
theorem WM_X14_218 : Cond.methodLink RX14 218 yJ9_min_7cf53 ∈ ax_W := ax_tw (ax_t7 (List.mem_of_getElem? (i := 222) (by decide +kernel))) rfl
theorem WM_X14_169 : Cond.methodLink RX14 169 yX14_sum ∈ ax_W := ax_tw (ax_t7 (List.mem_of_getElem? (i := 223) (by decide +kernel))) rfl
theorem WI_X14_sum : Cond.instanceMethod yX14_sum ∈ ax_W := ax_tw (ax_t7 (List.mem_of_getElem? (i := 225) (by decide +kernel))) rfl
theorem WM_X14_187 : Cond.methodLink RX14 187 yX14_product ∈ ax_W := ax_tw (ax_t7 (List.mem_of_getElem? (i := 227) (by decide +kernel))) rfl
theorem WI_X14_product : Cond.instanceMethod yX14_product ∈ ax_W := ax_tw (ax_t7 (List.mem_of_getElem? (i := 229) (by decide +kernel))) rfl
theorem WM_X14_185 : Cond.methodLink RX14 185 yX14_value ∈ ax_W := ax_tw (ax_t7 (List.mem_of_getElem? (i := 231) (by decide +kernel))) rfl
theorem WI_X14_value : Cond.instanceMethod yX14_value ∈ ax_W := ax_tw (ax_t7 (List.mem_of_getElem? (i := 233) (by decide +kernel))) rfl
theorem WM_X14_172 : Cond.methodLink RX14 172 yX14_node ∈ ax_W := ax_tw (ax_t7 (List.mem_of_getElem? (i := 235) (by decide +kernel))) rfl
theorem WI_X14_node : Cond.instanceMethod yX14_node ∈ ax_W := ax_tw (ax_t7 (List.mem_of_getElem? (i := 237) (by decide +kernel))) rfl
theorem WM_X14_179 : Cond.methodLink RX14 179 yX14_ofTwo ∈ ax_W := ax_tw (ax_t7 (List.mem_of_getElem? (i := 239) (by decide +kernel))) rfl
theorem WI_X14_ofTwo : Cond.instanceMethod yX14_ofTwo ∈ ax_W := ax_tw (ax_t8 (List.mem_of_getElem? (i := 1) (by decide +kernel))) rfl
theorem WM_X14_166 : Cond.methodLink RX14 166 yX14_deeper ∈ ax_W := ax_tw (ax_t8 (List.mem_of_getElem? (i := 3) (by decide +kernel))) rfl
theorem WI_X14_deeper : Cond.instanceMethod yX14_deeper ∈ ax_W := ax_tw (ax_t8 (List.mem_of_getElem? (i := 5) (by decide +kernel))) rfl
theorem WM_X14_182 : Cond.methodLink RX14 182 yX14_inBrackets ∈ ax_W := ax_tw (ax_t8 (List.mem_of_getElem? (i := 7) (by decide +kernel))) rfl
theorem WI_X14_inBrackets : Cond.instanceMethod yX14_inBrackets ∈ ax_W := ax_tw (ax_t8 (List.mem_of_getElem? (i := 9) (by decide +kernel))) rfl
theorem WM_X14_193 : Cond.methodLink RX14 193 yX14_test ∈ ax_W := ax_tw (ax_t8 (List.mem_of_getElem? (i := 11) (by decide +kernel))) rfl
theorem WI_X14_test : Cond.instanceMethod yX14_test ∈ ax_W := ax_tw (ax_t8 (List.mem_of_getElem? (i := 13) (by decide +kernel))) rfl
theorem WM_X14_199 : Cond.methodLink RX14 199 yX14_both ∈ ax_W := ax_tw (ax_t8 (List.mem_of_getElem? (i := 15) (by decide +kernel))) rfl
theorem WI_X14_both : Cond.instanceMethod yX14_both ∈ ax_W := ax_tw (ax_t8 (List.mem_of_getElem? (i := 17) (by decide +kernel))) rfl
theorem WM_X14_190 : Cond.methodLink RX14 190 yX14_single ∈ ax_W := ax_tw (ax_t8 (List.mem_of_getElem? (i := 19) (by decide +kernel))) rfl
theorem WI_X14_single : Cond.instanceMethod yX14_single ∈ ax_W := ax_tw (ax_t8 (List.mem_of_getElem? (i := 21) (by decide +kernel))) rfl
theorem WM_X14_196 : Cond.methodLink RX14 196 yX14_comparison ∈ ax_W := ax_tw (ax_t8 (List.mem_of_getElem? (i := 23) (by decide +kernel))) rfl
theorem WI_X14_comparison : Cond.instanceMethod yX14_comparison ∈ ax_W := ax_tw (ax_t8 (List.mem_of_getElem? (i := 25) (by decide +kernel))) rfl
theorem WM_X14_259 : Cond.methodLink RX14 259 yX13_become ∈ ax_W := ax_tw (ax_t8 (List.mem_of_getElem? (i := 27) (by decide +kernel))) rfl
theorem WI_X13_become : Cond.instanceMethod yX13_become ∈ ax_W := ax_tw (ax_t8 (List.mem_of_getElem? (i := 28) (by decide +kernel))) rfl
theorem WS_X13_become : Cond.selects RX13 yX13_become yX13_become ∈ ax_W := ax_tw (ax_t8 (List.mem_of_getElem? (i := 29) (by decide +kernel))) rfl
theorem WM_X13_64 : Cond.methodLink RX13 64 yX13_copy ∈ ax_W := ax_tw (ax_t8 (List.mem_of_getElem? (i := 31) (by decide +kernel))) rfl
theorem WT_X13_copy : Cond.static yX13_copy ∈ ax_W := ax_tw (ax_t8 (List.mem_of_getElem? (i := 32) (by decide +kernel))) rfl
theorem WM_X13_58 : Cond.methodLink RX13 58 ⟨"java/lang/System", "arraycopy", "(Ljava/lang/Object;ILjava/lang/Object;II)V"⟩ ∈ ax_W := ax_tw (ax_t8 (List.mem_of_getElem? (i := 34) (by decide +kernel))) rfl
theorem WM_X14_263 : Cond.methodLink RX14 263 ⟨"java/lang/System", "arraycopy", "(Ljava/lang/Object;ILjava/lang/Object;II)V"⟩ ∈ ax_W := ax_tw (ax_t8 (List.mem_of_getElem? (i := 37) (by decide +kernel))) rfl
theorem WM_L_125 : Cond.methodLink RL 125 yX14_errorAt ∈ ax_W := ax_tw (ax_t8 (List.mem_of_getElem? (i := 38) (by decide +kernel))) rfl
theorem WI_X14_errorAt : Cond.instanceMethod yX14_errorAt ∈ ax_W := ax_tw (ax_t8 (List.mem_of_getElem? (i := 39) (by decide +kernel))) rfl
theorem WS_X14_errorAt : Cond.selects RX14 yX14_errorAt yX14_errorAt ∈ ax_W := ax_tw (ax_t8 (List.mem_of_getElem? (i := 40) (by decide +kernel))) rfl
theorem WM_X14_272 : Cond.methodLink RX14 272 yX14_ok ∈ ax_W := ax_tw (ax_t8 (List.mem_of_getElem? (i := 42) (by decide +kernel))) rfl
theorem WI_X14_ok : Cond.instanceMethod yX14_ok ∈ ax_W := ax_tw (ax_t8 (List.mem_of_getElem? (i := 44) (by decide +kernel))) rfl
theorem WM_L_129 : Cond.methodLink RL 129 yX14_columns ∈ ax_W := ax_tw (ax_t8 (List.mem_of_getElem? (i := 46) (by decide +kernel))) rfl
theorem WI_X14_columns : Cond.instanceMethod yX14_columns ∈ ax_W := ax_tw (ax_t8 (List.mem_of_getElem? (i := 47) (by decide +kernel))) rfl
theorem WS_X14_columns : Cond.selects RX14 yX14_columns yX14_columns ∈ ax_W := ax_tw (ax_t8 (List.mem_of_getElem? (i := 48) (by decide +kernel))) rfl
theorem WM_L_133 : Cond.methodLink RL 133 yX14_rows ∈ ax_W := ax_tw (ax_t8 (List.mem_of_getElem? (i := 50) (by decide +kernel))) rfl
theorem WI_X14_rows : Cond.instanceMethod yX14_rows ∈ ax_W := ax_tw (ax_t8 (List.mem_of_getElem? (i := 51) (by decide +kernel))) rfl
theorem WS_X14_rows : Cond.selects RX14 yX14_rows yX14_rows ∈ ax_W := ax_tw (ax_t8 (List.mem_of_getElem? (i := 52) (by decide +kernel))) rfl
theorem WM_L_137 : Cond.methodLink RL 137 yX14_plans ∈ ax_W := ax_tw (ax_t8 (List.mem_of_getElem? (i := 54) (by decide +kernel))) rfl
theorem WI_X14_plans : Cond.instanceMethod yX14_plans ∈ ax_W := ax_tw (ax_t8 (List.mem_of_getElem? (i := 55) (by decide +kernel))) rfl
theorem WS_X14_plans : Cond.selects RX14 yX14_plans yX14_plans ∈ ax_W := ax_tw (ax_t8 (List.mem_of_getElem? (i := 56) (by decide +kernel))) rfl
theorem WM_L_141 : Cond.methodLink RL 141 yX14_stonesToTakeBack ∈ ax_W := ax_tw (ax_t8 (List.mem_of_getElem? (i := 58) (by decide +kernel))) rfl
theorem WI_X14_stonesToTakeBack : Cond.instanceMethod yX14_stonesToTakeBack ∈ ax_W := ax_tw (ax_t8 (List.mem_of_getElem? (i := 59) (by decide +kernel))) rfl
theorem WS_X14_stonesToTakeBack : Cond.selects RX14 yX14_stonesToTakeBack yX14_stonesToTakeBack ∈ ax_W := ax_tw (ax_t8 (List.mem_of_getElem? (i := 60) (by decide +kernel))) rfl
theorem WM_L_145 : Cond.methodLink RL 145 yX14_tapeBytes ∈ ax_W := ax_tw (ax_t8 (List.mem_of_getElem? (i := 62) (by decide +kernel))) rfl
theorem WI_X14_tapeBytes : Cond.instanceMethod yX14_tapeBytes ∈ ax_W := ax_tw (ax_t8 (List.mem_of_getElem? (i := 63) (by decide +kernel))) rfl
theorem WS_X14_tapeBytes : Cond.selects RX14 yX14_tapeBytes yX14_tapeBytes ∈ ax_W := ax_tw (ax_t8 (List.mem_of_getElem? (i := 64) (by decide +kernel))) rfl
theorem WM_L_149 : Cond.methodLink RL 149 yX14_emptyCells ∈ ax_W := ax_tw (ax_t8 (List.mem_of_getElem? (i := 66) (by decide +kernel))) rfl
theorem WI_X14_emptyCells : Cond.instanceMethod yX14_emptyCells ∈ ax_W := ax_tw (ax_t8 (List.mem_of_getElem? (i := 67) (by decide +kernel))) rfl
theorem WS_X14_emptyCells : Cond.selects RX14 yX14_emptyCells yX14_emptyCells ∈ ax_W := ax_tw (ax_t8 (List.mem_of_getElem? (i := 68) (by decide +kernel))) rfl
theorem WM_X14_307 : Cond.methodLink RX14 307 yX14_count ∈ ax_W := ax_tw (ax_t8 (List.mem_of_getElem? (i := 70) (by decide +kernel))) rfl
theorem WI_X14_count : Cond.instanceMethod yX14_count ∈ ax_W := ax_tw (ax_t8 (List.mem_of_getElem? (i := 72) (by decide +kernel))) rfl
theorem WM_X14_275 : Cond.methodLink RX14 275 yX14_cells ∈ ax_W := ax_tw (ax_t8 (List.mem_of_getElem? (i := 74) (by decide +kernel))) rfl
theorem WI_X14_cells : Cond.instanceMethod yX14_cells ∈ ax_W := ax_tw (ax_t8 (List.mem_of_getElem? (i := 76) (by decide +kernel))) rfl
theorem WM_L_152 : Cond.methodLink RL 152 yX14_stonesOf ∈ ax_W := ax_tw (ax_t8 (List.mem_of_getElem? (i := 78) (by decide +kernel))) rfl
theorem WI_X14_stonesOf : Cond.instanceMethod yX14_stonesOf ∈ ax_W := ax_tw (ax_t8 (List.mem_of_getElem? (i := 79) (by decide +kernel))) rfl
theorem WS_X14_stonesOf : Cond.selects RX14 yX14_stonesOf yX14_stonesOf ∈ ax_W := ax_tw (ax_t8 (List.mem_of_getElem? (i := 80) (by decide +kernel))) rfl
theorem WM_X14_380 : Cond.methodLink RX14 380 yX14_isPlayer ∈ ax_W := ax_tw (ax_t8 (List.mem_of_getElem? (i := 82) (by decide +kernel))) rfl
theorem WT_X14_isPlayer : Cond.static yX14_isPlayer ∈ ax_W := ax_tw (ax_t8 (List.mem_of_getElem? (i := 83) (by decide +kernel))) rfl
theorem WM_L_156 : Cond.methodLink RL 156 yX14_isEmpty ∈ ax_W := ax_tw (ax_t8 (List.mem_of_getElem? (i := 85) (by decide +kernel))) rfl
theorem WI_X14_isEmpty : Cond.instanceMethod yX14_isEmpty ∈ ax_W := ax_tw (ax_t8 (List.mem_of_getElem? (i := 86) (by decide +kernel))) rfl
theorem WS_X14_isEmpty : Cond.selects RX14 yX14_isEmpty yX14_isEmpty ∈ ax_W := ax_tw (ax_t8 (List.mem_of_getElem? (i := 87) (by decide +kernel))) rfl
theorem WM_X14_284 : Cond.methodLink RX14 284 yX14_isOn ∈ ax_W := ax_tw (ax_t8 (List.mem_of_getElem? (i := 89) (by decide +kernel))) rfl
theorem WI_X14_isOn : Cond.instanceMethod yX14_isOn ∈ ax_W := ax_tw (ax_t8 (List.mem_of_getElem? (i := 91) (by decide +kernel))) rfl
theorem WM_X14_288 : Cond.methodLink RX14 288 yX14_at ∈ ax_W := ax_tw (ax_t8 (List.mem_of_getElem? (i := 93) (by decide +kernel))) rfl
theorem WI_X14_at : Cond.instanceMethod yX14_at ∈ ax_W := ax_tw (ax_t8 (List.mem_of_getElem? (i := 95) (by decide +kernel))) rfl
theorem WM_X14_383 : Cond.methodLink RX14 383 yX14_isNot ∈ ax_W := ax_tw (ax_t8 (List.mem_of_getElem? (i := 97) (by decide +kernel))) rfl
theorem WI_X14_isNot : Cond.instanceMethod yX14_isNot ∈ ax_W := ax_tw (ax_t8 (List.mem_of_getElem? (i := 99) (by decide +kernel))) rfl
theorem WM_L_159 : Cond.methodLink RL 159 yX14_ownerOf ∈ ax_W := ax_tw (ax_t8 (List.mem_of_getElem? (i := 101) (by decide +kernel))) rfl
theorem WI_X14_ownerOf : Cond.instanceMethod yX14_ownerOf ∈ ax_W := ax_tw (ax_t8 (List.mem_of_getElem? (i := 102) (by decide +kernel))) rfl
theorem WS_X14_ownerOf : Cond.selects RX14 yX14_ownerOf yX14_ownerOf ∈ ax_W := ax_tw (ax_t8 (List.mem_of_getElem? (i := 103) (by decide +kernel))) rfl
theorem WM_X14_386 : Cond.methodLink RX14 386 yX14_stoneAt ∈ ax_W := ax_tw (ax_t8 (List.mem_of_getElem? (i := 105) (by decide +kernel))) rfl
theorem WI_X14_stoneAt : Cond.instanceMethod yX14_stoneAt ∈ ax_W := ax_tw (ax_t8 (List.mem_of_getElem? (i := 107) (by decide +kernel))) rfl
theorem WM_L_162 : Cond.methodLink RL 162 yX14_hasWon ∈ ax_W := ax_tw (ax_t8 (List.mem_of_getElem? (i := 109) (by decide +kernel))) rfl
theorem WI_X14_hasWon : Cond.instanceMethod yX14_hasWon ∈ ax_W := ax_tw (ax_t8 (List.mem_of_getElem? (i := 110) (by decide +kernel))) rfl
theorem WS_X14_hasWon : Cond.selects RX14 yX14_hasWon yX14_hasWon ∈ ax_W := ax_tw (ax_t8 (List.mem_of_getElem? (i := 111) (by decide +kernel))) rfl
theorem WM_X14_304 : Cond.methodLink RX14 304 yX14_won ∈ ax_W := ax_tw (ax_t8 (List.mem_of_getElem? (i := 113) (by decide +kernel))) rfl
theorem WI_X14_won : Cond.instanceMethod yX14_won ∈ ax_W := ax_tw (ax_t8 (List.mem_of_getElem? (i := 115) (by decide +kernel))) rfl
theorem WM_X14_300 : Cond.methodLink RX14 300 yX14_isShore ∈ ax_W := ax_tw (ax_t8 (List.mem_of_getElem? (i := 117) (by decide +kernel))) rfl
theorem WI_X14_isShore : Cond.instanceMethod yX14_isShore ∈ ax_W := ax_tw (ax_t8 (List.mem_of_getElem? (i := 119) (by decide +kernel))) rfl
theorem WM_X14_297 : Cond.methodLink RX14 297 yX14_beside ∈ ax_W := ax_tw (ax_t8 (List.mem_of_getElem? (i := 121) (by decide +kernel))) rfl
theorem WI_X14_beside : Cond.instanceMethod yX14_beside ∈ ax_W := ax_tw (ax_t8 (List.mem_of_getElem? (i := 123) (by decide +kernel))) rfl
theorem WF_X14_278 : Cond.fieldLink RX14 278 "HexPondModel" "ACROSS" "[I" ∈ ax_W := ax_tw (ax_t8 (List.mem_of_getElem? (i := 125) (by decide +kernel))) rfl
theorem WF_X14_281 : Cond.fieldLink RX14 281 "HexPondModel" "DOWN" "[I" ∈ ax_W := ax_tw (ax_t8 (List.mem_of_getElem? (i := 127) (by decide +kernel))) rfl
theorem WM_L_167 : Cond.methodLink RL 167 yX14_isOver ∈ ax_W := ax_tw (ax_t8 (List.mem_of_getElem? (i := 129) (by decide +kernel))) rfl
theorem WI_X14_isOver : Cond.instanceMethod yX14_isOver ∈ ax_W := ax_tw (ax_t8 (List.mem_of_getElem? (i := 130) (by decide +kernel))) rfl
theorem WS_X14_isOver : Cond.selects RX14 yX14_isOver yX14_isOver ∈ ax_W := ax_tw (ax_t8 (List.mem_of_getElem? (i := 131) (by decide +kernel))) rfl
theorem WM_X14_370 : Cond.methodLink RX14 370 yX14_over ∈ ax_W := ax_tw (ax_t8 (List.mem_of_getElem? (i := 133) (by decide +kernel))) rfl
theorem WI_X14_over : Cond.instanceMethod yX14_over ∈ ax_W := ax_tw (ax_t8 (List.mem_of_getElem? (i := 135) (by decide +kernel))) rfl
theorem WM_L_171 : Cond.methodLink RL 171 yX14_playerInTurn ∈ ax_W := ax_tw (ax_t8 (List.mem_of_getElem? (i := 137) (by decide +kernel))) rfl
theorem WI_X14_playerInTurn : Cond.instanceMethod yX14_playerInTurn ∈ ax_W := ax_tw (ax_t8 (List.mem_of_getElem? (i := 138) (by decide +kernel))) rfl
theorem WS_X14_playerInTurn : Cond.selects RX14 yX14_playerInTurn yX14_playerInTurn ∈ ax_W := ax_tw (ax_t8 (List.mem_of_getElem? (i := 139) (by decide +kernel))) rfl
theorem WM_X14_374 : Cond.methodLink RX14 374 yX14_inTurn ∈ ax_W := ax_tw (ax_t8 (List.mem_of_getElem? (i := 141) (by decide +kernel))) rfl
theorem WI_X14_inTurn : Cond.instanceMethod yX14_inTurn ∈ ax_W := ax_tw (ax_t8 (List.mem_of_getElem? (i := 143) (by decide +kernel))) rfl
theorem WM_L_175 : Cond.methodLink RL 175 yX14_stonesBeside ∈ ax_W := ax_tw (ax_t8 (List.mem_of_getElem? (i := 145) (by decide +kernel))) rfl
theorem WI_X14_stonesBeside : Cond.instanceMethod yX14_stonesBeside ∈ ax_W := ax_tw (ax_t8 (List.mem_of_getElem? (i := 146) (by decide +kernel))) rfl
theorem WS_X14_stonesBeside : Cond.selects RX14 yX14_stonesBeside yX14_stonesBeside ∈ ax_W := ax_tw (ax_t8 (List.mem_of_getElem? (i := 147) (by decide +kernel))) rfl
theorem WM_L_178 : Cond.methodLink RL 178 yX14_groupSize ∈ ax_W := ax_tw (ax_t8 (List.mem_of_getElem? (i := 149) (by decide +kernel))) rfl
theorem WI_X14_groupSize : Cond.instanceMethod yX14_groupSize ∈ ax_W := ax_tw (ax_t8 (List.mem_of_getElem? (i := 150) (by decide +kernel))) rfl
theorem WS_X14_groupSize : Cond.selects RX14 yX14_groupSize yX14_groupSize ∈ ax_W := ax_tw (ax_t8 (List.mem_of_getElem? (i := 151) (by decide +kernel))) rfl
theorem WM_X14_389 : Cond.methodLink RX14 389 yX14_gather ∈ ax_W := ax_tw (ax_t8 (List.mem_of_getElem? (i := 153) (by decide +kernel))) rfl
theorem WI_X14_gather : Cond.instanceMethod yX14_gather ∈ ax_W := ax_tw (ax_t8 (List.mem_of_getElem? (i := 155) (by decide +kernel))) rfl
theorem WM_X14_294 : Cond.methodLink RX14 294 yX14_spread ∈ ax_W := ax_tw (ax_t8 (List.mem_of_getElem? (i := 157) (by decide +kernel))) rfl
theorem WI_X14_spread : Cond.instanceMethod yX14_spread ∈ ax_W := ax_tw (ax_t8 (List.mem_of_getElem? (i := 159) (by decide +kernel))) rfl
theorem WM_L_181 : Cond.methodLink RL 181 yX14_shoresOf ∈ ax_W := ax_tw (ax_t8 (List.mem_of_getElem? (i := 161) (by decide +kernel))) rfl
theorem WI_X14_shoresOf : Cond.instanceMethod yX14_shoresOf ∈ ax_W := ax_tw (ax_t8 (List.mem_of_getElem? (i := 162) (by decide +kernel))) rfl
theorem WS_X14_shoresOf : Cond.selects RX14 yX14_shoresOf yX14_shoresOf ∈ ax_W := ax_tw (ax_t8 (List.mem_of_getElem? (i := 163) (by decide +kernel))) rfl
theorem WM_X14_392 : Cond.methodLink RX14 392 yX14_hasShore ∈ ax_W := ax_tw (ax_t8 (List.mem_of_getElem? (i := 165) (by decide +kernel))) rfl
theorem WI_X14_hasShore : Cond.instanceMethod yX14_hasShore ∈ ax_W := ax_tw (ax_t8 (List.mem_of_getElem? (i := 167) (by decide +kernel))) rfl
theorem WM_L_184 : Cond.methodLink RL 184 yX14_groupsOf ∈ ax_W := ax_tw (ax_t8 (List.mem_of_getElem? (i := 169) (by decide +kernel))) rfl
theorem WI_X14_groupsOf : Cond.instanceMethod yX14_groupsOf ∈ ax_W := ax_tw (ax_t8 (List.mem_of_getElem? (i := 170) (by decide +kernel))) rfl
theorem WS_X14_groupsOf : Cond.selects RX14 yX14_groupsOf yX14_groupsOf ∈ ax_W := ax_tw (ax_t8 (List.mem_of_getElem? (i := 171) (by decide +kernel))) rfl
theorem WM_X14_395 : Cond.methodLink RX14 395 yX14_groupsThen ∈ ax_W := ax_tw (ax_t8 (List.mem_of_getElem? (i := 173) (by decide +kernel))) rfl
theorem WI_X14_groupsThen : Cond.instanceMethod yX14_groupsThen ∈ ax_W := ax_tw (ax_t8 (List.mem_of_getElem? (i := 175) (by decide +kernel))) rfl
theorem WM_L_187 : Cond.methodLink RL 187 yX14_greatestGroup ∈ ax_W := ax_tw (ax_t8 (List.mem_of_getElem? (i := 177) (by decide +kernel))) rfl
theorem WI_X14_greatestGroup : Cond.instanceMethod yX14_greatestGroup ∈ ax_W := ax_tw (ax_t8 (List.mem_of_getElem? (i := 178) (by decide +kernel))) rfl
theorem WS_X14_greatestGroup : Cond.selects RX14 yX14_greatestGroup yX14_greatestGroup ∈ ax_W := ax_tw (ax_t8 (List.mem_of_getElem? (i := 179) (by decide +kernel))) rfl
theorem WM_X14_398 : Cond.methodLink RX14 398 yX14_greatest ∈ ax_W := ax_tw (ax_t8 (List.mem_of_getElem? (i := 181) (by decide +kernel))) rfl
theorem WI_X14_greatest : Cond.instanceMethod yX14_greatest ∈ ax_W := ax_tw (ax_t8 (List.mem_of_getElem? (i := 183) (by decide +kernel))) rfl
theorem WM_X14_345 : Cond.methodLink RX14 345 yJ9_max_7cf53 ∈ ax_W := ax_tw (ax_t8 (List.mem_of_getElem? (i := 185) (by decide +kernel))) rfl
theorem WM_L_190 : Cond.methodLink RL 190 yX14_isBridge ∈ ax_W := ax_tw (ax_t8 (List.mem_of_getElem? (i := 186) (by decide +kernel))) rfl
theorem WI_X14_isBridge : Cond.instanceMethod yX14_isBridge ∈ ax_W := ax_tw (ax_t8 (List.mem_of_getElem? (i := 187) (by decide +kernel))) rfl
theorem WS_X14_isBridge : Cond.selects RX14 yX14_isBridge yX14_isBridge ∈ ax_W := ax_tw (ax_t8 (List.mem_of_getElem? (i := 188) (by decide +kernel))) rfl
theorem WM_X14_401 : Cond.methodLink RX14 401 yX14_isCell ∈ ax_W := ax_tw (ax_t8 (List.mem_of_getElem? (i := 190) (by decide +kernel))) rfl
theorem WI_X14_isCell : Cond.instanceMethod yX14_isCell ∈ ax_W := ax_tw (ax_t8 (List.mem_of_getElem? (i := 192) (by decide +kernel))) rfl
theorem WM_X14_314 : Cond.methodLink RX14 314 yX14_bridge ∈ ax_W := ax_tw (ax_t8 (List.mem_of_getElem? (i := 194) (by decide +kernel))) rfl
theorem WI_X14_bridge : Cond.instanceMethod yX14_bridge ∈ ax_W := ax_tw (ax_t8 (List.mem_of_getElem? (i := 196) (by decide +kernel))) rfl
theorem WM_X14_310 : Cond.methodLink RX14 310 yX14_between ∈ ax_W := ax_tw (ax_t8 (List.mem_of_getElem? (i := 198) (by decide +kernel))) rfl
theorem WI_X14_between : Cond.instanceMethod yX14_between ∈ ax_W := ax_tw (ax_t8 (List.mem_of_getElem? (i := 200) (by decide +kernel))) rfl
theorem WM_L_193 : Cond.methodLink RL 193 yX14_bridgesOf ∈ ax_W := ax_tw (ax_t8 (List.mem_of_getElem? (i := 202) (by decide +kernel))) rfl
theorem WI_X14_bridgesOf : Cond.instanceMethod yX14_bridgesOf ∈ ax_W := ax_tw (ax_t8 (List.mem_of_getElem? (i := 203) (by decide +kernel))) rfl
theorem WS_X14_bridgesOf : Cond.selects RX14 yX14_bridgesOf yX14_bridgesOf ∈ ax_W := ax_tw (ax_t8 (List.mem_of_getElem? (i := 204) (by decide +kernel))) rfl
theorem WM_X14_339 : Cond.methodLink RX14 339 yX14_bridges ∈ ax_W := ax_tw (ax_t8 (List.mem_of_getElem? (i := 206) (by decide +kernel))) rfl
theorem WI_X14_bridges : Cond.instanceMethod yX14_bridges ∈ ax_W := ax_tw (ax_t8 (List.mem_of_getElem? (i := 208) (by decide +kernel))) rfl
theorem WM_L_196 : Cond.methodLink RL 196 yX14_brokenBridgesOf ∈ ax_W := ax_tw (ax_t8 (List.mem_of_getElem? (i := 210) (by decide +kernel))) rfl
theorem WI_X14_brokenBridgesOf : Cond.instanceMethod yX14_brokenBridgesOf ∈ ax_W := ax_tw (ax_t8 (List.mem_of_getElem? (i := 211) (by decide +kernel))) rfl
theorem WS_X14_brokenBridgesOf : Cond.selects RX14 yX14_brokenBridgesOf yX14_brokenBridgesOf ∈ ax_W := ax_tw (ax_t8 (List.mem_of_getElem? (i := 212) (by decide +kernel))) rfl
theorem WM_L_199 : Cond.methodLink RL 199 yX14_isFrozen ∈ ax_W := ax_tw (ax_t8 (List.mem_of_getElem? (i := 214) (by decide +kernel))) rfl
theorem WI_X14_isFrozen : Cond.instanceMethod yX14_isFrozen ∈ ax_W := ax_tw (ax_t8 (List.mem_of_getElem? (i := 215) (by decide +kernel))) rfl
theorem WS_X14_isFrozen : Cond.selects RX14 yX14_isFrozen yX14_isFrozen ∈ ax_W := ax_tw (ax_t8 (List.mem_of_getElem? (i := 216) (by decide +kernel))) rfl
theorem WM_X14_320 : Cond.methodLink RX14 320 yX14_frozen ∈ ax_W := ax_tw (ax_t8 (List.mem_of_getElem? (i := 218) (by decide +kernel))) rfl
theorem WI_X14_frozen : Cond.instanceMethod yX14_frozen ∈ ax_W := ax_tw (ax_t8 (List.mem_of_getElem? (i := 220) (by decide +kernel))) rfl
theorem WM_X14_317 : Cond.methodLink RX14 317 yX14_around ∈ ax_W := ax_tw (ax_t8 (List.mem_of_getElem? (i := 222) (by decide +kernel))) rfl
theorem WI_X14_around : Cond.instanceMethod yX14_around ∈ ax_W := ax_tw (ax_t8 (List.mem_of_getElem? (i := 224) (by decide +kernel))) rfl
theorem WM_L_203 : Cond.methodLink RL 203 yX14_frozenCells ∈ ax_W := ax_tw (ax_t8 (List.mem_of_getElem? (i := 226) (by decide +kernel))) rfl
theorem WI_X14_frozenCells : Cond.instanceMethod yX14_frozenCells ∈ ax_W := ax_tw (ax_t8 (List.mem_of_getElem? (i := 227) (by decide +kernel))) rfl
theorem WS_X14_frozenCells : Cond.selects RX14 yX14_frozenCells yX14_frozenCells ∈ ax_W := ax_tw (ax_t8 (List.mem_of_getElem? (i := 228) (by decide +kernel))) rfl
theorem WM_X14_404 : Cond.methodLink RX14 404 yX14_allFrozen ∈ ax_W := ax_tw (ax_t8 (List.mem_of_getElem? (i := 230) (by decide +kernel))) rfl
theorem WI_X14_allFrozen : Cond.instanceMethod yX14_allFrozen ∈ ax_W := ax_tw (ax_t8 (List.mem_of_getElem? (i := 232) (by decide +kernel))) rfl
theorem WM_L_206 : Cond.methodLink RL 206 yX14_stonesNeeded ∈ ax_W := ax_tw (ax_t8 (List.mem_of_getElem? (i := 234) (by decide +kernel))) rfl
theorem WI_X14_stonesNeeded : Cond.instanceMethod yX14_stonesNeeded ∈ ax_W := ax_tw (ax_t8 (List.mem_of_getElem? (i := 235) (by decide +kernel))) rfl
theorem WS_X14_stonesNeeded : Cond.selects RX14 yX14_stonesNeeded yX14_stonesNeeded ∈ ax_W := ax_tw (ax_t8 (List.mem_of_getElem? (i := 236) (by decide +kernel))) rfl
theorem WM_X14_342 : Cond.methodLink RX14 342 yX14_needs ∈ ax_W := ax_tw (ax_t8 (List.mem_of_getElem? (i := 238) (by decide +kernel))) rfl
theorem WI_X14_needs : Cond.instanceMethod yX14_needs ∈ ax_W := ax_tw (ax_t9 (List.mem_of_getElem? (i := 0) (by decide +kernel))) rfl
theorem WM_X14_326 : Cond.methodLink RX14 326 yX14_reach ∈ ax_W := ax_tw (ax_t9 (List.mem_of_getElem? (i := 2) (by decide +kernel))) rfl
theorem WI_X14_reach : Cond.instanceMethod yX14_reach ∈ ax_W := ax_tw (ax_t9 (List.mem_of_getElem? (i := 4) (by decide +kernel))) rfl
theorem WM_X14_323 : Cond.methodLink RX14 323 yX14_cost ∈ ax_W := ax_tw (ax_t9 (List.mem_of_getElem? (i := 6) (by decide +kernel))) rfl
theorem WI_X14_cost : Cond.instanceMethod yX14_cost ∈ ax_W := ax_tw (ax_t9 (List.mem_of_getElem? (i := 8) (by decide +kernel))) rfl
theorem WM_X14_407 : Cond.methodLink RX14 407 yX14_orNone ∈ ax_W := ax_tw (ax_t9 (List.mem_of_getElem? (i := 10) (by decide +kernel))) rfl
theorem WI_X14_orNone : Cond.instanceMethod yX14_orNone ∈ ax_W := ax_tw (ax_t9 (List.mem_of_getElem? (i := 12) (by decide +kernel))) rfl
theorem WM_L_209 : Cond.methodLink RL 209 yX14_stonesNeededThrough ∈ ax_W := ax_tw (ax_t9 (List.mem_of_getElem? (i := 14) (by decide +kernel))) rfl
theorem WI_X14_stonesNeededThrough : Cond.instanceMethod yX14_stonesNeededThrough ∈ ax_W := ax_tw (ax_t9 (List.mem_of_getElem? (i := 15) (by decide +kernel))) rfl
theorem WS_X14_stonesNeededThrough : Cond.selects RX14 yX14_stonesNeededThrough yX14_stonesNeededThrough ∈ ax_W := ax_tw (ax_t9 (List.mem_of_getElem? (i := 16) (by decide +kernel))) rfl
theorem WM_X14_410 : Cond.methodLink RX14 410 yX14_through ∈ ax_W := ax_tw (ax_t9 (List.mem_of_getElem? (i := 18) (by decide +kernel))) rfl
theorem WI_X14_through : Cond.instanceMethod yX14_through ∈ ax_W := ax_tw (ax_t9 (List.mem_of_getElem? (i := 20) (by decide +kernel))) rfl
theorem WM_X14_330 : Cond.methodLink RX14 330 yX14_reachBoth ∈ ax_W := ax_tw (ax_t9 (List.mem_of_getElem? (i := 22) (by decide +kernel))) rfl
theorem WI_X14_reachBoth : Cond.instanceMethod yX14_reachBoth ∈ ax_W := ax_tw (ax_t9 (List.mem_of_getElem? (i := 24) (by decide +kernel))) rfl
theorem WM_X14_333 : Cond.methodLink RX14 333 yX14_throughThen ∈ ax_W := ax_tw (ax_t9 (List.mem_of_getElem? (i := 26) (by decide +kernel))) rfl
theorem WI_X14_throughThen : Cond.instanceMethod yX14_throughThen ∈ ax_W := ax_tw (ax_t9 (List.mem_of_getElem? (i := 28) (by decide +kernel))) rfl
theorem WM_L_212 : Cond.methodLink RL 212 yX14_isWinningCell ∈ ax_W := ax_tw (ax_t9 (List.mem_of_getElem? (i := 30) (by decide +kernel))) rfl
theorem WI_X14_isWinningCell : Cond.instanceMethod yX14_isWinningCell ∈ ax_W := ax_tw (ax_t9 (List.mem_of_getElem? (i := 31) (by decide +kernel))) rfl
theorem WS_X14_isWinningCell : Cond.selects RX14 yX14_isWinningCell yX14_isWinningCell ∈ ax_W := ax_tw (ax_t9 (List.mem_of_getElem? (i := 32) (by decide +kernel))) rfl
theorem WM_X14_336 : Cond.methodLink RX14 336 yX14_wins ∈ ax_W := ax_tw (ax_t9 (List.mem_of_getElem? (i := 34) (by decide +kernel))) rfl
theorem WI_X14_wins : Cond.instanceMethod yX14_wins ∈ ax_W := ax_tw (ax_t9 (List.mem_of_getElem? (i := 36) (by decide +kernel))) rfl
theorem WM_L_215 : Cond.methodLink RL 215 yX14_winningCells ∈ ax_W := ax_tw (ax_t9 (List.mem_of_getElem? (i := 38) (by decide +kernel))) rfl
theorem WI_X14_winningCells : Cond.instanceMethod yX14_winningCells ∈ ax_W := ax_tw (ax_t9 (List.mem_of_getElem? (i := 39) (by decide +kernel))) rfl
theorem WS_X14_winningCells : Cond.selects RX14 yX14_winningCells yX14_winningCells ∈ ax_W := ax_tw (ax_t9 (List.mem_of_getElem? (i := 40) (by decide +kernel))) rfl
theorem WM_X14_351 : Cond.methodLink RX14 351 yX14_winning ∈ ax_W := ax_tw (ax_t9 (List.mem_of_getElem? (i := 42) (by decide +kernel))) rfl
theorem WI_X14_winning : Cond.instanceMethod yX14_winning ∈ ax_W := ax_tw (ax_t9 (List.mem_of_getElem? (i := 44) (by decide +kernel))) rfl
theorem WM_L_218 : Cond.methodLink RL 218 yX14_layStone ∈ ax_W := ax_tw (ax_t9 (List.mem_of_getElem? (i := 46) (by decide +kernel))) rfl
theorem WI_X14_layStone : Cond.instanceMethod yX14_layStone ∈ ax_W := ax_tw (ax_t9 (List.mem_of_getElem? (i := 47) (by decide +kernel))) rfl
theorem WS_X14_layStone : Cond.selects RX14 yX14_layStone yX14_layStone ∈ ax_W := ax_tw (ax_t9 (List.mem_of_getElem? (i := 48) (by decide +kernel))) rfl
theorem WM_X14_413 : Cond.methodLink RX14 413 yX14_lay ∈ ax_W := ax_tw (ax_t9 (List.mem_of_getElem? (i := 50) (by decide +kernel))) rfl
theorem WI_X14_lay : Cond.instanceMethod yX14_lay ∈ ax_W := ax_tw (ax_t9 (List.mem_of_getElem? (i := 52) (by decide +kernel))) rfl
theorem WM_L_221 : Cond.methodLink RL 221 yX14_takeBack ∈ ax_W := ax_tw (ax_t9 (List.mem_of_getElem? (i := 54) (by decide +kernel))) rfl
theorem WI_X14_takeBack : Cond.instanceMethod yX14_takeBack ∈ ax_W := ax_tw (ax_t9 (List.mem_of_getElem? (i := 55) (by decide +kernel))) rfl
theorem WS_X14_takeBack : Cond.selects RX14 yX14_takeBack yX14_takeBack ∈ ax_W := ax_tw (ax_t9 (List.mem_of_getElem? (i := 56) (by decide +kernel))) rfl
theorem WM_L_224 : Cond.methodLink RL 224 yX14_plannedCell ∈ ax_W := ax_tw (ax_t9 (List.mem_of_getElem? (i := 58) (by decide +kernel))) rfl
theorem WI_X14_plannedCell : Cond.instanceMethod yX14_plannedCell ∈ ax_W := ax_tw (ax_t9 (List.mem_of_getElem? (i := 59) (by decide +kernel))) rfl
theorem WS_X14_plannedCell : Cond.selects RX14 yX14_plannedCell yX14_plannedCell ∈ ax_W := ax_tw (ax_t9 (List.mem_of_getElem? (i := 60) (by decide +kernel))) rfl
theorem WM_X14_377 : Cond.methodLink RX14 377 yX14_planned ∈ ax_W := ax_tw (ax_t9 (List.mem_of_getElem? (i := 62) (by decide +kernel))) rfl
theorem WI_X14_planned : Cond.instanceMethod yX14_planned ∈ ax_W := ax_tw (ax_t9 (List.mem_of_getElem? (i := 64) (by decide +kernel))) rfl
theorem WM_X14_364 : Cond.methodLink RX14 364 yX14_reckon ∈ ax_W := ax_tw (ax_t9 (List.mem_of_getElem? (i := 66) (by decide +kernel))) rfl
theorem WI_X14_reckon : Cond.instanceMethod yX14_reckon ∈ ax_W := ax_tw (ax_t9 (List.mem_of_getElem? (i := 68) (by decide +kernel))) rfl
theorem WM_X14_348 : Cond.methodLink RX14 348 yX14_compared ∈ ax_W := ax_tw (ax_t9 (List.mem_of_getElem? (i := 70) (by decide +kernel))) rfl
theorem WT_X14_compared : Cond.static yX14_compared ∈ ax_W := ax_tw (ax_t9 (List.mem_of_getElem? (i := 71) (by decide +kernel))) rfl
theorem WM_X14_367 : Cond.methodLink RX14 367 yX14_found ∈ ax_W := ax_tw (ax_t9 (List.mem_of_getElem? (i := 73) (by decide +kernel))) rfl
theorem WI_X14_found : Cond.instanceMethod yX14_found ∈ ax_W := ax_tw (ax_t9 (List.mem_of_getElem? (i := 75) (by decide +kernel))) rfl
theorem WM_X14_355 : Cond.methodLink RX14 355 yX14_saved ∈ ax_W := ax_tw (ax_t9 (List.mem_of_getElem? (i := 77) (by decide +kernel))) rfl
theorem WI_X14_saved : Cond.instanceMethod yX14_saved ∈ ax_W := ax_tw (ax_t9 (List.mem_of_getElem? (i := 79) (by decide +kernel))) rfl
theorem WM_X14_358 : Cond.methodLink RX14 358 yX14_nearest ∈ ax_W := ax_tw (ax_t9 (List.mem_of_getElem? (i := 81) (by decide +kernel))) rfl
theorem WI_X14_nearest : Cond.instanceMethod yX14_nearest ∈ ax_W := ax_tw (ax_t9 (List.mem_of_getElem? (i := 83) (by decide +kernel))) rfl
theorem WM_X14_361 : Cond.methodLink RX14 361 yJ9_floorMod_7cf53 ∈ ax_W := ax_tw (ax_t9 (List.mem_of_getElem? (i := 85) (by decide +kernel))) rfl
theorem WM_L_227 : Cond.methodLink RL 227 yX14_playByPlans ∈ ax_W := ax_tw (ax_t9 (List.mem_of_getElem? (i := 86) (by decide +kernel))) rfl
theorem WI_X14_playByPlans : Cond.instanceMethod yX14_playByPlans ∈ ax_W := ax_tw (ax_t9 (List.mem_of_getElem? (i := 87) (by decide +kernel))) rfl
theorem WS_X14_playByPlans : Cond.selects RX14 yX14_playByPlans yX14_playByPlans ∈ ax_W := ax_tw (ax_t9 (List.mem_of_getElem? (i := 88) (by decide +kernel))) rfl
theorem WM_X14_416 : Cond.methodLink RX14 416 yX14_play ∈ ax_W := ax_tw (ax_t9 (List.mem_of_getElem? (i := 90) (by decide +kernel))) rfl
theorem WI_X14_play : Cond.instanceMethod yX14_play ∈ ax_W := ax_tw (ax_t9 (List.mem_of_getElem? (i := 92) (by decide +kernel))) rfl
theorem WM_L_231 : Cond.methodLink RL 231 yX14_stonesByPlans ∈ ax_W := ax_tw (ax_t9 (List.mem_of_getElem? (i := 94) (by decide +kernel))) rfl
theorem WI_X14_stonesByPlans : Cond.instanceMethod yX14_stonesByPlans ∈ ax_W := ax_tw (ax_t9 (List.mem_of_getElem? (i := 95) (by decide +kernel))) rfl
theorem WS_X14_stonesByPlans : Cond.selects RX14 yX14_stonesByPlans yX14_stonesByPlans ∈ ax_W := ax_tw (ax_t9 (List.mem_of_getElem? (i := 96) (by decide +kernel))) rfl
theorem WM_X14_419 : Cond.methodLink RX14 419 yX14_keep ∈ ax_W := ax_tw (ax_t9 (List.mem_of_getElem? (i := 98) (by decide +kernel))) rfl
theorem WI_X14_keep : Cond.instanceMethod yX14_keep ∈ ax_W := ax_tw (ax_t9 (List.mem_of_getElem? (i := 100) (by decide +kernel))) rfl
theorem WM_X14_422 : Cond.methodLink RX14 422 yX14_bringBack ∈ ax_W := ax_tw (ax_t9 (List.mem_of_getElem? (i := 102) (by decide +kernel))) rfl
theorem WI_X14_bringBack : Cond.instanceMethod yX14_bringBack ∈ ax_W := ax_tw (ax_t9 (List.mem_of_getElem? (i := 104) (by decide +kernel))) rfl
theorem WM_L_235 : Cond.methodLink RL 235 yX14_winnerByPlans ∈ ax_W := ax_tw (ax_t9 (List.mem_of_getElem? (i := 106) (by decide +kernel))) rfl
theorem WI_X14_winnerByPlans : Cond.instanceMethod yX14_winnerByPlans ∈ ax_W := ax_tw (ax_t9 (List.mem_of_getElem? (i := 107) (by decide +kernel))) rfl
theorem WS_X14_winnerByPlans : Cond.selects RX14 yX14_winnerByPlans yX14_winnerByPlans ∈ ax_W := ax_tw (ax_t9 (List.mem_of_getElem? (i := 108) (by decide +kernel))) rfl
theorem WM_L_238 : Cond.methodLink RL 238 yX14_mustPlay ∈ ax_W := ax_tw (ax_t9 (List.mem_of_getElem? (i := 110) (by decide +kernel))) rfl
theorem WI_X14_mustPlay : Cond.instanceMethod yX14_mustPlay ∈ ax_W := ax_tw (ax_t9 (List.mem_of_getElem? (i := 111) (by decide +kernel))) rfl
theorem WS_X14_mustPlay : Cond.selects RX14 yX14_mustPlay yX14_mustPlay ∈ ax_W := ax_tw (ax_t9 (List.mem_of_getElem? (i := 112) (by decide +kernel))) rfl
theorem WM_L_241 : Cond.methodLink RL 241 yX14_bestCell ∈ ax_W := ax_tw (ax_t9 (List.mem_of_getElem? (i := 114) (by decide +kernel))) rfl
theorem WI_X14_bestCell : Cond.instanceMethod yX14_bestCell ∈ ax_W := ax_tw (ax_t9 (List.mem_of_getElem? (i := 115) (by decide +kernel))) rfl
theorem WS_X14_bestCell : Cond.selects RX14 yX14_bestCell yX14_bestCell ∈ ax_W := ax_tw (ax_t9 (List.mem_of_getElem? (i := 116) (by decide +kernel))) rfl
theorem WM_X14_425 : Cond.methodLink RX14 425 yX14_best ∈ ax_W := ax_tw (ax_t9 (List.mem_of_getElem? (i := 118) (by decide +kernel))) rfl
theorem WI_X14_best : Cond.instanceMethod yX14_best ∈ ax_W := ax_tw (ax_t9 (List.mem_of_getElem? (i := 120) (by decide +kernel))) rfl
theorem WM_L_246 : Cond.methodLink RL 246 yX14_meanGroup ∈ ax_W := ax_tw (ax_t9 (List.mem_of_getElem? (i := 122) (by decide +kernel))) rfl
theorem WI_X14_meanGroup : Cond.instanceMethod yX14_meanGroup ∈ ax_W := ax_tw (ax_t9 (List.mem_of_getElem? (i := 123) (by decide +kernel))) rfl
theorem WS_X14_meanGroup : Cond.selects RX14 yX14_meanGroup yX14_meanGroup ∈ ax_W := ax_tw (ax_t9 (List.mem_of_getElem? (i := 124) (by decide +kernel))) rfl
theorem WM_L_251 : Cond.methodLink RL 251 yX14_digest ∈ ax_W := ax_tw (ax_t9 (List.mem_of_getElem? (i := 126) (by decide +kernel))) rfl
theorem WI_X14_digest : Cond.instanceMethod yX14_digest ∈ ax_W := ax_tw (ax_t9 (List.mem_of_getElem? (i := 127) (by decide +kernel))) rfl
theorem WS_X14_digest : Cond.selects RX14 yX14_digest yX14_digest ∈ ax_W := ax_tw (ax_t9 (List.mem_of_getElem? (i := 128) (by decide +kernel))) rfl
theorem WJ_X14_430 : Cond.constantLong RX14 430 (953 : Int64) ∈ ax_W := ax_tw (ax_t9 (List.mem_of_getElem? (i := 130) (by decide +kernel))) rfl
theorem WJ_X14_428 : Cond.constantLong RX14 428 (31 : Int64) ∈ ax_W := ax_tw (ax_t9 (List.mem_of_getElem? (i := 131) (by decide +kernel))) rfl
theorem WM_X14_432 : Cond.methodLink RX14 432 yX14_digestPlayer ∈ ax_W := ax_tw (ax_t9 (List.mem_of_getElem? (i := 132) (by decide +kernel))) rfl
theorem WI_X14_digestPlayer : Cond.instanceMethod yX14_digestPlayer ∈ ax_W := ax_tw (ax_t9 (List.mem_of_getElem? (i := 134) (by decide +kernel))) rfl
theorem WF_X5_149 : Cond.fieldLink RX5 149 "HexPond$Kind" "text" "Ljava/lang/String;" ∈ ax_W := ax_tw (ax_t9 (List.mem_of_getElem? (i := 138) (by decide +kernel))) rfl
theorem WF_J0_9 : Cond.fieldLink RJ0 9 "java/lang/String" "value" "[B" ∈ ax_W := ax_tw (ax_t9 (List.mem_of_getElem? (i := 139) (by decide +kernel))) rfl
theorem WF_J0_15 : Cond.fieldLink RJ0 15 "java/lang/String" "coder" "B" ∈ ax_W := ax_tw (ax_t9 (List.mem_of_getElem? (i := 140) (by decide +kernel))) rfl
theorem WF_Jx29ce0_7 : Cond.fieldLink RJx29ce0 7 "java/lang/Enum" "ordinal" "I" ∈ ax_W := ax_tw (ax_t9 (List.mem_of_getElem? (i := 141) (by decide +kernel))) rfl
theorem WS_X8_placeCell : Cond.selects RX8 yX8_placeCell yX8_placeCell ∈ ax_W := ax_ts (ax_tp (ax_p1 (List.mem_of_getElem? (l := lw_privs_1) (i := 0) rfl))) rfl
theorem WS_X10_keep : Cond.selects RX10 yX10_keep yX10_keep ∈ ax_W := ax_ts (ax_tp (ax_p1 (List.mem_of_getElem? (l := lw_privs_1) (i := 1) rfl))) rfl
theorem WS_X3_take : Cond.selects RX3 yX3_take yX3_take ∈ ax_W := ax_ts (ax_tp (ax_p1 (List.mem_of_getElem? (l := lw_privs_1) (i := 2) rfl))) rfl
theorem WS_X3_need : Cond.selects RX3 yX3_need yX3_need ∈ ax_W := ax_ts (ax_tp (ax_p1 (List.mem_of_getElem? (l := lw_privs_1) (i := 3) rfl))) rfl
theorem WS_X3_sees : Cond.selects RX3 yX3_sees yX3_sees ∈ ax_W := ax_ts (ax_tp (ax_p1 (List.mem_of_getElem? (l := lw_privs_1) (i := 4) rfl))) rfl
theorem WS_X3_readStone : Cond.selects RX3 yX3_readStone yX3_readStone ∈ ax_W := ax_ts (ax_tp (ax_p1 (List.mem_of_getElem? (l := lw_privs_1) (i := 5) rfl))) rfl
theorem WS_X3_readPlayer : Cond.selects RX3 yX3_readPlayer yX3_readPlayer ∈ ax_W := ax_ts (ax_tp (ax_p1 (List.mem_of_getElem? (l := lw_privs_1) (i := 6) rfl))) rfl
theorem WS_X3_readPlan : Cond.selects RX3 yX3_readPlan yX3_readPlan ∈ ax_W := ax_ts (ax_tp (ax_p1 (List.mem_of_getElem? (l := lw_privs_1) (i := 7) rfl))) rfl
theorem WS_X3_readMove : Cond.selects RX3 yX3_readMove yX3_readMove ∈ ax_W := ax_ts (ax_tp (ax_p1 (List.mem_of_getElem? (l := lw_privs_1) (i := 8) rfl))) rfl
theorem WS_X3_readSum : Cond.selects RX3 yX3_readSum yX3_readSum ∈ ax_W := ax_ts (ax_tp (ax_p1 (List.mem_of_getElem? (l := lw_privs_1) (i := 9) rfl))) rfl
theorem WS_X3_readProduct : Cond.selects RX3 yX3_readProduct yX3_readProduct ∈ ax_W := ax_ts (ax_tp (ax_p1 (List.mem_of_getElem? (l := lw_privs_1) (i := 10) rfl))) rfl
theorem WS_X3_readValue : Cond.selects RX3 yX3_readValue yX3_readValue ∈ ax_W := ax_ts (ax_tp (ax_p1 (List.mem_of_getElem? (l := lw_privs_1) (i := 11) rfl))) rfl
theorem WS_X3_readPair : Cond.selects RX3 yX3_readPair yX3_readPair ∈ ax_W := ax_ts (ax_tp (ax_p1 (List.mem_of_getElem? (l := lw_privs_1) (i := 12) rfl))) rfl
theorem WS_X3_readTest : Cond.selects RX3 yX3_readTest yX3_readTest ∈ ax_W := ax_ts (ax_tp (ax_p1 (List.mem_of_getElem? (l := lw_privs_1) (i := 13) rfl))) rfl
theorem WS_X3_readBoth : Cond.selects RX3 yX3_readBoth yX3_readBoth ∈ ax_W := ax_ts (ax_tp (ax_p1 (List.mem_of_getElem? (l := lw_privs_1) (i := 14) rfl))) rfl
theorem WS_X3_readSingle : Cond.selects RX3 yX3_readSingle yX3_readSingle ∈ ax_W := ax_ts (ax_tp (ax_p1 (List.mem_of_getElem? (l := lw_privs_1) (i := 15) rfl))) rfl
theorem WS_X3_readRelation : Cond.selects RX3 yX3_readRelation yX3_readRelation ∈ ax_W := ax_ts (ax_tp (ax_p2 (List.mem_of_getElem? (l := lw_privs_2) (i := 0) rfl))) rfl
theorem WS_X6_errorAtToken : Cond.selects RX6 yX6_errorAtToken yX6_errorAtToken ∈ ax_W := ax_ts (ax_tp (ax_p2 (List.mem_of_getElem? (l := lw_privs_2) (i := 1) rfl))) rfl
theorem WS_X6_errorAtNumber : Cond.selects RX6 yX6_errorAtNumber yX6_errorAtNumber ∈ ax_W := ax_ts (ax_tp (ax_p2 (List.mem_of_getElem? (l := lw_privs_2) (i := 2) rfl))) rfl
theorem WS_X6_errorOfStone : Cond.selects RX6 yX6_errorOfStone yX6_errorOfStone ∈ ax_W := ax_ts (ax_tp (ax_p2 (List.mem_of_getElem? (l := lw_privs_2) (i := 3) rfl))) rfl
theorem WS_X12_beginTaughtGame : Cond.selects RX12 yX12_beginTaughtGame yX12_beginTaughtGame ∈ ax_W := ax_ts (ax_tp (ax_p2 (List.mem_of_getElem? (l := lw_privs_2) (i := 4) rfl))) rfl
theorem WS_X8_countStone : Cond.selects RX8 yX8_countStone yX8_countStone ∈ ax_W := ax_ts (ax_tp (ax_p2 (List.mem_of_getElem? (l := lw_privs_2) (i := 5) rfl))) rfl
theorem WS_X12_winner : Cond.selects RX12 yX12_winner yX12_winner ∈ ax_W := ax_ts (ax_tp (ax_p2 (List.mem_of_getElem? (l := lw_privs_2) (i := 6) rfl))) rfl
theorem WS_X11_measure : Cond.selects RX11 yX11_measure yX11_measure ∈ ax_W := ax_ts (ax_tp (ax_p2 (List.mem_of_getElem? (l := lw_privs_2) (i := 7) rfl))) rfl
theorem WS_X11_reach : Cond.selects RX11 yX11_reach yX11_reach ∈ ax_W := ax_ts (ax_tp (ax_p2 (List.mem_of_getElem? (l := lw_privs_2) (i := 8) rfl))) rfl
theorem WS_X11_fewestAtOtherShore : Cond.selects RX11 yX11_fewestAtOtherShore yX11_fewestAtOtherShore ∈ ax_W := ax_ts (ax_tp (ax_p2 (List.mem_of_getElem? (l := lw_privs_2) (i := 9) rfl))) rfl
theorem WS_X11_distance : Cond.selects RX11 yX11_distance yX11_distance ∈ ax_W := ax_ts (ax_tp (ax_p2 (List.mem_of_getElem? (l := lw_privs_2) (i := 10) rfl))) rfl
theorem WS_X8_ownerAround : Cond.selects RX8 yX8_ownerAround yX8_ownerAround ∈ ax_W := ax_ts (ax_tp (ax_p2 (List.mem_of_getElem? (l := lw_privs_2) (i := 11) rfl))) rfl
theorem WS_X12_playOn : Cond.selects RX12 yX12_playOn yX12_playOn ∈ ax_W := ax_ts (ax_tp (ax_p2 (List.mem_of_getElem? (l := lw_privs_2) (i := 12) rfl))) rfl
theorem WS_X1_stateAt : Cond.selects RX1 yX1_stateAt yX1_stateAt ∈ ax_W := ax_ts (ax_tp (ax_p2 (List.mem_of_getElem? (l := lw_privs_2) (i := 13) rfl))) rfl
theorem WS_X1_farEnd : Cond.selects RX1 yX1_farEnd yX1_farEnd ∈ ax_W := ax_ts (ax_tp (ax_p2 (List.mem_of_getElem? (l := lw_privs_2) (i := 14) rfl))) rfl
theorem WS_X1_note : Cond.selects RX1 yX1_note yX1_note ∈ ax_W := ax_ts (ax_tp (ax_p2 (List.mem_of_getElem? (l := lw_privs_2) (i := 15) rfl))) rfl
theorem WS_X7_has : Cond.selects RX7 yX7_has yX7_has ∈ ax_W := ax_ts (ax_tp (ax_p3 (List.mem_of_getElem? (l := lw_privs_3) (i := 0) rfl))) rfl
theorem WS_X2_holds : Cond.selects RX2 yX2_holds yX2_holds ∈ ax_W := ax_ts (ax_tp (ax_p3 (List.mem_of_getElem? (l := lw_privs_3) (i := 1) rfl))) rfl
theorem WS_X2_reckon : Cond.selects RX2 yX2_reckon yX2_reckon ∈ ax_W := ax_ts (ax_tp (ax_p3 (List.mem_of_getElem? (l := lw_privs_3) (i := 2) rfl))) rfl
theorem WS_X2_push : Cond.selects RX2 yX2_push yX2_push ∈ ax_W := ax_ts (ax_tp (ax_p3 (List.mem_of_getElem? (l := lw_privs_3) (i := 3) rfl))) rfl
theorem WS_X2_pop : Cond.selects RX2 yX2_pop yX2_pop ∈ ax_W := ax_ts (ax_tp (ax_p3 (List.mem_of_getElem? (l := lw_privs_3) (i := 4) rfl))) rfl
theorem WS_X2_cellBy : Cond.selects RX2 yX2_cellBy yX2_cellBy ∈ ax_W := ax_ts (ax_tp (ax_p3 (List.mem_of_getElem? (l := lw_privs_3) (i := 5) rfl))) rfl
theorem WS_X2_toldCell : Cond.selects RX2 yX2_toldCell yX2_toldCell ∈ ax_W := ax_ts (ax_tp (ax_p3 (List.mem_of_getElem? (l := lw_privs_3) (i := 6) rfl))) rfl
theorem WS_X12_liftStones : Cond.selects RX12 yX12_liftStones yX12_liftStones ∈ ax_W := ax_ts (ax_tp (ax_p3 (List.mem_of_getElem? (l := lw_privs_3) (i := 7) rfl))) rfl
theorem WS_X4_gather : Cond.selects RX4 yX4_gather yX4_gather ∈ ax_W := ax_ts (ax_tp (ax_p3 (List.mem_of_getElem? (l := lw_privs_3) (i := 8) rfl))) rfl
theorem WS_X4_join : Cond.selects RX4 yX4_join yX4_join ∈ ax_W := ax_ts (ax_tp (ax_p3 (List.mem_of_getElem? (l := lw_privs_3) (i := 9) rfl))) rfl
theorem WS_X12_digestOfPlayer : Cond.selects RX12 yX12_digestOfPlayer yX12_digestOfPlayer ∈ ax_W := ax_ts (ax_tp (ax_p3 (List.mem_of_getElem? (l := lw_privs_3) (i := 10) rfl))) rfl
theorem WS_X12_requiredCell : Cond.selects RX12 yX12_requiredCell yX12_requiredCell ∈ ax_W := ax_ts (ax_tp (ax_p3 (List.mem_of_getElem? (l := lw_privs_3) (i := 12) rfl))) rfl
theorem WS_X12_requiredStone : Cond.selects RX12 yX12_requiredStone yX12_requiredStone ∈ ax_W := ax_ts (ax_tp (ax_p3 (List.mem_of_getElem? (l := lw_privs_3) (i := 13) rfl))) rfl
theorem WS_X12_requireGameOn : Cond.selects RX12 yX12_requireGameOn yX12_requireGameOn ∈ ax_W := ax_ts (ax_tp (ax_p3 (List.mem_of_getElem? (l := lw_privs_3) (i := 14) rfl))) rfl
theorem WS_X4_hasGatheredAt : Cond.selects RX4 yX4_hasGatheredAt yX4_hasGatheredAt ∈ ax_W := ax_ts (ax_tp (ax_p3 (List.mem_of_getElem? (l := lw_privs_3) (i := 15) rfl))) rfl
theorem WS_X12_leadWith : Cond.selects RX12 yX12_leadWith yX12_leadWith ∈ ax_W := ax_ts (ax_tp (ax_p4 (List.mem_of_getElem? (l := lw_privs_4) (i := 0) rfl))) rfl
theorem WS_X14_no : Cond.selects RX14 yX14_no yX14_no ∈ ax_W := ax_ts (ax_tp (ax_p4 (List.mem_of_getElem? (l := lw_privs_4) (i := 1) rfl))) rfl
theorem WS_X14_readAll : Cond.selects RX14 yX14_readAll yX14_readAll ∈ ax_W := ax_ts (ax_tp (ax_p4 (List.mem_of_getElem? (l := lw_privs_4) (i := 2) rfl))) rfl
theorem WS_X14_skip : Cond.selects RX14 yX14_skip yX14_skip ∈ ax_W := ax_ts (ax_tp (ax_p4 (List.mem_of_getElem? (l := lw_privs_4) (i := 3) rfl))) rfl
theorem WS_X14_byteAt : Cond.selects RX14 yX14_byteAt yX14_byteAt ∈ ax_W := ax_ts (ax_tp (ax_p4 (List.mem_of_getElem? (l := lw_privs_4) (i := 4) rfl))) rfl
theorem WS_X14_read : Cond.selects RX14 yX14_read yX14_read ∈ ax_W := ax_ts (ax_tp (ax_p4 (List.mem_of_getElem? (l := lw_privs_4) (i := 5) rfl))) rfl
theorem WS_X14_keyword : Cond.selects RX14 yX14_keyword yX14_keyword ∈ ax_W := ax_ts (ax_tp (ax_p4 (List.mem_of_getElem? (l := lw_privs_4) (i := 6) rfl))) rfl
theorem WS_X14_isWord : Cond.selects RX14 yX14_isWord yX14_isWord ∈ ax_W := ax_ts (ax_tp (ax_p4 (List.mem_of_getElem? (l := lw_privs_4) (i := 7) rfl))) rfl
theorem WS_X14_game : Cond.selects RX14 yX14_game yX14_game ∈ ax_W := ax_ts (ax_tp (ax_p4 (List.mem_of_getElem? (l := lw_privs_4) (i := 8) rfl))) rfl
theorem WS_X14_takes : Cond.selects RX14 yX14_takes yX14_takes ∈ ax_W := ax_ts (ax_tp (ax_p4 (List.mem_of_getElem? (l := lw_privs_4) (i := 9) rfl))) rfl
theorem WS_X14_is : Cond.selects RX14 yX14_is yX14_is ∈ ax_W := ax_ts (ax_tp (ax_p4 (List.mem_of_getElem? (l := lw_privs_4) (i := 10) rfl))) rfl
theorem WS_X14_pond : Cond.selects RX14 yX14_pond yX14_pond ∈ ax_W := ax_ts (ax_tp (ax_p4 (List.mem_of_getElem? (l := lw_privs_4) (i := 11) rfl))) rfl
theorem WS_X14_size : Cond.selects RX14 yX14_size yX14_size ∈ ax_W := ax_ts (ax_tp (ax_p4 (List.mem_of_getElem? (l := lw_privs_4) (i := 12) rfl))) rfl
theorem WS_X14_mark : Cond.selects RX14 yX14_mark yX14_mark ∈ ax_W := ax_ts (ax_tp (ax_p4 (List.mem_of_getElem? (l := lw_privs_4) (i := 13) rfl))) rfl
theorem WS_X14_take : Cond.selects RX14 yX14_take yX14_take ∈ ax_W := ax_ts (ax_tp (ax_p4 (List.mem_of_getElem? (l := lw_privs_4) (i := 14) rfl))) rfl
theorem WS_X14_wrong : Cond.selects RX14 yX14_wrong yX14_wrong ∈ ax_W := ax_ts (ax_tp (ax_p4 (List.mem_of_getElem? (l := lw_privs_4) (i := 15) rfl))) rfl
theorem WS_X14_stone : Cond.selects RX14 yX14_stone yX14_stone ∈ ax_W := ax_ts (ax_tp (ax_p5 (List.mem_of_getElem? (l := lw_privs_5) (i := 0) rfl))) rfl
theorem WS_X14_player : Cond.selects RX14 yX14_player yX14_player ∈ ax_W := ax_ts (ax_tp (ax_p5 (List.mem_of_getElem? (l := lw_privs_5) (i := 1) rfl))) rfl
theorem WS_X14_plan : Cond.selects RX14 yX14_plan yX14_plan ∈ ax_W := ax_ts (ax_tp (ax_p5 (List.mem_of_getElem? (l := lw_privs_5) (i := 2) rfl))) rfl
theorem WS_X14_sum : Cond.selects RX14 yX14_sum yX14_sum ∈ ax_W := ax_ts (ax_tp (ax_p5 (List.mem_of_getElem? (l := lw_privs_5) (i := 3) rfl))) rfl
theorem WS_X14_product : Cond.selects RX14 yX14_product yX14_product ∈ ax_W := ax_ts (ax_tp (ax_p5 (List.mem_of_getElem? (l := lw_privs_5) (i := 4) rfl))) rfl
theorem WS_X14_value : Cond.selects RX14 yX14_value yX14_value ∈ ax_W := ax_ts (ax_tp (ax_p5 (List.mem_of_getElem? (l := lw_privs_5) (i := 5) rfl))) rfl
theorem WS_X14_node : Cond.selects RX14 yX14_node yX14_node ∈ ax_W := ax_ts (ax_tp (ax_p5 (List.mem_of_getElem? (l := lw_privs_5) (i := 6) rfl))) rfl
theorem WS_X14_ofTwo : Cond.selects RX14 yX14_ofTwo yX14_ofTwo ∈ ax_W := ax_ts (ax_tp (ax_p5 (List.mem_of_getElem? (l := lw_privs_5) (i := 7) rfl))) rfl
theorem WS_X14_deeper : Cond.selects RX14 yX14_deeper yX14_deeper ∈ ax_W := ax_ts (ax_tp (ax_p5 (List.mem_of_getElem? (l := lw_privs_5) (i := 8) rfl))) rfl
theorem WS_X14_inBrackets : Cond.selects RX14 yX14_inBrackets yX14_inBrackets ∈ ax_W := ax_ts (ax_tp (ax_p5 (List.mem_of_getElem? (l := lw_privs_5) (i := 9) rfl))) rfl
theorem WS_X14_test : Cond.selects RX14 yX14_test yX14_test ∈ ax_W := ax_ts (ax_tp (ax_p5 (List.mem_of_getElem? (l := lw_privs_5) (i := 10) rfl))) rfl
theorem WS_X14_both : Cond.selects RX14 yX14_both yX14_both ∈ ax_W := ax_ts (ax_tp (ax_p5 (List.mem_of_getElem? (l := lw_privs_5) (i := 11) rfl))) rfl
theorem WS_X14_single : Cond.selects RX14 yX14_single yX14_single ∈ ax_W := ax_ts (ax_tp (ax_p5 (List.mem_of_getElem? (l := lw_privs_5) (i := 12) rfl))) rfl
theorem WS_X14_comparison : Cond.selects RX14 yX14_comparison yX14_comparison ∈ ax_W := ax_ts (ax_tp (ax_p5 (List.mem_of_getElem? (l := lw_privs_5) (i := 13) rfl))) rfl
theorem WS_X14_ok : Cond.selects RX14 yX14_ok yX14_ok ∈ ax_W := ax_ts (ax_tp (ax_p5 (List.mem_of_getElem? (l := lw_privs_5) (i := 14) rfl))) rfl
theorem WS_X14_count : Cond.selects RX14 yX14_count yX14_count ∈ ax_W := ax_ts (ax_tp (ax_p5 (List.mem_of_getElem? (l := lw_privs_5) (i := 15) rfl))) rfl
theorem WS_X14_cells : Cond.selects RX14 yX14_cells yX14_cells ∈ ax_W := ax_ts (ax_tp (ax_p6 (List.mem_of_getElem? (l := lw_privs_6) (i := 0) rfl))) rfl
theorem WS_X14_isOn : Cond.selects RX14 yX14_isOn yX14_isOn ∈ ax_W := ax_ts (ax_tp (ax_p6 (List.mem_of_getElem? (l := lw_privs_6) (i := 1) rfl))) rfl
theorem WS_X14_at : Cond.selects RX14 yX14_at yX14_at ∈ ax_W := ax_ts (ax_tp (ax_p6 (List.mem_of_getElem? (l := lw_privs_6) (i := 2) rfl))) rfl
theorem WS_X14_isNot : Cond.selects RX14 yX14_isNot yX14_isNot ∈ ax_W := ax_ts (ax_tp (ax_p6 (List.mem_of_getElem? (l := lw_privs_6) (i := 3) rfl))) rfl
theorem WS_X14_stoneAt : Cond.selects RX14 yX14_stoneAt yX14_stoneAt ∈ ax_W := ax_ts (ax_tp (ax_p6 (List.mem_of_getElem? (l := lw_privs_6) (i := 4) rfl))) rfl
theorem WS_X14_won : Cond.selects RX14 yX14_won yX14_won ∈ ax_W := ax_ts (ax_tp (ax_p6 (List.mem_of_getElem? (l := lw_privs_6) (i := 5) rfl))) rfl
theorem WS_X14_isShore : Cond.selects RX14 yX14_isShore yX14_isShore ∈ ax_W := ax_ts (ax_tp (ax_p6 (List.mem_of_getElem? (l := lw_privs_6) (i := 6) rfl))) rfl
theorem WS_X14_beside : Cond.selects RX14 yX14_beside yX14_beside ∈ ax_W := ax_ts (ax_tp (ax_p6 (List.mem_of_getElem? (l := lw_privs_6) (i := 7) rfl))) rfl
theorem WS_X14_over : Cond.selects RX14 yX14_over yX14_over ∈ ax_W := ax_ts (ax_tp (ax_p6 (List.mem_of_getElem? (l := lw_privs_6) (i := 8) rfl))) rfl
theorem WS_X14_inTurn : Cond.selects RX14 yX14_inTurn yX14_inTurn ∈ ax_W := ax_ts (ax_tp (ax_p6 (List.mem_of_getElem? (l := lw_privs_6) (i := 9) rfl))) rfl
theorem WS_X14_gather : Cond.selects RX14 yX14_gather yX14_gather ∈ ax_W := ax_ts (ax_tp (ax_p6 (List.mem_of_getElem? (l := lw_privs_6) (i := 10) rfl))) rfl
theorem WS_X14_spread : Cond.selects RX14 yX14_spread yX14_spread ∈ ax_W := ax_ts (ax_tp (ax_p6 (List.mem_of_getElem? (l := lw_privs_6) (i := 11) rfl))) rfl
theorem WS_X14_hasShore : Cond.selects RX14 yX14_hasShore yX14_hasShore ∈ ax_W := ax_ts (ax_tp (ax_p6 (List.mem_of_getElem? (l := lw_privs_6) (i := 12) rfl))) rfl
theorem WS_X14_groupsThen : Cond.selects RX14 yX14_groupsThen yX14_groupsThen ∈ ax_W := ax_ts (ax_tp (ax_p6 (List.mem_of_getElem? (l := lw_privs_6) (i := 13) rfl))) rfl
theorem WS_X14_greatest : Cond.selects RX14 yX14_greatest yX14_greatest ∈ ax_W := ax_ts (ax_tp (ax_p6 (List.mem_of_getElem? (l := lw_privs_6) (i := 14) rfl))) rfl
theorem WS_X14_isCell : Cond.selects RX14 yX14_isCell yX14_isCell ∈ ax_W := ax_ts (ax_tp (ax_p6 (List.mem_of_getElem? (l := lw_privs_6) (i := 15) rfl))) rfl
theorem WS_X14_bridge : Cond.selects RX14 yX14_bridge yX14_bridge ∈ ax_W := ax_ts (ax_tp (ax_p7 (List.mem_of_getElem? (l := lw_privs_7) (i := 0) rfl))) rfl
theorem WS_X14_between : Cond.selects RX14 yX14_between yX14_between ∈ ax_W := ax_ts (ax_tp (ax_p7 (List.mem_of_getElem? (l := lw_privs_7) (i := 1) rfl))) rfl
theorem WS_X14_bridges : Cond.selects RX14 yX14_bridges yX14_bridges ∈ ax_W := ax_ts (ax_tp (ax_p7 (List.mem_of_getElem? (l := lw_privs_7) (i := 2) rfl))) rfl
theorem WS_X14_frozen : Cond.selects RX14 yX14_frozen yX14_frozen ∈ ax_W := ax_ts (ax_tp (ax_p7 (List.mem_of_getElem? (l := lw_privs_7) (i := 3) rfl))) rfl
theorem WS_X14_around : Cond.selects RX14 yX14_around yX14_around ∈ ax_W := ax_ts (ax_tp (ax_p7 (List.mem_of_getElem? (l := lw_privs_7) (i := 4) rfl))) rfl
theorem WS_X14_allFrozen : Cond.selects RX14 yX14_allFrozen yX14_allFrozen ∈ ax_W := ax_ts (ax_tp (ax_p7 (List.mem_of_getElem? (l := lw_privs_7) (i := 5) rfl))) rfl
theorem WS_X14_needs : Cond.selects RX14 yX14_needs yX14_needs ∈ ax_W := ax_ts (ax_tp (ax_p7 (List.mem_of_getElem? (l := lw_privs_7) (i := 6) rfl))) rfl
theorem WS_X14_reach : Cond.selects RX14 yX14_reach yX14_reach ∈ ax_W := ax_ts (ax_tp (ax_p7 (List.mem_of_getElem? (l := lw_privs_7) (i := 7) rfl))) rfl
theorem WS_X14_cost : Cond.selects RX14 yX14_cost yX14_cost ∈ ax_W := ax_ts (ax_tp (ax_p7 (List.mem_of_getElem? (l := lw_privs_7) (i := 8) rfl))) rfl
theorem WS_X14_orNone : Cond.selects RX14 yX14_orNone yX14_orNone ∈ ax_W := ax_ts (ax_tp (ax_p7 (List.mem_of_getElem? (l := lw_privs_7) (i := 9) rfl))) rfl
theorem WS_X14_through : Cond.selects RX14 yX14_through yX14_through ∈ ax_W := ax_ts (ax_tp (ax_p7 (List.mem_of_getElem? (l := lw_privs_7) (i := 10) rfl))) rfl
theorem WS_X14_reachBoth : Cond.selects RX14 yX14_reachBoth yX14_reachBoth ∈ ax_W := ax_ts (ax_tp (ax_p7 (List.mem_of_getElem? (l := lw_privs_7) (i := 11) rfl))) rfl
theorem WS_X14_throughThen : Cond.selects RX14 yX14_throughThen yX14_throughThen ∈ ax_W := ax_ts (ax_tp (ax_p7 (List.mem_of_getElem? (l := lw_privs_7) (i := 12) rfl))) rfl
theorem WS_X14_wins : Cond.selects RX14 yX14_wins yX14_wins ∈ ax_W := ax_ts (ax_tp (ax_p7 (List.mem_of_getElem? (l := lw_privs_7) (i := 13) rfl))) rfl
theorem WS_X14_winning : Cond.selects RX14 yX14_winning yX14_winning ∈ ax_W := ax_ts (ax_tp (ax_p7 (List.mem_of_getElem? (l := lw_privs_7) (i := 14) rfl))) rfl
theorem WS_X14_lay : Cond.selects RX14 yX14_lay yX14_lay ∈ ax_W := ax_ts (ax_tp (ax_p7 (List.mem_of_getElem? (l := lw_privs_7) (i := 15) rfl))) rfl
theorem WS_X14_planned : Cond.selects RX14 yX14_planned yX14_planned ∈ ax_W := ax_ts (ax_tp (ax_p8 (List.mem_of_getElem? (l := lw_privs_8) (i := 0) rfl))) rfl
theorem WS_X14_reckon : Cond.selects RX14 yX14_reckon yX14_reckon ∈ ax_W := ax_ts (ax_tp (ax_p8 (List.mem_of_getElem? (l := lw_privs_8) (i := 1) rfl))) rfl
theorem WS_X14_found : Cond.selects RX14 yX14_found yX14_found ∈ ax_W := ax_ts (ax_tp (ax_p8 (List.mem_of_getElem? (l := lw_privs_8) (i := 2) rfl))) rfl
theorem WS_X14_saved : Cond.selects RX14 yX14_saved yX14_saved ∈ ax_W := ax_ts (ax_tp (ax_p8 (List.mem_of_getElem? (l := lw_privs_8) (i := 3) rfl))) rfl
theorem WS_X14_nearest : Cond.selects RX14 yX14_nearest yX14_nearest ∈ ax_W := ax_ts (ax_tp (ax_p8 (List.mem_of_getElem? (l := lw_privs_8) (i := 4) rfl))) rfl
theorem WS_X14_play : Cond.selects RX14 yX14_play yX14_play ∈ ax_W := ax_ts (ax_tp (ax_p8 (List.mem_of_getElem? (l := lw_privs_8) (i := 5) rfl))) rfl
theorem WS_X14_keep : Cond.selects RX14 yX14_keep yX14_keep ∈ ax_W := ax_ts (ax_tp (ax_p8 (List.mem_of_getElem? (l := lw_privs_8) (i := 6) rfl))) rfl
theorem WS_X14_bringBack : Cond.selects RX14 yX14_bringBack yX14_bringBack ∈ ax_W := ax_ts (ax_tp (ax_p8 (List.mem_of_getElem? (l := lw_privs_8) (i := 7) rfl))) rfl
theorem WS_X14_best : Cond.selects RX14 yX14_best yX14_best ∈ ax_W := ax_ts (ax_tp (ax_p8 (List.mem_of_getElem? (l := lw_privs_8) (i := 8) rfl))) rfl
theorem WS_X14_digestPlayer : Cond.selects RX14 yX14_digestPlayer yX14_digestPlayer ∈ ax_W := ax_ts (ax_tp (ax_p8 (List.mem_of_getElem? (l := lw_privs_8) (i := 9) rfl))) rfl
