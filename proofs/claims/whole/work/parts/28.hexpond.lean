/-! walks: HexPond -/
/-- the words that what makes an exception wants -/
theorem ax_twm {l : List Cond} (h : l.all (fun w => decide (w ∈ lw_tbl)) = true) (g : l.all (fun w => goodWord w || axNest w) = true) : ∀ w ∈ l, w ∈ ax_W ∨ w ∈ axNw := by
  intro w hw
  have h1 : w ∈ lw_tbl := by simpa using List.all_eq_true.mp h w hw
  have h2 := List.all_eq_true.mp g w hw
  rcases Bool.or_eq_true_iff.mp h2 with h3 | h3
  · exact Or.inl (List.mem_filter.mpr ⟨h1, h3⟩)
  · exact Or.inr (List.mem_filter.mpr ⟨h1, h3⟩)
theorem WE_IllegalStateException : Cond.initialized "java/lang/IllegalStateException" ∈ ax_W := ax_tw (ax_t1 (List.mem_of_getElem? (i := 18) (by decide +kernel))) rfl
theorem WE_IllegalArgumentException : Cond.initialized "java/lang/IllegalArgumentException" ∈ ax_W := ax_tw (ax_t1 (List.mem_of_getElem? (i := 19) (by decide +kernel))) rfl
theorem WE_IndexOutOfBoundsException : Cond.initialized "java/lang/IndexOutOfBoundsException" ∈ ax_W := ax_tw (ax_t1 (List.mem_of_getElem? (i := 28) (by decide +kernel))) rfl
theorem tw_X12_211_309 : ax_Tw RX12 211 309 215 "java/lang/IndexOutOfBoundsException" "no such player" ["java/lang/RuntimeException", "java/lang/Exception"] := ⟨by decide +kernel, by decide +kernel, WC_X12_211, WE_IndexOutOfBoundsException, List.mem_of_getElem? (i := 2) rfl, ax_twm (by decide +kernel) (by decide +kernel), by decide +kernel, by decide⟩
theorem tw_X12_211_213 : ax_Tw RX12 211 213 215 "java/lang/IndexOutOfBoundsException" "no such cell" ["java/lang/RuntimeException", "java/lang/Exception"] := ⟨by decide +kernel, by decide +kernel, WC_X12_211, WE_IndexOutOfBoundsException, List.mem_of_getElem? (i := 3) rfl, ax_twm (by decide +kernel) (by decide +kernel), by decide +kernel, by decide⟩
theorem tw_X12_98_314 : ax_Tw RX12 98 314 102 "java/lang/IllegalStateException" "the cell is empty" ["java/lang/RuntimeException", "java/lang/Exception"] := ⟨by decide +kernel, by decide +kernel, WC_X12_98, WE_IllegalStateException, List.mem_of_getElem? (i := 4) rfl, ax_twm (by decide +kernel) (by decide +kernel), by decide +kernel, by decide⟩
theorem tw_X12_98_316 : ax_Tw RX12 98 316 102 "java/lang/IllegalStateException" "the game is over" ["java/lang/RuntimeException", "java/lang/Exception"] := ⟨by decide +kernel, by decide +kernel, WC_X12_98, WE_IllegalStateException, List.mem_of_getElem? (i := 5) rfl, ax_twm (by decide +kernel) (by decide +kernel), by decide +kernel, by decide⟩
theorem tw_X12_98_100 : ax_Tw RX12 98 100 102 "java/lang/IllegalStateException" "the tape has no room" ["java/lang/RuntimeException", "java/lang/Exception"] := ⟨by decide +kernel, by decide +kernel, WC_X12_98, WE_IllegalStateException, List.mem_of_getElem? (i := 0) rfl, ax_twm (by decide +kernel) (by decide +kernel), by decide +kernel, by decide⟩
theorem tw_X12_109_111 : ax_Tw RX12 109 111 113 "java/lang/IllegalArgumentException" "the tape has not so many bytes" ["java/lang/RuntimeException", "java/lang/Exception"] := ⟨by decide +kernel, by decide +kernel, WC_X12_109, WE_IllegalArgumentException, List.mem_of_getElem? (i := 1) rfl, ax_twm (by decide +kernel) (by decide +kernel), by decide +kernel, by decide⟩
theorem tw_X12_98_235 : ax_Tw RX12 98 235 102 "java/lang/IllegalStateException" "the player has no way" ["java/lang/RuntimeException", "java/lang/Exception"] := ⟨by decide +kernel, by decide +kernel, WC_X12_98, WE_IllegalStateException, List.mem_of_getElem? (i := 6) rfl, ax_twm (by decide +kernel) (by decide +kernel), by decide +kernel, by decide⟩
theorem tw_X12_98_240 : ax_Tw RX12 98 240 102 "java/lang/IllegalStateException" "no way of the player goes there" ["java/lang/RuntimeException", "java/lang/Exception"] := ⟨by decide +kernel, by decide +kernel, WC_X12_98, WE_IllegalStateException, List.mem_of_getElem? (i := 7) rfl, ax_twm (by decide +kernel) (by decide +kernel), by decide +kernel, by decide⟩
theorem tw_X12_98_248 : ax_Tw RX12 98 248 102 "java/lang/IllegalStateException" "the cell is not empty" ["java/lang/RuntimeException", "java/lang/Exception"] := ⟨by decide +kernel, by decide +kernel, WC_X12_98, WE_IllegalStateException, List.mem_of_getElem? (i := 8) rfl, ax_twm (by decide +kernel) (by decide +kernel), by decide +kernel, by decide⟩
theorem tw_X12_98_253 : ax_Tw RX12 98 253 102 "java/lang/IllegalStateException" "no stone can be taken back" ["java/lang/RuntimeException", "java/lang/Exception"] := ⟨by decide +kernel, by decide +kernel, WC_X12_98, WE_IllegalStateException, List.mem_of_getElem? (i := 9) rfl, ax_twm (by decide +kernel) (by decide +kernel), by decide +kernel, by decide⟩
theorem tw_X12_109_262 : ax_Tw RX12 109 262 113 "java/lang/IllegalArgumentException" "the stones are not 1 to 81" ["java/lang/RuntimeException", "java/lang/Exception"] := ⟨by decide +kernel, by decide +kernel, WC_X12_109, WE_IllegalArgumentException, List.mem_of_getElem? (i := 10) rfl, ax_twm (by decide +kernel) (by decide +kernel), by decide +kernel, by decide⟩
theorem tw_X12_98_270 : ax_Tw RX12 98 270 102 "java/lang/IllegalStateException" "no cell has to be taken" ["java/lang/RuntimeException", "java/lang/Exception"] := ⟨by decide +kernel, by decide +kernel, WC_X12_98, WE_IllegalStateException, List.mem_of_getElem? (i := 11) rfl, ax_twm (by decide +kernel) (by decide +kernel), by decide +kernel, by decide⟩
/- HexPond.requirePlayer(I)V -/
def fX12_requirePlayer (M : ax_M) (a1 : Int) : Option ((Unit ⊕ String) × ax_M) :=
  (if a1 = 0 then (some (.inl (), M)) else (if a1 = 1 then (some (.inl (), M)) else (some (.inr "java/lang/IndexOutOfBoundsException", (mAl M 15 0 6)))))
theorem T_X12_requirePlayer {G : ax_G} {d : Nat} (hd : 6 ≤ d) (hG : axPs G 150 244) (hX : (gL G).stackTraces = false) {M : ax_M} {a1 : Int} {r : Unit ⊕ String} {M1 : ax_M} (hf : fX12_requirePlayer M a1 = some (r, M1)) : ax_Ex G tX12_requirePlayer d 0 (ax_args [vI a1] ++ List.replicate 0 none) [] M (oSV r) M1 := by
  show ax_Ex G tX12_requirePlayer d 0 [some (vI a1)] [] M _ _
  unfold fX12_requirePlayer at hf
  refine x_iload_n (pc := 0) dX12_requirePlayer_0 rfl ?_
  refine x_ifeq (tgt := 20) (pc := 1) dX12_requirePlayer_1 rfl (fun h101 => ?_) (fun h101 => ?_)
  · replace hf := (if_pos h101).symm.trans hf
    cases hf
    exact x_retV (pc := 20) dX12_requirePlayer_20
  · replace hf := (if_neg h101).symm.trans hf
    refine x_iload_n (pc := 4) dX12_requirePlayer_4 rfl ?_
    refine x_iconst (pc := 5) dX12_requirePlayer_5 ⟨by decide, by decide⟩ ?_
    refine x_icmpeq (tgt := 20) (pc := 6) dX12_requirePlayer_6 rfl (fun h102 => ?_) (fun h102 => ?_)
    · replace hf := (if_pos h102).symm.trans hf
      cases hf
      exact x_retV (pc := 20) dX12_requirePlayer_20
    · replace hf := (if_neg h102).symm.trans hf
      cases hf
      exact x_throwW (pc := 9) (ci := 15) tw_X12_211_309 rfl ⟨by decide, by decide⟩ rfl (axH hG rfl) hX dX12_requirePlayer_9 dX12_requirePlayer_12 dX12_requirePlayer_13 dX12_requirePlayer_16 dX12_requirePlayer_19 (by decide) (by omega)
/- HexPond.winner()I -/
def fX12_winner (M : ax_M) : Option (Int × ax_M) :=
  (bd1 (fX11_look M) fun M102 => (if (fX11_needed M102 0) = 0 then (some (0, M102)) else (if (fX11_needed M102 1) = 0 then (some (1, M102)) else (some ((-1), M102)))))
theorem T_X12_winner {G : ax_G} {d : Nat} (hd : 4 ≤ d) (hG : axPs G 150 244) {M : ax_M} {r : Int} {M1 : ax_M} (hf : fX12_winner M = some (r, M1)) : ax_Ex G tX12_winner d 0 (ax_args [vR 150] ++ List.replicate 0 none) [] M (.inl (some (vI r))) M1 := by
  show ax_Ex G tX12_winner d 0 [some (vR 150)] [] M _ _
  unfold fX12_winner at hf
  refine x_aload_n (pc := 0) dX12_winner_0 rfl ?_
  refine x_getF (t := 10) (j := 7) (r := 183) (pc := 1) dX12_winner_1 (axH hG rfl) (axEx hG rfl) rfl (by decide) (by decide) rfl rfl WF_X12_74 ?_
  obtain ⟨M102, r101, hf⟩ := bd1_some hf
  refine x_cv (vs := [vR 183]) (rest := []) (k := 1) rfl (by omega) (ax_caV (pc := 4) dX12_winner_4 kX11_look rfl rfl WM_X12_231 WI_X11_look WS_X11_look WN_X11 (ax_rcO (t := 9) (axEx hG rfl) rfl (by decide)) (Nat.le_of_ble_eq_true rfl)) kX11_look rfl True.intro (T_X11_look (by omega) hG r101) ?_
  refine x_aload_n (pc := 7) dX12_winner_7 rfl ?_
  refine x_getF (t := 10) (j := 7) (r := 183) (pc := 8) dX12_winner_8 (axH hG rfl) (axEx hG rfl) rfl (by decide) (by decide) rfl rfl WF_X12_74 ?_
  refine x_iconst (pc := 11) dX12_winner_11 ⟨by decide, by decide⟩ ?_
  refine x_cr (v := vI (fX11_needed M102 0)) (vs := [vR 183, vI 0]) (rest := []) (k := 0) rfl (by omega) (ax_caV (pc := 12) dX12_winner_12 kX11_needed rfl rfl WM_X12_232 WI_X11_needed WS_X11_needed WN_X11 (ax_rcO (t := 9) (axEx hG rfl) rfl (by decide)) (Nat.le_of_ble_eq_true rfl)) kX11_needed rfl True.intro (T_X11_needed (by omega) hG rfl) ?_
  refine x_ifne (tgt := 20) (pc := 15) dX12_winner_15 rfl (fun h103 => ?_) (fun h103 => ?_)
  · replace hf := (if_neg h103).symm.trans hf
    refine x_aload_n (pc := 20) dX12_winner_20 rfl ?_
    refine x_getF (t := 10) (j := 7) (r := 183) (pc := 21) dX12_winner_21 (axH hG rfl) (axEx hG rfl) rfl (by decide) (by decide) rfl rfl WF_X12_74 ?_
    refine x_iconst (pc := 24) dX12_winner_24 ⟨by decide, by decide⟩ ?_
    refine x_cr (v := vI (fX11_needed M102 1)) (vs := [vR 183, vI 1]) (rest := []) (k := 0) rfl (by omega) (ax_caV (pc := 25) dX12_winner_25 kX11_needed rfl rfl WM_X12_232 WI_X11_needed WS_X11_needed WN_X11 (ax_rcO (t := 9) (axEx hG rfl) rfl (by decide)) (Nat.le_of_ble_eq_true rfl)) kX11_needed rfl True.intro (T_X11_needed (by omega) hG rfl) ?_
    refine x_ifne (tgt := 35) (pc := 28) dX12_winner_28 rfl (fun h104 => ?_) (fun h104 => ?_)
    · replace hf := (if_neg h104).symm.trans hf
      refine x_iconst (pc := 35) dX12_winner_35 ⟨by decide, by decide⟩ ?_
      cases hf
      exact x_retI (pc := 36) dX12_winner_36
    · replace hf := (if_pos h104).symm.trans hf
      refine x_iconst (pc := 31) dX12_winner_31 ⟨by decide, by decide⟩ ?_
      refine x_goto (tgt := 36) (pc := 32) dX12_winner_32 rfl ?_
      cases hf
      exact x_retI (pc := 36) dX12_winner_36
  · replace hf := (if_pos h103).symm.trans hf
    refine x_iconst (pc := 18) dX12_winner_18 ⟨by decide, by decide⟩ ?_
    cases hf
    exact x_retI (pc := 19) dX12_winner_19
/- HexPond.requiredCell(II)I -/
def fX12_requiredCell (M : ax_M) (a1 : Int) (a2 : Int) : Option ((Int ⊕ String) × ax_M) :=
  (if (fX8_cellAt M a1 a2) = (-1) then (some (.inr "java/lang/IndexOutOfBoundsException", (mAl M 15 0 6))) else (some (.inl (fX8_cellAt M a1 a2), M)))
theorem T_X12_requiredCell {G : ax_G} {d : Nat} (hd : 6 ≤ d) (hG : axPs G 150 244) (hX : (gL G).stackTraces = false) {M : ax_M} {a1 : Int} {a2 : Int} {r : Int ⊕ String} {M1 : ax_M} (hf : fX12_requiredCell M a1 a2 = some (r, M1)) : ax_Ex G tX12_requiredCell d 0 (ax_args [vR 150, vI a1, vI a2] ++ List.replicate 1 none) [] M (oSI r) M1 := by
  show ax_Ex G tX12_requiredCell d 0 [some (vR 150), some (vI a1), some (vI a2), none] [] M _ _
  unfold fX12_requiredCell at hf
  refine x_aload_n (pc := 0) dX12_requiredCell_0 rfl ?_
  refine x_getF (t := 10) (j := 4) (r := 169) (pc := 1) dX12_requiredCell_1 (axH hG rfl) (axEx hG rfl) rfl (by decide) (by decide) rfl rfl WF_X12_51 ?_
  refine x_iload_n (pc := 4) dX12_requiredCell_4 rfl ?_
  refine x_iload_n (pc := 5) dX12_requiredCell_5 rfl ?_
  refine x_cr (v := vI (fX8_cellAt M a1 a2)) (vs := [vR 169, vI a1, vI a2]) (rest := []) (k := 1) rfl (by omega) (ax_caV (pc := 6) dX12_requiredCell_6 kX8_cellAt rfl rfl WM_X12_311 WI_X8_cellAt WS_X8_cellAt WN_X8 (ax_rcO (t := 6) (axEx hG rfl) rfl (by decide)) (Nat.le_of_ble_eq_true rfl)) kX8_cellAt rfl True.intro (T_X8_cellAt (by omega) (axPs.sub hG (Nat.le_of_ble_eq_true rfl) (Nat.le_of_ble_eq_true rfl)) rfl) ?_
  refine x_istore_n (ls' := [some (vR 150), some (vI a1), some (vI a2), some (vI (fX8_cellAt M a1 a2))]) (pc := 9) dX12_requiredCell_9 (Nat.le_of_ble_eq_true rfl) rfl rfl ?_
  refine x_iload_n (pc := 10) dX12_requiredCell_10 rfl ?_
  refine x_iconst (pc := 11) dX12_requiredCell_11 ⟨by decide, by decide⟩ ?_
  refine x_icmpne (tgt := 25) (pc := 12) dX12_requiredCell_12 rfl (fun h101 => ?_) (fun h101 => ?_)
  · replace hf := (if_neg h101).symm.trans hf
    refine x_iload_n (pc := 25) dX12_requiredCell_25 rfl ?_
    cases hf
    exact x_retI (pc := 26) dX12_requiredCell_26
  · replace hf := (if_pos h101).symm.trans hf
    cases hf
    exact x_throw (pc := 15) (ci := 15) tw_X12_211_213 rfl ⟨by decide, by decide⟩ rfl (axH hG rfl) hX dX12_requiredCell_15 dX12_requiredCell_18 dX12_requiredCell_19 dX12_requiredCell_21 dX12_requiredCell_24 (by decide) (by omega)
/- HexPond.requiredStone(II)I -/
def fX12_requiredStone (M : ax_M) (a1 : Int) (a2 : Int) : Option ((Int ⊕ String) × ax_M) :=
  (bdT (fX12_requiredCell M a1 a2) fun v102 M103 => (if (fX8_ownerAt M103 v102) = 0 then (some (.inr "java/lang/IllegalStateException", (mAl M103 13 0 6))) else (some (.inl v102, M103))))
theorem T_X12_requiredStone {G : ax_G} {d : Nat} (hd : 7 ≤ d) (hG : axPs G 150 244) (hX : (gL G).stackTraces = false) {M : ax_M} {a1 : Int} {a2 : Int} {r : Int ⊕ String} {M1 : ax_M} (hf : fX12_requiredStone M a1 a2 = some (r, M1)) : ax_Ex G tX12_requiredStone d 0 (ax_args [vR 150, vI a1, vI a2] ++ List.replicate 1 none) [] M (oSI r) M1 := by
  show ax_Ex G tX12_requiredStone d 0 [some (vR 150), some (vI a1), some (vI a2), none] [] M _ _
  unfold fX12_requiredStone at hf
  refine x_aload_n (pc := 0) dX12_requiredStone_0 rfl ?_
  refine x_iload_n (pc := 1) dX12_requiredStone_1 rfl ?_
  refine x_iload_n (pc := 2) dX12_requiredStone_2 rfl ?_
  rcases bdT_some hf with ⟨v102, M103, r101, hf⟩ | ⟨E104, r101, ho⟩
  · skip
    refine x_cr (v := vI v102) (vs := [vR 150, vI a1, vI a2]) (rest := []) (k := 1) rfl (by omega) (ax_caV (pc := 3) dX12_requiredStone_3 kX12_requiredCell rfl rfl WM_X12_174 WI_X12_requiredCell WS_X12_requiredCell WN_X12 (ax_rcO (t := 10) (axEx hG rfl) rfl (by decide)) (Nat.le_of_ble_eq_true rfl)) kX12_requiredCell rfl True.intro (T_X12_requiredCell (by omega) hG hX r101) ?_
    refine x_istore_n (ls' := [some (vR 150), some (vI a1), some (vI a2), some (vI v102)]) (pc := 6) dX12_requiredStone_6 (Nat.le_of_ble_eq_true rfl) rfl rfl ?_
    refine x_aload_n (pc := 7) dX12_requiredStone_7 rfl ?_
    refine x_getF (t := 10) (j := 4) (r := 169) (pc := 8) dX12_requiredStone_8 (axH hG rfl) (axEx hG rfl) rfl (by decide) (by decide) rfl rfl WF_X12_51 ?_
    refine x_iload_n (pc := 11) dX12_requiredStone_11 rfl ?_
    refine x_cr (v := vI (fX8_ownerAt M103 v102)) (vs := [vR 169, vI v102]) (rest := []) (k := 0) rfl (by omega) (ax_caV (pc := 12) dX12_requiredStone_12 kX8_ownerAt rfl rfl WM_X12_178 WI_X8_ownerAt WS_X8_ownerAt WN_X8 (ax_rcO (t := 6) (axEx hG rfl) rfl (by decide)) (Nat.le_of_ble_eq_true rfl)) kX8_ownerAt rfl True.intro (T_X8_ownerAt (by omega) (axPs.sub hG (Nat.le_of_ble_eq_true rfl) (Nat.le_of_ble_eq_true rfl)) rfl) ?_
    refine x_ifne (tgt := 29) (pc := 15) dX12_requiredStone_15 rfl (fun h105 => ?_) (fun h105 => ?_)
    · replace hf := (if_neg h105).symm.trans hf
      refine x_iload_n (pc := 29) dX12_requiredStone_29 rfl ?_
      cases hf
      exact x_retI (pc := 30) dX12_requiredStone_30
    · replace hf := (if_pos h105).symm.trans hf
      cases hf
      exact x_throwW (pc := 18) (ci := 13) tw_X12_98_314 rfl ⟨by decide, by decide⟩ rfl (axH hG rfl) hX dX12_requiredStone_18 dX12_requiredStone_21 dX12_requiredStone_22 dX12_requiredStone_25 dX12_requiredStone_28 (by decide) (by omega)
  · subst ho
    exact x_ct (vs := [vR 150, vI a1, vI a2]) (rest := []) (k := 1) rfl (by omega) (ax_caV (pc := 3) dX12_requiredStone_3 kX12_requiredCell rfl rfl WM_X12_174 WI_X12_requiredCell WS_X12_requiredCell WN_X12 (ax_rcO (t := 10) (axEx hG rfl) rfl (by decide)) (Nat.le_of_ble_eq_true rfl)) kX12_requiredCell rfl rfl (T_X12_requiredCell (by omega) hG hX r101)
/- HexPond.requireGameOn()V -/
def fX12_requireGameOn (M : ax_M) : Option ((Unit ⊕ String) × ax_M) :=
  (bd2 (fX12_winner M) fun v103 M102 => (if v103 = (-1) then (some (.inl (), M102)) else (some (.inr "java/lang/IllegalStateException", (mAl M102 13 0 6)))))
theorem T_X12_requireGameOn {G : ax_G} {d : Nat} (hd : 6 ≤ d) (hG : axPs G 150 244) (hX : (gL G).stackTraces = false) {M : ax_M} {r : Unit ⊕ String} {M1 : ax_M} (hf : fX12_requireGameOn M = some (r, M1)) : ax_Ex G tX12_requireGameOn d 0 (ax_args [vR 150] ++ List.replicate 0 none) [] M (oSV r) M1 := by
  show ax_Ex G tX12_requireGameOn d 0 [some (vR 150)] [] M _ _
  unfold fX12_requireGameOn at hf
  refine x_aload_n (pc := 0) dX12_requireGameOn_0 rfl ?_
  obtain ⟨v103, M102, r101, hf⟩ := bd2_some hf
  refine x_cr (v := vI v103) (vs := [vR 150]) (rest := []) (k := 0) rfl (by omega) (ax_caV (pc := 1) dX12_requireGameOn_1 kX12_winner rfl rfl WM_X12_182 WI_X12_winner WS_X12_winner WN_X12 (ax_rcO (t := 10) (axEx hG rfl) rfl (by decide)) (Nat.le_of_ble_eq_true rfl)) kX12_winner rfl True.intro (T_X12_winner (by omega) hG r101) ?_
  refine x_iconst (pc := 4) dX12_requireGameOn_4 ⟨by decide, by decide⟩ ?_
  refine x_icmpeq (tgt := 19) (pc := 5) dX12_requireGameOn_5 rfl (fun h104 => ?_) (fun h104 => ?_)
  · replace hf := (if_pos h104).symm.trans hf
    cases hf
    exact x_retV (pc := 19) dX12_requireGameOn_19
  · replace hf := (if_neg h104).symm.trans hf
    cases hf
    exact x_throwW (pc := 8) (ci := 13) tw_X12_98_316 rfl ⟨by decide, by decide⟩ rfl (axH hG rfl) hX dX12_requireGameOn_8 dX12_requireGameOn_11 dX12_requireGameOn_12 dX12_requireGameOn_15 dX12_requireGameOn_18 (by decide) (by omega)
/- HexPond.feed(IIIII)I -/
def fX12_feed (M : ax_M) (a1 : Int) (a2 : Int) (a3 : Int) (a4 : Int) (a5 : Int) : Option ((Int ⊕ String) × ax_M) :=
  (if 2000 < (wr ((fX9_length M) + 20)) then (some (.inr "java/lang/IllegalStateException", (mAl M 13 0 6))) else (bd1 (fX9_append M a1) fun M104 => (bd1 (fX9_append M104 a2) fun M106 => (bd1 (fX9_append M106 a3) fun M108 => (bd1 (fX9_append M108 a4) fun M110 => (bd1 (fX9_append M110 a5) fun M112 => (some (.inl (fX9_length M112), M112))))))))
theorem T_X12_feed {G : ax_G} {d : Nat} (hd : 6 ≤ d) (hG : axPs G 150 244) (hX : (gL G).stackTraces = false) {M : ax_M} {a1 : Int} {a2 : Int} {a3 : Int} {a4 : Int} {a5 : Int} {r : Int ⊕ String} {M1 : ax_M} (hf : fX12_feed M a1 a2 a3 a4 a5 = some (r, M1)) : ax_Ex G tX12_feed d 0 (ax_args [vR 150, vI a1, vI a2, vI a3, vI a4, vI a5] ++ List.replicate 0 none) [] M (oSI r) M1 := by
  show ax_Ex G tX12_feed d 0 [some (vR 150), some (vI a1), some (vI a2), some (vI a3), some (vI a4), some (vI a5)] [] M _ _
  unfold fX12_feed at hf
  refine x_aload_n (pc := 0) dX12_feed_0 rfl ?_
  refine x_getF (t := 10) (j := 0) (r := 151) (pc := 1) dX12_feed_1 (axH hG rfl) (axEx hG rfl) rfl (by decide) (by decide) rfl rfl WF_X12_12 ?_
  refine x_cr (v := vI (fX9_length M)) (vs := [vR 151]) (rest := []) (k := 0) rfl (by omega) (ax_caV (pc := 4) dX12_feed_4 kX9_length rfl rfl WM_X12_94 WI_X9_length WS_X9_length WN_X9 (ax_rcO (t := 7) (axEx hG rfl) rfl (by decide)) (Nat.le_of_ble_eq_true rfl)) kX9_length rfl True.intro (T_X9_length (by omega) hG rfl) ?_
  refine x_bipush (pc := 7) dX12_feed_7 (by decide) ⟨by decide, by decide⟩ ?_
  refine x_iaddw (pc := 9) dX12_feed_9 ?_
  refine x_sipush (pc := 10) dX12_feed_10 (by decide) ⟨by decide, by decide⟩ ?_
  refine ax_cmp (fun b102a b102b b102c b102e => ?_)
  refine x_icmple (tgt := 26) (pc := 13) dX12_feed_13 rfl (fun h101 => ?_) (fun h101 => ?_)
  · replace hf := (if_neg (Int.not_lt.mpr h101)).symm.trans hf
    refine x_aload_n (pc := 26) dX12_feed_26 rfl ?_
    refine x_getF (t := 10) (j := 0) (r := 151) (pc := 27) dX12_feed_27 (axH hG rfl) (axEx hG rfl) rfl (by decide) (by decide) rfl rfl WF_X12_12 ?_
    refine x_iload_n (pc := 30) dX12_feed_30 rfl ?_
    obtain ⟨M104, r103, hf⟩ := bd1_some hf
    refine x_cv (vs := [vR 151, vI a1]) (rest := []) (k := 1) rfl (by omega) (ax_caV (pc := 31) dX12_feed_31 kX9_append rfl rfl WM_X12_105 WI_X9_append WS_X9_append WN_X9 (ax_rcO (t := 7) (axEx hG rfl) rfl (by decide)) (Nat.le_of_ble_eq_true rfl)) kX9_append rfl True.intro (T_X9_append (by omega) hG r103) ?_
    refine x_aload_n (pc := 34) dX12_feed_34 rfl ?_
    refine x_getF (t := 10) (j := 0) (r := 151) (pc := 35) dX12_feed_35 (axH hG rfl) (axEx hG rfl) rfl (by decide) (by decide) rfl rfl WF_X12_12 ?_
    refine x_iload_n (pc := 38) dX12_feed_38 rfl ?_
    obtain ⟨M106, r105, hf⟩ := bd1_some hf
    refine x_cv (vs := [vR 151, vI a2]) (rest := []) (k := 1) rfl (by omega) (ax_caV (pc := 39) dX12_feed_39 kX9_append rfl rfl WM_X12_105 WI_X9_append WS_X9_append WN_X9 (ax_rcO (t := 7) (axEx hG rfl) rfl (by decide)) (Nat.le_of_ble_eq_true rfl)) kX9_append rfl True.intro (T_X9_append (by omega) hG r105) ?_
    refine x_aload_n (pc := 42) dX12_feed_42 rfl ?_
    refine x_getF (t := 10) (j := 0) (r := 151) (pc := 43) dX12_feed_43 (axH hG rfl) (axEx hG rfl) rfl (by decide) (by decide) rfl rfl WF_X12_12 ?_
    refine x_iload_n (pc := 46) dX12_feed_46 rfl ?_
    obtain ⟨M108, r107, hf⟩ := bd1_some hf
    refine x_cv (vs := [vR 151, vI a3]) (rest := []) (k := 1) rfl (by omega) (ax_caV (pc := 47) dX12_feed_47 kX9_append rfl rfl WM_X12_105 WI_X9_append WS_X9_append WN_X9 (ax_rcO (t := 7) (axEx hG rfl) rfl (by decide)) (Nat.le_of_ble_eq_true rfl)) kX9_append rfl True.intro (T_X9_append (by omega) hG r107) ?_
    refine x_aload_n (pc := 50) dX12_feed_50 rfl ?_
    refine x_getF (t := 10) (j := 0) (r := 151) (pc := 51) dX12_feed_51 (axH hG rfl) (axEx hG rfl) rfl (by decide) (by decide) rfl rfl WF_X12_12 ?_
    refine x_iload (pc := 54) dX12_feed_54 rfl ?_
    obtain ⟨M110, r109, hf⟩ := bd1_some hf
    refine x_cv (vs := [vR 151, vI a4]) (rest := []) (k := 1) rfl (by omega) (ax_caV (pc := 56) dX12_feed_56 kX9_append rfl rfl WM_X12_105 WI_X9_append WS_X9_append WN_X9 (ax_rcO (t := 7) (axEx hG rfl) rfl (by decide)) (Nat.le_of_ble_eq_true rfl)) kX9_append rfl True.intro (T_X9_append (by omega) hG r109) ?_
    refine x_aload_n (pc := 59) dX12_feed_59 rfl ?_
    refine x_getF (t := 10) (j := 0) (r := 151) (pc := 60) dX12_feed_60 (axH hG rfl) (axEx hG rfl) rfl (by decide) (by decide) rfl rfl WF_X12_12 ?_
    refine x_iload (pc := 63) dX12_feed_63 rfl ?_
    obtain ⟨M112, r111, hf⟩ := bd1_some hf
    refine x_cv (vs := [vR 151, vI a5]) (rest := []) (k := 1) rfl (by omega) (ax_caV (pc := 65) dX12_feed_65 kX9_append rfl rfl WM_X12_105 WI_X9_append WS_X9_append WN_X9 (ax_rcO (t := 7) (axEx hG rfl) rfl (by decide)) (Nat.le_of_ble_eq_true rfl)) kX9_append rfl True.intro (T_X9_append (by omega) hG r111) ?_
    refine x_aload_n (pc := 68) dX12_feed_68 rfl ?_
    refine x_getF (t := 10) (j := 0) (r := 151) (pc := 69) dX12_feed_69 (axH hG rfl) (axEx hG rfl) rfl (by decide) (by decide) rfl rfl WF_X12_12 ?_
    refine x_cr (v := vI (fX9_length M112)) (vs := [vR 151]) (rest := []) (k := 0) rfl (by omega) (ax_caV (pc := 72) dX12_feed_72 kX9_length rfl rfl WM_X12_94 WI_X9_length WS_X9_length WN_X9 (ax_rcO (t := 7) (axEx hG rfl) rfl (by decide)) (Nat.le_of_ble_eq_true rfl)) kX9_length rfl True.intro (T_X9_length (by omega) hG rfl) ?_
    cases hf
    exact x_retI (pc := 75) dX12_feed_75
  · replace hf := (if_pos h101).symm.trans hf
    cases hf
    exact x_throw (pc := 16) (ci := 13) tw_X12_98_100 rfl ⟨by decide, by decide⟩ rfl (axH hG rfl) hX dX12_feed_16 dX12_feed_19 dX12_feed_20 dX12_feed_22 dX12_feed_25 (by decide) (by omega)
/- HexPond.trim(I)I -/
def fX12_trim (M : ax_M) (a1 : Int) : Option ((Int ⊕ String) × ax_M) :=
  (if a1 < 0 then (some (.inr "java/lang/IllegalArgumentException", (mAl M 14 0 6))) else (if (fX9_length M) < a1 then (some (.inr "java/lang/IllegalArgumentException", (mAl M 14 0 6))) else (bd1 (fX9_shorten M a1) fun M106 => (some (.inl a1, M106)))))
theorem T_X12_trim {G : ax_G} {d : Nat} (hd : 6 ≤ d) (hG : axPs G 150 244) (hX : (gL G).stackTraces = false) {M : ax_M} {a1 : Int} {r : Int ⊕ String} {M1 : ax_M} (hf : fX12_trim M a1 = some (r, M1)) : ax_Ex G tX12_trim d 0 (ax_args [vR 150, vI a1] ++ List.replicate 0 none) [] M (oSI r) M1 := by
  show ax_Ex G tX12_trim d 0 [some (vR 150), some (vI a1)] [] M _ _
  unfold fX12_trim at hf
  refine x_iload_n (pc := 0) dX12_trim_0 rfl ?_
  refine ax_cmp1 (fun b102a b102b => ?_)
  refine x_iflt (tgt := 15) (pc := 1) dX12_trim_1 rfl (fun h101 => ?_) (fun h101 => ?_)
  · replace hf := (if_pos h101).symm.trans hf
    cases hf
    exact x_throw (pc := 15) (ci := 14) tw_X12_109_111 rfl ⟨by decide, by decide⟩ rfl (axH hG rfl) hX dX12_trim_15 dX12_trim_18 dX12_trim_19 dX12_trim_21 dX12_trim_24 (by decide) (by omega)
  · replace hf := (if_neg (Int.not_lt.mpr h101)).symm.trans hf
    refine x_iload_n (pc := 4) dX12_trim_4 rfl ?_
    refine x_aload_n (pc := 5) dX12_trim_5 rfl ?_
    refine x_getF (t := 10) (j := 0) (r := 151) (pc := 6) dX12_trim_6 (axH hG rfl) (axEx hG rfl) rfl (by decide) (by decide) rfl rfl WF_X12_12 ?_
    refine x_cr (v := vI (fX9_length M)) (vs := [vR 151]) (rest := [vI a1]) (k := 0) rfl (by omega) (ax_caV (pc := 9) dX12_trim_9 kX9_length rfl rfl WM_X12_94 WI_X9_length WS_X9_length WN_X9 (ax_rcO (t := 7) (axEx hG rfl) rfl (by decide)) (Nat.le_of_ble_eq_true rfl)) kX9_length rfl True.intro (T_X9_length (by omega) hG rfl) ?_
    refine ax_cmp (fun b104a b104b b104c b104e => ?_)
    refine x_icmple (tgt := 25) (pc := 12) dX12_trim_12 rfl (fun h103 => ?_) (fun h103 => ?_)
    · replace hf := (if_neg (Int.not_lt.mpr h103)).symm.trans hf
      refine x_aload_n (pc := 25) dX12_trim_25 rfl ?_
      refine x_getF (t := 10) (j := 0) (r := 151) (pc := 26) dX12_trim_26 (axH hG rfl) (axEx hG rfl) rfl (by decide) (by decide) rfl rfl WF_X12_12 ?_
      refine x_iload_n (pc := 29) dX12_trim_29 rfl ?_
      obtain ⟨M106, r105, hf⟩ := bd1_some hf
      refine x_cv (vs := [vR 151, vI a1]) (rest := []) (k := 0) rfl (by omega) (ax_caV (pc := 30) dX12_trim_30 kX9_shorten rfl rfl WM_X12_114 WI_X9_shorten WS_X9_shorten WN_X9 (ax_rcO (t := 7) (axEx hG rfl) rfl (by decide)) (Nat.le_of_ble_eq_true rfl)) kX9_shorten rfl True.intro (T_X9_shorten (by omega) hG r105) ?_
      refine x_iload_n (pc := 33) dX12_trim_33 rfl ?_
      cases hf
      exact x_retI (pc := 34) dX12_trim_34
    · replace hf := (if_pos h103).symm.trans hf
      cases hf
      exact x_throw (pc := 15) (ci := 14) tw_X12_109_111 rfl ⟨by decide, by decide⟩ rfl (axH hG rfl) hX dX12_trim_15 dX12_trim_18 dX12_trim_19 dX12_trim_21 dX12_trim_24 (by decide) (by omega)
/- HexPond.beginTaughtGame()V -/
def fX12_beginTaughtGame_b41 (M : ax_M) (v2 : Int) : Option ((Int × ax_M) ⊕ ax_M) :=
  (if v2 < (fX8_cells M) then (bd1 (fX8_put M v2 (fX6_ownerAt M v2)) fun M112 => (some (.inl ((v2 + 1), M112)))) else (some (.inr M)))
def fX12_beginTaughtGame (M : ax_M) : Option ax_M :=
  (oq (mR M 150 10) none fun p102 => if (p102 = 157 ∨ p102 = 194) then (oq (mR M 150 9) none fun p105 => if (p105 = 157 ∨ p105 = 194) then (bd1 (fX8_begin (mUR (mUR M 150 10 (some p105)) 150 9 (some p102)) (fX6_columns (mUR (mUR M 150 10 (some p105)) 150 9 (some p102))) (fX6_rows (mUR (mUR M 150 10 (some p105)) 150 9 (some p102)))) fun M108 => (bd1 (lp (fun s => fX12_beginTaughtGame_b41 s.2 s.1) lpN (0, M108)) fun t113 => (some t113))) else none) else none)
theorem B_X12_beginTaughtGame_41 {G : ax_G} {d : Nat} (hd : 3 ≤ d) (hG : axPs G 150 244) {M : ax_M} {v2 : Int} {o : Option ax_V ⊕ String} {M' : ax_M} {y : (Int × ax_M) ⊕ ax_M} (hf : fX12_beginTaughtGame_b41 M v2 = some y) (h1 : ∀ s', y = .inl s' → ax_Ex G tX12_beginTaughtGame d 41 [some (vR 150), none, some (vI s'.1)] [] s'.2 o M') (h2a : ∀ t, y = .inr t → ax_Ex G tX12_beginTaughtGame d 74 [some (vR 150), none, none] [] t o M') : ax_Ex G tX12_beginTaughtGame d 41 [some (vR 150), none, some (vI v2)] [] M o M' := by
  unfold fX12_beginTaughtGame_b41 at hf
  refine x_iload_n (pc := 41) dX12_beginTaughtGame_41 rfl ?_
  refine x_aload_n (pc := 42) dX12_beginTaughtGame_42 rfl ?_
  refine x_getF (t := 10) (j := 4) (r := 169) (pc := 43) dX12_beginTaughtGame_43 (axH hG rfl) (axEx hG rfl) rfl (by decide) (by decide) rfl rfl WF_X12_51 ?_
  refine x_cr (v := vI (fX8_cells M)) (vs := [vR 169]) (rest := [vI v2]) (k := 0) rfl (by omega) (ax_caV (pc := 46) dX12_beginTaughtGame_46 kX8_cells rfl rfl WM_X12_148 WI_X8_cells WS_X8_cells WN_X8 (ax_rcO (t := 6) (axEx hG rfl) rfl (by decide)) (Nat.le_of_ble_eq_true rfl)) kX8_cells rfl True.intro (T_X8_cells (by omega) (axPs.sub hG (Nat.le_of_ble_eq_true rfl) (Nat.le_of_ble_eq_true rfl)) rfl) ?_
  refine ax_cmp (fun b110a b110b b110c b110e => ?_)
  refine x_icmpge (tgt := 74) (pc := 49) dX12_beginTaughtGame_49 rfl (fun h109 => ?_) (fun h109 => ?_)
  · replace hf := (if_neg (Int.not_lt.mpr h109)).symm.trans hf
    cases hf
    exact x_fgt (axS' (axN' (axN' axD))) (h2a _ rfl)
  · replace hf := (if_pos h109).symm.trans hf
    refine x_aload_n (pc := 52) dX12_beginTaughtGame_52 rfl ?_
    refine x_getF (t := 10) (j := 4) (r := 169) (pc := 53) dX12_beginTaughtGame_53 (axH hG rfl) (axEx hG rfl) rfl (by decide) (by decide) rfl rfl WF_X12_51 ?_
    refine x_iload_n (pc := 56) dX12_beginTaughtGame_56 rfl ?_
    refine x_aload_n (pc := 57) dX12_beginTaughtGame_57 rfl ?_
    refine x_getF (t := 10) (j := 3) (r := 167) (pc := 58) dX12_beginTaughtGame_58 (axH hG rfl) (axEx hG rfl) rfl (by decide) (by decide) rfl rfl WF_X12_44 ?_
    refine x_iload_n (pc := 61) dX12_beginTaughtGame_61 rfl ?_
    refine x_cr (v := vI (fX6_ownerAt M v2)) (vs := [vR 167, vI v2]) (rest := [vI v2, vR 169]) (k := 0) rfl (by omega) (ax_caV (pc := 62) dX12_beginTaughtGame_62 kX6_ownerAt rfl rfl WM_X12_151 WI_X6_ownerAt WS_X6_ownerAt WN_X6 (ax_rcO (t := 4) (axEx hG rfl) rfl (by decide)) (Nat.le_of_ble_eq_true rfl)) kX6_ownerAt rfl True.intro (T_X6_ownerAt (by omega) hG rfl) ?_
    obtain ⟨M112, r111, hf⟩ := bd1_some hf
    refine x_cv (vs := [vR 169, vI v2, vI (fX6_ownerAt M v2)]) (rest := []) (k := 0) rfl (by omega) (ax_caV (pc := 65) dX12_beginTaughtGame_65 kX8_put rfl rfl WM_X12_154 WI_X8_put WS_X8_put WN_X8 (ax_rcO (t := 6) (axEx hG rfl) rfl (by decide)) (Nat.le_of_ble_eq_true rfl)) kX8_put rfl True.intro (T_X8_put (by omega) (axPs.sub hG (Nat.le_of_ble_eq_true rfl) (Nat.le_of_ble_eq_true rfl)) r111) ?_
    refine x_iinc (z := (v2 + 1)) (ls' := [some (vR 150), none, some (vI (v2 + 1))]) (pc := 68) dX12_beginTaughtGame_68 rfl (Nat.le_of_ble_eq_true rfl) rfl rfl (ax_i (by omega) (by omega)) rfl ?_
    refine x_goto (tgt := 41) (pc := 71) dX12_beginTaughtGame_71 rfl ?_
    cases hf
    exact h1 _ rfl
theorem T_X12_beginTaughtGame {G : ax_G} {d : Nat} (hd : 3 ≤ d) (hG : axPs G 150 244) {M : ax_M} {M1 : ax_M} (hf : fX12_beginTaughtGame M = some M1) : ax_Ex G tX12_beginTaughtGame d 0 (ax_args [vR 150] ++ List.replicate 2 none) [] M (.inl none) M1 := by
  show ax_Ex G tX12_beginTaughtGame d 0 [some (vR 150), none, none] [] M _ _
  unfold fX12_beginTaughtGame at hf
  refine x_aload_n (pc := 0) dX12_beginTaughtGame_0 rfl ?_
  rcases h101 : (mR M 150 10) with _ | p102
  · replace hf := (oq_none h101).symm.trans hf
    cases hf
  · replace hf := (oq_some h101).symm.trans hf
    by_cases h103 : (p102 = 157 ∨ p102 = 194)
    · replace hf := (if_pos h103).symm.trans hf
      refine x_getRq h101 (t := 10) (j := 10) (pc := 1) dX12_beginTaughtGame_1 (axEx hG rfl) rfl (by decide) (by decide) rfl WF_X12_26 ?_
      refine x_astore_n (ls' := [some (vR 150), some (vR p102), none]) (pc := 4) dX12_beginTaughtGame_4 (Nat.le_of_ble_eq_true rfl) rfl rfl ?_
      refine x_aload_n (pc := 5) dX12_beginTaughtGame_5 rfl ?_
      refine x_aload_n (pc := 6) dX12_beginTaughtGame_6 rfl ?_
      rcases h104 : (mR M 150 9) with _ | p105
      · replace hf := (oq_none h104).symm.trans hf
        cases hf
      · replace hf := (oq_some h104).symm.trans hf
        by_cases h106 : (p105 = 157 ∨ p105 = 194)
        · replace hf := (if_pos h106).symm.trans hf
          refine x_getRq h104 (t := 10) (j := 9) (pc := 7) dX12_beginTaughtGame_7 (axEx hG rfl) rfl (by decide) (by decide) rfl WF_X12_87 ?_
          refine x_putR (t := 10) (j := 10) (pc := 10) dX12_beginTaughtGame_10 (axEx hG rfl) rfl (by decide) (by decide) rfl ⟨_, rfl⟩ rfl WF_X12_26 (fun _ => Or.inl rfl) rfl ?_
          refine x_aload_n (pc := 13) dX12_beginTaughtGame_13 rfl ?_
          refine x_aload_n (pc := 14) dX12_beginTaughtGame_14 rfl ?_
          refine x_putR (t := 10) (j := 9) (pc := 15) dX12_beginTaughtGame_15 (axEx hG rfl) rfl (by decide) (by decide) rfl ⟨_, rfl⟩ rfl WF_X12_87 (fun _ => Or.inl rfl) rfl ?_
          refine x_aload_n (pc := 18) dX12_beginTaughtGame_18 rfl ?_
          refine x_getF (t := 10) (j := 4) (r := 169) (pc := 19) dX12_beginTaughtGame_19 (axH hG rfl) (axEx hG rfl) rfl (by decide) (by decide) rfl rfl WF_X12_51 ?_
          refine x_aload_n (pc := 22) dX12_beginTaughtGame_22 rfl ?_
          refine x_getF (t := 10) (j := 3) (r := 167) (pc := 23) dX12_beginTaughtGame_23 (axH hG rfl) (axEx hG rfl) rfl (by decide) (by decide) rfl rfl WF_X12_44 ?_
          refine x_cr (v := vI (fX6_columns (mUR (mUR M 150 10 (some p105)) 150 9 (some p102)))) (vs := [vR 167]) (rest := [vR 169]) (k := 0) rfl (by omega) (ax_caV (pc := 26) dX12_beginTaughtGame_26 kX6_columns rfl rfl WM_X12_138 WI_X6_columns WS_X6_columns WN_X6 (ax_rcO (t := 4) (axEx hG rfl) rfl (by decide)) (Nat.le_of_ble_eq_true rfl)) kX6_columns rfl True.intro (T_X6_columns (by omega) hG rfl) ?_
          refine x_aload_n (pc := 29) dX12_beginTaughtGame_29 rfl ?_
          refine x_getF (t := 10) (j := 3) (r := 167) (pc := 30) dX12_beginTaughtGame_30 (axH hG rfl) (axEx hG rfl) rfl (by decide) (by decide) rfl rfl WF_X12_44 ?_
          refine x_cr (v := vI (fX6_rows (mUR (mUR M 150 10 (some p105)) 150 9 (some p102)))) (vs := [vR 167]) (rest := [vI (fX6_columns (mUR (mUR M 150 10 (some p105)) 150 9 (some p102))), vR 169]) (k := 0) rfl (by omega) (ax_caV (pc := 33) dX12_beginTaughtGame_33 kX6_rows rfl rfl WM_X12_141 WI_X6_rows WS_X6_rows WN_X6 (ax_rcO (t := 4) (axEx hG rfl) rfl (by decide)) (Nat.le_of_ble_eq_true rfl)) kX6_rows rfl True.intro (T_X6_rows (by omega) hG rfl) ?_
          obtain ⟨M108, r107, hf⟩ := bd1_some hf
          refine x_cv (vs := [vR 169, vI (fX6_columns (mUR (mUR M 150 10 (some p105)) 150 9 (some p102))), vI (fX6_rows (mUR (mUR M 150 10 (some p105)) 150 9 (some p102)))]) (rest := []) (k := 2) rfl (by omega) (ax_caV (pc := 36) dX12_beginTaughtGame_36 kX8_begin rfl rfl WM_X12_144 WI_X8_begin WS_X8_begin WN_X8 (ax_rcO (t := 6) (axEx hG rfl) rfl (by decide)) (Nat.le_of_ble_eq_true rfl)) kX8_begin rfl True.intro (T_X8_begin (by omega) (axPs.sub hG (Nat.le_of_ble_eq_true rfl) (Nat.le_of_ble_eq_true rfl)) r107) ?_
          refine x_iconst (pc := 39) dX12_beginTaughtGame_39 ⟨by decide, by decide⟩ ?_
          refine x_istore_n (ls' := [some (vR 150), some (vR p102), some (vI 0)]) (pc := 40) dX12_beginTaughtGame_40 (Nat.le_of_ble_eq_true rfl) rfl rfl ?_
          obtain ⟨t113, t114, hf⟩ := bd1_some hf
          refine x_fgt (axS' (axN' (axS' axD))) (lp_ex (P := (fun s => ax_Ex G tX12_beginTaughtGame d 41 [some (vR 150), none, some (vI s.1)] [] s.2 _ _)) (K := (fun t => ax_Ex G tX12_beginTaughtGame d 74 [some (vR 150), none, none] [] t _ _)) (fun s y hy h1 h2 => B_X12_beginTaughtGame_41 (by omega) hG hy (fun s' e => h1 s' e) (fun t e => h2 t e)) _ _ _ t114 ?_)
          cases hf
          exact x_retV (pc := 74) dX12_beginTaughtGame_74
        · replace hf := (if_neg h106).symm.trans hf
          cases hf
    · replace hf := (if_neg h103).symm.trans hf
      cases hf
/- HexPond.teach()I -/
def fX12_teach (M : ax_M) : Option (Int × ax_M) :=
  (bd1 (fX10_read M) fun M102 => (bd1 (fX9_shorten M102 0) fun M104 => (oq (mR M104 150 10) none fun p106 => if (p106 = 157 ∨ p106 = 194) then (bd2 (fX3_firstWrong M104 p106) fun v110 M109 => (if v110 = (-1) then (bd2 (fX6_firstError M109) fun v115 M114 => (if v115 = 0 then (bd1 (fX12_beginTaughtGame (mUI M114 150 11 (-1))) fun M119 => (some (v115, M119))) else (some (v115, (mUI M114 150 11 (fX10_startOf M114 (fX6_wrongToken M114))))))) else (some (1, (mUI M109 150 11 (fX10_startOf M109 v110)))))) else none)))
theorem T_X12_teach {G : ax_G} {d : Nat} (hd : 71 ≤ d) (hG : axPs G 150 244) {M : ax_M} {r : Int} {M1 : ax_M} (hf : fX12_teach M = some (r, M1)) : ax_Ex G tX12_teach d 0 (ax_args [vR 150] ++ List.replicate 2 none) [] M (.inl (some (vI r))) M1 := by
  show ax_Ex G tX12_teach d 0 [some (vR 150), none, none] [] M _ _
  unfold fX12_teach at hf
  refine x_aload_n (pc := 0) dX12_teach_0 rfl ?_
  refine x_getF (t := 10) (j := 1) (r := 153) (pc := 1) dX12_teach_1 (axH hG rfl) (axEx hG rfl) rfl (by decide) (by decide) rfl rfl WF_X12_19 ?_
  refine x_aload_n (pc := 4) dX12_teach_4 rfl ?_
  refine x_getF (t := 10) (j := 0) (r := 151) (pc := 5) dX12_teach_5 (axH hG rfl) (axEx hG rfl) rfl (by decide) (by decide) rfl rfl WF_X12_12 ?_
  obtain ⟨M102, r101, hf⟩ := bd1_some hf
  refine x_cv (vs := [vR 153, vR 151]) (rest := []) (k := 4) rfl (by omega) (ax_caV (pc := 8) dX12_teach_8 kX10_read rfl rfl WM_X12_117 WI_X10_read WS_X10_read WN_X10 (ax_rcO (t := 8) (axEx hG rfl) rfl (by decide)) (Nat.le_of_ble_eq_true rfl)) kX10_read rfl True.intro (T_X10_read (by omega) hG r101) ?_
  refine x_aload_n (pc := 11) dX12_teach_11 rfl ?_
  refine x_getF (t := 10) (j := 0) (r := 151) (pc := 12) dX12_teach_12 (axH hG rfl) (axEx hG rfl) rfl (by decide) (by decide) rfl rfl WF_X12_12 ?_
  refine x_iconst (pc := 15) dX12_teach_15 ⟨by decide, by decide⟩ ?_
  obtain ⟨M104, r103, hf⟩ := bd1_some hf
  refine x_cv (vs := [vR 151, vI 0]) (rest := []) (k := 0) rfl (by omega) (ax_caV (pc := 16) dX12_teach_16 kX9_shorten rfl rfl WM_X12_114 WI_X9_shorten WS_X9_shorten WN_X9 (ax_rcO (t := 7) (axEx hG rfl) rfl (by decide)) (Nat.le_of_ble_eq_true rfl)) kX9_shorten rfl True.intro (T_X9_shorten (by omega) hG r103) ?_
  refine x_aload_n (pc := 19) dX12_teach_19 rfl ?_
  refine x_getF (t := 10) (j := 2) (r := 166) (pc := 20) dX12_teach_20 (axH hG rfl) (axEx hG rfl) rfl (by decide) (by decide) rfl rfl WF_X12_35 ?_
  refine x_aload_n (pc := 23) dX12_teach_23 rfl ?_
  rcases h105 : (mR M104 150 10) with _ | p106
  · replace hf := (oq_none h105).symm.trans hf
    cases hf
  · replace hf := (oq_some h105).symm.trans hf
    by_cases h107 : (p106 = 157 ∨ p106 = 194)
    · replace hf := (if_pos h107).symm.trans hf
      refine x_getRq h105 (t := 10) (j := 10) (pc := 24) dX12_teach_24 (axEx hG rfl) rfl (by decide) (by decide) rfl WF_X12_26 ?_
      obtain ⟨v110, M109, r108, hf⟩ := bd2_some hf
      refine x_cr (v := vI v110) (vs := [vR 166, vR p106]) (rest := []) (k := 1) rfl (by omega) (ax_caV (pc := 27) dX12_teach_27 kX3_firstWrong rfl rfl WM_X12_121 WI_X3_firstWrong WS_X3_firstWrong WN_X3 (ax_rcO (t := 2) (axEx hG rfl) rfl (by decide)) (Nat.le_of_ble_eq_true rfl)) kX3_firstWrong rfl True.intro (T_X3_firstWrong (by omega) hG h107 r108) ?_
      refine x_istore_n (ls' := [some (vR 150), some (vI v110), none]) (pc := 30) dX12_teach_30 (Nat.le_of_ble_eq_true rfl) rfl rfl ?_
      refine x_iload_n (pc := 31) dX12_teach_31 rfl ?_
      refine x_iconst (pc := 32) dX12_teach_32 ⟨by decide, by decide⟩ ?_
      refine x_icmpne (tgt := 40) (pc := 33) dX12_teach_33 rfl (fun h111 => ?_) (fun h111 => ?_)
      · replace hf := (if_neg h111).symm.trans hf
        refine x_iconst (pc := 40) dX12_teach_40 ⟨by decide, by decide⟩ ?_
        refine x_istore_n (ls' := [some (vR 150), some (vI v110), some (vI 1)]) (pc := 41) dX12_teach_41 (Nat.le_of_ble_eq_true rfl) rfl rfl ?_
        refine x_iload_n (pc := 42) dX12_teach_42 rfl ?_
        refine x_ifne (tgt := 62) (pc := 43) dX12_teach_43 rfl (fun h121 => ?_) (fun h121 => absurd h121 (by omega))
        refine x_aload_n (pc := 62) dX12_teach_62 rfl ?_
        refine x_iload_n (pc := 63) dX12_teach_63 rfl ?_
        refine x_ifne (tgt := 71) (pc := 64) dX12_teach_64 rfl (fun h122 => ?_) (fun h122 => absurd h122 (by omega))
        refine x_aload_n (pc := 71) dX12_teach_71 rfl ?_
        refine x_getF (t := 10) (j := 1) (r := 153) (pc := 72) dX12_teach_72 (axH hG rfl) (axEx hG rfl) rfl (by decide) (by decide) rfl rfl WF_X12_19 ?_
        refine x_iload_n (pc := 75) dX12_teach_75 rfl ?_
        refine x_cr (v := vI (fX10_startOf M109 v110)) (vs := [vR 153, vI v110]) (rest := [vR 150]) (k := 0) rfl (by omega) (ax_caV (pc := 76) dX12_teach_76 kX10_startOf rfl rfl WM_X12_131 WI_X10_startOf WS_X10_startOf WN_X10 (ax_rcO (t := 8) (axEx hG rfl) rfl (by decide)) (Nat.le_of_ble_eq_true rfl)) kX10_startOf rfl True.intro (T_X10_startOf (by omega) hG rfl) ?_
        refine x_putI (t := 10) (j := 11) (pc := 79) dX12_teach_79 (axEx hG rfl) rfl (by decide) (by decide) rfl rfl WF_X12_90 ?_
        refine x_iload_n (pc := 82) dX12_teach_82 rfl ?_
        refine x_ifne (tgt := 90) (pc := 83) dX12_teach_83 rfl (fun h123 => ?_) (fun h123 => absurd h123 (by omega))
        refine x_iload_n (pc := 90) dX12_teach_90 rfl ?_
        cases hf
        exact x_retI (pc := 91) dX12_teach_91
      · replace hf := (if_pos h111).symm.trans hf
        refine x_iconst (pc := 36) dX12_teach_36 ⟨by decide, by decide⟩ ?_
        refine x_goto (tgt := 41) (pc := 37) dX12_teach_37 rfl ?_
        refine x_istore_n (ls' := [some (vR 150), some (vI v110), some (vI 0)]) (pc := 41) dX12_teach_41 (Nat.le_of_ble_eq_true rfl) rfl rfl ?_
        refine x_iload_n (pc := 42) dX12_teach_42 rfl ?_
        refine x_ifne (tgt := 62) (pc := 43) dX12_teach_43 rfl (fun h112 => absurd h112 (by omega)) (fun h112 => ?_)
        refine x_aload_n (pc := 46) dX12_teach_46 rfl ?_
        refine x_getF (t := 10) (j := 3) (r := 167) (pc := 47) dX12_teach_47 (axH hG rfl) (axEx hG rfl) rfl (by decide) (by decide) rfl rfl WF_X12_44 ?_
        obtain ⟨v115, M114, r113, hf⟩ := bd2_some hf
        refine x_cr (v := vI v115) (vs := [vR 167]) (rest := []) (k := 2) rfl (by omega) (ax_caV (pc := 50) dX12_teach_50 kX6_firstError rfl rfl WM_X12_125 WI_X6_firstError WS_X6_firstError WN_X6 (ax_rcO (t := 4) (axEx hG rfl) rfl (by decide)) (Nat.le_of_ble_eq_true rfl)) kX6_firstError rfl True.intro (T_X6_firstError (by omega) hG r113) ?_
        refine x_istore_n (ls' := [some (vR 150), some (vI v110), some (vI v115)]) (pc := 53) dX12_teach_53 (Nat.le_of_ble_eq_true rfl) rfl rfl ?_
        refine x_aload_n (pc := 54) dX12_teach_54 rfl ?_
        refine x_getF (t := 10) (j := 3) (r := 167) (pc := 55) dX12_teach_55 (axH hG rfl) (axEx hG rfl) rfl (by decide) (by decide) rfl rfl WF_X12_44 ?_
        refine x_cr (v := vI (fX6_wrongToken M114)) (vs := [vR 167]) (rest := []) (k := 0) rfl (by omega) (ax_caV (pc := 58) dX12_teach_58 kX6_wrongToken rfl rfl WM_X12_128 WI_X6_wrongToken WS_X6_wrongToken WN_X6 (ax_rcO (t := 4) (axEx hG rfl) rfl (by decide)) (Nat.le_of_ble_eq_true rfl)) kX6_wrongToken rfl True.intro (T_X6_wrongToken (by omega) hG rfl) ?_
        refine x_istore_n (ls' := [some (vR 150), some (vI (fX6_wrongToken M114)), some (vI v115)]) (pc := 61) dX12_teach_61 (Nat.le_of_ble_eq_true rfl) rfl rfl ?_
        refine x_aload_n (pc := 62) dX12_teach_62 rfl ?_
        refine x_iload_n (pc := 63) dX12_teach_63 rfl ?_
        refine x_ifne (tgt := 71) (pc := 64) dX12_teach_64 rfl (fun h116 => ?_) (fun h116 => ?_)
        · replace hf := (if_neg h116).symm.trans hf
          refine x_aload_n (pc := 71) dX12_teach_71 rfl ?_
          refine x_getF (t := 10) (j := 1) (r := 153) (pc := 72) dX12_teach_72 (axH hG rfl) (axEx hG rfl) rfl (by decide) (by decide) rfl rfl WF_X12_19 ?_
          refine x_iload_n (pc := 75) dX12_teach_75 rfl ?_
          refine x_cr (v := vI (fX10_startOf M114 (fX6_wrongToken M114))) (vs := [vR 153, vI (fX6_wrongToken M114)]) (rest := [vR 150]) (k := 0) rfl (by omega) (ax_caV (pc := 76) dX12_teach_76 kX10_startOf rfl rfl WM_X12_131 WI_X10_startOf WS_X10_startOf WN_X10 (ax_rcO (t := 8) (axEx hG rfl) rfl (by decide)) (Nat.le_of_ble_eq_true rfl)) kX10_startOf rfl True.intro (T_X10_startOf (by omega) hG rfl) ?_
          refine x_putI (t := 10) (j := 11) (pc := 79) dX12_teach_79 (axEx hG rfl) rfl (by decide) (by decide) rfl rfl WF_X12_90 ?_
          refine x_iload_n (pc := 82) dX12_teach_82 rfl ?_
          refine x_ifne (tgt := 90) (pc := 83) dX12_teach_83 rfl (fun h120 => ?_) (fun h120 => absurd h120 (by omega))
          refine x_iload_n (pc := 90) dX12_teach_90 rfl ?_
          cases hf
          exact x_retI (pc := 91) dX12_teach_91
        · replace hf := (if_pos h116).symm.trans hf
          refine x_iconst (pc := 67) dX12_teach_67 ⟨by decide, by decide⟩ ?_
          refine x_goto (tgt := 79) (pc := 68) dX12_teach_68 rfl ?_
          refine x_putI (t := 10) (j := 11) (pc := 79) dX12_teach_79 (axEx hG rfl) rfl (by decide) (by decide) rfl rfl WF_X12_90 ?_
          refine x_iload_n (pc := 82) dX12_teach_82 rfl ?_
          refine x_ifne (tgt := 90) (pc := 83) dX12_teach_83 rfl (fun h117 => absurd h117 (by omega)) (fun h117 => ?_)
          refine x_aload_n (pc := 86) dX12_teach_86 rfl ?_
          obtain ⟨M119, r118, hf⟩ := bd1_some hf
          refine x_cv (vs := [vR 150]) (rest := []) (k := 2) rfl (by omega) (ax_caV (pc := 87) dX12_teach_87 kX12_beginTaughtGame rfl rfl WM_X12_135 WI_X12_beginTaughtGame WS_X12_beginTaughtGame WN_X12 (ax_rcO (t := 10) (axEx hG rfl) rfl (by decide)) (Nat.le_of_ble_eq_true rfl)) kX12_beginTaughtGame rfl True.intro (T_X12_beginTaughtGame (by omega) hG r118) ?_
          refine x_iload_n (pc := 90) dX12_teach_90 rfl ?_
          cases hf
          exact x_retI (pc := 91) dX12_teach_91
    · replace hf := (if_neg h107).symm.trans hf
      cases hf
/- HexPond.errorAt()I -/
def fX12_errorAt (M : ax_M) : Int :=
  ((mI M 150 11))
theorem T_X12_errorAt {G : ax_G} {d : Nat} (hd : 0 ≤ d) (hG : axPs G 150 244) {M : ax_M} {r : Int} (hf : fX12_errorAt M = r) : ax_Ex G tX12_errorAt d 0 (ax_args [vR 150] ++ List.replicate 0 none) [] M (.inl (some (vI r))) M := by
  show ax_Ex G tX12_errorAt d 0 [some (vR 150)] [] M _ _
  unfold fX12_errorAt at hf
  refine x_aload_n (pc := 0) dX12_errorAt_0 rfl ?_
  refine x_getI (t := 10) (j := 11) (pc := 1) dX12_errorAt_1 (axEx hG rfl) rfl (by decide) (by decide) rfl WF_X12_90 ?_
  subst hf
  exact x_retI (pc := 4) dX12_errorAt_4
/- HexPond.columns()I -/
def fX12_columns (M : ax_M) : Int :=
  ((fX8_columns M))
theorem T_X12_columns {G : ax_G} {d : Nat} (hd : 1 ≤ d) (hG : axPs G 150 244) {M : ax_M} {r : Int} (hf : fX12_columns M = r) : ax_Ex G tX12_columns d 0 (ax_args [vR 150] ++ List.replicate 0 none) [] M (.inl (some (vI r))) M := by
  show ax_Ex G tX12_columns d 0 [some (vR 150)] [] M _ _
  unfold fX12_columns at hf
  refine x_aload_n (pc := 0) dX12_columns_0 rfl ?_
  refine x_getF (t := 10) (j := 4) (r := 169) (pc := 1) dX12_columns_1 (axH hG rfl) (axEx hG rfl) rfl (by decide) (by decide) rfl rfl WF_X12_51 ?_
  refine x_cr (v := vI (fX8_columns M)) (vs := [vR 169]) (rest := []) (k := 0) rfl (by omega) (ax_caV (pc := 4) dX12_columns_4 kX8_columns rfl rfl WM_X12_157 WI_X8_columns WS_X8_columns WN_X8 (ax_rcO (t := 6) (axEx hG rfl) rfl (by decide)) (Nat.le_of_ble_eq_true rfl)) kX8_columns rfl True.intro (T_X8_columns (by omega) (axPs.sub hG (Nat.le_of_ble_eq_true rfl) (Nat.le_of_ble_eq_true rfl)) rfl) ?_
  subst hf
  exact x_retI (pc := 7) dX12_columns_7
/- HexPond.rows()I -/
def fX12_rows (M : ax_M) : Int :=
  ((fX8_rows M))
theorem T_X12_rows {G : ax_G} {d : Nat} (hd : 1 ≤ d) (hG : axPs G 150 244) {M : ax_M} {r : Int} (hf : fX12_rows M = r) : ax_Ex G tX12_rows d 0 (ax_args [vR 150] ++ List.replicate 0 none) [] M (.inl (some (vI r))) M := by
  show ax_Ex G tX12_rows d 0 [some (vR 150)] [] M _ _
  unfold fX12_rows at hf
  refine x_aload_n (pc := 0) dX12_rows_0 rfl ?_
  refine x_getF (t := 10) (j := 4) (r := 169) (pc := 1) dX12_rows_1 (axH hG rfl) (axEx hG rfl) rfl (by decide) (by decide) rfl rfl WF_X12_51 ?_
  refine x_cr (v := vI (fX8_rows M)) (vs := [vR 169]) (rest := []) (k := 0) rfl (by omega) (ax_caV (pc := 4) dX12_rows_4 kX8_rows rfl rfl WM_X12_158 WI_X8_rows WS_X8_rows WN_X8 (ax_rcO (t := 6) (axEx hG rfl) rfl (by decide)) (Nat.le_of_ble_eq_true rfl)) kX8_rows rfl True.intro (T_X8_rows (by omega) (axPs.sub hG (Nat.le_of_ble_eq_true rfl) (Nat.le_of_ble_eq_true rfl)) rfl) ?_
  subst hf
  exact x_retI (pc := 7) dX12_rows_7
/- HexPond.plans()I -/
def fX12_plans (M : ax_M) : Option Int :=
  (oq (mR M 150 9) none fun p102 => if (p102 = 157 ∨ p102 = 194) then (some (fX7_count M p102)) else none)
theorem T_X12_plans {G : ax_G} {d : Nat} (hd : 1 ≤ d) (hG : axPs G 150 244) {M : ax_M} {r : Int} (hf : fX12_plans M = some r) : ax_Ex G tX12_plans d 0 (ax_args [vR 150] ++ List.replicate 0 none) [] M (.inl (some (vI r))) M := by
  show ax_Ex G tX12_plans d 0 [some (vR 150)] [] M _ _
  unfold fX12_plans at hf
  refine x_aload_n (pc := 0) dX12_plans_0 rfl ?_
  rcases h101 : (mR M 150 9) with _ | p102
  · replace hf := (oq_none h101).symm.trans hf
    cases hf
  · replace hf := (oq_some h101).symm.trans hf
    by_cases h103 : (p102 = 157 ∨ p102 = 194)
    · replace hf := (if_pos h103).symm.trans hf
      refine x_getRq h101 (t := 10) (j := 9) (pc := 1) dX12_plans_1 (axEx hG rfl) rfl (by decide) (by decide) rfl WF_X12_87 ?_
      refine x_cr (v := vI (fX7_count M p102)) (vs := [vR p102]) (rest := []) (k := 0) rfl (by omega) (ax_caV (pc := 4) dX12_plans_4 kX7_count rfl rfl WM_X12_159 WI_X7_count WS_X7_count WN_X7 (ax_rcO (t := 5) (by rcases h103 with rfl | rfl <;> exact axEx hG rfl) (by rcases h103 with rfl | rfl <;> rfl) (by decide)) (Nat.le_of_ble_eq_true rfl)) kX7_count rfl True.intro (T_X7_count (by omega) hG h103 rfl) ?_
      cases hf
      exact x_retI (pc := 7) dX12_plans_7
    · replace hf := (if_neg h103).symm.trans hf
      cases hf
/- HexPond.stonesToTakeBack()I -/
def fX12_stonesToTakeBack (M : ax_M) : Int :=
  ((fX8_laidStones M))
theorem T_X12_stonesToTakeBack {G : ax_G} {d : Nat} (hd : 1 ≤ d) (hG : axPs G 150 244) {M : ax_M} {r : Int} (hf : fX12_stonesToTakeBack M = r) : ax_Ex G tX12_stonesToTakeBack d 0 (ax_args [vR 150] ++ List.replicate 0 none) [] M (.inl (some (vI r))) M := by
  show ax_Ex G tX12_stonesToTakeBack d 0 [some (vR 150)] [] M _ _
  unfold fX12_stonesToTakeBack at hf
  refine x_aload_n (pc := 0) dX12_stonesToTakeBack_0 rfl ?_
  refine x_getF (t := 10) (j := 4) (r := 169) (pc := 1) dX12_stonesToTakeBack_1 (axH hG rfl) (axEx hG rfl) rfl (by decide) (by decide) rfl rfl WF_X12_51 ?_
  refine x_cr (v := vI (fX8_laidStones M)) (vs := [vR 169]) (rest := []) (k := 0) rfl (by omega) (ax_caV (pc := 4) dX12_stonesToTakeBack_4 kX8_laidStones rfl rfl WM_X12_162 WI_X8_laidStones WS_X8_laidStones WN_X8 (ax_rcO (t := 6) (axEx hG rfl) rfl (by decide)) (Nat.le_of_ble_eq_true rfl)) kX8_laidStones rfl True.intro (T_X8_laidStones (by omega) (axPs.sub hG (Nat.le_of_ble_eq_true rfl) (Nat.le_of_ble_eq_true rfl)) rfl) ?_
  subst hf
  exact x_retI (pc := 7) dX12_stonesToTakeBack_7
/- HexPond.tapeBytes()I -/
def fX12_tapeBytes (M : ax_M) : Int :=
  ((fX9_length M))
theorem T_X12_tapeBytes {G : ax_G} {d : Nat} (hd : 1 ≤ d) (hG : axPs G 150 244) {M : ax_M} {r : Int} (hf : fX12_tapeBytes M = r) : ax_Ex G tX12_tapeBytes d 0 (ax_args [vR 150] ++ List.replicate 0 none) [] M (.inl (some (vI r))) M := by
  show ax_Ex G tX12_tapeBytes d 0 [some (vR 150)] [] M _ _
  unfold fX12_tapeBytes at hf
  refine x_aload_n (pc := 0) dX12_tapeBytes_0 rfl ?_
  refine x_getF (t := 10) (j := 0) (r := 151) (pc := 1) dX12_tapeBytes_1 (axH hG rfl) (axEx hG rfl) rfl (by decide) (by decide) rfl rfl WF_X12_12 ?_
  refine x_cr (v := vI (fX9_length M)) (vs := [vR 151]) (rest := []) (k := 0) rfl (by omega) (ax_caV (pc := 4) dX12_tapeBytes_4 kX9_length rfl rfl WM_X12_94 WI_X9_length WS_X9_length WN_X9 (ax_rcO (t := 7) (axEx hG rfl) rfl (by decide)) (Nat.le_of_ble_eq_true rfl)) kX9_length rfl True.intro (T_X9_length (by omega) hG rfl) ?_
  subst hf
  exact x_retI (pc := 7) dX12_tapeBytes_7
/- HexPond.emptyCells()I -/
def fX12_emptyCells (M : ax_M) : Int :=
  ((fX8_freeCells M))
theorem T_X12_emptyCells {G : ax_G} {d : Nat} (hd : 2 ≤ d) (hG : axPs G 150 244) {M : ax_M} {r : Int} (hf : fX12_emptyCells M = r) : ax_Ex G tX12_emptyCells d 0 (ax_args [vR 150] ++ List.replicate 0 none) [] M (.inl (some (vI r))) M := by
  show ax_Ex G tX12_emptyCells d 0 [some (vR 150)] [] M _ _
  unfold fX12_emptyCells at hf
  refine x_aload_n (pc := 0) dX12_emptyCells_0 rfl ?_
  refine x_getF (t := 10) (j := 4) (r := 169) (pc := 1) dX12_emptyCells_1 (axH hG rfl) (axEx hG rfl) rfl (by decide) (by decide) rfl rfl WF_X12_51 ?_
  refine x_cr (v := vI (fX8_freeCells M)) (vs := [vR 169]) (rest := []) (k := 0) rfl (by omega) (ax_caV (pc := 4) dX12_emptyCells_4 kX8_freeCells rfl rfl WM_X12_165 WI_X8_freeCells WS_X8_freeCells WN_X8 (ax_rcO (t := 6) (axEx hG rfl) rfl (by decide)) (Nat.le_of_ble_eq_true rfl)) kX8_freeCells rfl True.intro (T_X8_freeCells (by omega) (axPs.sub hG (Nat.le_of_ble_eq_true rfl) (Nat.le_of_ble_eq_true rfl)) rfl) ?_
  subst hf
  exact x_retI (pc := 7) dX12_emptyCells_7
/- HexPond.stonesOf(I)I -/
def fX12_stonesOf (M : ax_M) (a1 : Int) : Option ((Int ⊕ String) × ax_M) :=
  (bdT (fX12_requirePlayer M a1) fun v102 M103 => (some (.inl (fX8_stonesOf M103 a1), M103)))
theorem T_X12_stonesOf {G : ax_G} {d : Nat} (hd : 7 ≤ d) (hG : axPs G 150 244) (hX : (gL G).stackTraces = false) {M : ax_M} {a1 : Int} {r : Int ⊕ String} {M1 : ax_M} (hf : fX12_stonesOf M a1 = some (r, M1)) : ax_Ex G tX12_stonesOf d 0 (ax_args [vR 150, vI a1] ++ List.replicate 0 none) [] M (oSI r) M1 := by
  show ax_Ex G tX12_stonesOf d 0 [some (vR 150), some (vI a1)] [] M _ _
  unfold fX12_stonesOf at hf
  refine x_iload_n (pc := 0) dX12_stonesOf_0 rfl ?_
  rcases bdT_some hf with ⟨v102, M103, r101, hf⟩ | ⟨E104, r101, ho⟩
  · skip
    refine x_cv (vs := [vI a1]) (rest := []) (k := 0) rfl (by omega) (ax_caS (pc := 1) dX12_stonesOf_1 kX12_requirePlayer rfl rfl WM_X12_168 WT_X12_requirePlayer WN_X12 (Nat.le_of_ble_eq_true rfl)) kX12_requirePlayer rfl True.intro (T_X12_requirePlayer (by omega) hG hX r101) ?_
    refine x_aload_n (pc := 4) dX12_stonesOf_4 rfl ?_
    refine x_getF (t := 10) (j := 4) (r := 169) (pc := 5) dX12_stonesOf_5 (axH hG rfl) (axEx hG rfl) rfl (by decide) (by decide) rfl rfl WF_X12_51 ?_
    refine x_iload_n (pc := 8) dX12_stonesOf_8 rfl ?_
    refine x_cr (v := vI (fX8_stonesOf M103 a1)) (vs := [vR 169, vI a1]) (rest := []) (k := 0) rfl (by omega) (ax_caV (pc := 9) dX12_stonesOf_9 kX8_stonesOf rfl rfl WM_X12_171 WI_X8_stonesOf WS_X8_stonesOf WN_X8 (ax_rcO (t := 6) (axEx hG rfl) rfl (by decide)) (Nat.le_of_ble_eq_true rfl)) kX8_stonesOf rfl True.intro (T_X8_stonesOf (by omega) (axPs.sub hG (Nat.le_of_ble_eq_true rfl) (Nat.le_of_ble_eq_true rfl)) rfl) ?_
    cases hf
    exact x_retI (pc := 12) dX12_stonesOf_12
  · subst ho
    exact x_ct (vs := [vI a1]) (rest := []) (k := 0) rfl (by omega) (ax_caS (pc := 1) dX12_stonesOf_1 kX12_requirePlayer rfl rfl WM_X12_168 WT_X12_requirePlayer WN_X12 (Nat.le_of_ble_eq_true rfl)) kX12_requirePlayer rfl rfl (T_X12_requirePlayer (by omega) hG hX r101)
/- HexPond.isEmpty(II)Z -/
def fX12_isEmpty (M : ax_M) (a1 : Int) (a2 : Int) : Option ((Int ⊕ String) × ax_M) :=
  (bdT (fX12_requiredCell M a1 a2) fun v102 M103 => (if (fX8_ownerAt M103 v102) = 0 then (some (.inl 1, M103)) else (some (.inl 0, M103))))
theorem T_X12_isEmpty {G : ax_G} {d : Nat} (hd : 7 ≤ d) (hG : axPs G 150 244) (hX : (gL G).stackTraces = false) {M : ax_M} {a1 : Int} {a2 : Int} {r : Int ⊕ String} {M1 : ax_M} (hf : fX12_isEmpty M a1 a2 = some (r, M1)) : ax_Ex G tX12_isEmpty d 0 (ax_args [vR 150, vI a1, vI a2] ++ List.replicate 0 none) [] M (oSI r) M1 := by
  show ax_Ex G tX12_isEmpty d 0 [some (vR 150), some (vI a1), some (vI a2)] [] M _ _
  unfold fX12_isEmpty at hf
  refine x_aload_n (pc := 0) dX12_isEmpty_0 rfl ?_
  refine x_getF (t := 10) (j := 4) (r := 169) (pc := 1) dX12_isEmpty_1 (axH hG rfl) (axEx hG rfl) rfl (by decide) (by decide) rfl rfl WF_X12_51 ?_
  refine x_aload_n (pc := 4) dX12_isEmpty_4 rfl ?_
  refine x_iload_n (pc := 5) dX12_isEmpty_5 rfl ?_
  refine x_iload_n (pc := 6) dX12_isEmpty_6 rfl ?_
  rcases bdT_some hf with ⟨v102, M103, r101, hf⟩ | ⟨E104, r101, ho⟩
  · skip
    refine x_cr (v := vI v102) (vs := [vR 150, vI a1, vI a2]) (rest := [vR 169]) (k := 1) rfl (by omega) (ax_caV (pc := 7) dX12_isEmpty_7 kX12_requiredCell rfl rfl WM_X12_174 WI_X12_requiredCell WS_X12_requiredCell WN_X12 (ax_rcO (t := 10) (axEx hG rfl) rfl (by decide)) (Nat.le_of_ble_eq_true rfl)) kX12_requiredCell rfl True.intro (T_X12_requiredCell (by omega) hG hX r101) ?_
    refine x_cr (v := vI (fX8_ownerAt M103 v102)) (vs := [vR 169, vI v102]) (rest := []) (k := 0) rfl (by omega) (ax_caV (pc := 10) dX12_isEmpty_10 kX8_ownerAt rfl rfl WM_X12_178 WI_X8_ownerAt WS_X8_ownerAt WN_X8 (ax_rcO (t := 6) (axEx hG rfl) rfl (by decide)) (Nat.le_of_ble_eq_true rfl)) kX8_ownerAt rfl True.intro (T_X8_ownerAt (by omega) (axPs.sub hG (Nat.le_of_ble_eq_true rfl) (Nat.le_of_ble_eq_true rfl)) rfl) ?_
    refine x_ifne (tgt := 20) (pc := 13) dX12_isEmpty_13 rfl (fun h105 => ?_) (fun h105 => ?_)
    · replace hf := (if_neg h105).symm.trans hf
      refine x_iconst (pc := 20) dX12_isEmpty_20 ⟨by decide, by decide⟩ ?_
      cases hf
      exact x_retI (pc := 21) dX12_isEmpty_21
    · replace hf := (if_pos h105).symm.trans hf
      refine x_iconst (pc := 16) dX12_isEmpty_16 ⟨by decide, by decide⟩ ?_
      refine x_goto (tgt := 21) (pc := 17) dX12_isEmpty_17 rfl ?_
      cases hf
      exact x_retI (pc := 21) dX12_isEmpty_21
  · subst ho
    exact x_ct (vs := [vR 150, vI a1, vI a2]) (rest := [vR 169]) (k := 1) rfl (by omega) (ax_caV (pc := 7) dX12_isEmpty_7 kX12_requiredCell rfl rfl WM_X12_174 WI_X12_requiredCell WS_X12_requiredCell WN_X12 (ax_rcO (t := 10) (axEx hG rfl) rfl (by decide)) (Nat.le_of_ble_eq_true rfl)) kX12_requiredCell rfl rfl (T_X12_requiredCell (by omega) hG hX r101)
theorem Z_X12_isEmpty {M : ax_M} {a1 : Int} {a2 : Int} {r : Int} {M1 : ax_M} (hf : fX12_isEmpty M a1 a2 = some (.inl r, M1)) : r = 0 ∨ r = 1 := by
  unfold fX12_isEmpty at hf
  rcases bdT_some hf with ⟨v102, M103, r101, hf⟩ | ⟨E104, r101, ho⟩
  · skip
    by_cases h105 : (fX8_ownerAt M103 v102) = 0
    · replace hf := (if_pos h105).symm.trans hf
      cases hf
      exact Or.inr rfl
    · replace hf := (if_neg h105).symm.trans hf
      cases hf
      exact Or.inl rfl
  · cases ho
/- HexPond.ownerOf(II)I -/
def fX12_ownerOf (M : ax_M) (a1 : Int) (a2 : Int) : Option ((Int ⊕ String) × ax_M) :=
  (bdT (fX12_requiredStone M a1 a2) fun v102 M103 => (some (.inl (wr ((fX8_ownerAt M103 v102) - 1)), M103)))
theorem T_X12_ownerOf {G : ax_G} {d : Nat} (hd : 8 ≤ d) (hG : axPs G 150 244) (hX : (gL G).stackTraces = false) {M : ax_M} {a1 : Int} {a2 : Int} {r : Int ⊕ String} {M1 : ax_M} (hf : fX12_ownerOf M a1 a2 = some (r, M1)) : ax_Ex G tX12_ownerOf d 0 (ax_args [vR 150, vI a1, vI a2] ++ List.replicate 0 none) [] M (oSI r) M1 := by
  show ax_Ex G tX12_ownerOf d 0 [some (vR 150), some (vI a1), some (vI a2)] [] M _ _
  unfold fX12_ownerOf at hf
  refine x_aload_n (pc := 0) dX12_ownerOf_0 rfl ?_
  refine x_getF (t := 10) (j := 4) (r := 169) (pc := 1) dX12_ownerOf_1 (axH hG rfl) (axEx hG rfl) rfl (by decide) (by decide) rfl rfl WF_X12_51 ?_
  refine x_aload_n (pc := 4) dX12_ownerOf_4 rfl ?_
  refine x_iload_n (pc := 5) dX12_ownerOf_5 rfl ?_
  refine x_iload_n (pc := 6) dX12_ownerOf_6 rfl ?_
  rcases bdT_some hf with ⟨v102, M103, r101, hf⟩ | ⟨E104, r101, ho⟩
  · skip
    refine x_cr (v := vI v102) (vs := [vR 150, vI a1, vI a2]) (rest := [vR 169]) (k := 1) rfl (by omega) (ax_caV (pc := 7) dX12_ownerOf_7 kX12_requiredStone rfl rfl WM_X12_179 WI_X12_requiredStone WS_X12_requiredStone WN_X12 (ax_rcO (t := 10) (axEx hG rfl) rfl (by decide)) (Nat.le_of_ble_eq_true rfl)) kX12_requiredStone rfl True.intro (T_X12_requiredStone (by omega) hG hX r101) ?_
    refine x_cr (v := vI (fX8_ownerAt M103 v102)) (vs := [vR 169, vI v102]) (rest := []) (k := 0) rfl (by omega) (ax_caV (pc := 10) dX12_ownerOf_10 kX8_ownerAt rfl rfl WM_X12_178 WI_X8_ownerAt WS_X8_ownerAt WN_X8 (ax_rcO (t := 6) (axEx hG rfl) rfl (by decide)) (Nat.le_of_ble_eq_true rfl)) kX8_ownerAt rfl True.intro (T_X8_ownerAt (by omega) (axPs.sub hG (Nat.le_of_ble_eq_true rfl) (Nat.le_of_ble_eq_true rfl)) rfl) ?_
    refine x_iconst (pc := 13) dX12_ownerOf_13 ⟨by decide, by decide⟩ ?_
    refine x_isubw (pc := 14) dX12_ownerOf_14 ?_
    cases hf
    exact x_retI (pc := 15) dX12_ownerOf_15
  · subst ho
    exact x_ct (vs := [vR 150, vI a1, vI a2]) (rest := [vR 169]) (k := 1) rfl (by omega) (ax_caV (pc := 7) dX12_ownerOf_7 kX12_requiredStone rfl rfl WM_X12_179 WI_X12_requiredStone WS_X12_requiredStone WN_X12 (ax_rcO (t := 10) (axEx hG rfl) rfl (by decide)) (Nat.le_of_ble_eq_true rfl)) kX12_requiredStone rfl rfl (T_X12_requiredStone (by omega) hG hX r101)
/- HexPond.hasWon(I)Z -/
def fX12_hasWon (M : ax_M) (a1 : Int) : Option ((Int ⊕ String) × ax_M) :=
  (bdT (fX12_requirePlayer M a1) fun v102 M103 => (bd2 (fX12_winner M103) fun v107 M106 => (if v107 = a1 then (some (.inl 1, M106)) else (some (.inl 0, M106)))))
theorem T_X12_hasWon {G : ax_G} {d : Nat} (hd : 7 ≤ d) (hG : axPs G 150 244) (hX : (gL G).stackTraces = false) {M : ax_M} {a1 : Int} {r : Int ⊕ String} {M1 : ax_M} (hf : fX12_hasWon M a1 = some (r, M1)) : ax_Ex G tX12_hasWon d 0 (ax_args [vR 150, vI a1] ++ List.replicate 0 none) [] M (oSI r) M1 := by
  show ax_Ex G tX12_hasWon d 0 [some (vR 150), some (vI a1)] [] M _ _
  unfold fX12_hasWon at hf
  refine x_iload_n (pc := 0) dX12_hasWon_0 rfl ?_
  rcases bdT_some hf with ⟨v102, M103, r101, hf⟩ | ⟨E104, r101, ho⟩
  · skip
    refine x_cv (vs := [vI a1]) (rest := []) (k := 0) rfl (by omega) (ax_caS (pc := 1) dX12_hasWon_1 kX12_requirePlayer rfl rfl WM_X12_168 WT_X12_requirePlayer WN_X12 (Nat.le_of_ble_eq_true rfl)) kX12_requirePlayer rfl True.intro (T_X12_requirePlayer (by omega) hG hX r101) ?_
    refine x_aload_n (pc := 4) dX12_hasWon_4 rfl ?_
    obtain ⟨v107, M106, r105, hf⟩ := bd2_some hf
    refine x_cr (v := vI v107) (vs := [vR 150]) (rest := []) (k := 0) rfl (by omega) (ax_caV (pc := 5) dX12_hasWon_5 kX12_winner rfl rfl WM_X12_182 WI_X12_winner WS_X12_winner WN_X12 (ax_rcO (t := 10) (axEx hG rfl) rfl (by decide)) (Nat.le_of_ble_eq_true rfl)) kX12_winner rfl True.intro (T_X12_winner (by omega) hG r105) ?_
    refine x_iload_n (pc := 8) dX12_hasWon_8 rfl ?_
    refine x_icmpne (tgt := 16) (pc := 9) dX12_hasWon_9 rfl (fun h108 => ?_) (fun h108 => ?_)
    · replace hf := (if_neg h108).symm.trans hf
      refine x_iconst (pc := 16) dX12_hasWon_16 ⟨by decide, by decide⟩ ?_
      cases hf
      exact x_retI (pc := 17) dX12_hasWon_17
    · replace hf := (if_pos h108).symm.trans hf
      refine x_iconst (pc := 12) dX12_hasWon_12 ⟨by decide, by decide⟩ ?_
      refine x_goto (tgt := 17) (pc := 13) dX12_hasWon_13 rfl ?_
      cases hf
      exact x_retI (pc := 17) dX12_hasWon_17
  · subst ho
    exact x_ct (vs := [vI a1]) (rest := []) (k := 0) rfl (by omega) (ax_caS (pc := 1) dX12_hasWon_1 kX12_requirePlayer rfl rfl WM_X12_168 WT_X12_requirePlayer WN_X12 (Nat.le_of_ble_eq_true rfl)) kX12_requirePlayer rfl rfl (T_X12_requirePlayer (by omega) hG hX r101)
theorem Z_X12_hasWon {M : ax_M} {a1 : Int} {r : Int} {M1 : ax_M} (hf : fX12_hasWon M a1 = some (.inl r, M1)) : r = 0 ∨ r = 1 := by
  unfold fX12_hasWon at hf
  rcases bdT_some hf with ⟨v102, M103, r101, hf⟩ | ⟨E104, r101, ho⟩
  · skip
    obtain ⟨v107, M106, r105, hf⟩ := bd2_some hf
    by_cases h108 : v107 = a1
    · replace hf := (if_pos h108).symm.trans hf
      cases hf
      exact Or.inr rfl
    · replace hf := (if_neg h108).symm.trans hf
      cases hf
      exact Or.inl rfl
  · cases ho
/- HexPond.isOver()Z -/
def fX12_isOver (M : ax_M) : Option (Int × ax_M) :=
  (bd2 (fX12_winner M) fun v103 M102 => (if v103 = (-1) then (some (0, M102)) else (some (1, M102))))
theorem T_X12_isOver {G : ax_G} {d : Nat} (hd : 5 ≤ d) (hG : axPs G 150 244) {M : ax_M} {r : Int} {M1 : ax_M} (hf : fX12_isOver M = some (r, M1)) : ax_Ex G tX12_isOver d 0 (ax_args [vR 150] ++ List.replicate 0 none) [] M (.inl (some (vI r))) M1 := by
  show ax_Ex G tX12_isOver d 0 [some (vR 150)] [] M _ _
  unfold fX12_isOver at hf
  refine x_aload_n (pc := 0) dX12_isOver_0 rfl ?_
  obtain ⟨v103, M102, r101, hf⟩ := bd2_some hf
  refine x_cr (v := vI v103) (vs := [vR 150]) (rest := []) (k := 0) rfl (by omega) (ax_caV (pc := 1) dX12_isOver_1 kX12_winner rfl rfl WM_X12_182 WI_X12_winner WS_X12_winner WN_X12 (ax_rcO (t := 10) (axEx hG rfl) rfl (by decide)) (Nat.le_of_ble_eq_true rfl)) kX12_winner rfl True.intro (T_X12_winner (by omega) hG r101) ?_
  refine x_iconst (pc := 4) dX12_isOver_4 ⟨by decide, by decide⟩ ?_
  refine x_icmpeq (tgt := 12) (pc := 5) dX12_isOver_5 rfl (fun h104 => ?_) (fun h104 => ?_)
  · replace hf := (if_pos h104).symm.trans hf
    refine x_iconst (pc := 12) dX12_isOver_12 ⟨by decide, by decide⟩ ?_
    cases hf
    exact x_retI (pc := 13) dX12_isOver_13
  · replace hf := (if_neg h104).symm.trans hf
    refine x_iconst (pc := 8) dX12_isOver_8 ⟨by decide, by decide⟩ ?_
    refine x_goto (tgt := 13) (pc := 9) dX12_isOver_9 rfl ?_
    cases hf
    exact x_retI (pc := 13) dX12_isOver_13
theorem Z_X12_isOver {M : ax_M} {r : Int} {M1 : ax_M} (hf : fX12_isOver M = some (r, M1)) : r = 0 ∨ r = 1 := by
  unfold fX12_isOver at hf
  obtain ⟨v103, M102, r101, hf⟩ := bd2_some hf
  by_cases h104 : v103 = (-1)
  · replace hf := (if_pos h104).symm.trans hf
    cases hf
    exact Or.inl rfl
  · replace hf := (if_neg h104).symm.trans hf
    cases hf
    exact Or.inr rfl
/- HexPond.playerInTurn()I -/
def fX12_playerInTurn (M : ax_M) : Option ((Int ⊕ String) × ax_M) :=
  (bdT (fX12_requireGameOn M) fun v102 M103 => (some (.inl (fX8_turn M103), M103)))
theorem T_X12_playerInTurn {G : ax_G} {d : Nat} (hd : 7 ≤ d) (hG : axPs G 150 244) (hX : (gL G).stackTraces = false) {M : ax_M} {r : Int ⊕ String} {M1 : ax_M} (hf : fX12_playerInTurn M = some (r, M1)) : ax_Ex G tX12_playerInTurn d 0 (ax_args [vR 150] ++ List.replicate 0 none) [] M (oSI r) M1 := by
  show ax_Ex G tX12_playerInTurn d 0 [some (vR 150)] [] M _ _
  unfold fX12_playerInTurn at hf
  refine x_aload_n (pc := 0) dX12_playerInTurn_0 rfl ?_
  rcases bdT_some hf with ⟨v102, M103, r101, hf⟩ | ⟨E104, r101, ho⟩
  · skip
    refine x_cv (vs := [vR 150]) (rest := []) (k := 0) rfl (by omega) (ax_caV (pc := 1) dX12_playerInTurn_1 kX12_requireGameOn rfl rfl WM_X12_185 WI_X12_requireGameOn WS_X12_requireGameOn WN_X12 (ax_rcO (t := 10) (axEx hG rfl) rfl (by decide)) (Nat.le_of_ble_eq_true rfl)) kX12_requireGameOn rfl True.intro (T_X12_requireGameOn (by omega) hG hX r101) ?_
    refine x_aload_n (pc := 4) dX12_playerInTurn_4 rfl ?_
    refine x_getF (t := 10) (j := 4) (r := 169) (pc := 5) dX12_playerInTurn_5 (axH hG rfl) (axEx hG rfl) rfl (by decide) (by decide) rfl rfl WF_X12_51 ?_
    refine x_cr (v := vI (fX8_turn M103)) (vs := [vR 169]) (rest := []) (k := 0) rfl (by omega) (ax_caV (pc := 8) dX12_playerInTurn_8 kX8_turn rfl rfl WM_X12_188 WI_X8_turn WS_X8_turn WN_X8 (ax_rcO (t := 6) (axEx hG rfl) rfl (by decide)) (Nat.le_of_ble_eq_true rfl)) kX8_turn rfl True.intro (T_X8_turn (by omega) (axPs.sub hG (Nat.le_of_ble_eq_true rfl) (Nat.le_of_ble_eq_true rfl)) rfl) ?_
    cases hf
    exact x_retI (pc := 11) dX12_playerInTurn_11
  · subst ho
    exact x_ct (vs := [vR 150]) (rest := []) (k := 0) rfl (by omega) (ax_caV (pc := 1) dX12_playerInTurn_1 kX12_requireGameOn rfl rfl WM_X12_185 WI_X12_requireGameOn WS_X12_requireGameOn WN_X12 (ax_rcO (t := 10) (axEx hG rfl) rfl (by decide)) (Nat.le_of_ble_eq_true rfl)) kX12_requireGameOn rfl rfl (T_X12_requireGameOn (by omega) hG hX r101)
/- HexPond.stonesBeside(III)I -/
def fX12_stonesBeside_b18 (M : ax_M) (x1 : Int) (x4 : Int) (v5 : Int) (v6 : Int) : Option ((Int × Int) ⊕ Int) :=
  (if v6 < 6 then (if (fX8_ownerAt M (fX8_beside M x4 v6)) = (wr (x1 + 1)) then (some (.inl ((wr (v5 + 1)), (v6 + 1)))) else (some (.inl (v5, (v6 + 1))))) else (some (.inr v5)))
def fX12_stonesBeside (M : ax_M) (a1 : Int) (a2 : Int) (a3 : Int) : Option ((Int ⊕ String) × ax_M) :=
  (bdT (fX12_requirePlayer M a1) fun v102 M103 => (bdT (fX12_requiredCell M103 a2 a3) fun v106 M107 => (bd1 (lp (fun s => fX12_stonesBeside_b18 M107 a1 v106 s.1 s.2) lpN (0, 0)) fun t112 => (some (.inl t112, M107)))))
theorem B_X12_stonesBeside_18 {G : ax_G} {d : Nat} (hd : 7 ≤ d) (hG : axPs G 150 244) {M : ax_M} {x1 : Int} {x4 : Int} {v5 : Int} {v6 : Int} {o : Option ax_V ⊕ String} {M' : ax_M} {y : (Int × Int) ⊕ Int} (hf : fX12_stonesBeside_b18 M x1 x4 v5 v6 = some y) (h1 : ∀ s', y = .inl s' → ax_Ex G tX12_stonesBeside d 18 [some (vR 150), some (vI x1), none, none, some (vI x4), some (vI s'.1), some (vI s'.2)] [] M o M') (h2a : ∀ t, y = .inr t → ax_Ex G tX12_stonesBeside d 58 [some (vR 150), some (vI x1), none, none, some (vI x4), some (vI t), none] [] M o M') : ax_Ex G tX12_stonesBeside d 18 [some (vR 150), some (vI x1), none, none, some (vI x4), some (vI v5), some (vI v6)] [] M o M' := by
  unfold fX12_stonesBeside_b18 at hf
  refine x_iload (pc := 18) dX12_stonesBeside_18 rfl ?_
  refine x_bipush (pc := 20) dX12_stonesBeside_20 (by decide) ⟨by decide, by decide⟩ ?_
  refine ax_cmp (fun b110a b110b b110c b110e => ?_)
  refine x_icmpge (tgt := 58) (pc := 22) dX12_stonesBeside_22 rfl (fun h109 => ?_) (fun h109 => ?_)
  · replace hf := (if_neg (Int.not_lt.mpr h109)).symm.trans hf
    cases hf
    exact x_fgt (axS' (axS' (axN' (axN' (axS' (axS' (axN' axD))))))) (h2a _ rfl)
  · replace hf := (if_pos h109).symm.trans hf
    refine x_aload_n (pc := 25) dX12_stonesBeside_25 rfl ?_
    refine x_getF (t := 10) (j := 4) (r := 169) (pc := 26) dX12_stonesBeside_26 (axH hG rfl) (axEx hG rfl) rfl (by decide) (by decide) rfl rfl WF_X12_51 ?_
    refine x_aload_n (pc := 29) dX12_stonesBeside_29 rfl ?_
    refine x_getF (t := 10) (j := 4) (r := 169) (pc := 30) dX12_stonesBeside_30 (axH hG rfl) (axEx hG rfl) rfl (by decide) (by decide) rfl rfl WF_X12_51 ?_
    refine x_iload (pc := 33) dX12_stonesBeside_33 rfl ?_
    refine x_iload (pc := 35) dX12_stonesBeside_35 rfl ?_
    refine x_cr (v := vI (fX8_beside M x4 v6)) (vs := [vR 169, vI x4, vI v6]) (rest := [vR 169]) (k := 2) rfl (by omega) (ax_caV (pc := 37) dX12_stonesBeside_37 kX8_beside rfl rfl WM_X12_191 WI_X8_beside WS_X8_beside WN_X8 (ax_rcO (t := 6) (axEx hG rfl) rfl (by decide)) (Nat.le_of_ble_eq_true rfl)) kX8_beside rfl True.intro (T_X8_beside (by omega) (axPs.sub hG (Nat.le_of_ble_eq_true rfl) (Nat.le_of_ble_eq_true rfl)) rfl) ?_
    refine x_cr (v := vI (fX8_ownerAt M (fX8_beside M x4 v6))) (vs := [vR 169, vI (fX8_beside M x4 v6)]) (rest := []) (k := 0) rfl (by omega) (ax_caV (pc := 40) dX12_stonesBeside_40 kX8_ownerAt rfl rfl WM_X12_178 WI_X8_ownerAt WS_X8_ownerAt WN_X8 (ax_rcO (t := 6) (axEx hG rfl) rfl (by decide)) (Nat.le_of_ble_eq_true rfl)) kX8_ownerAt rfl True.intro (T_X8_ownerAt (by omega) (axPs.sub hG (Nat.le_of_ble_eq_true rfl) (Nat.le_of_ble_eq_true rfl)) rfl) ?_
    refine x_iload_n (pc := 43) dX12_stonesBeside_43 rfl ?_
    refine x_iconst (pc := 44) dX12_stonesBeside_44 ⟨by decide, by decide⟩ ?_
    refine x_iaddw (pc := 45) dX12_stonesBeside_45 ?_
    refine x_icmpne (tgt := 52) (pc := 46) dX12_stonesBeside_46 rfl (fun h111 => ?_) (fun h111 => ?_)
    · replace hf := (if_neg h111).symm.trans hf
      refine x_iinc (z := (v6 + 1)) (ls' := [some (vR 150), some (vI x1), none, none, some (vI x4), some (vI v5), some (vI (v6 + 1))]) (pc := 52) dX12_stonesBeside_52 rfl (Nat.le_of_ble_eq_true rfl) rfl rfl (ax_i (by omega) (by omega)) rfl ?_
      refine x_goto (tgt := 18) (pc := 55) dX12_stonesBeside_55 rfl ?_
      cases hf
      exact h1 _ rfl
    · replace hf := (if_pos h111).symm.trans hf
      refine x_iincw (ls' := [some (vR 150), some (vI x1), none, none, some (vI x4), some (vI (wr (v5 + 1))), some (vI v6)]) (pc := 49) dX12_stonesBeside_49 rfl (Nat.le_of_ble_eq_true rfl) rfl rfl ?_
      refine x_iinc (z := (v6 + 1)) (ls' := [some (vR 150), some (vI x1), none, none, some (vI x4), some (vI (wr (v5 + 1))), some (vI (v6 + 1))]) (pc := 52) dX12_stonesBeside_52 rfl (Nat.le_of_ble_eq_true rfl) rfl rfl (ax_i (by omega) (by omega)) rfl ?_
      refine x_goto (tgt := 18) (pc := 55) dX12_stonesBeside_55 rfl ?_
      cases hf
      exact h1 _ rfl
theorem T_X12_stonesBeside {G : ax_G} {d : Nat} (hd : 7 ≤ d) (hG : axPs G 150 244) (hX : (gL G).stackTraces = false) {M : ax_M} {a1 : Int} {a2 : Int} {a3 : Int} {r : Int ⊕ String} {M1 : ax_M} (hf : fX12_stonesBeside M a1 a2 a3 = some (r, M1)) : ax_Ex G tX12_stonesBeside d 0 (ax_args [vR 150, vI a1, vI a2, vI a3] ++ List.replicate 3 none) [] M (oSI r) M1 := by
  show ax_Ex G tX12_stonesBeside d 0 [some (vR 150), some (vI a1), some (vI a2), some (vI a3), none, none, none] [] M _ _
  unfold fX12_stonesBeside at hf
  refine x_iload_n (pc := 0) dX12_stonesBeside_0 rfl ?_
  rcases bdT_some hf with ⟨v102, M103, r101, hf⟩ | ⟨E104, r101, ho⟩
  · skip
    refine x_cv (vs := [vI a1]) (rest := []) (k := 0) rfl (by omega) (ax_caS (pc := 1) dX12_stonesBeside_1 kX12_requirePlayer rfl rfl WM_X12_168 WT_X12_requirePlayer WN_X12 (Nat.le_of_ble_eq_true rfl)) kX12_requirePlayer rfl True.intro (T_X12_requirePlayer (by omega) hG hX r101) ?_
    refine x_aload_n (pc := 4) dX12_stonesBeside_4 rfl ?_
    refine x_iload_n (pc := 5) dX12_stonesBeside_5 rfl ?_
    refine x_iload_n (pc := 6) dX12_stonesBeside_6 rfl ?_
    rcases bdT_some hf with ⟨v106, M107, r105, hf⟩ | ⟨E108, r105, ho⟩
    · skip
      refine x_cr (v := vI v106) (vs := [vR 150, vI a2, vI a3]) (rest := []) (k := 1) rfl (by omega) (ax_caV (pc := 7) dX12_stonesBeside_7 kX12_requiredCell rfl rfl WM_X12_174 WI_X12_requiredCell WS_X12_requiredCell WN_X12 (ax_rcO (t := 10) (axEx hG rfl) rfl (by decide)) (Nat.le_of_ble_eq_true rfl)) kX12_requiredCell rfl True.intro (T_X12_requiredCell (by omega) hG hX r105) ?_
      refine x_istore (ls' := [some (vR 150), some (vI a1), some (vI a2), some (vI a3), some (vI v106), none, none]) (pc := 10) dX12_stonesBeside_10 (Nat.le_of_ble_eq_true rfl) rfl rfl ?_
      refine x_iconst (pc := 12) dX12_stonesBeside_12 ⟨by decide, by decide⟩ ?_
      refine x_istore (ls' := [some (vR 150), some (vI a1), some (vI a2), some (vI a3), some (vI v106), some (vI 0), none]) (pc := 13) dX12_stonesBeside_13 (Nat.le_of_ble_eq_true rfl) rfl rfl ?_
      refine x_iconst (pc := 15) dX12_stonesBeside_15 ⟨by decide, by decide⟩ ?_
      refine x_istore (ls' := [some (vR 150), some (vI a1), some (vI a2), some (vI a3), some (vI v106), some (vI 0), some (vI 0)]) (pc := 16) dX12_stonesBeside_16 (Nat.le_of_ble_eq_true rfl) rfl rfl ?_
      obtain ⟨t112, t113, hf⟩ := bd1_some hf
      refine x_fgt (axS' (axS' (axN' (axN' (axS' (axS' (axS' axD))))))) (lp_ex (P := (fun s => ax_Ex G tX12_stonesBeside d 18 [some (vR 150), some (vI a1), none, none, some (vI v106), some (vI s.1), some (vI s.2)] [] M107 _ _)) (K := (fun t => ax_Ex G tX12_stonesBeside d 58 [some (vR 150), some (vI a1), none, none, some (vI v106), some (vI t), none] [] M107 _ _)) (fun s y hy h1 h2 => B_X12_stonesBeside_18 (by omega) hG hy (fun s' e => h1 s' e) (fun t e => h2 t e)) _ _ _ t113 ?_)
      refine x_iload (pc := 58) dX12_stonesBeside_58 rfl ?_
      cases hf
      exact x_retI (pc := 60) dX12_stonesBeside_60
    · subst ho
      exact x_ct (vs := [vR 150, vI a2, vI a3]) (rest := []) (k := 1) rfl (by omega) (ax_caV (pc := 7) dX12_stonesBeside_7 kX12_requiredCell rfl rfl WM_X12_174 WI_X12_requiredCell WS_X12_requiredCell WN_X12 (ax_rcO (t := 10) (axEx hG rfl) rfl (by decide)) (Nat.le_of_ble_eq_true rfl)) kX12_requiredCell rfl rfl (T_X12_requiredCell (by omega) hG hX r105)
  · subst ho
    exact x_ct (vs := [vI a1]) (rest := []) (k := 0) rfl (by omega) (ax_caS (pc := 1) dX12_stonesBeside_1 kX12_requirePlayer rfl rfl WM_X12_168 WT_X12_requirePlayer WN_X12 (Nat.le_of_ble_eq_true rfl)) kX12_requirePlayer rfl rfl (T_X12_requirePlayer (by omega) hG hX r101)
/- HexPond.groupSize(II)I -/
def fX12_groupSize (M : ax_M) (a1 : Int) (a2 : Int) : Option ((Int ⊕ String) × ax_M) :=
  (bdT (fX12_requiredStone M a1 a2) fun v102 M103 => (bd2 (fX4_sizeAt M103 v102) fun v107 M106 => (some (.inl v107, M106))))
theorem T_X12_groupSize {G : ax_G} {d : Nat} (hd : 8 ≤ d) (hG : axPs G 150 244) (hX : (gL G).stackTraces = false) {M : ax_M} {a1 : Int} {a2 : Int} {r : Int ⊕ String} {M1 : ax_M} (hf : fX12_groupSize M a1 a2 = some (r, M1)) : ax_Ex G tX12_groupSize d 0 (ax_args [vR 150, vI a1, vI a2] ++ List.replicate 0 none) [] M (oSI r) M1 := by
  show ax_Ex G tX12_groupSize d 0 [some (vR 150), some (vI a1), some (vI a2)] [] M _ _
  unfold fX12_groupSize at hf
  refine x_aload_n (pc := 0) dX12_groupSize_0 rfl ?_
  refine x_getF (t := 10) (j := 5) (r := 176) (pc := 1) dX12_groupSize_1 (axH hG rfl) (axEx hG rfl) rfl (by decide) (by decide) rfl rfl WF_X12_60 ?_
  refine x_aload_n (pc := 4) dX12_groupSize_4 rfl ?_
  refine x_iload_n (pc := 5) dX12_groupSize_5 rfl ?_
  refine x_iload_n (pc := 6) dX12_groupSize_6 rfl ?_
  rcases bdT_some hf with ⟨v102, M103, r101, hf⟩ | ⟨E104, r101, ho⟩
  · skip
    refine x_cr (v := vI v102) (vs := [vR 150, vI a1, vI a2]) (rest := [vR 176]) (k := 1) rfl (by omega) (ax_caV (pc := 7) dX12_groupSize_7 kX12_requiredStone rfl rfl WM_X12_179 WI_X12_requiredStone WS_X12_requiredStone WN_X12 (ax_rcO (t := 10) (axEx hG rfl) rfl (by decide)) (Nat.le_of_ble_eq_true rfl)) kX12_requiredStone rfl True.intro (T_X12_requiredStone (by omega) hG hX r101) ?_
    obtain ⟨v107, M106, r105, hf⟩ := bd2_some hf
    refine x_cr (v := vI v107) (vs := [vR 176, vI v102]) (rest := []) (k := 0) rfl (by omega) (ax_caV (pc := 10) dX12_groupSize_10 kX4_sizeAt rfl rfl WM_X12_194 WI_X4_sizeAt WS_X4_sizeAt WN_X4 (ax_rcO (t := 3) (axEx hG rfl) rfl (by decide)) (Nat.le_of_ble_eq_true rfl)) kX4_sizeAt rfl True.intro (T_X4_sizeAt (by omega) hG r105) ?_
    cases hf
    exact x_retI (pc := 13) dX12_groupSize_13
  · subst ho
    exact x_ct (vs := [vR 150, vI a1, vI a2]) (rest := [vR 176]) (k := 1) rfl (by omega) (ax_caV (pc := 7) dX12_groupSize_7 kX12_requiredStone rfl rfl WM_X12_179 WI_X12_requiredStone WS_X12_requiredStone WN_X12 (ax_rcO (t := 10) (axEx hG rfl) rfl (by decide)) (Nat.le_of_ble_eq_true rfl)) kX12_requiredStone rfl rfl (T_X12_requiredStone (by omega) hG hX r101)
/- HexPond.shoresOf(II)I -/
def fX12_shoresOf (M : ax_M) (a1 : Int) (a2 : Int) : Option ((Int ⊕ String) × ax_M) :=
  (bdT (fX12_requiredStone M a1 a2) fun v102 M103 => (bd2 (fX4_shoresAt M103 v102) fun v107 M106 => (some (.inl v107, M106))))
theorem T_X12_shoresOf {G : ax_G} {d : Nat} (hd : 8 ≤ d) (hG : axPs G 150 244) (hX : (gL G).stackTraces = false) {M : ax_M} {a1 : Int} {a2 : Int} {r : Int ⊕ String} {M1 : ax_M} (hf : fX12_shoresOf M a1 a2 = some (r, M1)) : ax_Ex G tX12_shoresOf d 0 (ax_args [vR 150, vI a1, vI a2] ++ List.replicate 0 none) [] M (oSI r) M1 := by
  show ax_Ex G tX12_shoresOf d 0 [some (vR 150), some (vI a1), some (vI a2)] [] M _ _
  unfold fX12_shoresOf at hf
  refine x_aload_n (pc := 0) dX12_shoresOf_0 rfl ?_
  refine x_getF (t := 10) (j := 5) (r := 176) (pc := 1) dX12_shoresOf_1 (axH hG rfl) (axEx hG rfl) rfl (by decide) (by decide) rfl rfl WF_X12_60 ?_
  refine x_aload_n (pc := 4) dX12_shoresOf_4 rfl ?_
  refine x_iload_n (pc := 5) dX12_shoresOf_5 rfl ?_
  refine x_iload_n (pc := 6) dX12_shoresOf_6 rfl ?_
  rcases bdT_some hf with ⟨v102, M103, r101, hf⟩ | ⟨E104, r101, ho⟩
  · skip
    refine x_cr (v := vI v102) (vs := [vR 150, vI a1, vI a2]) (rest := [vR 176]) (k := 1) rfl (by omega) (ax_caV (pc := 7) dX12_shoresOf_7 kX12_requiredStone rfl rfl WM_X12_179 WI_X12_requiredStone WS_X12_requiredStone WN_X12 (ax_rcO (t := 10) (axEx hG rfl) rfl (by decide)) (Nat.le_of_ble_eq_true rfl)) kX12_requiredStone rfl True.intro (T_X12_requiredStone (by omega) hG hX r101) ?_
    obtain ⟨v107, M106, r105, hf⟩ := bd2_some hf
    refine x_cr (v := vI v107) (vs := [vR 176, vI v102]) (rest := []) (k := 3) rfl (by omega) (ax_caV (pc := 10) dX12_shoresOf_10 kX4_shoresAt rfl rfl WM_X12_197 WI_X4_shoresAt WS_X4_shoresAt WN_X4 (ax_rcO (t := 3) (axEx hG rfl) rfl (by decide)) (Nat.le_of_ble_eq_true rfl)) kX4_shoresAt rfl True.intro (T_X4_shoresAt (by omega) hG r105) ?_
    cases hf
    exact x_retI (pc := 13) dX12_shoresOf_13
  · subst ho
    exact x_ct (vs := [vR 150, vI a1, vI a2]) (rest := [vR 176]) (k := 1) rfl (by omega) (ax_caV (pc := 7) dX12_shoresOf_7 kX12_requiredStone rfl rfl WM_X12_179 WI_X12_requiredStone WS_X12_requiredStone WN_X12 (ax_rcO (t := 10) (axEx hG rfl) rfl (by decide)) (Nat.le_of_ble_eq_true rfl)) kX12_requiredStone rfl rfl (T_X12_requiredStone (by omega) hG hX r101)
/- HexPond.groupsOf(I)I -/
def fX12_groupsOf (M : ax_M) (a1 : Int) : Option ((Int ⊕ String) × ax_M) :=
  (bdT (fX12_requirePlayer M a1) fun v102 M103 => (bd1 (fX4_look M103 a1) fun M106 => (some (.inl (fX4_count M106), M106))))
theorem T_X12_groupsOf {G : ax_G} {d : Nat} (hd : 7 ≤ d) (hG : axPs G 150 244) (hX : (gL G).stackTraces = false) {M : ax_M} {a1 : Int} {r : Int ⊕ String} {M1 : ax_M} (hf : fX12_groupsOf M a1 = some (r, M1)) : ax_Ex G tX12_groupsOf d 0 (ax_args [vR 150, vI a1] ++ List.replicate 0 none) [] M (oSI r) M1 := by
  show ax_Ex G tX12_groupsOf d 0 [some (vR 150), some (vI a1)] [] M _ _
  unfold fX12_groupsOf at hf
  refine x_iload_n (pc := 0) dX12_groupsOf_0 rfl ?_
  rcases bdT_some hf with ⟨v102, M103, r101, hf⟩ | ⟨E104, r101, ho⟩
  · skip
    refine x_cv (vs := [vI a1]) (rest := []) (k := 0) rfl (by omega) (ax_caS (pc := 1) dX12_groupsOf_1 kX12_requirePlayer rfl rfl WM_X12_168 WT_X12_requirePlayer WN_X12 (Nat.le_of_ble_eq_true rfl)) kX12_requirePlayer rfl True.intro (T_X12_requirePlayer (by omega) hG hX r101) ?_
    refine x_aload_n (pc := 4) dX12_groupsOf_4 rfl ?_
    refine x_getF (t := 10) (j := 5) (r := 176) (pc := 5) dX12_groupsOf_5 (axH hG rfl) (axEx hG rfl) rfl (by decide) (by decide) rfl rfl WF_X12_60 ?_
    refine x_iload_n (pc := 8) dX12_groupsOf_8 rfl ?_
    obtain ⟨M106, r105, hf⟩ := bd1_some hf
    refine x_cv (vs := [vR 176, vI a1]) (rest := []) (k := 1) rfl (by omega) (ax_caV (pc := 9) dX12_groupsOf_9 kX4_look rfl rfl WM_X12_200 WI_X4_look WS_X4_look WN_X4 (ax_rcO (t := 3) (axEx hG rfl) rfl (by decide)) (Nat.le_of_ble_eq_true rfl)) kX4_look rfl True.intro (T_X4_look (by omega) hG r105) ?_
    refine x_aload_n (pc := 12) dX12_groupsOf_12 rfl ?_
    refine x_getF (t := 10) (j := 5) (r := 176) (pc := 13) dX12_groupsOf_13 (axH hG rfl) (axEx hG rfl) rfl (by decide) (by decide) rfl rfl WF_X12_60 ?_
    refine x_cr (v := vI (fX4_count M106)) (vs := [vR 176]) (rest := []) (k := 0) rfl (by omega) (ax_caV (pc := 16) dX12_groupsOf_16 kX4_count rfl rfl WM_X12_203 WI_X4_count WS_X4_count WN_X4 (ax_rcO (t := 3) (axEx hG rfl) rfl (by decide)) (Nat.le_of_ble_eq_true rfl)) kX4_count rfl True.intro (T_X4_count (by omega) hG rfl) ?_
    cases hf
    exact x_retI (pc := 19) dX12_groupsOf_19
  · subst ho
    exact x_ct (vs := [vI a1]) (rest := []) (k := 0) rfl (by omega) (ax_caS (pc := 1) dX12_groupsOf_1 kX12_requirePlayer rfl rfl WM_X12_168 WT_X12_requirePlayer WN_X12 (Nat.le_of_ble_eq_true rfl)) kX12_requirePlayer rfl rfl (T_X12_requirePlayer (by omega) hG hX r101)
/- HexPond.greatestGroup(I)I -/
def fX12_greatestGroup (M : ax_M) (a1 : Int) : Option ((Int ⊕ String) × ax_M) :=
  (bdT (fX12_requirePlayer M a1) fun v102 M103 => (bd1 (fX4_look M103 a1) fun M106 => (some (.inl (fX4_greatest M106), M106))))
theorem T_X12_greatestGroup {G : ax_G} {d : Nat} (hd : 7 ≤ d) (hG : axPs G 150 244) (hX : (gL G).stackTraces = false) {M : ax_M} {a1 : Int} {r : Int ⊕ String} {M1 : ax_M} (hf : fX12_greatestGroup M a1 = some (r, M1)) : ax_Ex G tX12_greatestGroup d 0 (ax_args [vR 150, vI a1] ++ List.replicate 0 none) [] M (oSI r) M1 := by
  show ax_Ex G tX12_greatestGroup d 0 [some (vR 150), some (vI a1)] [] M _ _
  unfold fX12_greatestGroup at hf
  refine x_iload_n (pc := 0) dX12_greatestGroup_0 rfl ?_
  rcases bdT_some hf with ⟨v102, M103, r101, hf⟩ | ⟨E104, r101, ho⟩
  · skip
    refine x_cv (vs := [vI a1]) (rest := []) (k := 0) rfl (by omega) (ax_caS (pc := 1) dX12_greatestGroup_1 kX12_requirePlayer rfl rfl WM_X12_168 WT_X12_requirePlayer WN_X12 (Nat.le_of_ble_eq_true rfl)) kX12_requirePlayer rfl True.intro (T_X12_requirePlayer (by omega) hG hX r101) ?_
    refine x_aload_n (pc := 4) dX12_greatestGroup_4 rfl ?_
    refine x_getF (t := 10) (j := 5) (r := 176) (pc := 5) dX12_greatestGroup_5 (axH hG rfl) (axEx hG rfl) rfl (by decide) (by decide) rfl rfl WF_X12_60 ?_
    refine x_iload_n (pc := 8) dX12_greatestGroup_8 rfl ?_
    obtain ⟨M106, r105, hf⟩ := bd1_some hf
    refine x_cv (vs := [vR 176, vI a1]) (rest := []) (k := 1) rfl (by omega) (ax_caV (pc := 9) dX12_greatestGroup_9 kX4_look rfl rfl WM_X12_200 WI_X4_look WS_X4_look WN_X4 (ax_rcO (t := 3) (axEx hG rfl) rfl (by decide)) (Nat.le_of_ble_eq_true rfl)) kX4_look rfl True.intro (T_X4_look (by omega) hG r105) ?_
    refine x_aload_n (pc := 12) dX12_greatestGroup_12 rfl ?_
    refine x_getF (t := 10) (j := 5) (r := 176) (pc := 13) dX12_greatestGroup_13 (axH hG rfl) (axEx hG rfl) rfl (by decide) (by decide) rfl rfl WF_X12_60 ?_
    refine x_cr (v := vI (fX4_greatest M106)) (vs := [vR 176]) (rest := []) (k := 0) rfl (by omega) (ax_caV (pc := 16) dX12_greatestGroup_16 kX4_greatest rfl rfl WM_X12_204 WI_X4_greatest WS_X4_greatest WN_X4 (ax_rcO (t := 3) (axEx hG rfl) rfl (by decide)) (Nat.le_of_ble_eq_true rfl)) kX4_greatest rfl True.intro (T_X4_greatest (by omega) hG rfl) ?_
    cases hf
    exact x_retI (pc := 19) dX12_greatestGroup_19
  · subst ho
    exact x_ct (vs := [vI a1]) (rest := []) (k := 0) rfl (by omega) (ax_caS (pc := 1) dX12_greatestGroup_1 kX12_requirePlayer rfl rfl WM_X12_168 WT_X12_requirePlayer WN_X12 (Nat.le_of_ble_eq_true rfl)) kX12_requirePlayer rfl rfl (T_X12_requirePlayer (by omega) hG hX r101)
/- HexPond.isBridge(II)Z -/
def fX12_isBridge (M : ax_M) (a1 : Int) (a2 : Int) : Option ((Int ⊕ String) × ax_M) :=
  (if (fX8_hasCell M a1) = 0 then (some (.inr "java/lang/IndexOutOfBoundsException", (mAl M 15 0 6))) else (if (fX8_hasCell M a2) = 0 then (some (.inr "java/lang/IndexOutOfBoundsException", (mAl M 15 0 6))) else (bd1 (fX1_isWhole M a1 a2) fun v104 => (some (.inl v104, M)))))
theorem T_X12_isBridge {G : ax_G} {d : Nat} (hd : 6 ≤ d) (hG : axPs G 150 244) (hX : (gL G).stackTraces = false) {M : ax_M} {a1 : Int} {a2 : Int} {r : Int ⊕ String} {M1 : ax_M} (hf : fX12_isBridge M a1 a2 = some (r, M1)) : ax_Ex G tX12_isBridge d 0 (ax_args [vR 150, vI a1, vI a2] ++ List.replicate 0 none) [] M (oSI r) M1 := by
  show ax_Ex G tX12_isBridge d 0 [some (vR 150), some (vI a1), some (vI a2)] [] M _ _
  unfold fX12_isBridge at hf
  refine x_aload_n (pc := 0) dX12_isBridge_0 rfl ?_
  refine x_getF (t := 10) (j := 4) (r := 169) (pc := 1) dX12_isBridge_1 (axH hG rfl) (axEx hG rfl) rfl (by decide) (by decide) rfl rfl WF_X12_51 ?_
  refine x_iload_n (pc := 4) dX12_isBridge_4 rfl ?_
  refine x_cr (v := vI (fX8_hasCell M a1)) (vs := [vR 169, vI a1]) (rest := []) (k := 0) rfl (by omega) (ax_caV (pc := 5) dX12_isBridge_5 kX8_hasCell rfl rfl WM_X12_207 WI_X8_hasCell WS_X8_hasCell WN_X8 (ax_rcO (t := 6) (axEx hG rfl) rfl (by decide)) (Nat.le_of_ble_eq_true rfl)) kX8_hasCell rfl (Z_X8_hasCell rfl) (T_X8_hasCell (by omega) (axPs.sub hG (Nat.le_of_ble_eq_true rfl) (Nat.le_of_ble_eq_true rfl)) rfl) ?_
  refine x_ifeq (tgt := 22) (pc := 8) dX12_isBridge_8 rfl (fun h101 => ?_) (fun h101 => ?_)
  · replace hf := (if_pos h101).symm.trans hf
    cases hf
    exact x_throw (pc := 22) (ci := 15) tw_X12_211_213 rfl ⟨by decide, by decide⟩ rfl (axH hG rfl) hX dX12_isBridge_22 dX12_isBridge_25 dX12_isBridge_26 dX12_isBridge_28 dX12_isBridge_31 (by decide) (by omega)
  · replace hf := (if_neg h101).symm.trans hf
    refine x_aload_n (pc := 11) dX12_isBridge_11 rfl ?_
    refine x_getF (t := 10) (j := 4) (r := 169) (pc := 12) dX12_isBridge_12 (axH hG rfl) (axEx hG rfl) rfl (by decide) (by decide) rfl rfl WF_X12_51 ?_
    refine x_iload_n (pc := 15) dX12_isBridge_15 rfl ?_
    refine x_cr (v := vI (fX8_hasCell M a2)) (vs := [vR 169, vI a2]) (rest := []) (k := 0) rfl (by omega) (ax_caV (pc := 16) dX12_isBridge_16 kX8_hasCell rfl rfl WM_X12_207 WI_X8_hasCell WS_X8_hasCell WN_X8 (ax_rcO (t := 6) (axEx hG rfl) rfl (by decide)) (Nat.le_of_ble_eq_true rfl)) kX8_hasCell rfl (Z_X8_hasCell rfl) (T_X8_hasCell (by omega) (axPs.sub hG (Nat.le_of_ble_eq_true rfl) (Nat.le_of_ble_eq_true rfl)) rfl) ?_
    refine x_ifne (tgt := 32) (pc := 19) dX12_isBridge_19 rfl (fun h102 => ?_) (fun h102 => ?_)
    · replace hf := (if_neg h102).symm.trans hf
      refine x_aload_n (pc := 32) dX12_isBridge_32 rfl ?_
      refine x_getF (t := 10) (j := 6) (r := 179) (pc := 33) dX12_isBridge_33 (axH hG rfl) (axEx hG rfl) rfl (by decide) (by decide) rfl rfl WF_X12_67 ?_
      refine x_iload_n (pc := 36) dX12_isBridge_36 rfl ?_
      refine x_iload_n (pc := 37) dX12_isBridge_37 rfl ?_
      obtain ⟨v104, r103, hf⟩ := bd1_some hf
      refine x_cr (v := vI v104) (vs := [vR 179, vI a1, vI a2]) (rest := []) (k := 1) rfl (by omega) (ax_caV (pc := 38) dX12_isBridge_38 kX1_isWhole rfl rfl WM_X12_216 WI_X1_isWhole WS_X1_isWhole WN_X1 (ax_rcO (t := 0) (axEx hG rfl) rfl (by decide)) (Nat.le_of_ble_eq_true rfl)) kX1_isWhole rfl (Z_X1_isWhole r103) (T_X1_isWhole (by omega) hG r103) ?_
      cases hf
      exact x_retI (pc := 41) dX12_isBridge_41
    · replace hf := (if_pos h102).symm.trans hf
      cases hf
      exact x_throw (pc := 22) (ci := 15) tw_X12_211_213 rfl ⟨by decide, by decide⟩ rfl (axH hG rfl) hX dX12_isBridge_22 dX12_isBridge_25 dX12_isBridge_26 dX12_isBridge_28 dX12_isBridge_31 (by decide) (by omega)
theorem Z_X12_isBridge {M : ax_M} {a1 : Int} {a2 : Int} {r : Int} {M1 : ax_M} (hf : fX12_isBridge M a1 a2 = some (.inl r, M1)) : r = 0 ∨ r = 1 := by
  unfold fX12_isBridge at hf
  by_cases h101 : (fX8_hasCell M a1) = 0
  · replace hf := (if_pos h101).symm.trans hf
    cases hf
  · replace hf := (if_neg h101).symm.trans hf
    by_cases h102 : (fX8_hasCell M a2) = 0
    · replace hf := (if_pos h102).symm.trans hf
      cases hf
    · replace hf := (if_neg h102).symm.trans hf
      obtain ⟨v104, r103, hf⟩ := bd1_some hf
      cases hf
      exact (Z_X1_isWhole r103)
/- HexPond.bridgesOf(I)I -/
def fX12_bridgesOf (M : ax_M) (a1 : Int) : Option ((Int ⊕ String) × ax_M) :=
  (bdT (fX12_requirePlayer M a1) fun v102 M103 => (bd1 (fX1_look M103) fun M106 => (some (.inl (fX1_whole M106 a1), M106))))
theorem T_X12_bridgesOf {G : ax_G} {d : Nat} (hd : 7 ≤ d) (hG : axPs G 150 244) (hX : (gL G).stackTraces = false) {M : ax_M} {a1 : Int} {r : Int ⊕ String} {M1 : ax_M} (hf : fX12_bridgesOf M a1 = some (r, M1)) : ax_Ex G tX12_bridgesOf d 0 (ax_args [vR 150, vI a1] ++ List.replicate 0 none) [] M (oSI r) M1 := by
  show ax_Ex G tX12_bridgesOf d 0 [some (vR 150), some (vI a1)] [] M _ _
  unfold fX12_bridgesOf at hf
  refine x_iload_n (pc := 0) dX12_bridgesOf_0 rfl ?_
  rcases bdT_some hf with ⟨v102, M103, r101, hf⟩ | ⟨E104, r101, ho⟩
  · skip
    refine x_cv (vs := [vI a1]) (rest := []) (k := 0) rfl (by omega) (ax_caS (pc := 1) dX12_bridgesOf_1 kX12_requirePlayer rfl rfl WM_X12_168 WT_X12_requirePlayer WN_X12 (Nat.le_of_ble_eq_true rfl)) kX12_requirePlayer rfl True.intro (T_X12_requirePlayer (by omega) hG hX r101) ?_
    refine x_aload_n (pc := 4) dX12_bridgesOf_4 rfl ?_
    refine x_getF (t := 10) (j := 6) (r := 179) (pc := 5) dX12_bridgesOf_5 (axH hG rfl) (axEx hG rfl) rfl (by decide) (by decide) rfl rfl WF_X12_67 ?_
    obtain ⟨M106, r105, hf⟩ := bd1_some hf
    refine x_cv (vs := [vR 179]) (rest := []) (k := 2) rfl (by omega) (ax_caV (pc := 8) dX12_bridgesOf_8 kX1_look rfl rfl WM_X12_220 WI_X1_look WS_X1_look WN_X1 (ax_rcO (t := 0) (axEx hG rfl) rfl (by decide)) (Nat.le_of_ble_eq_true rfl)) kX1_look rfl True.intro (T_X1_look (by omega) hG r105) ?_
    refine x_aload_n (pc := 11) dX12_bridgesOf_11 rfl ?_
    refine x_getF (t := 10) (j := 6) (r := 179) (pc := 12) dX12_bridgesOf_12 (axH hG rfl) (axEx hG rfl) rfl (by decide) (by decide) rfl rfl WF_X12_67 ?_
    refine x_iload_n (pc := 15) dX12_bridgesOf_15 rfl ?_
    refine x_cr (v := vI (fX1_whole M106 a1)) (vs := [vR 179, vI a1]) (rest := []) (k := 0) rfl (by omega) (ax_caV (pc := 16) dX12_bridgesOf_16 kX1_whole rfl rfl WM_X12_222 WI_X1_whole WS_X1_whole WN_X1 (ax_rcO (t := 0) (axEx hG rfl) rfl (by decide)) (Nat.le_of_ble_eq_true rfl)) kX1_whole rfl True.intro (T_X1_whole (by omega) hG rfl) ?_
    cases hf
    exact x_retI (pc := 19) dX12_bridgesOf_19
  · subst ho
    exact x_ct (vs := [vI a1]) (rest := []) (k := 0) rfl (by omega) (ax_caS (pc := 1) dX12_bridgesOf_1 kX12_requirePlayer rfl rfl WM_X12_168 WT_X12_requirePlayer WN_X12 (Nat.le_of_ble_eq_true rfl)) kX12_requirePlayer rfl rfl (T_X12_requirePlayer (by omega) hG hX r101)
/- HexPond.brokenBridgesOf(I)I -/
def fX12_brokenBridgesOf (M : ax_M) (a1 : Int) : Option ((Int ⊕ String) × ax_M) :=
  (bdT (fX12_requirePlayer M a1) fun v102 M103 => (bd1 (fX1_look M103) fun M106 => (some (.inl (fX1_broken M106 a1), M106))))
theorem T_X12_brokenBridgesOf {G : ax_G} {d : Nat} (hd : 7 ≤ d) (hG : axPs G 150 244) (hX : (gL G).stackTraces = false) {M : ax_M} {a1 : Int} {r : Int ⊕ String} {M1 : ax_M} (hf : fX12_brokenBridgesOf M a1 = some (r, M1)) : ax_Ex G tX12_brokenBridgesOf d 0 (ax_args [vR 150, vI a1] ++ List.replicate 0 none) [] M (oSI r) M1 := by
  show ax_Ex G tX12_brokenBridgesOf d 0 [some (vR 150), some (vI a1)] [] M _ _
  unfold fX12_brokenBridgesOf at hf
  refine x_iload_n (pc := 0) dX12_brokenBridgesOf_0 rfl ?_
  rcases bdT_some hf with ⟨v102, M103, r101, hf⟩ | ⟨E104, r101, ho⟩
  · skip
    refine x_cv (vs := [vI a1]) (rest := []) (k := 0) rfl (by omega) (ax_caS (pc := 1) dX12_brokenBridgesOf_1 kX12_requirePlayer rfl rfl WM_X12_168 WT_X12_requirePlayer WN_X12 (Nat.le_of_ble_eq_true rfl)) kX12_requirePlayer rfl True.intro (T_X12_requirePlayer (by omega) hG hX r101) ?_
    refine x_aload_n (pc := 4) dX12_brokenBridgesOf_4 rfl ?_
    refine x_getF (t := 10) (j := 6) (r := 179) (pc := 5) dX12_brokenBridgesOf_5 (axH hG rfl) (axEx hG rfl) rfl (by decide) (by decide) rfl rfl WF_X12_67 ?_
    obtain ⟨M106, r105, hf⟩ := bd1_some hf
    refine x_cv (vs := [vR 179]) (rest := []) (k := 2) rfl (by omega) (ax_caV (pc := 8) dX12_brokenBridgesOf_8 kX1_look rfl rfl WM_X12_220 WI_X1_look WS_X1_look WN_X1 (ax_rcO (t := 0) (axEx hG rfl) rfl (by decide)) (Nat.le_of_ble_eq_true rfl)) kX1_look rfl True.intro (T_X1_look (by omega) hG r105) ?_
    refine x_aload_n (pc := 11) dX12_brokenBridgesOf_11 rfl ?_
    refine x_getF (t := 10) (j := 6) (r := 179) (pc := 12) dX12_brokenBridgesOf_12 (axH hG rfl) (axEx hG rfl) rfl (by decide) (by decide) rfl rfl WF_X12_67 ?_
    refine x_iload_n (pc := 15) dX12_brokenBridgesOf_15 rfl ?_
    refine x_cr (v := vI (fX1_broken M106 a1)) (vs := [vR 179, vI a1]) (rest := []) (k := 0) rfl (by omega) (ax_caV (pc := 16) dX12_brokenBridgesOf_16 kX1_broken rfl rfl WM_X12_225 WI_X1_broken WS_X1_broken WN_X1 (ax_rcO (t := 0) (axEx hG rfl) rfl (by decide)) (Nat.le_of_ble_eq_true rfl)) kX1_broken rfl True.intro (T_X1_broken (by omega) hG rfl) ?_
    cases hf
    exact x_retI (pc := 19) dX12_brokenBridgesOf_19
  · subst ho
    exact x_ct (vs := [vI a1]) (rest := []) (k := 0) rfl (by omega) (ax_caS (pc := 1) dX12_brokenBridgesOf_1 kX12_requirePlayer rfl rfl WM_X12_168 WT_X12_requirePlayer WN_X12 (Nat.le_of_ble_eq_true rfl)) kX12_requirePlayer rfl rfl (T_X12_requirePlayer (by omega) hG hX r101)
/- HexPond.isFrozen(II)Z -/
def fX12_isFrozen (M : ax_M) (a1 : Int) (a2 : Int) : Option ((Int ⊕ String) × ax_M) :=
  (bdT (fX12_requiredCell M a1 a2) fun v102 M103 => (bd1 (fX8_isIced M103 v102) fun v106 => (some (.inl v106, M103))))
theorem T_X12_isFrozen {G : ax_G} {d : Nat} (hd : 7 ≤ d) (hG : axPs G 150 244) (hX : (gL G).stackTraces = false) {M : ax_M} {a1 : Int} {a2 : Int} {r : Int ⊕ String} {M1 : ax_M} (hf : fX12_isFrozen M a1 a2 = some (r, M1)) : ax_Ex G tX12_isFrozen d 0 (ax_args [vR 150, vI a1, vI a2] ++ List.replicate 0 none) [] M (oSI r) M1 := by
  show ax_Ex G tX12_isFrozen d 0 [some (vR 150), some (vI a1), some (vI a2)] [] M _ _
  unfold fX12_isFrozen at hf
  refine x_aload_n (pc := 0) dX12_isFrozen_0 rfl ?_
  refine x_getF (t := 10) (j := 4) (r := 169) (pc := 1) dX12_isFrozen_1 (axH hG rfl) (axEx hG rfl) rfl (by decide) (by decide) rfl rfl WF_X12_51 ?_
  refine x_aload_n (pc := 4) dX12_isFrozen_4 rfl ?_
  refine x_iload_n (pc := 5) dX12_isFrozen_5 rfl ?_
  refine x_iload_n (pc := 6) dX12_isFrozen_6 rfl ?_
  rcases bdT_some hf with ⟨v102, M103, r101, hf⟩ | ⟨E104, r101, ho⟩
  · skip
    refine x_cr (v := vI v102) (vs := [vR 150, vI a1, vI a2]) (rest := [vR 169]) (k := 1) rfl (by omega) (ax_caV (pc := 7) dX12_isFrozen_7 kX12_requiredCell rfl rfl WM_X12_174 WI_X12_requiredCell WS_X12_requiredCell WN_X12 (ax_rcO (t := 10) (axEx hG rfl) rfl (by decide)) (Nat.le_of_ble_eq_true rfl)) kX12_requiredCell rfl True.intro (T_X12_requiredCell (by omega) hG hX r101) ?_
    obtain ⟨v106, r105, hf⟩ := bd1_some hf
    refine x_cr (v := vI v106) (vs := [vR 169, vI v102]) (rest := []) (k := 4) rfl (by omega) (ax_caV (pc := 10) dX12_isFrozen_10 kX8_isIced rfl rfl WM_X12_228 WI_X8_isIced WS_X8_isIced WN_X8 (ax_rcO (t := 6) (axEx hG rfl) rfl (by decide)) (Nat.le_of_ble_eq_true rfl)) kX8_isIced rfl (Z_X8_isIced r105) (T_X8_isIced (by omega) (axPs.sub hG (Nat.le_of_ble_eq_true rfl) (Nat.le_of_ble_eq_true rfl)) r105) ?_
    cases hf
    exact x_retI (pc := 13) dX12_isFrozen_13
  · subst ho
    exact x_ct (vs := [vR 150, vI a1, vI a2]) (rest := [vR 169]) (k := 1) rfl (by omega) (ax_caV (pc := 7) dX12_isFrozen_7 kX12_requiredCell rfl rfl WM_X12_174 WI_X12_requiredCell WS_X12_requiredCell WN_X12 (ax_rcO (t := 10) (axEx hG rfl) rfl (by decide)) (Nat.le_of_ble_eq_true rfl)) kX12_requiredCell rfl rfl (T_X12_requiredCell (by omega) hG hX r101)
theorem Z_X12_isFrozen {M : ax_M} {a1 : Int} {a2 : Int} {r : Int} {M1 : ax_M} (hf : fX12_isFrozen M a1 a2 = some (.inl r, M1)) : r = 0 ∨ r = 1 := by
  unfold fX12_isFrozen at hf
  rcases bdT_some hf with ⟨v102, M103, r101, hf⟩ | ⟨E104, r101, ho⟩
  · skip
    obtain ⟨v106, r105, hf⟩ := bd1_some hf
    cases hf
    exact (Z_X8_isIced r105)
  · cases ho
/- HexPond.frozenCells()I -/
def fX12_frozenCells_b4 (M : ax_M) (v1 : Int) (v2 : Int) : Option ((Int × Int) ⊕ Int) :=
  (if v2 < (fX8_cells M) then (bd1 (fX8_isIced M v2) fun v104 => (if v104 = 0 then (some (.inl (v1, (v2 + 1)))) else (some (.inl ((wr (v1 + 1)), (v2 + 1)))))) else (some (.inr v1)))
def fX12_frozenCells (M : ax_M) : Option Int :=
  (bd1 (lp (fun s => fX12_frozenCells_b4 M s.1 s.2) lpN (0, 0)) fun t106 => (some t106))
theorem B_X12_frozenCells_4 {G : ax_G} {d : Nat} (hd : 3 ≤ d) (hG : axPs G 150 244) {M : ax_M} {v1 : Int} {v2 : Int} {o : Option ax_V ⊕ String} {M' : ax_M} {y : (Int × Int) ⊕ Int} (hf : fX12_frozenCells_b4 M v1 v2 = some y) (h1 : ∀ s', y = .inl s' → ax_Ex G tX12_frozenCells d 4 [some (vR 150), some (vI s'.1), some (vI s'.2)] [] M o M') (h2a : ∀ t, y = .inr t → ax_Ex G tX12_frozenCells d 35 [some (vR 150), some (vI t), none] [] M o M') : ax_Ex G tX12_frozenCells d 4 [some (vR 150), some (vI v1), some (vI v2)] [] M o M' := by
  unfold fX12_frozenCells_b4 at hf
  refine x_iload_n (pc := 4) dX12_frozenCells_4 rfl ?_
  refine x_aload_n (pc := 5) dX12_frozenCells_5 rfl ?_
  refine x_getF (t := 10) (j := 4) (r := 169) (pc := 6) dX12_frozenCells_6 (axH hG rfl) (axEx hG rfl) rfl (by decide) (by decide) rfl rfl WF_X12_51 ?_
  refine x_cr (v := vI (fX8_cells M)) (vs := [vR 169]) (rest := [vI v2]) (k := 0) rfl (by omega) (ax_caV (pc := 9) dX12_frozenCells_9 kX8_cells rfl rfl WM_X12_148 WI_X8_cells WS_X8_cells WN_X8 (ax_rcO (t := 6) (axEx hG rfl) rfl (by decide)) (Nat.le_of_ble_eq_true rfl)) kX8_cells rfl True.intro (T_X8_cells (by omega) (axPs.sub hG (Nat.le_of_ble_eq_true rfl) (Nat.le_of_ble_eq_true rfl)) rfl) ?_
  refine ax_cmp (fun b102a b102b b102c b102e => ?_)
  refine x_icmpge (tgt := 35) (pc := 12) dX12_frozenCells_12 rfl (fun h101 => ?_) (fun h101 => ?_)
  · replace hf := (if_neg (Int.not_lt.mpr h101)).symm.trans hf
    cases hf
    exact x_fgt (axS' (axS' (axN' axD))) (h2a _ rfl)
  · replace hf := (if_pos h101).symm.trans hf
    refine x_aload_n (pc := 15) dX12_frozenCells_15 rfl ?_
    refine x_getF (t := 10) (j := 4) (r := 169) (pc := 16) dX12_frozenCells_16 (axH hG rfl) (axEx hG rfl) rfl (by decide) (by decide) rfl rfl WF_X12_51 ?_
    refine x_iload_n (pc := 19) dX12_frozenCells_19 rfl ?_
    obtain ⟨v104, r103, hf⟩ := bd1_some hf
    refine x_cr (v := vI v104) (vs := [vR 169, vI v2]) (rest := []) (k := 4) rfl (by omega) (ax_caV (pc := 20) dX12_frozenCells_20 kX8_isIced rfl rfl WM_X12_228 WI_X8_isIced WS_X8_isIced WN_X8 (ax_rcO (t := 6) (axEx hG rfl) rfl (by decide)) (Nat.le_of_ble_eq_true rfl)) kX8_isIced rfl (Z_X8_isIced r103) (T_X8_isIced (by omega) (axPs.sub hG (Nat.le_of_ble_eq_true rfl) (Nat.le_of_ble_eq_true rfl)) r103) ?_
    refine x_ifeq (tgt := 29) (pc := 23) dX12_frozenCells_23 rfl (fun h105 => ?_) (fun h105 => ?_)
    · replace hf := (if_pos h105).symm.trans hf
      refine x_iinc (z := (v2 + 1)) (ls' := [some (vR 150), some (vI v1), some (vI (v2 + 1))]) (pc := 29) dX12_frozenCells_29 rfl (Nat.le_of_ble_eq_true rfl) rfl rfl (ax_i (by omega) (by omega)) rfl ?_
      refine x_goto (tgt := 4) (pc := 32) dX12_frozenCells_32 rfl ?_
      cases hf
      exact h1 _ rfl
    · replace hf := (if_neg h105).symm.trans hf
      refine x_iincw (ls' := [some (vR 150), some (vI (wr (v1 + 1))), some (vI v2)]) (pc := 26) dX12_frozenCells_26 rfl (Nat.le_of_ble_eq_true rfl) rfl rfl ?_
      refine x_iinc (z := (v2 + 1)) (ls' := [some (vR 150), some (vI (wr (v1 + 1))), some (vI (v2 + 1))]) (pc := 29) dX12_frozenCells_29 rfl (Nat.le_of_ble_eq_true rfl) rfl rfl (ax_i (by omega) (by omega)) rfl ?_
      refine x_goto (tgt := 4) (pc := 32) dX12_frozenCells_32 rfl ?_
      cases hf
      exact h1 _ rfl
theorem T_X12_frozenCells {G : ax_G} {d : Nat} (hd : 3 ≤ d) (hG : axPs G 150 244) {M : ax_M} {r : Int} (hf : fX12_frozenCells M = some r) : ax_Ex G tX12_frozenCells d 0 (ax_args [vR 150] ++ List.replicate 2 none) [] M (.inl (some (vI r))) M := by
  show ax_Ex G tX12_frozenCells d 0 [some (vR 150), none, none] [] M _ _
  unfold fX12_frozenCells at hf
  refine x_iconst (pc := 0) dX12_frozenCells_0 ⟨by decide, by decide⟩ ?_
  refine x_istore_n (ls' := [some (vR 150), some (vI 0), none]) (pc := 1) dX12_frozenCells_1 (Nat.le_of_ble_eq_true rfl) rfl rfl ?_
  refine x_iconst (pc := 2) dX12_frozenCells_2 ⟨by decide, by decide⟩ ?_
  refine x_istore_n (ls' := [some (vR 150), some (vI 0), some (vI 0)]) (pc := 3) dX12_frozenCells_3 (Nat.le_of_ble_eq_true rfl) rfl rfl ?_
  obtain ⟨t106, t107, hf⟩ := bd1_some hf
  refine lp_ex (P := (fun s => ax_Ex G tX12_frozenCells d 4 [some (vR 150), some (vI s.1), some (vI s.2)] [] M _ _)) (K := (fun t => ax_Ex G tX12_frozenCells d 35 [some (vR 150), some (vI t), none] [] M _ _)) (fun s y hy h1 h2 => B_X12_frozenCells_4 (by omega) hG hy (fun s' e => h1 s' e) (fun t e => h2 t e)) _ _ _ t107 ?_
  refine x_iload_n (pc := 35) dX12_frozenCells_35 rfl ?_
  cases hf
  exact x_retI (pc := 36) dX12_frozenCells_36
/- HexPond.stonesNeeded(I)I -/
def fX12_stonesNeeded (M : ax_M) (a1 : Int) : Option ((Int ⊕ String) × ax_M) :=
  (bdT (fX12_requirePlayer M a1) fun v102 M103 => (bd1 (fX11_look M103) fun M106 => (if (fX11_needed M106 a1) = 99 then (some (.inr "java/lang/IllegalStateException", (mAl M106 13 0 6))) else (some (.inl (fX11_needed M106 a1), M106)))))
theorem T_X12_stonesNeeded {G : ax_G} {d : Nat} (hd : 7 ≤ d) (hG : axPs G 150 244) (hX : (gL G).stackTraces = false) {M : ax_M} {a1 : Int} {r : Int ⊕ String} {M1 : ax_M} (hf : fX12_stonesNeeded M a1 = some (r, M1)) : ax_Ex G tX12_stonesNeeded d 0 (ax_args [vR 150, vI a1] ++ List.replicate 1 none) [] M (oSI r) M1 := by
  show ax_Ex G tX12_stonesNeeded d 0 [some (vR 150), some (vI a1), none] [] M _ _
  unfold fX12_stonesNeeded at hf
  refine x_iload_n (pc := 0) dX12_stonesNeeded_0 rfl ?_
  rcases bdT_some hf with ⟨v102, M103, r101, hf⟩ | ⟨E104, r101, ho⟩
  · skip
    refine x_cv (vs := [vI a1]) (rest := []) (k := 0) rfl (by omega) (ax_caS (pc := 1) dX12_stonesNeeded_1 kX12_requirePlayer rfl rfl WM_X12_168 WT_X12_requirePlayer WN_X12 (Nat.le_of_ble_eq_true rfl)) kX12_requirePlayer rfl True.intro (T_X12_requirePlayer (by omega) hG hX r101) ?_
    refine x_aload_n (pc := 4) dX12_stonesNeeded_4 rfl ?_
    refine x_getF (t := 10) (j := 7) (r := 183) (pc := 5) dX12_stonesNeeded_5 (axH hG rfl) (axEx hG rfl) rfl (by decide) (by decide) rfl rfl WF_X12_74 ?_
    obtain ⟨M106, r105, hf⟩ := bd1_some hf
    refine x_cv (vs := [vR 183]) (rest := []) (k := 1) rfl (by omega) (ax_caV (pc := 8) dX12_stonesNeeded_8 kX11_look rfl rfl WM_X12_231 WI_X11_look WS_X11_look WN_X11 (ax_rcO (t := 9) (axEx hG rfl) rfl (by decide)) (Nat.le_of_ble_eq_true rfl)) kX11_look rfl True.intro (T_X11_look (by omega) hG r105) ?_
    refine x_aload_n (pc := 11) dX12_stonesNeeded_11 rfl ?_
    refine x_getF (t := 10) (j := 7) (r := 183) (pc := 12) dX12_stonesNeeded_12 (axH hG rfl) (axEx hG rfl) rfl (by decide) (by decide) rfl rfl WF_X12_74 ?_
    refine x_iload_n (pc := 15) dX12_stonesNeeded_15 rfl ?_
    refine x_cr (v := vI (fX11_needed M106 a1)) (vs := [vR 183, vI a1]) (rest := []) (k := 0) rfl (by omega) (ax_caV (pc := 16) dX12_stonesNeeded_16 kX11_needed rfl rfl WM_X12_232 WI_X11_needed WS_X11_needed WN_X11 (ax_rcO (t := 9) (axEx hG rfl) rfl (by decide)) (Nat.le_of_ble_eq_true rfl)) kX11_needed rfl True.intro (T_X11_needed (by omega) hG rfl) ?_
    refine x_istore_n (ls' := [some (vR 150), some (vI a1), some (vI (fX11_needed M106 a1))]) (pc := 19) dX12_stonesNeeded_19 (Nat.le_of_ble_eq_true rfl) rfl rfl ?_
    refine x_iload_n (pc := 20) dX12_stonesNeeded_20 rfl ?_
    refine x_bipush (pc := 21) dX12_stonesNeeded_21 (by decide) ⟨by decide, by decide⟩ ?_
    refine x_icmpne (tgt := 36) (pc := 23) dX12_stonesNeeded_23 rfl (fun h107 => ?_) (fun h107 => ?_)
    · replace hf := (if_neg h107).symm.trans hf
      refine x_iload_n (pc := 36) dX12_stonesNeeded_36 rfl ?_
      cases hf
      exact x_retI (pc := 37) dX12_stonesNeeded_37
    · replace hf := (if_pos h107).symm.trans hf
      cases hf
      exact x_throw (pc := 26) (ci := 13) tw_X12_98_235 rfl ⟨by decide, by decide⟩ rfl (axH hG rfl) hX dX12_stonesNeeded_26 dX12_stonesNeeded_29 dX12_stonesNeeded_30 dX12_stonesNeeded_32 dX12_stonesNeeded_35 (by decide) (by omega)
  · subst ho
    exact x_ct (vs := [vI a1]) (rest := []) (k := 0) rfl (by omega) (ax_caS (pc := 1) dX12_stonesNeeded_1 kX12_requirePlayer rfl rfl WM_X12_168 WT_X12_requirePlayer WN_X12 (Nat.le_of_ble_eq_true rfl)) kX12_requirePlayer rfl rfl (T_X12_requirePlayer (by omega) hG hX r101)
/- HexPond.stonesNeededThrough(III)I -/
def fX12_stonesNeededThrough (M : ax_M) (a1 : Int) (a2 : Int) (a3 : Int) : Option ((Int ⊕ String) × ax_M) :=
  (bdT (fX12_requirePlayer M a1) fun v102 M103 => (bdT (fX12_requiredCell M103 a2 a3) fun v106 M107 => (bd1 (fX11_look M107) fun M110 => (if (fX11_through M110 a1 v106) = (-1) then (some (.inr "java/lang/IllegalStateException", (mAl M110 13 0 6))) else (some (.inl (fX11_through M110 a1 v106), M110))))))
theorem T_X12_stonesNeededThrough {G : ax_G} {d : Nat} (hd : 7 ≤ d) (hG : axPs G 150 244) (hX : (gL G).stackTraces = false) {M : ax_M} {a1 : Int} {a2 : Int} {a3 : Int} {r : Int ⊕ String} {M1 : ax_M} (hf : fX12_stonesNeededThrough M a1 a2 a3 = some (r, M1)) : ax_Ex G tX12_stonesNeededThrough d 0 (ax_args [vR 150, vI a1, vI a2, vI a3] ++ List.replicate 2 none) [] M (oSI r) M1 := by
  show ax_Ex G tX12_stonesNeededThrough d 0 [some (vR 150), some (vI a1), some (vI a2), some (vI a3), none, none] [] M _ _
  unfold fX12_stonesNeededThrough at hf
  refine x_iload_n (pc := 0) dX12_stonesNeededThrough_0 rfl ?_
  rcases bdT_some hf with ⟨v102, M103, r101, hf⟩ | ⟨E104, r101, ho⟩
  · skip
    refine x_cv (vs := [vI a1]) (rest := []) (k := 0) rfl (by omega) (ax_caS (pc := 1) dX12_stonesNeededThrough_1 kX12_requirePlayer rfl rfl WM_X12_168 WT_X12_requirePlayer WN_X12 (Nat.le_of_ble_eq_true rfl)) kX12_requirePlayer rfl True.intro (T_X12_requirePlayer (by omega) hG hX r101) ?_
    refine x_aload_n (pc := 4) dX12_stonesNeededThrough_4 rfl ?_
    refine x_iload_n (pc := 5) dX12_stonesNeededThrough_5 rfl ?_
    refine x_iload_n (pc := 6) dX12_stonesNeededThrough_6 rfl ?_
    rcases bdT_some hf with ⟨v106, M107, r105, hf⟩ | ⟨E108, r105, ho⟩
    · skip
      refine x_cr (v := vI v106) (vs := [vR 150, vI a2, vI a3]) (rest := []) (k := 1) rfl (by omega) (ax_caV (pc := 7) dX12_stonesNeededThrough_7 kX12_requiredCell rfl rfl WM_X12_174 WI_X12_requiredCell WS_X12_requiredCell WN_X12 (ax_rcO (t := 10) (axEx hG rfl) rfl (by decide)) (Nat.le_of_ble_eq_true rfl)) kX12_requiredCell rfl True.intro (T_X12_requiredCell (by omega) hG hX r105) ?_
      refine x_istore (ls' := [some (vR 150), some (vI a1), some (vI a2), some (vI a3), some (vI v106), none]) (pc := 10) dX12_stonesNeededThrough_10 (Nat.le_of_ble_eq_true rfl) rfl rfl ?_
      refine x_aload_n (pc := 12) dX12_stonesNeededThrough_12 rfl ?_
      refine x_getF (t := 10) (j := 7) (r := 183) (pc := 13) dX12_stonesNeededThrough_13 (axH hG rfl) (axEx hG rfl) rfl (by decide) (by decide) rfl rfl WF_X12_74 ?_
      obtain ⟨M110, r109, hf⟩ := bd1_some hf
      refine x_cv (vs := [vR 183]) (rest := []) (k := 1) rfl (by omega) (ax_caV (pc := 16) dX12_stonesNeededThrough_16 kX11_look rfl rfl WM_X12_231 WI_X11_look WS_X11_look WN_X11 (ax_rcO (t := 9) (axEx hG rfl) rfl (by decide)) (Nat.le_of_ble_eq_true rfl)) kX11_look rfl True.intro (T_X11_look (by omega) hG r109) ?_
      refine x_aload_n (pc := 19) dX12_stonesNeededThrough_19 rfl ?_
      refine x_getF (t := 10) (j := 7) (r := 183) (pc := 20) dX12_stonesNeededThrough_20 (axH hG rfl) (axEx hG rfl) rfl (by decide) (by decide) rfl rfl WF_X12_74 ?_
      refine x_iload_n (pc := 23) dX12_stonesNeededThrough_23 rfl ?_
      refine x_iload (pc := 24) dX12_stonesNeededThrough_24 rfl ?_
      refine x_cr (v := vI (fX11_through M110 a1 v106)) (vs := [vR 183, vI a1, vI v106]) (rest := []) (k := 2) rfl (by omega) (ax_caV (pc := 26) dX12_stonesNeededThrough_26 kX11_through rfl rfl WM_X12_237 WI_X11_through WS_X11_through WN_X11 (ax_rcO (t := 9) (axEx hG rfl) rfl (by decide)) (Nat.le_of_ble_eq_true rfl)) kX11_through rfl True.intro (T_X11_through (by omega) hG rfl) ?_
      refine x_istore (ls' := [some (vR 150), some (vI a1), some (vI a2), some (vI a3), some (vI v106), some (vI (fX11_through M110 a1 v106))]) (pc := 29) dX12_stonesNeededThrough_29 (Nat.le_of_ble_eq_true rfl) rfl rfl ?_
      refine x_iload (pc := 31) dX12_stonesNeededThrough_31 rfl ?_
      refine x_iconst (pc := 33) dX12_stonesNeededThrough_33 ⟨by decide, by decide⟩ ?_
      refine x_icmpne (tgt := 47) (pc := 34) dX12_stonesNeededThrough_34 rfl (fun h111 => ?_) (fun h111 => ?_)
      · replace hf := (if_neg h111).symm.trans hf
        refine x_iload (pc := 47) dX12_stonesNeededThrough_47 rfl ?_
        cases hf
        exact x_retI (pc := 49) dX12_stonesNeededThrough_49
      · replace hf := (if_pos h111).symm.trans hf
        cases hf
        exact x_throw (pc := 37) (ci := 13) tw_X12_98_240 rfl ⟨by decide, by decide⟩ rfl (axH hG rfl) hX dX12_stonesNeededThrough_37 dX12_stonesNeededThrough_40 dX12_stonesNeededThrough_41 dX12_stonesNeededThrough_43 dX12_stonesNeededThrough_46 (by decide) (by omega)
    · subst ho
      exact x_ct (vs := [vR 150, vI a2, vI a3]) (rest := []) (k := 1) rfl (by omega) (ax_caV (pc := 7) dX12_stonesNeededThrough_7 kX12_requiredCell rfl rfl WM_X12_174 WI_X12_requiredCell WS_X12_requiredCell WN_X12 (ax_rcO (t := 10) (axEx hG rfl) rfl (by decide)) (Nat.le_of_ble_eq_true rfl)) kX12_requiredCell rfl rfl (T_X12_requiredCell (by omega) hG hX r105)
  · subst ho
    exact x_ct (vs := [vI a1]) (rest := []) (k := 0) rfl (by omega) (ax_caS (pc := 1) dX12_stonesNeededThrough_1 kX12_requirePlayer rfl rfl WM_X12_168 WT_X12_requirePlayer WN_X12 (Nat.le_of_ble_eq_true rfl)) kX12_requirePlayer rfl rfl (T_X12_requirePlayer (by omega) hG hX r101)
/- HexPond.isWinningCell(III)Z -/
def fX12_isWinningCell (M : ax_M) (a1 : Int) (a2 : Int) (a3 : Int) : Option ((Int ⊕ String) × ax_M) :=
  (bdT (fX12_requirePlayer M a1) fun v102 M103 => (bdT (fX12_requiredCell M103 a2 a3) fun v106 M107 => (bd1 (fX11_look M107) fun M110 => (some (.inl (fX11_wins M110 a1 v106), M110)))))
theorem T_X12_isWinningCell {G : ax_G} {d : Nat} (hd : 7 ≤ d) (hG : axPs G 150 244) (hX : (gL G).stackTraces = false) {M : ax_M} {a1 : Int} {a2 : Int} {a3 : Int} {r : Int ⊕ String} {M1 : ax_M} (hf : fX12_isWinningCell M a1 a2 a3 = some (r, M1)) : ax_Ex G tX12_isWinningCell d 0 (ax_args [vR 150, vI a1, vI a2, vI a3] ++ List.replicate 1 none) [] M (oSI r) M1 := by
  show ax_Ex G tX12_isWinningCell d 0 [some (vR 150), some (vI a1), some (vI a2), some (vI a3), none] [] M _ _
  unfold fX12_isWinningCell at hf
  refine x_iload_n (pc := 0) dX12_isWinningCell_0 rfl ?_
  rcases bdT_some hf with ⟨v102, M103, r101, hf⟩ | ⟨E104, r101, ho⟩
  · skip
    refine x_cv (vs := [vI a1]) (rest := []) (k := 0) rfl (by omega) (ax_caS (pc := 1) dX12_isWinningCell_1 kX12_requirePlayer rfl rfl WM_X12_168 WT_X12_requirePlayer WN_X12 (Nat.le_of_ble_eq_true rfl)) kX12_requirePlayer rfl True.intro (T_X12_requirePlayer (by omega) hG hX r101) ?_
    refine x_aload_n (pc := 4) dX12_isWinningCell_4 rfl ?_
    refine x_iload_n (pc := 5) dX12_isWinningCell_5 rfl ?_
    refine x_iload_n (pc := 6) dX12_isWinningCell_6 rfl ?_
    rcases bdT_some hf with ⟨v106, M107, r105, hf⟩ | ⟨E108, r105, ho⟩
    · skip
      refine x_cr (v := vI v106) (vs := [vR 150, vI a2, vI a3]) (rest := []) (k := 1) rfl (by omega) (ax_caV (pc := 7) dX12_isWinningCell_7 kX12_requiredCell rfl rfl WM_X12_174 WI_X12_requiredCell WS_X12_requiredCell WN_X12 (ax_rcO (t := 10) (axEx hG rfl) rfl (by decide)) (Nat.le_of_ble_eq_true rfl)) kX12_requiredCell rfl True.intro (T_X12_requiredCell (by omega) hG hX r105) ?_
      refine x_istore (ls' := [some (vR 150), some (vI a1), some (vI a2), some (vI a3), some (vI v106)]) (pc := 10) dX12_isWinningCell_10 (Nat.le_of_ble_eq_true rfl) rfl rfl ?_
      refine x_aload_n (pc := 12) dX12_isWinningCell_12 rfl ?_
      refine x_getF (t := 10) (j := 7) (r := 183) (pc := 13) dX12_isWinningCell_13 (axH hG rfl) (axEx hG rfl) rfl (by decide) (by decide) rfl rfl WF_X12_74 ?_
      obtain ⟨M110, r109, hf⟩ := bd1_some hf
      refine x_cv (vs := [vR 183]) (rest := []) (k := 1) rfl (by omega) (ax_caV (pc := 16) dX12_isWinningCell_16 kX11_look rfl rfl WM_X12_231 WI_X11_look WS_X11_look WN_X11 (ax_rcO (t := 9) (axEx hG rfl) rfl (by decide)) (Nat.le_of_ble_eq_true rfl)) kX11_look rfl True.intro (T_X11_look (by omega) hG r109) ?_
      refine x_aload_n (pc := 19) dX12_isWinningCell_19 rfl ?_
      refine x_getF (t := 10) (j := 7) (r := 183) (pc := 20) dX12_isWinningCell_20 (axH hG rfl) (axEx hG rfl) rfl (by decide) (by decide) rfl rfl WF_X12_74 ?_
      refine x_iload_n (pc := 23) dX12_isWinningCell_23 rfl ?_
      refine x_iload (pc := 24) dX12_isWinningCell_24 rfl ?_
      refine x_cr (v := vI (fX11_wins M110 a1 v106)) (vs := [vR 183, vI a1, vI v106]) (rest := []) (k := 1) rfl (by omega) (ax_caV (pc := 26) dX12_isWinningCell_26 kX11_wins rfl rfl WM_X12_242 WI_X11_wins WS_X11_wins WN_X11 (ax_rcO (t := 9) (axEx hG rfl) rfl (by decide)) (Nat.le_of_ble_eq_true rfl)) kX11_wins rfl (Z_X11_wins rfl) (T_X11_wins (by omega) hG rfl) ?_
      cases hf
      exact x_retI (pc := 29) dX12_isWinningCell_29
    · subst ho
      exact x_ct (vs := [vR 150, vI a2, vI a3]) (rest := []) (k := 1) rfl (by omega) (ax_caV (pc := 7) dX12_isWinningCell_7 kX12_requiredCell rfl rfl WM_X12_174 WI_X12_requiredCell WS_X12_requiredCell WN_X12 (ax_rcO (t := 10) (axEx hG rfl) rfl (by decide)) (Nat.le_of_ble_eq_true rfl)) kX12_requiredCell rfl rfl (T_X12_requiredCell (by omega) hG hX r105)
  · subst ho
    exact x_ct (vs := [vI a1]) (rest := []) (k := 0) rfl (by omega) (ax_caS (pc := 1) dX12_isWinningCell_1 kX12_requirePlayer rfl rfl WM_X12_168 WT_X12_requirePlayer WN_X12 (Nat.le_of_ble_eq_true rfl)) kX12_requirePlayer rfl rfl (T_X12_requirePlayer (by omega) hG hX r101)
theorem Z_X12_isWinningCell {M : ax_M} {a1 : Int} {a2 : Int} {a3 : Int} {r : Int} {M1 : ax_M} (hf : fX12_isWinningCell M a1 a2 a3 = some (.inl r, M1)) : r = 0 ∨ r = 1 := by
  unfold fX12_isWinningCell at hf
  rcases bdT_some hf with ⟨v102, M103, r101, hf⟩ | ⟨E104, r101, ho⟩
  · skip
    rcases bdT_some hf with ⟨v106, M107, r105, hf⟩ | ⟨E108, r105, ho⟩
    · skip
      obtain ⟨M110, r109, hf⟩ := bd1_some hf
      cases hf
      exact (Z_X11_wins rfl)
    · cases ho
  · cases ho
/- HexPond.winningCells(I)I -/
def fX12_winningCells (M : ax_M) (a1 : Int) : Option ((Int ⊕ String) × ax_M) :=
  (bdT (fX12_requirePlayer M a1) fun v102 M103 => (bd1 (fX11_look M103) fun M106 => (bd1 (fX11_winningCells M106 a1) fun v108 => (some (.inl v108, M106)))))
theorem T_X12_winningCells {G : ax_G} {d : Nat} (hd : 7 ≤ d) (hG : axPs G 150 244) (hX : (gL G).stackTraces = false) {M : ax_M} {a1 : Int} {r : Int ⊕ String} {M1 : ax_M} (hf : fX12_winningCells M a1 = some (r, M1)) : ax_Ex G tX12_winningCells d 0 (ax_args [vR 150, vI a1] ++ List.replicate 0 none) [] M (oSI r) M1 := by
  show ax_Ex G tX12_winningCells d 0 [some (vR 150), some (vI a1)] [] M _ _
  unfold fX12_winningCells at hf
  refine x_iload_n (pc := 0) dX12_winningCells_0 rfl ?_
  rcases bdT_some hf with ⟨v102, M103, r101, hf⟩ | ⟨E104, r101, ho⟩
  · skip
    refine x_cv (vs := [vI a1]) (rest := []) (k := 0) rfl (by omega) (ax_caS (pc := 1) dX12_winningCells_1 kX12_requirePlayer rfl rfl WM_X12_168 WT_X12_requirePlayer WN_X12 (Nat.le_of_ble_eq_true rfl)) kX12_requirePlayer rfl True.intro (T_X12_requirePlayer (by omega) hG hX r101) ?_
    refine x_aload_n (pc := 4) dX12_winningCells_4 rfl ?_
    refine x_getF (t := 10) (j := 7) (r := 183) (pc := 5) dX12_winningCells_5 (axH hG rfl) (axEx hG rfl) rfl (by decide) (by decide) rfl rfl WF_X12_74 ?_
    obtain ⟨M106, r105, hf⟩ := bd1_some hf
    refine x_cv (vs := [vR 183]) (rest := []) (k := 1) rfl (by omega) (ax_caV (pc := 8) dX12_winningCells_8 kX11_look rfl rfl WM_X12_231 WI_X11_look WS_X11_look WN_X11 (ax_rcO (t := 9) (axEx hG rfl) rfl (by decide)) (Nat.le_of_ble_eq_true rfl)) kX11_look rfl True.intro (T_X11_look (by omega) hG r105) ?_
    refine x_aload_n (pc := 11) dX12_winningCells_11 rfl ?_
    refine x_getF (t := 10) (j := 7) (r := 183) (pc := 12) dX12_winningCells_12 (axH hG rfl) (axEx hG rfl) rfl (by decide) (by decide) rfl rfl WF_X12_74 ?_
    refine x_iload_n (pc := 15) dX12_winningCells_15 rfl ?_
    obtain ⟨v108, r107, hf⟩ := bd1_some hf
    refine x_cr (v := vI v108) (vs := [vR 183, vI a1]) (rest := []) (k := 2) rfl (by omega) (ax_caV (pc := 16) dX12_winningCells_16 kX11_winningCells rfl rfl WM_X12_245 WI_X11_winningCells WS_X11_winningCells WN_X11 (ax_rcO (t := 9) (axEx hG rfl) rfl (by decide)) (Nat.le_of_ble_eq_true rfl)) kX11_winningCells rfl True.intro (T_X11_winningCells (by omega) hG r107) ?_
    cases hf
    exact x_retI (pc := 19) dX12_winningCells_19
  · subst ho
    exact x_ct (vs := [vI a1]) (rest := []) (k := 0) rfl (by omega) (ax_caS (pc := 1) dX12_winningCells_1 kX12_requirePlayer rfl rfl WM_X12_168 WT_X12_requirePlayer WN_X12 (Nat.le_of_ble_eq_true rfl)) kX12_requirePlayer rfl rfl (T_X12_requirePlayer (by omega) hG hX r101)
/- HexPond.layStone(II)I -/
def fX12_layStone (M : ax_M) (a1 : Int) (a2 : Int) : Option ((Int ⊕ String) × ax_M) :=
  (bdT (fX12_requiredCell M a1 a2) fun v102 M103 => (bdT (fX12_requireGameOn M103) fun v106 M107 => (if (fX8_ownerAt M107 v102) = 0 then (bd1 (fX8_lay M107 v102 (fX8_turn M107)) fun M111 => (some (.inl (fX8_turn M107), M111))) else (some (.inr "java/lang/IllegalStateException", (mAl M107 13 0 6))))))
theorem T_X12_layStone {G : ax_G} {d : Nat} (hd : 7 ≤ d) (hG : axPs G 150 244) (hX : (gL G).stackTraces = false) {M : ax_M} {a1 : Int} {a2 : Int} {r : Int ⊕ String} {M1 : ax_M} (hf : fX12_layStone M a1 a2 = some (r, M1)) : ax_Ex G tX12_layStone d 0 (ax_args [vR 150, vI a1, vI a2] ++ List.replicate 2 none) [] M (oSI r) M1 := by
  show ax_Ex G tX12_layStone d 0 [some (vR 150), some (vI a1), some (vI a2), none, none] [] M _ _
  unfold fX12_layStone at hf
  refine x_aload_n (pc := 0) dX12_layStone_0 rfl ?_
  refine x_iload_n (pc := 1) dX12_layStone_1 rfl ?_
  refine x_iload_n (pc := 2) dX12_layStone_2 rfl ?_
  rcases bdT_some hf with ⟨v102, M103, r101, hf⟩ | ⟨E104, r101, ho⟩
  · skip
    refine x_cr (v := vI v102) (vs := [vR 150, vI a1, vI a2]) (rest := []) (k := 1) rfl (by omega) (ax_caV (pc := 3) dX12_layStone_3 kX12_requiredCell rfl rfl WM_X12_174 WI_X12_requiredCell WS_X12_requiredCell WN_X12 (ax_rcO (t := 10) (axEx hG rfl) rfl (by decide)) (Nat.le_of_ble_eq_true rfl)) kX12_requiredCell rfl True.intro (T_X12_requiredCell (by omega) hG hX r101) ?_
    refine x_istore_n (ls' := [some (vR 150), some (vI a1), some (vI a2), some (vI v102), none]) (pc := 6) dX12_layStone_6 (Nat.le_of_ble_eq_true rfl) rfl rfl ?_
    refine x_aload_n (pc := 7) dX12_layStone_7 rfl ?_
    rcases bdT_some hf with ⟨v106, M107, r105, hf⟩ | ⟨E108, r105, ho⟩
    · skip
      refine x_cv (vs := [vR 150]) (rest := []) (k := 0) rfl (by omega) (ax_caV (pc := 8) dX12_layStone_8 kX12_requireGameOn rfl rfl WM_X12_185 WI_X12_requireGameOn WS_X12_requireGameOn WN_X12 (ax_rcO (t := 10) (axEx hG rfl) rfl (by decide)) (Nat.le_of_ble_eq_true rfl)) kX12_requireGameOn rfl True.intro (T_X12_requireGameOn (by omega) hG hX r105) ?_
      refine x_aload_n (pc := 11) dX12_layStone_11 rfl ?_
      refine x_getF (t := 10) (j := 4) (r := 169) (pc := 12) dX12_layStone_12 (axH hG rfl) (axEx hG rfl) rfl (by decide) (by decide) rfl rfl WF_X12_51 ?_
      refine x_iload_n (pc := 15) dX12_layStone_15 rfl ?_
      refine x_cr (v := vI (fX8_ownerAt M107 v102)) (vs := [vR 169, vI v102]) (rest := []) (k := 0) rfl (by omega) (ax_caV (pc := 16) dX12_layStone_16 kX8_ownerAt rfl rfl WM_X12_178 WI_X8_ownerAt WS_X8_ownerAt WN_X8 (ax_rcO (t := 6) (axEx hG rfl) rfl (by decide)) (Nat.le_of_ble_eq_true rfl)) kX8_ownerAt rfl True.intro (T_X8_ownerAt (by omega) (axPs.sub hG (Nat.le_of_ble_eq_true rfl) (Nat.le_of_ble_eq_true rfl)) rfl) ?_
      refine x_ifeq (tgt := 32) (pc := 19) dX12_layStone_19 rfl (fun h109 => ?_) (fun h109 => ?_)
      · replace hf := (if_pos h109).symm.trans hf
        refine x_aload_n (pc := 32) dX12_layStone_32 rfl ?_
        refine x_getF (t := 10) (j := 4) (r := 169) (pc := 33) dX12_layStone_33 (axH hG rfl) (axEx hG rfl) rfl (by decide) (by decide) rfl rfl WF_X12_51 ?_
        refine x_cr (v := vI (fX8_turn M107)) (vs := [vR 169]) (rest := []) (k := 0) rfl (by omega) (ax_caV (pc := 36) dX12_layStone_36 kX8_turn rfl rfl WM_X12_188 WI_X8_turn WS_X8_turn WN_X8 (ax_rcO (t := 6) (axEx hG rfl) rfl (by decide)) (Nat.le_of_ble_eq_true rfl)) kX8_turn rfl True.intro (T_X8_turn (by omega) (axPs.sub hG (Nat.le_of_ble_eq_true rfl) (Nat.le_of_ble_eq_true rfl)) rfl) ?_
        refine x_istore (ls' := [some (vR 150), some (vI a1), some (vI a2), some (vI v102), some (vI (fX8_turn M107))]) (pc := 39) dX12_layStone_39 (Nat.le_of_ble_eq_true rfl) rfl rfl ?_
        refine x_aload_n (pc := 41) dX12_layStone_41 rfl ?_
        refine x_getF (t := 10) (j := 4) (r := 169) (pc := 42) dX12_layStone_42 (axH hG rfl) (axEx hG rfl) rfl (by decide) (by decide) rfl rfl WF_X12_51 ?_
        refine x_iload_n (pc := 45) dX12_layStone_45 rfl ?_
        refine x_iload (pc := 46) dX12_layStone_46 rfl ?_
        obtain ⟨M111, r110, hf⟩ := bd1_some hf
        refine x_cv (vs := [vR 169, vI v102, vI (fX8_turn M107)]) (rest := []) (k := 0) rfl (by omega) (ax_caV (pc := 48) dX12_layStone_48 kX8_lay rfl rfl WM_X12_250 WI_X8_lay WS_X8_lay WN_X8 (ax_rcO (t := 6) (axEx hG rfl) rfl (by decide)) (Nat.le_of_ble_eq_true rfl)) kX8_lay rfl True.intro (T_X8_lay (by omega) (axPs.sub hG (Nat.le_of_ble_eq_true rfl) (Nat.le_of_ble_eq_true rfl)) r110) ?_
        refine x_iload (pc := 51) dX12_layStone_51 rfl ?_
        cases hf
        exact x_retI (pc := 53) dX12_layStone_53
      · replace hf := (if_neg h109).symm.trans hf
        cases hf
        exact x_throw (pc := 22) (ci := 13) tw_X12_98_248 rfl ⟨by decide, by decide⟩ rfl (axH hG rfl) hX dX12_layStone_22 dX12_layStone_25 dX12_layStone_26 dX12_layStone_28 dX12_layStone_31 (by decide) (by omega)
    · subst ho
      exact x_ct (vs := [vR 150]) (rest := []) (k := 0) rfl (by omega) (ax_caV (pc := 8) dX12_layStone_8 kX12_requireGameOn rfl rfl WM_X12_185 WI_X12_requireGameOn WS_X12_requireGameOn WN_X12 (ax_rcO (t := 10) (axEx hG rfl) rfl (by decide)) (Nat.le_of_ble_eq_true rfl)) kX12_requireGameOn rfl rfl (T_X12_requireGameOn (by omega) hG hX r105)
  · subst ho
    exact x_ct (vs := [vR 150, vI a1, vI a2]) (rest := []) (k := 1) rfl (by omega) (ax_caV (pc := 3) dX12_layStone_3 kX12_requiredCell rfl rfl WM_X12_174 WI_X12_requiredCell WS_X12_requiredCell WN_X12 (ax_rcO (t := 10) (axEx hG rfl) rfl (by decide)) (Nat.le_of_ble_eq_true rfl)) kX12_requiredCell rfl rfl (T_X12_requiredCell (by omega) hG hX r101)
/- HexPond.takeBack()I -/
def fX12_takeBack (M : ax_M) : Option ((Int ⊕ String) × ax_M) :=
  (if (fX8_laidStones M) = 0 then (some (.inr "java/lang/IllegalStateException", (mAl M 13 0 6))) else (bd2 (fX8_liftLatest M) fun v104 M103 => (some (.inl v104, M103))))
theorem T_X12_takeBack {G : ax_G} {d : Nat} (hd : 6 ≤ d) (hG : axPs G 150 244) (hX : (gL G).stackTraces = false) {M : ax_M} {r : Int ⊕ String} {M1 : ax_M} (hf : fX12_takeBack M = some (r, M1)) : ax_Ex G tX12_takeBack d 0 (ax_args [vR 150] ++ List.replicate 0 none) [] M (oSI r) M1 := by
  show ax_Ex G tX12_takeBack d 0 [some (vR 150)] [] M _ _
  unfold fX12_takeBack at hf
  refine x_aload_n (pc := 0) dX12_takeBack_0 rfl ?_
  refine x_getF (t := 10) (j := 4) (r := 169) (pc := 1) dX12_takeBack_1 (axH hG rfl) (axEx hG rfl) rfl (by decide) (by decide) rfl rfl WF_X12_51 ?_
  refine x_cr (v := vI (fX8_laidStones M)) (vs := [vR 169]) (rest := []) (k := 0) rfl (by omega) (ax_caV (pc := 4) dX12_takeBack_4 kX8_laidStones rfl rfl WM_X12_162 WI_X8_laidStones WS_X8_laidStones WN_X8 (ax_rcO (t := 6) (axEx hG rfl) rfl (by decide)) (Nat.le_of_ble_eq_true rfl)) kX8_laidStones rfl True.intro (T_X8_laidStones (by omega) (axPs.sub hG (Nat.le_of_ble_eq_true rfl) (Nat.le_of_ble_eq_true rfl)) rfl) ?_
  refine x_ifne (tgt := 20) (pc := 7) dX12_takeBack_7 rfl (fun h101 => ?_) (fun h101 => ?_)
  · replace hf := (if_neg h101).symm.trans hf
    refine x_aload_n (pc := 20) dX12_takeBack_20 rfl ?_
    refine x_getF (t := 10) (j := 4) (r := 169) (pc := 21) dX12_takeBack_21 (axH hG rfl) (axEx hG rfl) rfl (by decide) (by decide) rfl rfl WF_X12_51 ?_
    obtain ⟨v104, M103, r102, hf⟩ := bd2_some hf
    refine x_cr (v := vI v104) (vs := [vR 169]) (rest := []) (k := 1) rfl (by omega) (ax_caV (pc := 24) dX12_takeBack_24 kX8_liftLatest rfl rfl WM_X12_255 WI_X8_liftLatest WS_X8_liftLatest WN_X8 (ax_rcO (t := 6) (axEx hG rfl) rfl (by decide)) (Nat.le_of_ble_eq_true rfl)) kX8_liftLatest rfl True.intro (T_X8_liftLatest (by omega) (axPs.sub hG (Nat.le_of_ble_eq_true rfl) (Nat.le_of_ble_eq_true rfl)) r102) ?_
    cases hf
    exact x_retI (pc := 27) dX12_takeBack_27
  · replace hf := (if_pos h101).symm.trans hf
    cases hf
    exact x_throw (pc := 10) (ci := 13) tw_X12_98_253 rfl ⟨by decide, by decide⟩ rfl (axH hG rfl) hX dX12_takeBack_10 dX12_takeBack_13 dX12_takeBack_14 dX12_takeBack_16 dX12_takeBack_19 (by decide) (by omega)
/- HexPond.plannedCell()I -/
def fX12_plannedCell (M : ax_M) : Option ((Int ⊕ String) × ax_M) :=
  (bdT (fX12_requireGameOn M) fun v102 M103 => (oq (mR M103 150 9) none fun p106 => if (p106 = 157 ∨ p106 = 194) then (bd2 (fX2_choose M103 p106 (fX8_turn M103)) fun v110 M109 => (some (.inl v110, M109))) else none))
theorem T_X12_plannedCell {G : ax_G} {d : Nat} (hd : 7 ≤ d) (hG : axPs G 150 244) (hX : (gL G).stackTraces = false) {M : ax_M} {r : Int ⊕ String} {M1 : ax_M} (hf : fX12_plannedCell M = some (r, M1)) : ax_Ex G tX12_plannedCell d 0 (ax_args [vR 150] ++ List.replicate 0 none) [] M (oSI r) M1 := by
  show ax_Ex G tX12_plannedCell d 0 [some (vR 150)] [] M _ _
  unfold fX12_plannedCell at hf
  refine x_aload_n (pc := 0) dX12_plannedCell_0 rfl ?_
  rcases bdT_some hf with ⟨v102, M103, r101, hf⟩ | ⟨E104, r101, ho⟩
  · skip
    refine x_cv (vs := [vR 150]) (rest := []) (k := 0) rfl (by omega) (ax_caV (pc := 1) dX12_plannedCell_1 kX12_requireGameOn rfl rfl WM_X12_185 WI_X12_requireGameOn WS_X12_requireGameOn WN_X12 (ax_rcO (t := 10) (axEx hG rfl) rfl (by decide)) (Nat.le_of_ble_eq_true rfl)) kX12_requireGameOn rfl True.intro (T_X12_requireGameOn (by omega) hG hX r101) ?_
    refine x_aload_n (pc := 4) dX12_plannedCell_4 rfl ?_
    refine x_getF (t := 10) (j := 8) (r := 192) (pc := 5) dX12_plannedCell_5 (axH hG rfl) (axEx hG rfl) rfl (by decide) (by decide) rfl rfl WF_X12_83 ?_
    refine x_aload_n (pc := 8) dX12_plannedCell_8 rfl ?_
    rcases h105 : (mR M103 150 9) with _ | p106
    · replace hf := (oq_none h105).symm.trans hf
      cases hf
    · replace hf := (oq_some h105).symm.trans hf
      by_cases h107 : (p106 = 157 ∨ p106 = 194)
      · replace hf := (if_pos h107).symm.trans hf
        refine x_getRq h105 (t := 10) (j := 9) (pc := 9) dX12_plannedCell_9 (axEx hG rfl) rfl (by decide) (by decide) rfl WF_X12_87 ?_
        refine x_aload_n (pc := 12) dX12_plannedCell_12 rfl ?_
        refine x_getF (t := 10) (j := 4) (r := 169) (pc := 13) dX12_plannedCell_13 (axH hG rfl) (axEx hG rfl) rfl (by decide) (by decide) rfl rfl WF_X12_51 ?_
        refine x_cr (v := vI (fX8_turn M103)) (vs := [vR 169]) (rest := [vR p106, vR 192]) (k := 0) rfl (by omega) (ax_caV (pc := 16) dX12_plannedCell_16 kX8_turn rfl rfl WM_X12_188 WI_X8_turn WS_X8_turn WN_X8 (ax_rcO (t := 6) (axEx hG rfl) rfl (by decide)) (Nat.le_of_ble_eq_true rfl)) kX8_turn rfl True.intro (T_X8_turn (by omega) (axPs.sub hG (Nat.le_of_ble_eq_true rfl) (Nat.le_of_ble_eq_true rfl)) rfl) ?_
        obtain ⟨v110, M109, r108, hf⟩ := bd2_some hf
        refine x_cr (v := vI v110) (vs := [vR 192, vR p106, vI (fX8_turn M103)]) (rest := []) (k := 2) rfl (by omega) (ax_caV (pc := 19) dX12_plannedCell_19 kX2_choose rfl rfl WM_X12_258 WI_X2_choose WS_X2_choose WN_X2 (ax_rcO (t := 1) (axEx hG rfl) rfl (by decide)) (Nat.le_of_ble_eq_true rfl)) kX2_choose rfl True.intro (T_X2_choose (by omega) hG h107 r108) ?_
        cases hf
        exact x_retI (pc := 22) dX12_plannedCell_22
      · replace hf := (if_neg h107).symm.trans hf
        cases hf
  · subst ho
    exact x_ct (vs := [vR 150]) (rest := []) (k := 0) rfl (by omega) (ax_caV (pc := 1) dX12_plannedCell_1 kX12_requireGameOn rfl rfl WM_X12_185 WI_X12_requireGameOn WS_X12_requireGameOn WN_X12 (ax_rcO (t := 10) (axEx hG rfl) rfl (by decide)) (Nat.le_of_ble_eq_true rfl)) kX12_requireGameOn rfl rfl (T_X12_requireGameOn (by omega) hG hX r101)
/- HexPond.playOn(I)I -/
def fX12_playOn_b2 (M : ax_M) (x1 : Int) (v2 : Int) : Option ((Int × ax_M) ⊕ ((Int × ax_M) ⊕ ((Int × ax_M) ⊕ ax_M))) :=
  (if v2 < x1 then (bd2 (fX12_winner M) fun v105 M104 => (if v105 = (-1) then (oq (mR M104 150 9) none fun p108 => if (p108 = 157 ∨ p108 = 194) then (bd2 (fX2_choose M104 p108 (fX8_turn M104)) fun v112 M111 => (if v112 = (-1) then (some (.inr (.inr (.inl (v2, M111))))) else (bd1 (fX8_lay M111 v112 (fX8_turn M104)) fun M115 => (some (.inl ((v2 + 1), M115)))))) else none) else (some (.inr (.inl (v2, M104)))))) else (some (.inr (.inr (.inr M)))))
def fX12_playOn (M : ax_M) (a1 : Int) : Option (Int × ax_M) :=
  (bdS (lp (fun s => fX12_playOn_b2 s.2 a1 s.1) lpN (0, M)) (fun t116 => (some (t116.1, t116.2))) (fun w => bdS (some w) (fun t118 => (some (t118.1, t118.2))) (fun t120 => (some (a1, t120)))))
theorem B_X12_playOn_2 {G : ax_G} {d : Nat} (hd : 6 ≤ d) (hG : axPs G 150 244) {M : ax_M} {x1 : Int} {v2 : Int} {o : Option ax_V ⊕ String} {M' : ax_M} {y : (Int × ax_M) ⊕ ((Int × ax_M) ⊕ ((Int × ax_M) ⊕ ax_M))} (hf : fX12_playOn_b2 M x1 v2 = some y) (h1 : ∀ s', y = .inl s' → ax_Ex G tX12_playOn d 2 [some (vR 150), some (vI x1), some (vI s'.1), none, none] [] s'.2 o M') (h2a : ∀ t, y = .inr (.inl t) → ax_Ex G tX12_playOn d 15 [some (vR 150), some (vI x1), some (vI t.1), none, none] [] t.2 o M') (h2b : ∀ t, y = .inr (.inr (.inl t)) → ax_Ex G tX12_playOn d 45 [some (vR 150), some (vI x1), some (vI t.1), none, none] [] t.2 o M') (h2c : ∀ t, y = .inr (.inr (.inr t)) → ax_Ex G tX12_playOn d 63 [some (vR 150), some (vI x1), none, none, none] [] t o M') : ax_Ex G tX12_playOn d 2 [some (vR 150), some (vI x1), some (vI v2), none, none] [] M o M' := by
  unfold fX12_playOn_b2 at hf
  refine x_iload_n (pc := 2) dX12_playOn_2 rfl ?_
  refine x_iload_n (pc := 3) dX12_playOn_3 rfl ?_
  refine ax_cmp (fun b102a b102b b102c b102e => ?_)
  refine x_icmpge (tgt := 63) (pc := 4) dX12_playOn_4 rfl (fun h101 => ?_) (fun h101 => ?_)
  · replace hf := (if_neg (Int.not_lt.mpr h101)).symm.trans hf
    cases hf
    exact x_fgt (axS' (axS' (axN' (axN' (axN' axD))))) (h2c _ rfl)
  · replace hf := (if_pos h101).symm.trans hf
    refine x_aload_n (pc := 7) dX12_playOn_7 rfl ?_
    obtain ⟨v105, M104, r103, hf⟩ := bd2_some hf
    refine x_cr (v := vI v105) (vs := [vR 150]) (rest := []) (k := 0) rfl (by omega) (ax_caV (pc := 8) dX12_playOn_8 kX12_winner rfl rfl WM_X12_182 WI_X12_winner WS_X12_winner WN_X12 (ax_rcO (t := 10) (axEx hG rfl) rfl (by decide)) (Nat.le_of_ble_eq_true rfl)) kX12_winner rfl True.intro (T_X12_winner (by omega) hG r103) ?_
    refine x_iconst (pc := 11) dX12_playOn_11 ⟨by decide, by decide⟩ ?_
    refine x_icmpeq (tgt := 17) (pc := 12) dX12_playOn_12 rfl (fun h106 => ?_) (fun h106 => ?_)
    · replace hf := (if_pos h106).symm.trans hf
      refine x_aload_n (pc := 17) dX12_playOn_17 rfl ?_
      refine x_getF (t := 10) (j := 4) (r := 169) (pc := 18) dX12_playOn_18 (axH hG rfl) (axEx hG rfl) rfl (by decide) (by decide) rfl rfl WF_X12_51 ?_
      refine x_cr (v := vI (fX8_turn M104)) (vs := [vR 169]) (rest := []) (k := 0) rfl (by omega) (ax_caV (pc := 21) dX12_playOn_21 kX8_turn rfl rfl WM_X12_188 WI_X8_turn WS_X8_turn WN_X8 (ax_rcO (t := 6) (axEx hG rfl) rfl (by decide)) (Nat.le_of_ble_eq_true rfl)) kX8_turn rfl True.intro (T_X8_turn (by omega) (axPs.sub hG (Nat.le_of_ble_eq_true rfl) (Nat.le_of_ble_eq_true rfl)) rfl) ?_
      refine x_istore_n (ls' := [some (vR 150), some (vI x1), some (vI v2), some (vI (fX8_turn M104)), none]) (pc := 24) dX12_playOn_24 (Nat.le_of_ble_eq_true rfl) rfl rfl ?_
      refine x_aload_n (pc := 25) dX12_playOn_25 rfl ?_
      refine x_getF (t := 10) (j := 8) (r := 192) (pc := 26) dX12_playOn_26 (axH hG rfl) (axEx hG rfl) rfl (by decide) (by decide) rfl rfl WF_X12_83 ?_
      refine x_aload_n (pc := 29) dX12_playOn_29 rfl ?_
      rcases h107 : (mR M104 150 9) with _ | p108
      · replace hf := (oq_none h107).symm.trans hf
        cases hf
      · replace hf := (oq_some h107).symm.trans hf
        by_cases h109 : (p108 = 157 ∨ p108 = 194)
        · replace hf := (if_pos h109).symm.trans hf
          refine x_getRq h107 (t := 10) (j := 9) (pc := 30) dX12_playOn_30 (axEx hG rfl) rfl (by decide) (by decide) rfl WF_X12_87 ?_
          refine x_iload_n (pc := 33) dX12_playOn_33 rfl ?_
          obtain ⟨v112, M111, r110, hf⟩ := bd2_some hf
          refine x_cr (v := vI v112) (vs := [vR 192, vR p108, vI (fX8_turn M104)]) (rest := []) (k := 2) rfl (by omega) (ax_caV (pc := 34) dX12_playOn_34 kX2_choose rfl rfl WM_X12_258 WI_X2_choose WS_X2_choose WN_X2 (ax_rcO (t := 1) (axEx hG rfl) rfl (by decide)) (Nat.le_of_ble_eq_true rfl)) kX2_choose rfl True.intro (T_X2_choose (by omega) hG h109 r110) ?_
          refine x_istore (ls' := [some (vR 150), some (vI x1), some (vI v2), some (vI (fX8_turn M104)), some (vI v112)]) (pc := 37) dX12_playOn_37 (Nat.le_of_ble_eq_true rfl) rfl rfl ?_
          refine x_iload (pc := 39) dX12_playOn_39 rfl ?_
          refine x_iconst (pc := 41) dX12_playOn_41 ⟨by decide, by decide⟩ ?_
          refine x_icmpne (tgt := 47) (pc := 42) dX12_playOn_42 rfl (fun h113 => ?_) (fun h113 => ?_)
          · replace hf := (if_neg h113).symm.trans hf
            refine x_aload_n (pc := 47) dX12_playOn_47 rfl ?_
            refine x_getF (t := 10) (j := 4) (r := 169) (pc := 48) dX12_playOn_48 (axH hG rfl) (axEx hG rfl) rfl (by decide) (by decide) rfl rfl WF_X12_51 ?_
            refine x_iload (pc := 51) dX12_playOn_51 rfl ?_
            refine x_iload_n (pc := 53) dX12_playOn_53 rfl ?_
            obtain ⟨M115, r114, hf⟩ := bd1_some hf
            refine x_cv (vs := [vR 169, vI v112, vI (fX8_turn M104)]) (rest := []) (k := 0) rfl (by omega) (ax_caV (pc := 54) dX12_playOn_54 kX8_lay rfl rfl WM_X12_250 WI_X8_lay WS_X8_lay WN_X8 (ax_rcO (t := 6) (axEx hG rfl) rfl (by decide)) (Nat.le_of_ble_eq_true rfl)) kX8_lay rfl True.intro (T_X8_lay (by omega) (axPs.sub hG (Nat.le_of_ble_eq_true rfl) (Nat.le_of_ble_eq_true rfl)) r114) ?_
            refine x_iinc (z := (v2 + 1)) (ls' := [some (vR 150), some (vI x1), some (vI (v2 + 1)), some (vI (fX8_turn M104)), some (vI v112)]) (pc := 57) dX12_playOn_57 rfl (Nat.le_of_ble_eq_true rfl) rfl rfl (ax_i (by omega) (by omega)) rfl ?_
            refine x_goto (tgt := 2) (pc := 60) dX12_playOn_60 rfl ?_
            cases hf
            exact x_fgt (axS' (axS' (axS' (axN' (axN' axD))))) (h1 _ rfl)
          · replace hf := (if_pos h113).symm.trans hf
            cases hf
            exact x_fgt (axS' (axS' (axS' (axN' (axN' axD))))) (h2b _ rfl)
        · replace hf := (if_neg h109).symm.trans hf
          cases hf
    · replace hf := (if_neg h106).symm.trans hf
      cases hf
      exact h2a _ rfl
theorem T_X12_playOn {G : ax_G} {d : Nat} (hd : 6 ≤ d) (hG : axPs G 150 244) {M : ax_M} {a1 : Int} {r : Int} {M1 : ax_M} (hf : fX12_playOn M a1 = some (r, M1)) : ax_Ex G tX12_playOn d 0 (ax_args [vR 150, vI a1] ++ List.replicate 3 none) [] M (.inl (some (vI r))) M1 := by
  show ax_Ex G tX12_playOn d 0 [some (vR 150), some (vI a1), none, none, none] [] M _ _
  unfold fX12_playOn at hf
  refine x_iconst (pc := 0) dX12_playOn_0 ⟨by decide, by decide⟩ ?_
  refine x_istore_n (ls' := [some (vR 150), some (vI a1), some (vI 0), none, none]) (pc := 1) dX12_playOn_1 (Nat.le_of_ble_eq_true rfl) rfl rfl ?_
  rcases bdS_some hf with ⟨t116, t117, hf⟩ | ⟨w3, t119, hf⟩
  · skip
    refine lp_ex (P := (fun s => ax_Ex G tX12_playOn d 2 [some (vR 150), some (vI a1), some (vI s.1), none, none] [] s.2 _ _)) (K := (fun r => (∀ t, r = .inl t → ax_Ex G tX12_playOn d 15 [some (vR 150), some (vI a1), some (vI t.1), none, none] [] t.2 _ _) ∧ (∀ t, r = .inr (.inl t) → ax_Ex G tX12_playOn d 45 [some (vR 150), some (vI a1), some (vI t.1), none, none] [] t.2 _ _) ∧ (∀ t, r = .inr (.inr t) → ax_Ex G tX12_playOn d 63 [some (vR 150), some (vI a1), none, none, none] [] t _ _))) (fun s y hy h1 h2 => B_X12_playOn_2 (by omega) hG hy (fun s' e => h1 s' e) (fun t e => (h2 _ e).1 t rfl) (fun t e => (h2 _ e).2.1 t rfl) (fun t e => (h2 _ e).2.2 t rfl)) _ _ _ t117 ?_
    refine ⟨fun t e => ?_, fun t e => (by cases e), fun t e => (by cases e)⟩
    cases e
    refine x_iload_n (pc := 15) dX12_playOn_15 rfl ?_
    cases hf
    exact x_retI (pc := 16) dX12_playOn_16
  · rcases bdS_some hf with ⟨t118, hw3, hf⟩ | ⟨t120, hw3, hf⟩
    · cases hw3
      refine lp_ex (P := (fun s => ax_Ex G tX12_playOn d 2 [some (vR 150), some (vI a1), some (vI s.1), none, none] [] s.2 _ _)) (K := (fun r => (∀ t, r = .inl t → ax_Ex G tX12_playOn d 15 [some (vR 150), some (vI a1), some (vI t.1), none, none] [] t.2 _ _) ∧ (∀ t, r = .inr (.inl t) → ax_Ex G tX12_playOn d 45 [some (vR 150), some (vI a1), some (vI t.1), none, none] [] t.2 _ _) ∧ (∀ t, r = .inr (.inr t) → ax_Ex G tX12_playOn d 63 [some (vR 150), some (vI a1), none, none, none] [] t _ _))) (fun s y hy h1 h2 => B_X12_playOn_2 (by omega) hG hy (fun s' e => h1 s' e) (fun t e => (h2 _ e).1 t rfl) (fun t e => (h2 _ e).2.1 t rfl) (fun t e => (h2 _ e).2.2 t rfl)) _ _ _ t119 ?_
      refine ⟨fun t e => (by cases e), fun t e => ?_, fun t e => (by cases e)⟩
      cases e
      refine x_iload_n (pc := 45) dX12_playOn_45 rfl ?_
      cases hf
      exact x_retI (pc := 46) dX12_playOn_46
    · cases hw3
      refine lp_ex (P := (fun s => ax_Ex G tX12_playOn d 2 [some (vR 150), some (vI a1), some (vI s.1), none, none] [] s.2 _ _)) (K := (fun r => (∀ t, r = .inl t → ax_Ex G tX12_playOn d 15 [some (vR 150), some (vI a1), some (vI t.1), none, none] [] t.2 _ _) ∧ (∀ t, r = .inr (.inl t) → ax_Ex G tX12_playOn d 45 [some (vR 150), some (vI a1), some (vI t.1), none, none] [] t.2 _ _) ∧ (∀ t, r = .inr (.inr t) → ax_Ex G tX12_playOn d 63 [some (vR 150), some (vI a1), none, none, none] [] t _ _))) (fun s y hy h1 h2 => B_X12_playOn_2 (by omega) hG hy (fun s' e => h1 s' e) (fun t e => (h2 _ e).1 t rfl) (fun t e => (h2 _ e).2.1 t rfl) (fun t e => (h2 _ e).2.2 t rfl)) _ _ _ t119 ?_
      refine ⟨fun t e => (by cases e), fun t e => (by cases e), fun t e => ?_⟩
      cases e
      refine x_iload_n (pc := 63) dX12_playOn_63 rfl ?_
      cases hf
      exact x_retI (pc := 64) dX12_playOn_64
/- HexPond.playByPlans(I)I -/
def fX12_playByPlans (M : ax_M) (a1 : Int) : Option ((Int ⊕ String) × ax_M) :=
  (if a1 < 1 then (some (.inr "java/lang/IllegalArgumentException", (mAl M 14 0 6))) else (if 81 < a1 then (some (.inr "java/lang/IllegalArgumentException", (mAl M 14 0 6))) else (bd2 (fX12_playOn M a1) fun v107 M106 => (some (.inl v107, M106)))))
theorem T_X12_playByPlans {G : ax_G} {d : Nat} (hd : 7 ≤ d) (hG : axPs G 150 244) (hX : (gL G).stackTraces = false) {M : ax_M} {a1 : Int} {r : Int ⊕ String} {M1 : ax_M} (hf : fX12_playByPlans M a1 = some (r, M1)) : ax_Ex G tX12_playByPlans d 0 (ax_args [vR 150, vI a1] ++ List.replicate 0 none) [] M (oSI r) M1 := by
  show ax_Ex G tX12_playByPlans d 0 [some (vR 150), some (vI a1)] [] M _ _
  unfold fX12_playByPlans at hf
  refine x_iload_n (pc := 0) dX12_playByPlans_0 rfl ?_
  refine x_iconst (pc := 1) dX12_playByPlans_1 ⟨by decide, by decide⟩ ?_
  refine ax_cmp (fun b102a b102b b102c b102e => ?_)
  refine x_icmplt (tgt := 11) (pc := 2) dX12_playByPlans_2 rfl (fun h101 => ?_) (fun h101 => ?_)
  · replace hf := (if_pos h101).symm.trans hf
    cases hf
    exact x_throwW (pc := 11) (ci := 14) tw_X12_109_262 rfl ⟨by decide, by decide⟩ rfl (axH hG rfl) hX dX12_playByPlans_11 dX12_playByPlans_14 dX12_playByPlans_15 dX12_playByPlans_18 dX12_playByPlans_21 (by decide) (by omega)
  · replace hf := (if_neg (Int.not_lt.mpr h101)).symm.trans hf
    refine x_iload_n (pc := 5) dX12_playByPlans_5 rfl ?_
    refine x_bipush (pc := 6) dX12_playByPlans_6 (by decide) ⟨by decide, by decide⟩ ?_
    refine ax_cmp (fun b104a b104b b104c b104e => ?_)
    refine x_icmple (tgt := 22) (pc := 8) dX12_playByPlans_8 rfl (fun h103 => ?_) (fun h103 => ?_)
    · replace hf := (if_neg (Int.not_lt.mpr h103)).symm.trans hf
      refine x_aload_n (pc := 22) dX12_playByPlans_22 rfl ?_
      refine x_iload_n (pc := 23) dX12_playByPlans_23 rfl ?_
      obtain ⟨v107, M106, r105, hf⟩ := bd2_some hf
      refine x_cr (v := vI v107) (vs := [vR 150, vI a1]) (rest := []) (k := 3) rfl (by omega) (ax_caV (pc := 24) dX12_playByPlans_24 kX12_playOn rfl rfl WM_X12_264 WI_X12_playOn WS_X12_playOn WN_X12 (ax_rcO (t := 10) (axEx hG rfl) rfl (by decide)) (Nat.le_of_ble_eq_true rfl)) kX12_playOn rfl True.intro (T_X12_playOn (by omega) hG r105) ?_
      cases hf
      exact x_retI (pc := 27) dX12_playByPlans_27
    · replace hf := (if_pos h103).symm.trans hf
      cases hf
      exact x_throwW (pc := 11) (ci := 14) tw_X12_109_262 rfl ⟨by decide, by decide⟩ rfl (axH hG rfl) hX dX12_playByPlans_11 dX12_playByPlans_14 dX12_playByPlans_15 dX12_playByPlans_18 dX12_playByPlans_21 (by decide) (by omega)
/- HexPond.liftStones(I)V -/
def fX12_liftStones_b2 (M : ax_M) (x1 : Int) (v2 : Int) : Option ((Int × ax_M) ⊕ ax_M) :=
  (if v2 < x1 then (bd2 (fX8_liftLatest M) fun v105 M104 => (some (.inl ((v2 + 1), M104)))) else (some (.inr M)))
def fX12_liftStones (M : ax_M) (a1 : Int) : Option ax_M :=
  (bd1 (lp (fun s => fX12_liftStones_b2 s.2 a1 s.1) lpN (0, M)) fun t106 => (some t106))
theorem B_X12_liftStones_2 {G : ax_G} {d : Nat} (hd : 3 ≤ d) (hG : axPs G 150 244) {M : ax_M} {x1 : Int} {v2 : Int} {o : Option ax_V ⊕ String} {M' : ax_M} {y : (Int × ax_M) ⊕ ax_M} (hf : fX12_liftStones_b2 M x1 v2 = some y) (h1 : ∀ s', y = .inl s' → ax_Ex G tX12_liftStones d 2 [some (vR 150), some (vI x1), some (vI s'.1)] [] s'.2 o M') (h2a : ∀ t, y = .inr t → ax_Ex G tX12_liftStones d 21 [some (vR 150), some (vI x1), none] [] t o M') : ax_Ex G tX12_liftStones d 2 [some (vR 150), some (vI x1), some (vI v2)] [] M o M' := by
  unfold fX12_liftStones_b2 at hf
  refine x_iload_n (pc := 2) dX12_liftStones_2 rfl ?_
  refine x_iload_n (pc := 3) dX12_liftStones_3 rfl ?_
  refine ax_cmp (fun b102a b102b b102c b102e => ?_)
  refine x_icmpge (tgt := 21) (pc := 4) dX12_liftStones_4 rfl (fun h101 => ?_) (fun h101 => ?_)
  · replace hf := (if_neg (Int.not_lt.mpr h101)).symm.trans hf
    cases hf
    exact x_fgt (axS' (axS' (axN' axD))) (h2a _ rfl)
  · replace hf := (if_pos h101).symm.trans hf
    refine x_aload_n (pc := 7) dX12_liftStones_7 rfl ?_
    refine x_getF (t := 10) (j := 4) (r := 169) (pc := 8) dX12_liftStones_8 (axH hG rfl) (axEx hG rfl) rfl (by decide) (by decide) rfl rfl WF_X12_51 ?_
    obtain ⟨v105, M104, r103, hf⟩ := bd2_some hf
    refine x_cr (v := vI v105) (vs := [vR 169]) (rest := []) (k := 1) rfl (by omega) (ax_caV (pc := 11) dX12_liftStones_11 kX8_liftLatest rfl rfl WM_X12_255 WI_X8_liftLatest WS_X8_liftLatest WN_X8 (ax_rcO (t := 6) (axEx hG rfl) rfl (by decide)) (Nat.le_of_ble_eq_true rfl)) kX8_liftLatest rfl True.intro (T_X8_liftLatest (by omega) (axPs.sub hG (Nat.le_of_ble_eq_true rfl) (Nat.le_of_ble_eq_true rfl)) r103) ?_
    refine x_pop (pc := 14) dX12_liftStones_14 rfl ?_
    refine x_iinc (z := (v2 + 1)) (ls' := [some (vR 150), some (vI x1), some (vI (v2 + 1))]) (pc := 15) dX12_liftStones_15 rfl (Nat.le_of_ble_eq_true rfl) rfl rfl (ax_i (by omega) (by omega)) rfl ?_
    refine x_goto (tgt := 2) (pc := 18) dX12_liftStones_18 rfl ?_
    cases hf
    exact h1 _ rfl
theorem T_X12_liftStones {G : ax_G} {d : Nat} (hd : 3 ≤ d) (hG : axPs G 150 244) {M : ax_M} {a1 : Int} {M1 : ax_M} (hf : fX12_liftStones M a1 = some M1) : ax_Ex G tX12_liftStones d 0 (ax_args [vR 150, vI a1] ++ List.replicate 1 none) [] M (.inl none) M1 := by
  show ax_Ex G tX12_liftStones d 0 [some (vR 150), some (vI a1), none] [] M _ _
  unfold fX12_liftStones at hf
  refine x_iconst (pc := 0) dX12_liftStones_0 ⟨by decide, by decide⟩ ?_
  refine x_istore_n (ls' := [some (vR 150), some (vI a1), some (vI 0)]) (pc := 1) dX12_liftStones_1 (Nat.le_of_ble_eq_true rfl) rfl rfl ?_
  obtain ⟨t106, t107, hf⟩ := bd1_some hf
  refine lp_ex (P := (fun s => ax_Ex G tX12_liftStones d 2 [some (vR 150), some (vI a1), some (vI s.1)] [] s.2 _ _)) (K := (fun t => ax_Ex G tX12_liftStones d 21 [some (vR 150), some (vI a1), none] [] t _ _)) (fun s y hy h1 h2 => B_X12_liftStones_2 (by omega) hG hy (fun s' e => h1 s' e) (fun t e => h2 t e)) _ _ _ t107 ?_
  cases hf
  exact x_retV (pc := 21) dX12_liftStones_21
/- HexPond.stonesByPlans()I -/
def fX12_stonesByPlans (M : ax_M) : Option (Int × ax_M) :=
  (bd2 (fX12_playOn M 81) fun v103 M102 => (bd1 (fX12_liftStones M102 v103) fun M105 => (some (v103, M105))))
theorem T_X12_stonesByPlans {G : ax_G} {d : Nat} (hd : 7 ≤ d) (hG : axPs G 150 244) {M : ax_M} {r : Int} {M1 : ax_M} (hf : fX12_stonesByPlans M = some (r, M1)) : ax_Ex G tX12_stonesByPlans d 0 (ax_args [vR 150] ++ List.replicate 1 none) [] M (.inl (some (vI r))) M1 := by
  show ax_Ex G tX12_stonesByPlans d 0 [some (vR 150), none] [] M _ _
  unfold fX12_stonesByPlans at hf
  refine x_aload_n (pc := 0) dX12_stonesByPlans_0 rfl ?_
  refine x_bipush (pc := 1) dX12_stonesByPlans_1 (by decide) ⟨by decide, by decide⟩ ?_
  obtain ⟨v103, M102, r101, hf⟩ := bd2_some hf
  refine x_cr (v := vI v103) (vs := [vR 150, vI 81]) (rest := []) (k := 3) rfl (by omega) (ax_caV (pc := 3) dX12_stonesByPlans_3 kX12_playOn rfl rfl WM_X12_264 WI_X12_playOn WS_X12_playOn WN_X12 (ax_rcO (t := 10) (axEx hG rfl) rfl (by decide)) (Nat.le_of_ble_eq_true rfl)) kX12_playOn rfl True.intro (T_X12_playOn (by omega) hG r101) ?_
  refine x_istore_n (ls' := [some (vR 150), some (vI v103)]) (pc := 6) dX12_stonesByPlans_6 (Nat.le_of_ble_eq_true rfl) rfl rfl ?_
  refine x_aload_n (pc := 7) dX12_stonesByPlans_7 rfl ?_
  refine x_iload_n (pc := 8) dX12_stonesByPlans_8 rfl ?_
  obtain ⟨M105, r104, hf⟩ := bd1_some hf
  refine x_cv (vs := [vR 150, vI v103]) (rest := []) (k := 1) rfl (by omega) (ax_caV (pc := 9) dX12_stonesByPlans_9 kX12_liftStones rfl rfl WM_X12_267 WI_X12_liftStones WS_X12_liftStones WN_X12 (ax_rcO (t := 10) (axEx hG rfl) rfl (by decide)) (Nat.le_of_ble_eq_true rfl)) kX12_liftStones rfl True.intro (T_X12_liftStones (by omega) hG r104) ?_
  refine x_iload_n (pc := 12) dX12_stonesByPlans_12 rfl ?_
  cases hf
  exact x_retI (pc := 13) dX12_stonesByPlans_13
/- HexPond.winnerByPlans()I -/
def fX12_winnerByPlans (M : ax_M) : Option (Int × ax_M) :=
  (bd2 (fX12_playOn M 81) fun v103 M102 => (bd2 (fX12_winner M102) fun v106 M105 => (bd1 (fX12_liftStones M105 v103) fun M108 => (some (v106, M108)))))
theorem T_X12_winnerByPlans {G : ax_G} {d : Nat} (hd : 7 ≤ d) (hG : axPs G 150 244) {M : ax_M} {r : Int} {M1 : ax_M} (hf : fX12_winnerByPlans M = some (r, M1)) : ax_Ex G tX12_winnerByPlans d 0 (ax_args [vR 150] ++ List.replicate 2 none) [] M (.inl (some (vI r))) M1 := by
  show ax_Ex G tX12_winnerByPlans d 0 [some (vR 150), none, none] [] M _ _
  unfold fX12_winnerByPlans at hf
  refine x_aload_n (pc := 0) dX12_winnerByPlans_0 rfl ?_
  refine x_bipush (pc := 1) dX12_winnerByPlans_1 (by decide) ⟨by decide, by decide⟩ ?_
  obtain ⟨v103, M102, r101, hf⟩ := bd2_some hf
  refine x_cr (v := vI v103) (vs := [vR 150, vI 81]) (rest := []) (k := 3) rfl (by omega) (ax_caV (pc := 3) dX12_winnerByPlans_3 kX12_playOn rfl rfl WM_X12_264 WI_X12_playOn WS_X12_playOn WN_X12 (ax_rcO (t := 10) (axEx hG rfl) rfl (by decide)) (Nat.le_of_ble_eq_true rfl)) kX12_playOn rfl True.intro (T_X12_playOn (by omega) hG r101) ?_
  refine x_istore_n (ls' := [some (vR 150), some (vI v103), none]) (pc := 6) dX12_winnerByPlans_6 (Nat.le_of_ble_eq_true rfl) rfl rfl ?_
  refine x_aload_n (pc := 7) dX12_winnerByPlans_7 rfl ?_
  obtain ⟨v106, M105, r104, hf⟩ := bd2_some hf
  refine x_cr (v := vI v106) (vs := [vR 150]) (rest := []) (k := 0) rfl (by omega) (ax_caV (pc := 8) dX12_winnerByPlans_8 kX12_winner rfl rfl WM_X12_182 WI_X12_winner WS_X12_winner WN_X12 (ax_rcO (t := 10) (axEx hG rfl) rfl (by decide)) (Nat.le_of_ble_eq_true rfl)) kX12_winner rfl True.intro (T_X12_winner (by omega) hG r104) ?_
  refine x_istore_n (ls' := [some (vR 150), some (vI v103), some (vI v106)]) (pc := 11) dX12_winnerByPlans_11 (Nat.le_of_ble_eq_true rfl) rfl rfl ?_
  refine x_aload_n (pc := 12) dX12_winnerByPlans_12 rfl ?_
  refine x_iload_n (pc := 13) dX12_winnerByPlans_13 rfl ?_
  obtain ⟨M108, r107, hf⟩ := bd1_some hf
  refine x_cv (vs := [vR 150, vI v103]) (rest := []) (k := 1) rfl (by omega) (ax_caV (pc := 14) dX12_winnerByPlans_14 kX12_liftStones rfl rfl WM_X12_267 WI_X12_liftStones WS_X12_liftStones WN_X12 (ax_rcO (t := 10) (axEx hG rfl) rfl (by decide)) (Nat.le_of_ble_eq_true rfl)) kX12_liftStones rfl True.intro (T_X12_liftStones (by omega) hG r107) ?_
  refine x_iload_n (pc := 17) dX12_winnerByPlans_17 rfl ?_
  cases hf
  exact x_retI (pc := 18) dX12_winnerByPlans_18
/- HexPond.mustPlay()I -/
def fX12_mustPlay (M : ax_M) : Option ((Int ⊕ String) × ax_M) :=
  (bdT (fX12_requireGameOn M) fun v102 M103 => (bd1 (fX11_look M103) fun M106 => (bd1 (fX11_winningCells M106 (fX8_turn M103)) fun v108 => (if 0 < v108 then (some (.inr "java/lang/IllegalStateException", (mAl M106 13 0 6))) else (bd1 (fX11_winningCells M106 (wr (1 - (fX8_turn M103)))) fun v112 => (if v112 = 1 then (bd1 (fX11_firstWinning M106 (wr (1 - (fX8_turn M103)))) fun v115 => (some (.inl v115, M106))) else (some (.inr "java/lang/IllegalStateException", (mAl M106 13 0 6)))))))))
theorem T_X12_mustPlay {G : ax_G} {d : Nat} (hd : 7 ≤ d) (hG : axPs G 150 244) (hX : (gL G).stackTraces = false) {M : ax_M} {r : Int ⊕ String} {M1 : ax_M} (hf : fX12_mustPlay M = some (r, M1)) : ax_Ex G tX12_mustPlay d 0 (ax_args [vR 150] ++ List.replicate 2 none) [] M (oSI r) M1 := by
  show ax_Ex G tX12_mustPlay d 0 [some (vR 150), none, none] [] M _ _
  unfold fX12_mustPlay at hf
  refine x_aload_n (pc := 0) dX12_mustPlay_0 rfl ?_
  rcases bdT_some hf with ⟨v102, M103, r101, hf⟩ | ⟨E104, r101, ho⟩
  · skip
    refine x_cv (vs := [vR 150]) (rest := []) (k := 0) rfl (by omega) (ax_caV (pc := 1) dX12_mustPlay_1 kX12_requireGameOn rfl rfl WM_X12_185 WI_X12_requireGameOn WS_X12_requireGameOn WN_X12 (ax_rcO (t := 10) (axEx hG rfl) rfl (by decide)) (Nat.le_of_ble_eq_true rfl)) kX12_requireGameOn rfl True.intro (T_X12_requireGameOn (by omega) hG hX r101) ?_
    refine x_aload_n (pc := 4) dX12_mustPlay_4 rfl ?_
    refine x_getF (t := 10) (j := 4) (r := 169) (pc := 5) dX12_mustPlay_5 (axH hG rfl) (axEx hG rfl) rfl (by decide) (by decide) rfl rfl WF_X12_51 ?_
    refine x_cr (v := vI (fX8_turn M103)) (vs := [vR 169]) (rest := []) (k := 0) rfl (by omega) (ax_caV (pc := 8) dX12_mustPlay_8 kX8_turn rfl rfl WM_X12_188 WI_X8_turn WS_X8_turn WN_X8 (ax_rcO (t := 6) (axEx hG rfl) rfl (by decide)) (Nat.le_of_ble_eq_true rfl)) kX8_turn rfl True.intro (T_X8_turn (by omega) (axPs.sub hG (Nat.le_of_ble_eq_true rfl) (Nat.le_of_ble_eq_true rfl)) rfl) ?_
    refine x_istore_n (ls' := [some (vR 150), some (vI (fX8_turn M103)), none]) (pc := 11) dX12_mustPlay_11 (Nat.le_of_ble_eq_true rfl) rfl rfl ?_
    refine x_iconst (pc := 12) dX12_mustPlay_12 ⟨by decide, by decide⟩ ?_
    refine x_iload_n (pc := 13) dX12_mustPlay_13 rfl ?_
    refine x_isubw (pc := 14) dX12_mustPlay_14 ?_
    refine x_istore_n (ls' := [some (vR 150), some (vI (fX8_turn M103)), some (vI (wr (1 - (fX8_turn M103))))]) (pc := 15) dX12_mustPlay_15 (Nat.le_of_ble_eq_true rfl) rfl rfl ?_
    refine x_aload_n (pc := 16) dX12_mustPlay_16 rfl ?_
    refine x_getF (t := 10) (j := 7) (r := 183) (pc := 17) dX12_mustPlay_17 (axH hG rfl) (axEx hG rfl) rfl (by decide) (by decide) rfl rfl WF_X12_74 ?_
    obtain ⟨M106, r105, hf⟩ := bd1_some hf
    refine x_cv (vs := [vR 183]) (rest := []) (k := 1) rfl (by omega) (ax_caV (pc := 20) dX12_mustPlay_20 kX11_look rfl rfl WM_X12_231 WI_X11_look WS_X11_look WN_X11 (ax_rcO (t := 9) (axEx hG rfl) rfl (by decide)) (Nat.le_of_ble_eq_true rfl)) kX11_look rfl True.intro (T_X11_look (by omega) hG r105) ?_
    refine x_aload_n (pc := 23) dX12_mustPlay_23 rfl ?_
    refine x_getF (t := 10) (j := 7) (r := 183) (pc := 24) dX12_mustPlay_24 (axH hG rfl) (axEx hG rfl) rfl (by decide) (by decide) rfl rfl WF_X12_74 ?_
    refine x_iload_n (pc := 27) dX12_mustPlay_27 rfl ?_
    obtain ⟨v108, r107, hf⟩ := bd1_some hf
    refine x_cr (v := vI v108) (vs := [vR 183, vI (fX8_turn M103)]) (rest := []) (k := 2) rfl (by omega) (ax_caV (pc := 28) dX12_mustPlay_28 kX11_winningCells rfl rfl WM_X12_245 WI_X11_winningCells WS_X11_winningCells WN_X11 (ax_rcO (t := 9) (axEx hG rfl) rfl (by decide)) (Nat.le_of_ble_eq_true rfl)) kX11_winningCells rfl True.intro (T_X11_winningCells (by omega) hG r107) ?_
    refine ax_cmp1 (fun b110a b110b => ?_)
    refine x_ifgt (tgt := 46) (pc := 31) dX12_mustPlay_31 rfl (fun h109 => ?_) (fun h109 => ?_)
    · replace hf := (if_pos h109).symm.trans hf
      cases hf
      exact x_throwW (pc := 46) (ci := 13) tw_X12_98_270 rfl ⟨by decide, by decide⟩ rfl (axH hG rfl) hX dX12_mustPlay_46 dX12_mustPlay_49 dX12_mustPlay_50 dX12_mustPlay_53 dX12_mustPlay_56 (by decide) (by omega)
    · replace hf := (if_neg (Int.not_lt.mpr h109)).symm.trans hf
      refine x_aload_n (pc := 34) dX12_mustPlay_34 rfl ?_
      refine x_getF (t := 10) (j := 7) (r := 183) (pc := 35) dX12_mustPlay_35 (axH hG rfl) (axEx hG rfl) rfl (by decide) (by decide) rfl rfl WF_X12_74 ?_
      refine x_iload_n (pc := 38) dX12_mustPlay_38 rfl ?_
      obtain ⟨v112, r111, hf⟩ := bd1_some hf
      refine x_cr (v := vI v112) (vs := [vR 183, vI (wr (1 - (fX8_turn M103)))]) (rest := []) (k := 2) rfl (by omega) (ax_caV (pc := 39) dX12_mustPlay_39 kX11_winningCells rfl rfl WM_X12_245 WI_X11_winningCells WS_X11_winningCells WN_X11 (ax_rcO (t := 9) (axEx hG rfl) rfl (by decide)) (Nat.le_of_ble_eq_true rfl)) kX11_winningCells rfl True.intro (T_X11_winningCells (by omega) hG r111) ?_
      refine x_iconst (pc := 42) dX12_mustPlay_42 ⟨by decide, by decide⟩ ?_
      refine x_icmpeq (tgt := 57) (pc := 43) dX12_mustPlay_43 rfl (fun h113 => ?_) (fun h113 => ?_)
      · replace hf := (if_pos h113).symm.trans hf
        refine x_aload_n (pc := 57) dX12_mustPlay_57 rfl ?_
        refine x_getF (t := 10) (j := 7) (r := 183) (pc := 58) dX12_mustPlay_58 (axH hG rfl) (axEx hG rfl) rfl (by decide) (by decide) rfl rfl WF_X12_74 ?_
        refine x_iload_n (pc := 61) dX12_mustPlay_61 rfl ?_
        obtain ⟨v115, r114, hf⟩ := bd1_some hf
        refine x_cr (v := vI v115) (vs := [vR 183, vI (wr (1 - (fX8_turn M103)))]) (rest := []) (k := 1) rfl (by omega) (ax_caV (pc := 62) dX12_mustPlay_62 kX11_firstWinning rfl rfl WM_X12_272 WI_X11_firstWinning WS_X11_firstWinning WN_X11 (ax_rcO (t := 9) (axEx hG rfl) rfl (by decide)) (Nat.le_of_ble_eq_true rfl)) kX11_firstWinning rfl True.intro (T_X11_firstWinning (by omega) hG r114) ?_
        cases hf
        exact x_retI (pc := 65) dX12_mustPlay_65
      · replace hf := (if_neg h113).symm.trans hf
        cases hf
        exact x_throwW (pc := 46) (ci := 13) tw_X12_98_270 rfl ⟨by decide, by decide⟩ rfl (axH hG rfl) hX dX12_mustPlay_46 dX12_mustPlay_49 dX12_mustPlay_50 dX12_mustPlay_53 dX12_mustPlay_56 (by decide) (by omega)
  · subst ho
    exact x_ct (vs := [vR 150]) (rest := []) (k := 0) rfl (by omega) (ax_caV (pc := 1) dX12_mustPlay_1 kX12_requireGameOn rfl rfl WM_X12_185 WI_X12_requireGameOn WS_X12_requireGameOn WN_X12 (ax_rcO (t := 10) (axEx hG rfl) rfl (by decide)) (Nat.le_of_ble_eq_true rfl)) kX12_requireGameOn rfl rfl (T_X12_requireGameOn (by omega) hG hX r101)
/- HexPond.leadWith(II)I -/
def fX12_leadWith (M : ax_M) (a1 : Int) (a2 : Int) : Option (Int × ax_M) :=
  (bd1 (fX8_put M a1 (wr (a2 + 1))) fun M102 => (bd1 (fX11_lookFromFirstShores M102) fun M104 => (bd1 (fX8_put M104 a1 0) fun M106 => (some ((wr ((fX11_needed M104 (wr (1 - a2))) - (fX11_needed M104 a2))), M106)))))
theorem T_X12_leadWith {G : ax_G} {d : Nat} (hd : 4 ≤ d) (hG : axPs G 150 244) {M : ax_M} {a1 : Int} {a2 : Int} {r : Int} {M1 : ax_M} (hf : fX12_leadWith M a1 a2 = some (r, M1)) : ax_Ex G tX12_leadWith d 0 (ax_args [vR 150, vI a1, vI a2] ++ List.replicate 1 none) [] M (.inl (some (vI r))) M1 := by
  show ax_Ex G tX12_leadWith d 0 [some (vR 150), some (vI a1), some (vI a2), none] [] M _ _
  unfold fX12_leadWith at hf
  refine x_aload_n (pc := 0) dX12_leadWith_0 rfl ?_
  refine x_getF (t := 10) (j := 4) (r := 169) (pc := 1) dX12_leadWith_1 (axH hG rfl) (axEx hG rfl) rfl (by decide) (by decide) rfl rfl WF_X12_51 ?_
  refine x_iload_n (pc := 4) dX12_leadWith_4 rfl ?_
  refine x_iload_n (pc := 5) dX12_leadWith_5 rfl ?_
  refine x_iconst (pc := 6) dX12_leadWith_6 ⟨by decide, by decide⟩ ?_
  refine x_iaddw (pc := 7) dX12_leadWith_7 ?_
  obtain ⟨M102, r101, hf⟩ := bd1_some hf
  refine x_cv (vs := [vR 169, vI a1, vI (wr (a2 + 1))]) (rest := []) (k := 0) rfl (by omega) (ax_caV (pc := 8) dX12_leadWith_8 kX8_put rfl rfl WM_X12_154 WI_X8_put WS_X8_put WN_X8 (ax_rcO (t := 6) (axEx hG rfl) rfl (by decide)) (Nat.le_of_ble_eq_true rfl)) kX8_put rfl True.intro (T_X8_put (by omega) (axPs.sub hG (Nat.le_of_ble_eq_true rfl) (Nat.le_of_ble_eq_true rfl)) r101) ?_
  refine x_aload_n (pc := 11) dX12_leadWith_11 rfl ?_
  refine x_getF (t := 10) (j := 7) (r := 183) (pc := 12) dX12_leadWith_12 (axH hG rfl) (axEx hG rfl) rfl (by decide) (by decide) rfl rfl WF_X12_74 ?_
  obtain ⟨M104, r103, hf⟩ := bd1_some hf
  refine x_cv (vs := [vR 183]) (rest := []) (k := 0) rfl (by omega) (ax_caV (pc := 15) dX12_leadWith_15 kX11_lookFromFirstShores rfl rfl WM_X12_318 WI_X11_lookFromFirstShores WS_X11_lookFromFirstShores WN_X11 (ax_rcO (t := 9) (axEx hG rfl) rfl (by decide)) (Nat.le_of_ble_eq_true rfl)) kX11_lookFromFirstShores rfl True.intro (T_X11_lookFromFirstShores (by omega) hG r103) ?_
  refine x_aload_n (pc := 18) dX12_leadWith_18 rfl ?_
  refine x_getF (t := 10) (j := 7) (r := 183) (pc := 19) dX12_leadWith_19 (axH hG rfl) (axEx hG rfl) rfl (by decide) (by decide) rfl rfl WF_X12_74 ?_
  refine x_iconst (pc := 22) dX12_leadWith_22 ⟨by decide, by decide⟩ ?_
  refine x_iload_n (pc := 23) dX12_leadWith_23 rfl ?_
  refine x_isubw (pc := 24) dX12_leadWith_24 ?_
  refine x_cr (v := vI (fX11_needed M104 (wr (1 - a2)))) (vs := [vR 183, vI (wr (1 - a2))]) (rest := []) (k := 0) rfl (by omega) (ax_caV (pc := 25) dX12_leadWith_25 kX11_needed rfl rfl WM_X12_232 WI_X11_needed WS_X11_needed WN_X11 (ax_rcO (t := 9) (axEx hG rfl) rfl (by decide)) (Nat.le_of_ble_eq_true rfl)) kX11_needed rfl True.intro (T_X11_needed (by omega) hG rfl) ?_
  refine x_aload_n (pc := 28) dX12_leadWith_28 rfl ?_
  refine x_getF (t := 10) (j := 7) (r := 183) (pc := 29) dX12_leadWith_29 (axH hG rfl) (axEx hG rfl) rfl (by decide) (by decide) rfl rfl WF_X12_74 ?_
  refine x_iload_n (pc := 32) dX12_leadWith_32 rfl ?_
  refine x_cr (v := vI (fX11_needed M104 a2)) (vs := [vR 183, vI a2]) (rest := [vI (fX11_needed M104 (wr (1 - a2)))]) (k := 0) rfl (by omega) (ax_caV (pc := 33) dX12_leadWith_33 kX11_needed rfl rfl WM_X12_232 WI_X11_needed WS_X11_needed WN_X11 (ax_rcO (t := 9) (axEx hG rfl) rfl (by decide)) (Nat.le_of_ble_eq_true rfl)) kX11_needed rfl True.intro (T_X11_needed (by omega) hG rfl) ?_
  refine x_isubw (pc := 36) dX12_leadWith_36 ?_
  refine x_istore_n (ls' := [some (vR 150), some (vI a1), some (vI a2), some (vI (wr ((fX11_needed M104 (wr (1 - a2))) - (fX11_needed M104 a2))))]) (pc := 37) dX12_leadWith_37 (Nat.le_of_ble_eq_true rfl) rfl rfl ?_
  refine x_aload_n (pc := 38) dX12_leadWith_38 rfl ?_
  refine x_getF (t := 10) (j := 4) (r := 169) (pc := 39) dX12_leadWith_39 (axH hG rfl) (axEx hG rfl) rfl (by decide) (by decide) rfl rfl WF_X12_51 ?_
  refine x_iload_n (pc := 42) dX12_leadWith_42 rfl ?_
  refine x_iconst (pc := 43) dX12_leadWith_43 ⟨by decide, by decide⟩ ?_
  obtain ⟨M106, r105, hf⟩ := bd1_some hf
  refine x_cv (vs := [vR 169, vI a1, vI 0]) (rest := []) (k := 0) rfl (by omega) (ax_caV (pc := 44) dX12_leadWith_44 kX8_put rfl rfl WM_X12_154 WI_X8_put WS_X8_put WN_X8 (ax_rcO (t := 6) (axEx hG rfl) rfl (by decide)) (Nat.le_of_ble_eq_true rfl)) kX8_put rfl True.intro (T_X8_put (by omega) (axPs.sub hG (Nat.le_of_ble_eq_true rfl) (Nat.le_of_ble_eq_true rfl)) r105) ?_
  refine x_iload_n (pc := 47) dX12_leadWith_47 rfl ?_
  cases hf
  exact x_retI (pc := 48) dX12_leadWith_48
/- HexPond.bestCell()I -/
def fX12_bestCell_b19 (M : ax_M) (x1 : Int) (v2 : Int) (v3 : Int) (v4 : Int) : Option ((Int × Int × Int × ax_M) ⊕ (Int × ax_M)) :=
  (if v4 < (fX8_cells M) then (if (fX8_ownerAt M v4) = 0 then (bd2 (fX12_leadWith M v4 x1) fun v110 M109 => (if v2 = (-1) then (some (.inl (v4, v110, (v4 + 1), M109))) else (if v3 < v110 then (some (.inl (v4, v110, (v4 + 1), M109))) else (some (.inl (v2, v3, (v4 + 1), M109)))))) else (some (.inl (v2, v3, (v4 + 1), M)))) else (some (.inr (v2, M))))
def fX12_bestCell (M : ax_M) : Option ((Int ⊕ String) × ax_M) :=
  (bdT (fX12_requireGameOn M) fun v102 M103 => (bd1 (lp (fun s => fX12_bestCell_b19 s.2.2.2 (fX8_turn M103) s.1 s.2.1 s.2.2.1) lpN ((-1), 0, 0, M103)) fun t114 => (some (.inl t114.1, t114.2))))
theorem B_X12_bestCell_19 {G : ax_G} {d : Nat} (hd : 7 ≤ d) (hG : axPs G 150 244) {M : ax_M} {x1 : Int} {v2 : Int} {v3 : Int} {v4 : Int} {o : Option ax_V ⊕ String} {M' : ax_M} {y : (Int × Int × Int × ax_M) ⊕ (Int × ax_M)} (hf : fX12_bestCell_b19 M x1 v2 v3 v4 = some y) (h1 : ∀ s', y = .inl s' → ax_Ex G tX12_bestCell d 19 [some (vR 150), some (vI x1), some (vI s'.1), some (vI s'.2.1), some (vI s'.2.2.1), none] [] s'.2.2.2 o M') (h2a : ∀ t, y = .inr t → ax_Ex G tX12_bestCell d 75 [some (vR 150), some (vI x1), some (vI t.1), none, none, none] [] t.2 o M') : ax_Ex G tX12_bestCell d 19 [some (vR 150), some (vI x1), some (vI v2), some (vI v3), some (vI v4), none] [] M o M' := by
  unfold fX12_bestCell_b19 at hf
  refine x_iload (pc := 19) dX12_bestCell_19 rfl ?_
  refine x_aload_n (pc := 21) dX12_bestCell_21 rfl ?_
  refine x_getF (t := 10) (j := 4) (r := 169) (pc := 22) dX12_bestCell_22 (axH hG rfl) (axEx hG rfl) rfl (by decide) (by decide) rfl rfl WF_X12_51 ?_
  refine x_cr (v := vI (fX8_cells M)) (vs := [vR 169]) (rest := [vI v4]) (k := 0) rfl (by omega) (ax_caV (pc := 25) dX12_bestCell_25 kX8_cells rfl rfl WM_X12_148 WI_X8_cells WS_X8_cells WN_X8 (ax_rcO (t := 6) (axEx hG rfl) rfl (by decide)) (Nat.le_of_ble_eq_true rfl)) kX8_cells rfl True.intro (T_X8_cells (by omega) (axPs.sub hG (Nat.le_of_ble_eq_true rfl) (Nat.le_of_ble_eq_true rfl)) rfl) ?_
  refine ax_cmp (fun b106a b106b b106c b106e => ?_)
  refine x_icmpge (tgt := 75) (pc := 28) dX12_bestCell_28 rfl (fun h105 => ?_) (fun h105 => ?_)
  · replace hf := (if_neg (Int.not_lt.mpr h105)).symm.trans hf
    cases hf
    exact x_fgt (axS' (axS' (axS' (axN' (axN' (axN' axD)))))) (h2a _ rfl)
  · replace hf := (if_pos h105).symm.trans hf
    refine x_aload_n (pc := 31) dX12_bestCell_31 rfl ?_
    refine x_getF (t := 10) (j := 4) (r := 169) (pc := 32) dX12_bestCell_32 (axH hG rfl) (axEx hG rfl) rfl (by decide) (by decide) rfl rfl WF_X12_51 ?_
    refine x_iload (pc := 35) dX12_bestCell_35 rfl ?_
    refine x_cr (v := vI (fX8_ownerAt M v4)) (vs := [vR 169, vI v4]) (rest := []) (k := 0) rfl (by omega) (ax_caV (pc := 37) dX12_bestCell_37 kX8_ownerAt rfl rfl WM_X12_178 WI_X8_ownerAt WS_X8_ownerAt WN_X8 (ax_rcO (t := 6) (axEx hG rfl) rfl (by decide)) (Nat.le_of_ble_eq_true rfl)) kX8_ownerAt rfl True.intro (T_X8_ownerAt (by omega) (axPs.sub hG (Nat.le_of_ble_eq_true rfl) (Nat.le_of_ble_eq_true rfl)) rfl) ?_
    refine x_ifne (tgt := 69) (pc := 40) dX12_bestCell_40 rfl (fun h107 => ?_) (fun h107 => ?_)
    · replace hf := (if_neg h107).symm.trans hf
      refine x_iinc (z := (v4 + 1)) (ls' := [some (vR 150), some (vI x1), some (vI v2), some (vI v3), some (vI (v4 + 1)), none]) (pc := 69) dX12_bestCell_69 rfl (Nat.le_of_ble_eq_true rfl) rfl rfl (ax_i (by omega) (by omega)) rfl ?_
      refine x_goto (tgt := 19) (pc := 72) dX12_bestCell_72 rfl ?_
      cases hf
      exact h1 _ rfl
    · replace hf := (if_pos h107).symm.trans hf
      refine x_aload_n (pc := 43) dX12_bestCell_43 rfl ?_
      refine x_iload (pc := 44) dX12_bestCell_44 rfl ?_
      refine x_iload_n (pc := 46) dX12_bestCell_46 rfl ?_
      obtain ⟨v110, M109, r108, hf⟩ := bd2_some hf
      refine x_cr (v := vI v110) (vs := [vR 150, vI v4, vI x1]) (rest := []) (k := 1) rfl (by omega) (ax_caV (pc := 47) dX12_bestCell_47 kX12_leadWith rfl rfl WM_X12_275 WI_X12_leadWith WS_X12_leadWith WN_X12 (ax_rcO (t := 10) (axEx hG rfl) rfl (by decide)) (Nat.le_of_ble_eq_true rfl)) kX12_leadWith rfl True.intro (T_X12_leadWith (by omega) hG r108) ?_
      refine x_istore (ls' := [some (vR 150), some (vI x1), some (vI v2), some (vI v3), some (vI v4), some (vI v110)]) (pc := 50) dX12_bestCell_50 (Nat.le_of_ble_eq_true rfl) rfl rfl ?_
      refine x_iload_n (pc := 52) dX12_bestCell_52 rfl ?_
      refine x_iconst (pc := 53) dX12_bestCell_53 ⟨by decide, by decide⟩ ?_
      refine x_icmpeq (tgt := 63) (pc := 54) dX12_bestCell_54 rfl (fun h111 => ?_) (fun h111 => ?_)
      · replace hf := (if_pos h111).symm.trans hf
        refine x_iload (pc := 63) dX12_bestCell_63 rfl ?_
        refine x_istore_n (ls' := [some (vR 150), some (vI x1), some (vI v4), some (vI v3), some (vI v4), some (vI v110)]) (pc := 65) dX12_bestCell_65 (Nat.le_of_ble_eq_true rfl) rfl rfl ?_
        refine x_iload (pc := 66) dX12_bestCell_66 rfl ?_
        refine x_istore_n (ls' := [some (vR 150), some (vI x1), some (vI v4), some (vI v110), some (vI v4), some (vI v110)]) (pc := 68) dX12_bestCell_68 (Nat.le_of_ble_eq_true rfl) rfl rfl ?_
        refine x_iinc (z := (v4 + 1)) (ls' := [some (vR 150), some (vI x1), some (vI v4), some (vI v110), some (vI (v4 + 1)), some (vI v110)]) (pc := 69) dX12_bestCell_69 rfl (Nat.le_of_ble_eq_true rfl) rfl rfl (ax_i (by omega) (by omega)) rfl ?_
        refine x_goto (tgt := 19) (pc := 72) dX12_bestCell_72 rfl ?_
        cases hf
        exact x_fgt (axS' (axS' (axS' (axS' (axS' (axN' axD)))))) (h1 _ rfl)
      · replace hf := (if_neg h111).symm.trans hf
        refine x_iload (pc := 57) dX12_bestCell_57 rfl ?_
        refine x_iload_n (pc := 59) dX12_bestCell_59 rfl ?_
        refine ax_cmp (fun b113a b113b b113c b113e => ?_)
        refine x_icmple (tgt := 69) (pc := 60) dX12_bestCell_60 rfl (fun h112 => ?_) (fun h112 => ?_)
        · replace hf := (if_neg (Int.not_lt.mpr h112)).symm.trans hf
          refine x_iinc (z := (v4 + 1)) (ls' := [some (vR 150), some (vI x1), some (vI v2), some (vI v3), some (vI (v4 + 1)), some (vI v110)]) (pc := 69) dX12_bestCell_69 rfl (Nat.le_of_ble_eq_true rfl) rfl rfl (ax_i (by omega) (by omega)) rfl ?_
          refine x_goto (tgt := 19) (pc := 72) dX12_bestCell_72 rfl ?_
          cases hf
          exact x_fgt (axS' (axS' (axS' (axS' (axS' (axN' axD)))))) (h1 _ rfl)
        · replace hf := (if_pos h112).symm.trans hf
          refine x_iload (pc := 63) dX12_bestCell_63 rfl ?_
          refine x_istore_n (ls' := [some (vR 150), some (vI x1), some (vI v4), some (vI v3), some (vI v4), some (vI v110)]) (pc := 65) dX12_bestCell_65 (Nat.le_of_ble_eq_true rfl) rfl rfl ?_
          refine x_iload (pc := 66) dX12_bestCell_66 rfl ?_
          refine x_istore_n (ls' := [some (vR 150), some (vI x1), some (vI v4), some (vI v110), some (vI v4), some (vI v110)]) (pc := 68) dX12_bestCell_68 (Nat.le_of_ble_eq_true rfl) rfl rfl ?_
          refine x_iinc (z := (v4 + 1)) (ls' := [some (vR 150), some (vI x1), some (vI v4), some (vI v110), some (vI (v4 + 1)), some (vI v110)]) (pc := 69) dX12_bestCell_69 rfl (Nat.le_of_ble_eq_true rfl) rfl rfl (ax_i (by omega) (by omega)) rfl ?_
          refine x_goto (tgt := 19) (pc := 72) dX12_bestCell_72 rfl ?_
          cases hf
          exact x_fgt (axS' (axS' (axS' (axS' (axS' (axN' axD)))))) (h1 _ rfl)
theorem T_X12_bestCell {G : ax_G} {d : Nat} (hd : 7 ≤ d) (hG : axPs G 150 244) (hX : (gL G).stackTraces = false) {M : ax_M} {r : Int ⊕ String} {M1 : ax_M} (hf : fX12_bestCell M = some (r, M1)) : ax_Ex G tX12_bestCell d 0 (ax_args [vR 150] ++ List.replicate 5 none) [] M (oSI r) M1 := by
  show ax_Ex G tX12_bestCell d 0 [some (vR 150), none, none, none, none, none] [] M _ _
  unfold fX12_bestCell at hf
  refine x_aload_n (pc := 0) dX12_bestCell_0 rfl ?_
  rcases bdT_some hf with ⟨v102, M103, r101, hf⟩ | ⟨E104, r101, ho⟩
  · skip
    refine x_cv (vs := [vR 150]) (rest := []) (k := 0) rfl (by omega) (ax_caV (pc := 1) dX12_bestCell_1 kX12_requireGameOn rfl rfl WM_X12_185 WI_X12_requireGameOn WS_X12_requireGameOn WN_X12 (ax_rcO (t := 10) (axEx hG rfl) rfl (by decide)) (Nat.le_of_ble_eq_true rfl)) kX12_requireGameOn rfl True.intro (T_X12_requireGameOn (by omega) hG hX r101) ?_
    refine x_aload_n (pc := 4) dX12_bestCell_4 rfl ?_
    refine x_getF (t := 10) (j := 4) (r := 169) (pc := 5) dX12_bestCell_5 (axH hG rfl) (axEx hG rfl) rfl (by decide) (by decide) rfl rfl WF_X12_51 ?_
    refine x_cr (v := vI (fX8_turn M103)) (vs := [vR 169]) (rest := []) (k := 0) rfl (by omega) (ax_caV (pc := 8) dX12_bestCell_8 kX8_turn rfl rfl WM_X12_188 WI_X8_turn WS_X8_turn WN_X8 (ax_rcO (t := 6) (axEx hG rfl) rfl (by decide)) (Nat.le_of_ble_eq_true rfl)) kX8_turn rfl True.intro (T_X8_turn (by omega) (axPs.sub hG (Nat.le_of_ble_eq_true rfl) (Nat.le_of_ble_eq_true rfl)) rfl) ?_
    refine x_istore_n (ls' := [some (vR 150), some (vI (fX8_turn M103)), none, none, none, none]) (pc := 11) dX12_bestCell_11 (Nat.le_of_ble_eq_true rfl) rfl rfl ?_
    refine x_iconst (pc := 12) dX12_bestCell_12 ⟨by decide, by decide⟩ ?_
    refine x_istore_n (ls' := [some (vR 150), some (vI (fX8_turn M103)), some (vI (-1)), none, none, none]) (pc := 13) dX12_bestCell_13 (Nat.le_of_ble_eq_true rfl) rfl rfl ?_
    refine x_iconst (pc := 14) dX12_bestCell_14 ⟨by decide, by decide⟩ ?_
    refine x_istore_n (ls' := [some (vR 150), some (vI (fX8_turn M103)), some (vI (-1)), some (vI 0), none, none]) (pc := 15) dX12_bestCell_15 (Nat.le_of_ble_eq_true rfl) rfl rfl ?_
    refine x_iconst (pc := 16) dX12_bestCell_16 ⟨by decide, by decide⟩ ?_
    refine x_istore (ls' := [some (vR 150), some (vI (fX8_turn M103)), some (vI (-1)), some (vI 0), some (vI 0), none]) (pc := 17) dX12_bestCell_17 (Nat.le_of_ble_eq_true rfl) rfl rfl ?_
    obtain ⟨t114, t115, hf⟩ := bd1_some hf
    refine lp_ex (P := (fun s => ax_Ex G tX12_bestCell d 19 [some (vR 150), some (vI (fX8_turn M103)), some (vI s.1), some (vI s.2.1), some (vI s.2.2.1), none] [] s.2.2.2 _ _)) (K := (fun t => ax_Ex G tX12_bestCell d 75 [some (vR 150), some (vI (fX8_turn M103)), some (vI t.1), none, none, none] [] t.2 _ _)) (fun s y hy h1 h2 => B_X12_bestCell_19 (by omega) hG hy (fun s' e => h1 s' e) (fun t e => h2 t e)) _ _ _ t115 ?_
    refine x_iload_n (pc := 75) dX12_bestCell_75 rfl ?_
    cases hf
    exact x_retI (pc := 76) dX12_bestCell_76
  · subst ho
    exact x_ct (vs := [vR 150]) (rest := []) (k := 0) rfl (by omega) (ax_caV (pc := 1) dX12_bestCell_1 kX12_requireGameOn rfl rfl WM_X12_185 WI_X12_requireGameOn WS_X12_requireGameOn WN_X12 (ax_rcO (t := 10) (axEx hG rfl) rfl (by decide)) (Nat.le_of_ble_eq_true rfl)) kX12_requireGameOn rfl rfl (T_X12_requireGameOn (by omega) hG hX r101)
/- HexPond.meanGroup()D -/
def fX12_meanGroup (M : ax_M) : Option (UInt64 × ax_M) :=
  (bd1 (fX4_look M 0) fun M102 => (bd1 (fX4_look M102 1) fun M104 => (if (wr ((fX4_count M102) + (fX4_count M104))) = 0 then (some (0, M104)) else (if (FP.ddiv (idl (fX8_stones M104)) (idl (wr ((fX4_count M102) + (fX4_count M104))))) &&& (0x7fffffffffffffff : UInt64) ≤ (0x7ff0000000000000 : UInt64) then (some ((FP.ddiv (idl (fX8_stones M104)) (idl (wr ((fX4_count M102) + (fX4_count M104))))), M104)) else none))))
theorem T_X12_meanGroup {G : ax_G} {d : Nat} (hd : 3 ≤ d) (hG : axPs G 150 244) {M : ax_M} {r : UInt64} {M1 : ax_M} (hf : fX12_meanGroup M = some (r, M1)) : ax_Ex G tX12_meanGroup d 0 (ax_args [vR 150] ++ List.replicate 1 none) [] M (.inl (some (vD r))) M1 := by
  show ax_Ex G tX12_meanGroup d 0 [some (vR 150), none] [] M _ _
  unfold fX12_meanGroup at hf
  refine x_aload_n (pc := 0) dX12_meanGroup_0 rfl ?_
  refine x_getF (t := 10) (j := 5) (r := 176) (pc := 1) dX12_meanGroup_1 (axH hG rfl) (axEx hG rfl) rfl (by decide) (by decide) rfl rfl WF_X12_60 ?_
  refine x_iconst (pc := 4) dX12_meanGroup_4 ⟨by decide, by decide⟩ ?_
  obtain ⟨M102, r101, hf⟩ := bd1_some hf
  refine x_cv (vs := [vR 176, vI 0]) (rest := []) (k := 1) rfl (by omega) (ax_caV (pc := 5) dX12_meanGroup_5 kX4_look rfl rfl WM_X12_200 WI_X4_look WS_X4_look WN_X4 (ax_rcO (t := 3) (axEx hG rfl) rfl (by decide)) (Nat.le_of_ble_eq_true rfl)) kX4_look rfl True.intro (T_X4_look (by omega) hG r101) ?_
  refine x_aload_n (pc := 8) dX12_meanGroup_8 rfl ?_
  refine x_getF (t := 10) (j := 5) (r := 176) (pc := 9) dX12_meanGroup_9 (axH hG rfl) (axEx hG rfl) rfl (by decide) (by decide) rfl rfl WF_X12_60 ?_
  refine x_cr (v := vI (fX4_count M102)) (vs := [vR 176]) (rest := []) (k := 0) rfl (by omega) (ax_caV (pc := 12) dX12_meanGroup_12 kX4_count rfl rfl WM_X12_203 WI_X4_count WS_X4_count WN_X4 (ax_rcO (t := 3) (axEx hG rfl) rfl (by decide)) (Nat.le_of_ble_eq_true rfl)) kX4_count rfl True.intro (T_X4_count (by omega) hG rfl) ?_
  refine x_istore_n (ls' := [some (vR 150), some (vI (fX4_count M102))]) (pc := 15) dX12_meanGroup_15 (Nat.le_of_ble_eq_true rfl) rfl rfl ?_
  refine x_aload_n (pc := 16) dX12_meanGroup_16 rfl ?_
  refine x_getF (t := 10) (j := 5) (r := 176) (pc := 17) dX12_meanGroup_17 (axH hG rfl) (axEx hG rfl) rfl (by decide) (by decide) rfl rfl WF_X12_60 ?_
  refine x_iconst (pc := 20) dX12_meanGroup_20 ⟨by decide, by decide⟩ ?_
  obtain ⟨M104, r103, hf⟩ := bd1_some hf
  refine x_cv (vs := [vR 176, vI 1]) (rest := []) (k := 1) rfl (by omega) (ax_caV (pc := 21) dX12_meanGroup_21 kX4_look rfl rfl WM_X12_200 WI_X4_look WS_X4_look WN_X4 (ax_rcO (t := 3) (axEx hG rfl) rfl (by decide)) (Nat.le_of_ble_eq_true rfl)) kX4_look rfl True.intro (T_X4_look (by omega) hG r103) ?_
  refine x_iload_n (pc := 24) dX12_meanGroup_24 rfl ?_
  refine x_aload_n (pc := 25) dX12_meanGroup_25 rfl ?_
  refine x_getF (t := 10) (j := 5) (r := 176) (pc := 26) dX12_meanGroup_26 (axH hG rfl) (axEx hG rfl) rfl (by decide) (by decide) rfl rfl WF_X12_60 ?_
  refine x_cr (v := vI (fX4_count M104)) (vs := [vR 176]) (rest := [vI (fX4_count M102)]) (k := 0) rfl (by omega) (ax_caV (pc := 29) dX12_meanGroup_29 kX4_count rfl rfl WM_X12_203 WI_X4_count WS_X4_count WN_X4 (ax_rcO (t := 3) (axEx hG rfl) rfl (by decide)) (Nat.le_of_ble_eq_true rfl)) kX4_count rfl True.intro (T_X4_count (by omega) hG rfl) ?_
  refine x_iaddw (pc := 32) dX12_meanGroup_32 ?_
  refine x_istore_n (ls' := [some (vR 150), some (vI (wr ((fX4_count M102) + (fX4_count M104))))]) (pc := 33) dX12_meanGroup_33 (Nat.le_of_ble_eq_true rfl) rfl rfl ?_
  refine x_iload_n (pc := 34) dX12_meanGroup_34 rfl ?_
  refine x_ifne (tgt := 42) (pc := 35) dX12_meanGroup_35 rfl (fun h105 => ?_) (fun h105 => ?_)
  · replace hf := (if_neg h105).symm.trans hf
    refine x_aload_n (pc := 42) dX12_meanGroup_42 rfl ?_
    refine x_getF (t := 10) (j := 4) (r := 169) (pc := 43) dX12_meanGroup_43 (axH hG rfl) (axEx hG rfl) rfl (by decide) (by decide) rfl rfl WF_X12_51 ?_
    refine x_cr (v := vI (fX8_stones M104)) (vs := [vR 169]) (rest := []) (k := 0) rfl (by omega) (ax_caV (pc := 46) dX12_meanGroup_46 kX8_stones rfl rfl WM_X12_278 WI_X8_stones WS_X8_stones WN_X8 (ax_rcO (t := 6) (axEx hG rfl) rfl (by decide)) (Nat.le_of_ble_eq_true rfl)) kX8_stones rfl True.intro (T_X8_stones (by omega) (axPs.sub hG (Nat.le_of_ble_eq_true rfl) (Nat.le_of_ble_eq_true rfl)) rfl) ?_
    refine x_i2d (pc := 49) dX12_meanGroup_49 ?_
    refine x_iload_n (pc := 50) dX12_meanGroup_50 rfl ?_
    refine x_i2d (pc := 51) dX12_meanGroup_51 ?_
    by_cases h106 : (FP.ddiv (idl (fX8_stones M104)) (idl (wr ((fX4_count M102) + (fX4_count M104))))) &&& (0x7fffffffffffffff : UInt64) ≤ (0x7ff0000000000000 : UInt64)
    · replace hf := (if_pos h106).symm.trans hf
      refine x_ddiv (pc := 52) dX12_meanGroup_52 h106 ?_
      cases hf
      exact x_retD (pc := 53) dX12_meanGroup_53
    · replace hf := (if_neg h106).symm.trans hf
      cases hf
  · replace hf := (if_pos h105).symm.trans hf
    refine x_dconst0 (pc := 38) dX12_meanGroup_38 ?_
    refine x_goto (tgt := 53) (pc := 39) dX12_meanGroup_39 rfl ?_
    cases hf
    exact x_retD (pc := 53) dX12_meanGroup_53
/- HexPond.digestOfPlayer(JI)J -/
def fX12_digestOfPlayer (M : ax_M) (a1 : Int64) (a2 : Int) : Option (Int64 × ax_M) :=
  (bd1 (fX4_look M a2) fun M102 => (bd1 (fX1_look M102) fun M104 => (bd1 (fX11_look M104) fun M106 => (bd2 (fX12_winner M106) fun v109 M108 => (if v109 = a2 then (bd1 (fX11_winningCells M108 a2) fun v112 => (some (((((((((((((((((a1 * (31 : Int64)) + (il (fX8_stonesOf M106 a2))) * (31 : Int64)) + (il 1)) * (31 : Int64)) + (il (fX4_count M108))) * (31 : Int64)) + (il (fX4_greatest M108))) * (31 : Int64)) + (il (fX1_whole M108 a2))) * (31 : Int64)) + (il (fX1_broken M108 a2))) * (31 : Int64)) + (il v112)) * (31 : Int64)) + (il (fX11_needed M108 a2))), M108))) else (bd1 (fX11_winningCells M108 a2) fun v114 => (some (((((((((((((((((a1 * (31 : Int64)) + (il (fX8_stonesOf M106 a2))) * (31 : Int64)) + (il 0)) * (31 : Int64)) + (il (fX4_count M108))) * (31 : Int64)) + (il (fX4_greatest M108))) * (31 : Int64)) + (il (fX1_whole M108 a2))) * (31 : Int64)) + (il (fX1_broken M108 a2))) * (31 : Int64)) + (il v114)) * (31 : Int64)) + (il (fX11_needed M108 a2))), M108))))))))
theorem T_X12_digestOfPlayer {G : ax_G} {d : Nat} (hd : 5 ≤ d) (hG : axPs G 150 244) {M : ax_M} {a1 : Int64} {a2 : Int} {r : Int64} {M1 : ax_M} (hf : fX12_digestOfPlayer M a1 a2 = some (r, M1)) : ax_Ex G tX12_digestOfPlayer d 0 (ax_args [vR 150, vL a1, vI a2] ++ List.replicate 2 none) [] M (.inl (some (vL r))) M1 := by
  show ax_Ex G tX12_digestOfPlayer d 0 [some (vR 150), some (vL a1), none, some (vI a2), none, none] [] M _ _
  unfold fX12_digestOfPlayer at hf
  refine x_aload_n (pc := 0) dX12_digestOfPlayer_0 rfl ?_
  refine x_getF (t := 10) (j := 5) (r := 176) (pc := 1) dX12_digestOfPlayer_1 (axH hG rfl) (axEx hG rfl) rfl (by decide) (by decide) rfl rfl WF_X12_60 ?_
  refine x_iload_n (pc := 4) dX12_digestOfPlayer_4 rfl ?_
  obtain ⟨M102, r101, hf⟩ := bd1_some hf
  refine x_cv (vs := [vR 176, vI a2]) (rest := []) (k := 1) rfl (by omega) (ax_caV (pc := 5) dX12_digestOfPlayer_5 kX4_look rfl rfl WM_X12_200 WI_X4_look WS_X4_look WN_X4 (ax_rcO (t := 3) (axEx hG rfl) rfl (by decide)) (Nat.le_of_ble_eq_true rfl)) kX4_look rfl True.intro (T_X4_look (by omega) hG r101) ?_
  refine x_aload_n (pc := 8) dX12_digestOfPlayer_8 rfl ?_
  refine x_getF (t := 10) (j := 6) (r := 179) (pc := 9) dX12_digestOfPlayer_9 (axH hG rfl) (axEx hG rfl) rfl (by decide) (by decide) rfl rfl WF_X12_67 ?_
  obtain ⟨M104, r103, hf⟩ := bd1_some hf
  refine x_cv (vs := [vR 179]) (rest := []) (k := 2) rfl (by omega) (ax_caV (pc := 12) dX12_digestOfPlayer_12 kX1_look rfl rfl WM_X12_220 WI_X1_look WS_X1_look WN_X1 (ax_rcO (t := 0) (axEx hG rfl) rfl (by decide)) (Nat.le_of_ble_eq_true rfl)) kX1_look rfl True.intro (T_X1_look (by omega) hG r103) ?_
  refine x_aload_n (pc := 15) dX12_digestOfPlayer_15 rfl ?_
  refine x_getF (t := 10) (j := 7) (r := 183) (pc := 16) dX12_digestOfPlayer_16 (axH hG rfl) (axEx hG rfl) rfl (by decide) (by decide) rfl rfl WF_X12_74 ?_
  obtain ⟨M106, r105, hf⟩ := bd1_some hf
  refine x_cv (vs := [vR 183]) (rest := []) (k := 1) rfl (by omega) (ax_caV (pc := 19) dX12_digestOfPlayer_19 kX11_look rfl rfl WM_X12_231 WI_X11_look WS_X11_look WN_X11 (ax_rcO (t := 9) (axEx hG rfl) rfl (by decide)) (Nat.le_of_ble_eq_true rfl)) kX11_look rfl True.intro (T_X11_look (by omega) hG r105) ?_
  refine x_lload_n (pc := 22) dX12_digestOfPlayer_22 rfl ?_
  refine x_lstore (ls' := [some (vR 150), some (vL a1), none, some (vI a2), some (vL a1), none]) (pc := 23) dX12_digestOfPlayer_23 (Nat.le_of_ble_eq_true rfl) rfl rfl ?_
  refine x_lload (pc := 25) dX12_digestOfPlayer_25 rfl ?_
  refine x_ldc2 (v := 31) (pc := 27) dX12_digestOfPlayer_27 WJ_X12_283 ?_
  refine x_lmul (pc := 30) dX12_digestOfPlayer_30 ?_
  refine x_aload_n (pc := 31) dX12_digestOfPlayer_31 rfl ?_
  refine x_getF (t := 10) (j := 4) (r := 169) (pc := 32) dX12_digestOfPlayer_32 (axH hG rfl) (axEx hG rfl) rfl (by decide) (by decide) rfl rfl WF_X12_51 ?_
  refine x_iload_n (pc := 35) dX12_digestOfPlayer_35 rfl ?_
  refine x_cr (v := vI (fX8_stonesOf M106 a2)) (vs := [vR 169, vI a2]) (rest := [vL (a1 * (31 : Int64))]) (k := 0) rfl (by omega) (ax_caV (pc := 36) dX12_digestOfPlayer_36 kX8_stonesOf rfl rfl WM_X12_171 WI_X8_stonesOf WS_X8_stonesOf WN_X8 (ax_rcO (t := 6) (axEx hG rfl) rfl (by decide)) (Nat.le_of_ble_eq_true rfl)) kX8_stonesOf rfl True.intro (T_X8_stonesOf (by omega) (axPs.sub hG (Nat.le_of_ble_eq_true rfl) (Nat.le_of_ble_eq_true rfl)) rfl) ?_
  refine x_i2l (pc := 39) dX12_digestOfPlayer_39 ?_
  refine x_ladd (pc := 40) dX12_digestOfPlayer_40 ?_
  refine x_lstore (ls' := [some (vR 150), some (vL a1), none, some (vI a2), some (vL ((a1 * (31 : Int64)) + (il (fX8_stonesOf M106 a2)))), none]) (pc := 41) dX12_digestOfPlayer_41 (Nat.le_of_ble_eq_true rfl) rfl rfl ?_
  refine x_lload (pc := 43) dX12_digestOfPlayer_43 rfl ?_
  refine x_ldc2 (v := 31) (pc := 45) dX12_digestOfPlayer_45 WJ_X12_283 ?_
  refine x_lmul (pc := 48) dX12_digestOfPlayer_48 ?_
  refine x_aload_n (pc := 49) dX12_digestOfPlayer_49 rfl ?_
  obtain ⟨v109, M108, r107, hf⟩ := bd2_some hf
  refine x_cr (v := vI v109) (vs := [vR 150]) (rest := [vL (((a1 * (31 : Int64)) + (il (fX8_stonesOf M106 a2))) * (31 : Int64))]) (k := 0) rfl (by omega) (ax_caV (pc := 50) dX12_digestOfPlayer_50 kX12_winner rfl rfl WM_X12_182 WI_X12_winner WS_X12_winner WN_X12 (ax_rcO (t := 10) (axEx hG rfl) rfl (by decide)) (Nat.le_of_ble_eq_true rfl)) kX12_winner rfl True.intro (T_X12_winner (by omega) hG r107) ?_
  refine x_iload_n (pc := 53) dX12_digestOfPlayer_53 rfl ?_
  refine x_icmpne (tgt := 61) (pc := 54) dX12_digestOfPlayer_54 rfl (fun h110 => ?_) (fun h110 => ?_)
  · replace hf := (if_neg h110).symm.trans hf
    refine x_iconst (pc := 61) dX12_digestOfPlayer_61 ⟨by decide, by decide⟩ ?_
    refine x_i2l (pc := 62) dX12_digestOfPlayer_62 ?_
    refine x_ladd (pc := 63) dX12_digestOfPlayer_63 ?_
    refine x_lstore (ls' := [some (vR 150), some (vL a1), none, some (vI a2), some (vL ((((a1 * (31 : Int64)) + (il (fX8_stonesOf M106 a2))) * (31 : Int64)) + (il 0))), none]) (pc := 64) dX12_digestOfPlayer_64 (Nat.le_of_ble_eq_true rfl) rfl rfl ?_
    refine x_lload (pc := 66) dX12_digestOfPlayer_66 rfl ?_
    refine x_ldc2 (v := 31) (pc := 68) dX12_digestOfPlayer_68 WJ_X12_283 ?_
    refine x_lmul (pc := 71) dX12_digestOfPlayer_71 ?_
    refine x_aload_n (pc := 72) dX12_digestOfPlayer_72 rfl ?_
    refine x_getF (t := 10) (j := 5) (r := 176) (pc := 73) dX12_digestOfPlayer_73 (axH hG rfl) (axEx hG rfl) rfl (by decide) (by decide) rfl rfl WF_X12_60 ?_
    refine x_cr (v := vI (fX4_count M108)) (vs := [vR 176]) (rest := [vL (((((a1 * (31 : Int64)) + (il (fX8_stonesOf M106 a2))) * (31 : Int64)) + (il 0)) * (31 : Int64))]) (k := 0) rfl (by omega) (ax_caV (pc := 76) dX12_digestOfPlayer_76 kX4_count rfl rfl WM_X12_203 WI_X4_count WS_X4_count WN_X4 (ax_rcO (t := 3) (axEx hG rfl) rfl (by decide)) (Nat.le_of_ble_eq_true rfl)) kX4_count rfl True.intro (T_X4_count (by omega) hG rfl) ?_
    refine x_i2l (pc := 79) dX12_digestOfPlayer_79 ?_
    refine x_ladd (pc := 80) dX12_digestOfPlayer_80 ?_
    refine x_lstore (ls' := [some (vR 150), some (vL a1), none, some (vI a2), some (vL ((((((a1 * (31 : Int64)) + (il (fX8_stonesOf M106 a2))) * (31 : Int64)) + (il 0)) * (31 : Int64)) + (il (fX4_count M108)))), none]) (pc := 81) dX12_digestOfPlayer_81 (Nat.le_of_ble_eq_true rfl) rfl rfl ?_
    refine x_lload (pc := 83) dX12_digestOfPlayer_83 rfl ?_
    refine x_ldc2 (v := 31) (pc := 85) dX12_digestOfPlayer_85 WJ_X12_283 ?_
    refine x_lmul (pc := 88) dX12_digestOfPlayer_88 ?_
    refine x_aload_n (pc := 89) dX12_digestOfPlayer_89 rfl ?_
    refine x_getF (t := 10) (j := 5) (r := 176) (pc := 90) dX12_digestOfPlayer_90 (axH hG rfl) (axEx hG rfl) rfl (by decide) (by decide) rfl rfl WF_X12_60 ?_
    refine x_cr (v := vI (fX4_greatest M108)) (vs := [vR 176]) (rest := [vL (((((((a1 * (31 : Int64)) + (il (fX8_stonesOf M106 a2))) * (31 : Int64)) + (il 0)) * (31 : Int64)) + (il (fX4_count M108))) * (31 : Int64))]) (k := 0) rfl (by omega) (ax_caV (pc := 93) dX12_digestOfPlayer_93 kX4_greatest rfl rfl WM_X12_204 WI_X4_greatest WS_X4_greatest WN_X4 (ax_rcO (t := 3) (axEx hG rfl) rfl (by decide)) (Nat.le_of_ble_eq_true rfl)) kX4_greatest rfl True.intro (T_X4_greatest (by omega) hG rfl) ?_
    refine x_i2l (pc := 96) dX12_digestOfPlayer_96 ?_
    refine x_ladd (pc := 97) dX12_digestOfPlayer_97 ?_
    refine x_lstore (ls' := [some (vR 150), some (vL a1), none, some (vI a2), some (vL ((((((((a1 * (31 : Int64)) + (il (fX8_stonesOf M106 a2))) * (31 : Int64)) + (il 0)) * (31 : Int64)) + (il (fX4_count M108))) * (31 : Int64)) + (il (fX4_greatest M108)))), none]) (pc := 98) dX12_digestOfPlayer_98 (Nat.le_of_ble_eq_true rfl) rfl rfl ?_
    refine x_lload (pc := 100) dX12_digestOfPlayer_100 rfl ?_
    refine x_ldc2 (v := 31) (pc := 102) dX12_digestOfPlayer_102 WJ_X12_283 ?_
    refine x_lmul (pc := 105) dX12_digestOfPlayer_105 ?_
    refine x_aload_n (pc := 106) dX12_digestOfPlayer_106 rfl ?_
    refine x_getF (t := 10) (j := 6) (r := 179) (pc := 107) dX12_digestOfPlayer_107 (axH hG rfl) (axEx hG rfl) rfl (by decide) (by decide) rfl rfl WF_X12_67 ?_
    refine x_iload_n (pc := 110) dX12_digestOfPlayer_110 rfl ?_
    refine x_cr (v := vI (fX1_whole M108 a2)) (vs := [vR 179, vI a2]) (rest := [vL (((((((((a1 * (31 : Int64)) + (il (fX8_stonesOf M106 a2))) * (31 : Int64)) + (il 0)) * (31 : Int64)) + (il (fX4_count M108))) * (31 : Int64)) + (il (fX4_greatest M108))) * (31 : Int64))]) (k := 0) rfl (by omega) (ax_caV (pc := 111) dX12_digestOfPlayer_111 kX1_whole rfl rfl WM_X12_222 WI_X1_whole WS_X1_whole WN_X1 (ax_rcO (t := 0) (axEx hG rfl) rfl (by decide)) (Nat.le_of_ble_eq_true rfl)) kX1_whole rfl True.intro (T_X1_whole (by omega) hG rfl) ?_
    refine x_i2l (pc := 114) dX12_digestOfPlayer_114 ?_
    refine x_ladd (pc := 115) dX12_digestOfPlayer_115 ?_
    refine x_lstore (ls' := [some (vR 150), some (vL a1), none, some (vI a2), some (vL ((((((((((a1 * (31 : Int64)) + (il (fX8_stonesOf M106 a2))) * (31 : Int64)) + (il 0)) * (31 : Int64)) + (il (fX4_count M108))) * (31 : Int64)) + (il (fX4_greatest M108))) * (31 : Int64)) + (il (fX1_whole M108 a2)))), none]) (pc := 116) dX12_digestOfPlayer_116 (Nat.le_of_ble_eq_true rfl) rfl rfl ?_
    refine x_lload (pc := 118) dX12_digestOfPlayer_118 rfl ?_
    refine x_ldc2 (v := 31) (pc := 120) dX12_digestOfPlayer_120 WJ_X12_283 ?_
    refine x_lmul (pc := 123) dX12_digestOfPlayer_123 ?_
    refine x_aload_n (pc := 124) dX12_digestOfPlayer_124 rfl ?_
    refine x_getF (t := 10) (j := 6) (r := 179) (pc := 125) dX12_digestOfPlayer_125 (axH hG rfl) (axEx hG rfl) rfl (by decide) (by decide) rfl rfl WF_X12_67 ?_
    refine x_iload_n (pc := 128) dX12_digestOfPlayer_128 rfl ?_
    refine x_cr (v := vI (fX1_broken M108 a2)) (vs := [vR 179, vI a2]) (rest := [vL (((((((((((a1 * (31 : Int64)) + (il (fX8_stonesOf M106 a2))) * (31 : Int64)) + (il 0)) * (31 : Int64)) + (il (fX4_count M108))) * (31 : Int64)) + (il (fX4_greatest M108))) * (31 : Int64)) + (il (fX1_whole M108 a2))) * (31 : Int64))]) (k := 0) rfl (by omega) (ax_caV (pc := 129) dX12_digestOfPlayer_129 kX1_broken rfl rfl WM_X12_225 WI_X1_broken WS_X1_broken WN_X1 (ax_rcO (t := 0) (axEx hG rfl) rfl (by decide)) (Nat.le_of_ble_eq_true rfl)) kX1_broken rfl True.intro (T_X1_broken (by omega) hG rfl) ?_
    refine x_i2l (pc := 132) dX12_digestOfPlayer_132 ?_
    refine x_ladd (pc := 133) dX12_digestOfPlayer_133 ?_
    refine x_lstore (ls' := [some (vR 150), some (vL a1), none, some (vI a2), some (vL ((((((((((((a1 * (31 : Int64)) + (il (fX8_stonesOf M106 a2))) * (31 : Int64)) + (il 0)) * (31 : Int64)) + (il (fX4_count M108))) * (31 : Int64)) + (il (fX4_greatest M108))) * (31 : Int64)) + (il (fX1_whole M108 a2))) * (31 : Int64)) + (il (fX1_broken M108 a2)))), none]) (pc := 134) dX12_digestOfPlayer_134 (Nat.le_of_ble_eq_true rfl) rfl rfl ?_
    refine x_lload (pc := 136) dX12_digestOfPlayer_136 rfl ?_
    refine x_ldc2 (v := 31) (pc := 138) dX12_digestOfPlayer_138 WJ_X12_283 ?_
    refine x_lmul (pc := 141) dX12_digestOfPlayer_141 ?_
    refine x_aload_n (pc := 142) dX12_digestOfPlayer_142 rfl ?_
    refine x_getF (t := 10) (j := 7) (r := 183) (pc := 143) dX12_digestOfPlayer_143 (axH hG rfl) (axEx hG rfl) rfl (by decide) (by decide) rfl rfl WF_X12_74 ?_
    refine x_iload_n (pc := 146) dX12_digestOfPlayer_146 rfl ?_
    obtain ⟨v114, r113, hf⟩ := bd1_some hf
    refine x_cr (v := vI v114) (vs := [vR 183, vI a2]) (rest := [vL (((((((((((((a1 * (31 : Int64)) + (il (fX8_stonesOf M106 a2))) * (31 : Int64)) + (il 0)) * (31 : Int64)) + (il (fX4_count M108))) * (31 : Int64)) + (il (fX4_greatest M108))) * (31 : Int64)) + (il (fX1_whole M108 a2))) * (31 : Int64)) + (il (fX1_broken M108 a2))) * (31 : Int64))]) (k := 2) rfl (by omega) (ax_caV (pc := 147) dX12_digestOfPlayer_147 kX11_winningCells rfl rfl WM_X12_245 WI_X11_winningCells WS_X11_winningCells WN_X11 (ax_rcO (t := 9) (axEx hG rfl) rfl (by decide)) (Nat.le_of_ble_eq_true rfl)) kX11_winningCells rfl True.intro (T_X11_winningCells (by omega) hG r113) ?_
    refine x_i2l (pc := 150) dX12_digestOfPlayer_150 ?_
    refine x_ladd (pc := 151) dX12_digestOfPlayer_151 ?_
    refine x_lstore (ls' := [some (vR 150), some (vL a1), none, some (vI a2), some (vL ((((((((((((((a1 * (31 : Int64)) + (il (fX8_stonesOf M106 a2))) * (31 : Int64)) + (il 0)) * (31 : Int64)) + (il (fX4_count M108))) * (31 : Int64)) + (il (fX4_greatest M108))) * (31 : Int64)) + (il (fX1_whole M108 a2))) * (31 : Int64)) + (il (fX1_broken M108 a2))) * (31 : Int64)) + (il v114))), none]) (pc := 152) dX12_digestOfPlayer_152 (Nat.le_of_ble_eq_true rfl) rfl rfl ?_
    refine x_lload (pc := 154) dX12_digestOfPlayer_154 rfl ?_
    refine x_ldc2 (v := 31) (pc := 156) dX12_digestOfPlayer_156 WJ_X12_283 ?_
    refine x_lmul (pc := 159) dX12_digestOfPlayer_159 ?_
    refine x_aload_n (pc := 160) dX12_digestOfPlayer_160 rfl ?_
    refine x_getF (t := 10) (j := 7) (r := 183) (pc := 161) dX12_digestOfPlayer_161 (axH hG rfl) (axEx hG rfl) rfl (by decide) (by decide) rfl rfl WF_X12_74 ?_
    refine x_iload_n (pc := 164) dX12_digestOfPlayer_164 rfl ?_
    refine x_cr (v := vI (fX11_needed M108 a2)) (vs := [vR 183, vI a2]) (rest := [vL (((((((((((((((a1 * (31 : Int64)) + (il (fX8_stonesOf M106 a2))) * (31 : Int64)) + (il 0)) * (31 : Int64)) + (il (fX4_count M108))) * (31 : Int64)) + (il (fX4_greatest M108))) * (31 : Int64)) + (il (fX1_whole M108 a2))) * (31 : Int64)) + (il (fX1_broken M108 a2))) * (31 : Int64)) + (il v114)) * (31 : Int64))]) (k := 0) rfl (by omega) (ax_caV (pc := 165) dX12_digestOfPlayer_165 kX11_needed rfl rfl WM_X12_232 WI_X11_needed WS_X11_needed WN_X11 (ax_rcO (t := 9) (axEx hG rfl) rfl (by decide)) (Nat.le_of_ble_eq_true rfl)) kX11_needed rfl True.intro (T_X11_needed (by omega) hG rfl) ?_
    refine x_i2l (pc := 168) dX12_digestOfPlayer_168 ?_
    refine x_ladd (pc := 169) dX12_digestOfPlayer_169 ?_
    refine x_lstore (ls' := [some (vR 150), some (vL a1), none, some (vI a2), some (vL ((((((((((((((((a1 * (31 : Int64)) + (il (fX8_stonesOf M106 a2))) * (31 : Int64)) + (il 0)) * (31 : Int64)) + (il (fX4_count M108))) * (31 : Int64)) + (il (fX4_greatest M108))) * (31 : Int64)) + (il (fX1_whole M108 a2))) * (31 : Int64)) + (il (fX1_broken M108 a2))) * (31 : Int64)) + (il v114)) * (31 : Int64)) + (il (fX11_needed M108 a2)))), none]) (pc := 170) dX12_digestOfPlayer_170 (Nat.le_of_ble_eq_true rfl) rfl rfl ?_
    refine x_lload (pc := 172) dX12_digestOfPlayer_172 rfl ?_
    cases hf
    exact x_retJ (pc := 174) dX12_digestOfPlayer_174
  · replace hf := (if_pos h110).symm.trans hf
    refine x_iconst (pc := 57) dX12_digestOfPlayer_57 ⟨by decide, by decide⟩ ?_
    refine x_goto (tgt := 62) (pc := 58) dX12_digestOfPlayer_58 rfl ?_
    refine x_i2l (pc := 62) dX12_digestOfPlayer_62 ?_
    refine x_ladd (pc := 63) dX12_digestOfPlayer_63 ?_
    refine x_lstore (ls' := [some (vR 150), some (vL a1), none, some (vI a2), some (vL ((((a1 * (31 : Int64)) + (il (fX8_stonesOf M106 a2))) * (31 : Int64)) + (il 1))), none]) (pc := 64) dX12_digestOfPlayer_64 (Nat.le_of_ble_eq_true rfl) rfl rfl ?_
    refine x_lload (pc := 66) dX12_digestOfPlayer_66 rfl ?_
    refine x_ldc2 (v := 31) (pc := 68) dX12_digestOfPlayer_68 WJ_X12_283 ?_
    refine x_lmul (pc := 71) dX12_digestOfPlayer_71 ?_
    refine x_aload_n (pc := 72) dX12_digestOfPlayer_72 rfl ?_
    refine x_getF (t := 10) (j := 5) (r := 176) (pc := 73) dX12_digestOfPlayer_73 (axH hG rfl) (axEx hG rfl) rfl (by decide) (by decide) rfl rfl WF_X12_60 ?_
    refine x_cr (v := vI (fX4_count M108)) (vs := [vR 176]) (rest := [vL (((((a1 * (31 : Int64)) + (il (fX8_stonesOf M106 a2))) * (31 : Int64)) + (il 1)) * (31 : Int64))]) (k := 0) rfl (by omega) (ax_caV (pc := 76) dX12_digestOfPlayer_76 kX4_count rfl rfl WM_X12_203 WI_X4_count WS_X4_count WN_X4 (ax_rcO (t := 3) (axEx hG rfl) rfl (by decide)) (Nat.le_of_ble_eq_true rfl)) kX4_count rfl True.intro (T_X4_count (by omega) hG rfl) ?_
    refine x_i2l (pc := 79) dX12_digestOfPlayer_79 ?_
    refine x_ladd (pc := 80) dX12_digestOfPlayer_80 ?_
    refine x_lstore (ls' := [some (vR 150), some (vL a1), none, some (vI a2), some (vL ((((((a1 * (31 : Int64)) + (il (fX8_stonesOf M106 a2))) * (31 : Int64)) + (il 1)) * (31 : Int64)) + (il (fX4_count M108)))), none]) (pc := 81) dX12_digestOfPlayer_81 (Nat.le_of_ble_eq_true rfl) rfl rfl ?_
    refine x_lload (pc := 83) dX12_digestOfPlayer_83 rfl ?_
    refine x_ldc2 (v := 31) (pc := 85) dX12_digestOfPlayer_85 WJ_X12_283 ?_
    refine x_lmul (pc := 88) dX12_digestOfPlayer_88 ?_
    refine x_aload_n (pc := 89) dX12_digestOfPlayer_89 rfl ?_
    refine x_getF (t := 10) (j := 5) (r := 176) (pc := 90) dX12_digestOfPlayer_90 (axH hG rfl) (axEx hG rfl) rfl (by decide) (by decide) rfl rfl WF_X12_60 ?_
    refine x_cr (v := vI (fX4_greatest M108)) (vs := [vR 176]) (rest := [vL (((((((a1 * (31 : Int64)) + (il (fX8_stonesOf M106 a2))) * (31 : Int64)) + (il 1)) * (31 : Int64)) + (il (fX4_count M108))) * (31 : Int64))]) (k := 0) rfl (by omega) (ax_caV (pc := 93) dX12_digestOfPlayer_93 kX4_greatest rfl rfl WM_X12_204 WI_X4_greatest WS_X4_greatest WN_X4 (ax_rcO (t := 3) (axEx hG rfl) rfl (by decide)) (Nat.le_of_ble_eq_true rfl)) kX4_greatest rfl True.intro (T_X4_greatest (by omega) hG rfl) ?_
    refine x_i2l (pc := 96) dX12_digestOfPlayer_96 ?_
    refine x_ladd (pc := 97) dX12_digestOfPlayer_97 ?_
    refine x_lstore (ls' := [some (vR 150), some (vL a1), none, some (vI a2), some (vL ((((((((a1 * (31 : Int64)) + (il (fX8_stonesOf M106 a2))) * (31 : Int64)) + (il 1)) * (31 : Int64)) + (il (fX4_count M108))) * (31 : Int64)) + (il (fX4_greatest M108)))), none]) (pc := 98) dX12_digestOfPlayer_98 (Nat.le_of_ble_eq_true rfl) rfl rfl ?_
    refine x_lload (pc := 100) dX12_digestOfPlayer_100 rfl ?_
    refine x_ldc2 (v := 31) (pc := 102) dX12_digestOfPlayer_102 WJ_X12_283 ?_
    refine x_lmul (pc := 105) dX12_digestOfPlayer_105 ?_
    refine x_aload_n (pc := 106) dX12_digestOfPlayer_106 rfl ?_
    refine x_getF (t := 10) (j := 6) (r := 179) (pc := 107) dX12_digestOfPlayer_107 (axH hG rfl) (axEx hG rfl) rfl (by decide) (by decide) rfl rfl WF_X12_67 ?_
    refine x_iload_n (pc := 110) dX12_digestOfPlayer_110 rfl ?_
    refine x_cr (v := vI (fX1_whole M108 a2)) (vs := [vR 179, vI a2]) (rest := [vL (((((((((a1 * (31 : Int64)) + (il (fX8_stonesOf M106 a2))) * (31 : Int64)) + (il 1)) * (31 : Int64)) + (il (fX4_count M108))) * (31 : Int64)) + (il (fX4_greatest M108))) * (31 : Int64))]) (k := 0) rfl (by omega) (ax_caV (pc := 111) dX12_digestOfPlayer_111 kX1_whole rfl rfl WM_X12_222 WI_X1_whole WS_X1_whole WN_X1 (ax_rcO (t := 0) (axEx hG rfl) rfl (by decide)) (Nat.le_of_ble_eq_true rfl)) kX1_whole rfl True.intro (T_X1_whole (by omega) hG rfl) ?_
    refine x_i2l (pc := 114) dX12_digestOfPlayer_114 ?_
    refine x_ladd (pc := 115) dX12_digestOfPlayer_115 ?_
    refine x_lstore (ls' := [some (vR 150), some (vL a1), none, some (vI a2), some (vL ((((((((((a1 * (31 : Int64)) + (il (fX8_stonesOf M106 a2))) * (31 : Int64)) + (il 1)) * (31 : Int64)) + (il (fX4_count M108))) * (31 : Int64)) + (il (fX4_greatest M108))) * (31 : Int64)) + (il (fX1_whole M108 a2)))), none]) (pc := 116) dX12_digestOfPlayer_116 (Nat.le_of_ble_eq_true rfl) rfl rfl ?_
    refine x_lload (pc := 118) dX12_digestOfPlayer_118 rfl ?_
    refine x_ldc2 (v := 31) (pc := 120) dX12_digestOfPlayer_120 WJ_X12_283 ?_
    refine x_lmul (pc := 123) dX12_digestOfPlayer_123 ?_
    refine x_aload_n (pc := 124) dX12_digestOfPlayer_124 rfl ?_
    refine x_getF (t := 10) (j := 6) (r := 179) (pc := 125) dX12_digestOfPlayer_125 (axH hG rfl) (axEx hG rfl) rfl (by decide) (by decide) rfl rfl WF_X12_67 ?_
    refine x_iload_n (pc := 128) dX12_digestOfPlayer_128 rfl ?_
    refine x_cr (v := vI (fX1_broken M108 a2)) (vs := [vR 179, vI a2]) (rest := [vL (((((((((((a1 * (31 : Int64)) + (il (fX8_stonesOf M106 a2))) * (31 : Int64)) + (il 1)) * (31 : Int64)) + (il (fX4_count M108))) * (31 : Int64)) + (il (fX4_greatest M108))) * (31 : Int64)) + (il (fX1_whole M108 a2))) * (31 : Int64))]) (k := 0) rfl (by omega) (ax_caV (pc := 129) dX12_digestOfPlayer_129 kX1_broken rfl rfl WM_X12_225 WI_X1_broken WS_X1_broken WN_X1 (ax_rcO (t := 0) (axEx hG rfl) rfl (by decide)) (Nat.le_of_ble_eq_true rfl)) kX1_broken rfl True.intro (T_X1_broken (by omega) hG rfl) ?_
    refine x_i2l (pc := 132) dX12_digestOfPlayer_132 ?_
    refine x_ladd (pc := 133) dX12_digestOfPlayer_133 ?_
    refine x_lstore (ls' := [some (vR 150), some (vL a1), none, some (vI a2), some (vL ((((((((((((a1 * (31 : Int64)) + (il (fX8_stonesOf M106 a2))) * (31 : Int64)) + (il 1)) * (31 : Int64)) + (il (fX4_count M108))) * (31 : Int64)) + (il (fX4_greatest M108))) * (31 : Int64)) + (il (fX1_whole M108 a2))) * (31 : Int64)) + (il (fX1_broken M108 a2)))), none]) (pc := 134) dX12_digestOfPlayer_134 (Nat.le_of_ble_eq_true rfl) rfl rfl ?_
    refine x_lload (pc := 136) dX12_digestOfPlayer_136 rfl ?_
    refine x_ldc2 (v := 31) (pc := 138) dX12_digestOfPlayer_138 WJ_X12_283 ?_
    refine x_lmul (pc := 141) dX12_digestOfPlayer_141 ?_
    refine x_aload_n (pc := 142) dX12_digestOfPlayer_142 rfl ?_
    refine x_getF (t := 10) (j := 7) (r := 183) (pc := 143) dX12_digestOfPlayer_143 (axH hG rfl) (axEx hG rfl) rfl (by decide) (by decide) rfl rfl WF_X12_74 ?_
    refine x_iload_n (pc := 146) dX12_digestOfPlayer_146 rfl ?_
    obtain ⟨v112, r111, hf⟩ := bd1_some hf
    refine x_cr (v := vI v112) (vs := [vR 183, vI a2]) (rest := [vL (((((((((((((a1 * (31 : Int64)) + (il (fX8_stonesOf M106 a2))) * (31 : Int64)) + (il 1)) * (31 : Int64)) + (il (fX4_count M108))) * (31 : Int64)) + (il (fX4_greatest M108))) * (31 : Int64)) + (il (fX1_whole M108 a2))) * (31 : Int64)) + (il (fX1_broken M108 a2))) * (31 : Int64))]) (k := 2) rfl (by omega) (ax_caV (pc := 147) dX12_digestOfPlayer_147 kX11_winningCells rfl rfl WM_X12_245 WI_X11_winningCells WS_X11_winningCells WN_X11 (ax_rcO (t := 9) (axEx hG rfl) rfl (by decide)) (Nat.le_of_ble_eq_true rfl)) kX11_winningCells rfl True.intro (T_X11_winningCells (by omega) hG r111) ?_
    refine x_i2l (pc := 150) dX12_digestOfPlayer_150 ?_
    refine x_ladd (pc := 151) dX12_digestOfPlayer_151 ?_
    refine x_lstore (ls' := [some (vR 150), some (vL a1), none, some (vI a2), some (vL ((((((((((((((a1 * (31 : Int64)) + (il (fX8_stonesOf M106 a2))) * (31 : Int64)) + (il 1)) * (31 : Int64)) + (il (fX4_count M108))) * (31 : Int64)) + (il (fX4_greatest M108))) * (31 : Int64)) + (il (fX1_whole M108 a2))) * (31 : Int64)) + (il (fX1_broken M108 a2))) * (31 : Int64)) + (il v112))), none]) (pc := 152) dX12_digestOfPlayer_152 (Nat.le_of_ble_eq_true rfl) rfl rfl ?_
    refine x_lload (pc := 154) dX12_digestOfPlayer_154 rfl ?_
    refine x_ldc2 (v := 31) (pc := 156) dX12_digestOfPlayer_156 WJ_X12_283 ?_
    refine x_lmul (pc := 159) dX12_digestOfPlayer_159 ?_
    refine x_aload_n (pc := 160) dX12_digestOfPlayer_160 rfl ?_
    refine x_getF (t := 10) (j := 7) (r := 183) (pc := 161) dX12_digestOfPlayer_161 (axH hG rfl) (axEx hG rfl) rfl (by decide) (by decide) rfl rfl WF_X12_74 ?_
    refine x_iload_n (pc := 164) dX12_digestOfPlayer_164 rfl ?_
    refine x_cr (v := vI (fX11_needed M108 a2)) (vs := [vR 183, vI a2]) (rest := [vL (((((((((((((((a1 * (31 : Int64)) + (il (fX8_stonesOf M106 a2))) * (31 : Int64)) + (il 1)) * (31 : Int64)) + (il (fX4_count M108))) * (31 : Int64)) + (il (fX4_greatest M108))) * (31 : Int64)) + (il (fX1_whole M108 a2))) * (31 : Int64)) + (il (fX1_broken M108 a2))) * (31 : Int64)) + (il v112)) * (31 : Int64))]) (k := 0) rfl (by omega) (ax_caV (pc := 165) dX12_digestOfPlayer_165 kX11_needed rfl rfl WM_X12_232 WI_X11_needed WS_X11_needed WN_X11 (ax_rcO (t := 9) (axEx hG rfl) rfl (by decide)) (Nat.le_of_ble_eq_true rfl)) kX11_needed rfl True.intro (T_X11_needed (by omega) hG rfl) ?_
    refine x_i2l (pc := 168) dX12_digestOfPlayer_168 ?_
    refine x_ladd (pc := 169) dX12_digestOfPlayer_169 ?_
    refine x_lstore (ls' := [some (vR 150), some (vL a1), none, some (vI a2), some (vL ((((((((((((((((a1 * (31 : Int64)) + (il (fX8_stonesOf M106 a2))) * (31 : Int64)) + (il 1)) * (31 : Int64)) + (il (fX4_count M108))) * (31 : Int64)) + (il (fX4_greatest M108))) * (31 : Int64)) + (il (fX1_whole M108 a2))) * (31 : Int64)) + (il (fX1_broken M108 a2))) * (31 : Int64)) + (il v112)) * (31 : Int64)) + (il (fX11_needed M108 a2)))), none]) (pc := 170) dX12_digestOfPlayer_170 (Nat.le_of_ble_eq_true rfl) rfl rfl ?_
    refine x_lload (pc := 172) dX12_digestOfPlayer_172 rfl ?_
    cases hf
    exact x_retJ (pc := 174) dX12_digestOfPlayer_174
/- HexPond.digest()J -/
def fX12_digest_b124 (M : ax_M) (v1 : Int64) (v3 : Int) : Option ((Int64 × Int) ⊕ Int64) :=
  (if v3 < (fX8_cells M) then (some (.inl (((v1 * (31 : Int64)) + (il (fX8_ownerAt M v3))), (v3 + 1)))) else (some (.inr v1)))
def fX12_digest (M : ax_M) : Option (Int64 × ax_M) :=
  (bd1 (fX12_plans M) fun v102 => (bd1 (fX12_frozenCells M) fun v104 => (bd2 (fX12_isOver M) fun v107 M106 => (if v107 = 0 then (bd2 (fX12_digestOfPlayer M106 (((((((((((((((((953 : Int64) * (31 : Int64)) + (il (fX12_columns M))) * (31 : Int64)) + (il (fX12_rows M))) * (31 : Int64)) + (il v102)) * (31 : Int64)) + (il (fX12_stonesToTakeBack M))) * (31 : Int64)) + (il (fX12_tapeBytes M))) * (31 : Int64)) + (il (fX12_emptyCells M))) * (31 : Int64)) + (il v104)) * (31 : Int64)) + (il 0)) 0) fun v111 M110 => (bd2 (fX12_digestOfPlayer M110 v111 1) fun v114 M113 => (bd1 (lp (fun s => fX12_digest_b124 M113 s.1 s.2) lpN (v114, 0)) fun t117 => (some (t117, M113))))) else (bd2 (fX12_digestOfPlayer M106 (((((((((((((((((953 : Int64) * (31 : Int64)) + (il (fX12_columns M))) * (31 : Int64)) + (il (fX12_rows M))) * (31 : Int64)) + (il v102)) * (31 : Int64)) + (il (fX12_stonesToTakeBack M))) * (31 : Int64)) + (il (fX12_tapeBytes M))) * (31 : Int64)) + (il (fX12_emptyCells M))) * (31 : Int64)) + (il v104)) * (31 : Int64)) + (il 1)) 0) fun v121 M120 => (bd2 (fX12_digestOfPlayer M120 v121 1) fun v124 M123 => (bd1 (lp (fun s => fX12_digest_b124 M123 s.1 s.2) lpN (v124, 0)) fun t125 => (some (t125, M123)))))))))
theorem B_X12_digest_124 {G : ax_G} {d : Nat} (hd : 6 ≤ d) (hG : axPs G 150 244) {M : ax_M} {v1 : Int64} {v3 : Int} {o : Option ax_V ⊕ String} {M' : ax_M} {y : (Int64 × Int) ⊕ Int64} (hf : fX12_digest_b124 M v1 v3 = some y) (h1 : ∀ s', y = .inl s' → ax_Ex G tX12_digest d 124 [some (vR 150), some (vL s'.1), none, some (vI s'.2)] [] M o M') (h2a : ∀ t, y = .inr t → ax_Ex G tX12_digest d 157 [some (vR 150), some (vL t), none, none] [] M o M') : ax_Ex G tX12_digest d 124 [some (vR 150), some (vL v1), none, some (vI v3)] [] M o M' := by
  unfold fX12_digest_b124 at hf
  refine x_iload_n (pc := 124) dX12_digest_124 rfl ?_
  refine x_aload_n (pc := 125) dX12_digest_125 rfl ?_
  refine x_getF (t := 10) (j := 4) (r := 169) (pc := 126) dX12_digest_126 (axH hG rfl) (axEx hG rfl) rfl (by decide) (by decide) rfl rfl WF_X12_51 ?_
  refine x_cr (v := vI (fX8_cells M)) (vs := [vR 169]) (rest := [vI v3]) (k := 0) rfl (by omega) (ax_caV (pc := 129) dX12_digest_129 kX8_cells rfl rfl WM_X12_148 WI_X8_cells WS_X8_cells WN_X8 (ax_rcO (t := 6) (axEx hG rfl) rfl (by decide)) (Nat.le_of_ble_eq_true rfl)) kX8_cells rfl True.intro (T_X8_cells (by omega) (axPs.sub hG (Nat.le_of_ble_eq_true rfl) (Nat.le_of_ble_eq_true rfl)) rfl) ?_
  refine ax_cmp (fun b116a b116b b116c b116e => ?_)
  refine x_icmpge (tgt := 157) (pc := 132) dX12_digest_132 rfl (fun h115 => ?_) (fun h115 => ?_)
  · replace hf := (if_neg (Int.not_lt.mpr h115)).symm.trans hf
    cases hf
    exact x_fgt (axS' (axS' (axN' (axN' axD)))) (h2a _ rfl)
  · replace hf := (if_pos h115).symm.trans hf
    refine x_lload_n (pc := 135) dX12_digest_135 rfl ?_
    refine x_ldc2 (v := 31) (pc := 136) dX12_digest_136 WJ_X12_283 ?_
    refine x_lmul (pc := 139) dX12_digest_139 ?_
    refine x_aload_n (pc := 140) dX12_digest_140 rfl ?_
    refine x_getF (t := 10) (j := 4) (r := 169) (pc := 141) dX12_digest_141 (axH hG rfl) (axEx hG rfl) rfl (by decide) (by decide) rfl rfl WF_X12_51 ?_
    refine x_iload_n (pc := 144) dX12_digest_144 rfl ?_
    refine x_cr (v := vI (fX8_ownerAt M v3)) (vs := [vR 169, vI v3]) (rest := [vL (v1 * (31 : Int64))]) (k := 0) rfl (by omega) (ax_caV (pc := 145) dX12_digest_145 kX8_ownerAt rfl rfl WM_X12_178 WI_X8_ownerAt WS_X8_ownerAt WN_X8 (ax_rcO (t := 6) (axEx hG rfl) rfl (by decide)) (Nat.le_of_ble_eq_true rfl)) kX8_ownerAt rfl True.intro (T_X8_ownerAt (by omega) (axPs.sub hG (Nat.le_of_ble_eq_true rfl) (Nat.le_of_ble_eq_true rfl)) rfl) ?_
    refine x_i2l (pc := 148) dX12_digest_148 ?_
    refine x_ladd (pc := 149) dX12_digest_149 ?_
    refine x_lstore_n (ls' := [some (vR 150), some (vL ((v1 * (31 : Int64)) + (il (fX8_ownerAt M v3)))), none, some (vI v3)]) (pc := 150) dX12_digest_150 (Nat.le_of_ble_eq_true rfl) rfl rfl ?_
    refine x_iinc (z := (v3 + 1)) (ls' := [some (vR 150), some (vL ((v1 * (31 : Int64)) + (il (fX8_ownerAt M v3)))), none, some (vI (v3 + 1))]) (pc := 151) dX12_digest_151 rfl (Nat.le_of_ble_eq_true rfl) rfl rfl (ax_i (by omega) (by omega)) rfl ?_
    refine x_goto (tgt := 124) (pc := 154) dX12_digest_154 rfl ?_
    cases hf
    exact h1 _ rfl
theorem T_X12_digest {G : ax_G} {d : Nat} (hd : 6 ≤ d) (hG : axPs G 150 244) {M : ax_M} {r : Int64} {M1 : ax_M} (hf : fX12_digest M = some (r, M1)) : ax_Ex G tX12_digest d 0 (ax_args [vR 150] ++ List.replicate 3 none) [] M (.inl (some (vL r))) M1 := by
  show ax_Ex G tX12_digest d 0 [some (vR 150), none, none, none] [] M _ _
  unfold fX12_digest at hf
  refine x_ldc2 (v := 953) (pc := 0) dX12_digest_0 WJ_X12_281 ?_
  refine x_lstore_n (ls' := [some (vR 150), some (vL (953 : Int64)), none, none]) (pc := 3) dX12_digest_3 (Nat.le_of_ble_eq_true rfl) rfl rfl ?_
  refine x_lload_n (pc := 4) dX12_digest_4 rfl ?_
  refine x_ldc2 (v := 31) (pc := 5) dX12_digest_5 WJ_X12_283 ?_
  refine x_lmul (pc := 8) dX12_digest_8 ?_
  refine x_aload_n (pc := 9) dX12_digest_9 rfl ?_
  refine x_cr (v := vI (fX12_columns M)) (vs := [vR 150]) (rest := [vL ((953 : Int64) * (31 : Int64))]) (k := 0) rfl (by omega) (ax_caV (pc := 10) dX12_digest_10 kX12_columns rfl rfl WM_X12_285 WI_X12_columns WS_X12_columns WN_X12 (ax_rcO (t := 10) (axEx hG rfl) rfl (by decide)) (Nat.le_of_ble_eq_true rfl)) kX12_columns rfl True.intro (T_X12_columns (by omega) hG rfl) ?_
  refine x_i2l (pc := 13) dX12_digest_13 ?_
  refine x_ladd (pc := 14) dX12_digest_14 ?_
  refine x_lstore_n (ls' := [some (vR 150), some (vL (((953 : Int64) * (31 : Int64)) + (il (fX12_columns M)))), none, none]) (pc := 15) dX12_digest_15 (Nat.le_of_ble_eq_true rfl) rfl rfl ?_
  refine x_lload_n (pc := 16) dX12_digest_16 rfl ?_
  refine x_ldc2 (v := 31) (pc := 17) dX12_digest_17 WJ_X12_283 ?_
  refine x_lmul (pc := 20) dX12_digest_20 ?_
  refine x_aload_n (pc := 21) dX12_digest_21 rfl ?_
  refine x_cr (v := vI (fX12_rows M)) (vs := [vR 150]) (rest := [vL ((((953 : Int64) * (31 : Int64)) + (il (fX12_columns M))) * (31 : Int64))]) (k := 0) rfl (by omega) (ax_caV (pc := 22) dX12_digest_22 kX12_rows rfl rfl WM_X12_286 WI_X12_rows WS_X12_rows WN_X12 (ax_rcO (t := 10) (axEx hG rfl) rfl (by decide)) (Nat.le_of_ble_eq_true rfl)) kX12_rows rfl True.intro (T_X12_rows (by omega) hG rfl) ?_
  refine x_i2l (pc := 25) dX12_digest_25 ?_
  refine x_ladd (pc := 26) dX12_digest_26 ?_
  refine x_lstore_n (ls' := [some (vR 150), some (vL (((((953 : Int64) * (31 : Int64)) + (il (fX12_columns M))) * (31 : Int64)) + (il (fX12_rows M)))), none, none]) (pc := 27) dX12_digest_27 (Nat.le_of_ble_eq_true rfl) rfl rfl ?_
  refine x_lload_n (pc := 28) dX12_digest_28 rfl ?_
  refine x_ldc2 (v := 31) (pc := 29) dX12_digest_29 WJ_X12_283 ?_
  refine x_lmul (pc := 32) dX12_digest_32 ?_
  refine x_aload_n (pc := 33) dX12_digest_33 rfl ?_
  obtain ⟨v102, r101, hf⟩ := bd1_some hf
  refine x_cr (v := vI v102) (vs := [vR 150]) (rest := [vL ((((((953 : Int64) * (31 : Int64)) + (il (fX12_columns M))) * (31 : Int64)) + (il (fX12_rows M))) * (31 : Int64))]) (k := 0) rfl (by omega) (ax_caV (pc := 34) dX12_digest_34 kX12_plans rfl rfl WM_X12_287 WI_X12_plans WS_X12_plans WN_X12 (ax_rcO (t := 10) (axEx hG rfl) rfl (by decide)) (Nat.le_of_ble_eq_true rfl)) kX12_plans rfl True.intro (T_X12_plans (by omega) hG r101) ?_
  refine x_i2l (pc := 37) dX12_digest_37 ?_
  refine x_ladd (pc := 38) dX12_digest_38 ?_
  refine x_lstore_n (ls' := [some (vR 150), some (vL (((((((953 : Int64) * (31 : Int64)) + (il (fX12_columns M))) * (31 : Int64)) + (il (fX12_rows M))) * (31 : Int64)) + (il v102))), none, none]) (pc := 39) dX12_digest_39 (Nat.le_of_ble_eq_true rfl) rfl rfl ?_
  refine x_lload_n (pc := 40) dX12_digest_40 rfl ?_
  refine x_ldc2 (v := 31) (pc := 41) dX12_digest_41 WJ_X12_283 ?_
  refine x_lmul (pc := 44) dX12_digest_44 ?_
  refine x_aload_n (pc := 45) dX12_digest_45 rfl ?_
  refine x_cr (v := vI (fX12_stonesToTakeBack M)) (vs := [vR 150]) (rest := [vL ((((((((953 : Int64) * (31 : Int64)) + (il (fX12_columns M))) * (31 : Int64)) + (il (fX12_rows M))) * (31 : Int64)) + (il v102)) * (31 : Int64))]) (k := 0) rfl (by omega) (ax_caV (pc := 46) dX12_digest_46 kX12_stonesToTakeBack rfl rfl WM_X12_289 WI_X12_stonesToTakeBack WS_X12_stonesToTakeBack WN_X12 (ax_rcO (t := 10) (axEx hG rfl) rfl (by decide)) (Nat.le_of_ble_eq_true rfl)) kX12_stonesToTakeBack rfl True.intro (T_X12_stonesToTakeBack (by omega) hG rfl) ?_
  refine x_i2l (pc := 49) dX12_digest_49 ?_
  refine x_ladd (pc := 50) dX12_digest_50 ?_
  refine x_lstore_n (ls' := [some (vR 150), some (vL (((((((((953 : Int64) * (31 : Int64)) + (il (fX12_columns M))) * (31 : Int64)) + (il (fX12_rows M))) * (31 : Int64)) + (il v102)) * (31 : Int64)) + (il (fX12_stonesToTakeBack M)))), none, none]) (pc := 51) dX12_digest_51 (Nat.le_of_ble_eq_true rfl) rfl rfl ?_
  refine x_lload_n (pc := 52) dX12_digest_52 rfl ?_
  refine x_ldc2 (v := 31) (pc := 53) dX12_digest_53 WJ_X12_283 ?_
  refine x_lmul (pc := 56) dX12_digest_56 ?_
  refine x_aload_n (pc := 57) dX12_digest_57 rfl ?_
  refine x_cr (v := vI (fX12_tapeBytes M)) (vs := [vR 150]) (rest := [vL ((((((((((953 : Int64) * (31 : Int64)) + (il (fX12_columns M))) * (31 : Int64)) + (il (fX12_rows M))) * (31 : Int64)) + (il v102)) * (31 : Int64)) + (il (fX12_stonesToTakeBack M))) * (31 : Int64))]) (k := 0) rfl (by omega) (ax_caV (pc := 58) dX12_digest_58 kX12_tapeBytes rfl rfl WM_X12_292 WI_X12_tapeBytes WS_X12_tapeBytes WN_X12 (ax_rcO (t := 10) (axEx hG rfl) rfl (by decide)) (Nat.le_of_ble_eq_true rfl)) kX12_tapeBytes rfl True.intro (T_X12_tapeBytes (by omega) hG rfl) ?_
  refine x_i2l (pc := 61) dX12_digest_61 ?_
  refine x_ladd (pc := 62) dX12_digest_62 ?_
  refine x_lstore_n (ls' := [some (vR 150), some (vL (((((((((((953 : Int64) * (31 : Int64)) + (il (fX12_columns M))) * (31 : Int64)) + (il (fX12_rows M))) * (31 : Int64)) + (il v102)) * (31 : Int64)) + (il (fX12_stonesToTakeBack M))) * (31 : Int64)) + (il (fX12_tapeBytes M)))), none, none]) (pc := 63) dX12_digest_63 (Nat.le_of_ble_eq_true rfl) rfl rfl ?_
  refine x_lload_n (pc := 64) dX12_digest_64 rfl ?_
  refine x_ldc2 (v := 31) (pc := 65) dX12_digest_65 WJ_X12_283 ?_
  refine x_lmul (pc := 68) dX12_digest_68 ?_
  refine x_aload_n (pc := 69) dX12_digest_69 rfl ?_
  refine x_cr (v := vI (fX12_emptyCells M)) (vs := [vR 150]) (rest := [vL ((((((((((((953 : Int64) * (31 : Int64)) + (il (fX12_columns M))) * (31 : Int64)) + (il (fX12_rows M))) * (31 : Int64)) + (il v102)) * (31 : Int64)) + (il (fX12_stonesToTakeBack M))) * (31 : Int64)) + (il (fX12_tapeBytes M))) * (31 : Int64))]) (k := 0) rfl (by omega) (ax_caV (pc := 70) dX12_digest_70 kX12_emptyCells rfl rfl WM_X12_295 WI_X12_emptyCells WS_X12_emptyCells WN_X12 (ax_rcO (t := 10) (axEx hG rfl) rfl (by decide)) (Nat.le_of_ble_eq_true rfl)) kX12_emptyCells rfl True.intro (T_X12_emptyCells (by omega) hG rfl) ?_
  refine x_i2l (pc := 73) dX12_digest_73 ?_
  refine x_ladd (pc := 74) dX12_digest_74 ?_
  refine x_lstore_n (ls' := [some (vR 150), some (vL (((((((((((((953 : Int64) * (31 : Int64)) + (il (fX12_columns M))) * (31 : Int64)) + (il (fX12_rows M))) * (31 : Int64)) + (il v102)) * (31 : Int64)) + (il (fX12_stonesToTakeBack M))) * (31 : Int64)) + (il (fX12_tapeBytes M))) * (31 : Int64)) + (il (fX12_emptyCells M)))), none, none]) (pc := 75) dX12_digest_75 (Nat.le_of_ble_eq_true rfl) rfl rfl ?_
  refine x_lload_n (pc := 76) dX12_digest_76 rfl ?_
  refine x_ldc2 (v := 31) (pc := 77) dX12_digest_77 WJ_X12_283 ?_
  refine x_lmul (pc := 80) dX12_digest_80 ?_
  refine x_aload_n (pc := 81) dX12_digest_81 rfl ?_
  obtain ⟨v104, r103, hf⟩ := bd1_some hf
  refine x_cr (v := vI v104) (vs := [vR 150]) (rest := [vL ((((((((((((((953 : Int64) * (31 : Int64)) + (il (fX12_columns M))) * (31 : Int64)) + (il (fX12_rows M))) * (31 : Int64)) + (il v102)) * (31 : Int64)) + (il (fX12_stonesToTakeBack M))) * (31 : Int64)) + (il (fX12_tapeBytes M))) * (31 : Int64)) + (il (fX12_emptyCells M))) * (31 : Int64))]) (k := 2) rfl (by omega) (ax_caV (pc := 82) dX12_digest_82 kX12_frozenCells rfl rfl WM_X12_298 WI_X12_frozenCells WS_X12_frozenCells WN_X12 (ax_rcO (t := 10) (axEx hG rfl) rfl (by decide)) (Nat.le_of_ble_eq_true rfl)) kX12_frozenCells rfl True.intro (T_X12_frozenCells (by omega) hG r103) ?_
  refine x_i2l (pc := 85) dX12_digest_85 ?_
  refine x_ladd (pc := 86) dX12_digest_86 ?_
  refine x_lstore_n (ls' := [some (vR 150), some (vL (((((((((((((((953 : Int64) * (31 : Int64)) + (il (fX12_columns M))) * (31 : Int64)) + (il (fX12_rows M))) * (31 : Int64)) + (il v102)) * (31 : Int64)) + (il (fX12_stonesToTakeBack M))) * (31 : Int64)) + (il (fX12_tapeBytes M))) * (31 : Int64)) + (il (fX12_emptyCells M))) * (31 : Int64)) + (il v104))), none, none]) (pc := 87) dX12_digest_87 (Nat.le_of_ble_eq_true rfl) rfl rfl ?_
  refine x_lload_n (pc := 88) dX12_digest_88 rfl ?_
  refine x_ldc2 (v := 31) (pc := 89) dX12_digest_89 WJ_X12_283 ?_
  refine x_lmul (pc := 92) dX12_digest_92 ?_
  refine x_aload_n (pc := 93) dX12_digest_93 rfl ?_
  obtain ⟨v107, M106, r105, hf⟩ := bd2_some hf
  refine x_cr (v := vI v107) (vs := [vR 150]) (rest := [vL ((((((((((((((((953 : Int64) * (31 : Int64)) + (il (fX12_columns M))) * (31 : Int64)) + (il (fX12_rows M))) * (31 : Int64)) + (il v102)) * (31 : Int64)) + (il (fX12_stonesToTakeBack M))) * (31 : Int64)) + (il (fX12_tapeBytes M))) * (31 : Int64)) + (il (fX12_emptyCells M))) * (31 : Int64)) + (il v104)) * (31 : Int64))]) (k := 0) rfl (by omega) (ax_caV (pc := 94) dX12_digest_94 kX12_isOver rfl rfl WM_X12_301 WI_X12_isOver WS_X12_isOver WN_X12 (ax_rcO (t := 10) (axEx hG rfl) rfl (by decide)) (Nat.le_of_ble_eq_true rfl)) kX12_isOver rfl (Z_X12_isOver r105) (T_X12_isOver (by omega) hG r105) ?_
  refine x_ifeq (tgt := 104) (pc := 97) dX12_digest_97 rfl (fun h108 => ?_) (fun h108 => ?_)
  · replace hf := (if_pos h108).symm.trans hf
    refine x_iconst (pc := 104) dX12_digest_104 ⟨by decide, by decide⟩ ?_
    refine x_i2l (pc := 105) dX12_digest_105 ?_
    refine x_ladd (pc := 106) dX12_digest_106 ?_
    refine x_lstore_n (ls' := [some (vR 150), some (vL (((((((((((((((((953 : Int64) * (31 : Int64)) + (il (fX12_columns M))) * (31 : Int64)) + (il (fX12_rows M))) * (31 : Int64)) + (il v102)) * (31 : Int64)) + (il (fX12_stonesToTakeBack M))) * (31 : Int64)) + (il (fX12_tapeBytes M))) * (31 : Int64)) + (il (fX12_emptyCells M))) * (31 : Int64)) + (il v104)) * (31 : Int64)) + (il 0))), none, none]) (pc := 107) dX12_digest_107 (Nat.le_of_ble_eq_true rfl) rfl rfl ?_
    refine x_aload_n (pc := 108) dX12_digest_108 rfl ?_
    refine x_lload_n (pc := 109) dX12_digest_109 rfl ?_
    refine x_iconst (pc := 110) dX12_digest_110 ⟨by decide, by decide⟩ ?_
    obtain ⟨v111, M110, r109, hf⟩ := bd2_some hf
    refine x_cr (v := vL v111) (vs := [vR 150, vL (((((((((((((((((953 : Int64) * (31 : Int64)) + (il (fX12_columns M))) * (31 : Int64)) + (il (fX12_rows M))) * (31 : Int64)) + (il v102)) * (31 : Int64)) + (il (fX12_stonesToTakeBack M))) * (31 : Int64)) + (il (fX12_tapeBytes M))) * (31 : Int64)) + (il (fX12_emptyCells M))) * (31 : Int64)) + (il v104)) * (31 : Int64)) + (il 0)), vI 0]) (rest := []) (k := 2) rfl (by omega) (ax_caV (pc := 111) dX12_digest_111 kX12_digestOfPlayer rfl rfl WM_X12_305 WI_X12_digestOfPlayer WS_X12_digestOfPlayer WN_X12 (ax_rcO (t := 10) (axEx hG rfl) rfl (by decide)) (Nat.le_of_ble_eq_true rfl)) kX12_digestOfPlayer rfl True.intro (T_X12_digestOfPlayer (by omega) hG r109) ?_
    refine x_lstore_n (ls' := [some (vR 150), some (vL v111), none, none]) (pc := 114) dX12_digest_114 (Nat.le_of_ble_eq_true rfl) rfl rfl ?_
    refine x_aload_n (pc := 115) dX12_digest_115 rfl ?_
    refine x_lload_n (pc := 116) dX12_digest_116 rfl ?_
    refine x_iconst (pc := 117) dX12_digest_117 ⟨by decide, by decide⟩ ?_
    obtain ⟨v114, M113, r112, hf⟩ := bd2_some hf
    refine x_cr (v := vL v114) (vs := [vR 150, vL v111, vI 1]) (rest := []) (k := 2) rfl (by omega) (ax_caV (pc := 118) dX12_digest_118 kX12_digestOfPlayer rfl rfl WM_X12_305 WI_X12_digestOfPlayer WS_X12_digestOfPlayer WN_X12 (ax_rcO (t := 10) (axEx hG rfl) rfl (by decide)) (Nat.le_of_ble_eq_true rfl)) kX12_digestOfPlayer rfl True.intro (T_X12_digestOfPlayer (by omega) hG r112) ?_
    refine x_lstore_n (ls' := [some (vR 150), some (vL v114), none, none]) (pc := 121) dX12_digest_121 (Nat.le_of_ble_eq_true rfl) rfl rfl ?_
    refine x_iconst (pc := 122) dX12_digest_122 ⟨by decide, by decide⟩ ?_
    refine x_istore_n (ls' := [some (vR 150), some (vL v114), none, some (vI 0)]) (pc := 123) dX12_digest_123 (Nat.le_of_ble_eq_true rfl) rfl rfl ?_
    obtain ⟨t117, t118, hf⟩ := bd1_some hf
    refine lp_ex (P := (fun s => ax_Ex G tX12_digest d 124 [some (vR 150), some (vL s.1), none, some (vI s.2)] [] M113 _ _)) (K := (fun t => ax_Ex G tX12_digest d 157 [some (vR 150), some (vL t), none, none] [] M113 _ _)) (fun s y hy h1 h2 => B_X12_digest_124 (by omega) hG hy (fun s' e => h1 s' e) (fun t e => h2 t e)) _ _ _ t118 ?_
    refine x_lload_n (pc := 157) dX12_digest_157 rfl ?_
    cases hf
    exact x_retJ (pc := 158) dX12_digest_158
  · replace hf := (if_neg h108).symm.trans hf
    refine x_iconst (pc := 100) dX12_digest_100 ⟨by decide, by decide⟩ ?_
    refine x_goto (tgt := 105) (pc := 101) dX12_digest_101 rfl ?_
    refine x_i2l (pc := 105) dX12_digest_105 ?_
    refine x_ladd (pc := 106) dX12_digest_106 ?_
    refine x_lstore_n (ls' := [some (vR 150), some (vL (((((((((((((((((953 : Int64) * (31 : Int64)) + (il (fX12_columns M))) * (31 : Int64)) + (il (fX12_rows M))) * (31 : Int64)) + (il v102)) * (31 : Int64)) + (il (fX12_stonesToTakeBack M))) * (31 : Int64)) + (il (fX12_tapeBytes M))) * (31 : Int64)) + (il (fX12_emptyCells M))) * (31 : Int64)) + (il v104)) * (31 : Int64)) + (il 1))), none, none]) (pc := 107) dX12_digest_107 (Nat.le_of_ble_eq_true rfl) rfl rfl ?_
    refine x_aload_n (pc := 108) dX12_digest_108 rfl ?_
    refine x_lload_n (pc := 109) dX12_digest_109 rfl ?_
    refine x_iconst (pc := 110) dX12_digest_110 ⟨by decide, by decide⟩ ?_
    obtain ⟨v121, M120, r119, hf⟩ := bd2_some hf
    refine x_cr (v := vL v121) (vs := [vR 150, vL (((((((((((((((((953 : Int64) * (31 : Int64)) + (il (fX12_columns M))) * (31 : Int64)) + (il (fX12_rows M))) * (31 : Int64)) + (il v102)) * (31 : Int64)) + (il (fX12_stonesToTakeBack M))) * (31 : Int64)) + (il (fX12_tapeBytes M))) * (31 : Int64)) + (il (fX12_emptyCells M))) * (31 : Int64)) + (il v104)) * (31 : Int64)) + (il 1)), vI 0]) (rest := []) (k := 2) rfl (by omega) (ax_caV (pc := 111) dX12_digest_111 kX12_digestOfPlayer rfl rfl WM_X12_305 WI_X12_digestOfPlayer WS_X12_digestOfPlayer WN_X12 (ax_rcO (t := 10) (axEx hG rfl) rfl (by decide)) (Nat.le_of_ble_eq_true rfl)) kX12_digestOfPlayer rfl True.intro (T_X12_digestOfPlayer (by omega) hG r119) ?_
    refine x_lstore_n (ls' := [some (vR 150), some (vL v121), none, none]) (pc := 114) dX12_digest_114 (Nat.le_of_ble_eq_true rfl) rfl rfl ?_
    refine x_aload_n (pc := 115) dX12_digest_115 rfl ?_
    refine x_lload_n (pc := 116) dX12_digest_116 rfl ?_
    refine x_iconst (pc := 117) dX12_digest_117 ⟨by decide, by decide⟩ ?_
    obtain ⟨v124, M123, r122, hf⟩ := bd2_some hf
    refine x_cr (v := vL v124) (vs := [vR 150, vL v121, vI 1]) (rest := []) (k := 2) rfl (by omega) (ax_caV (pc := 118) dX12_digest_118 kX12_digestOfPlayer rfl rfl WM_X12_305 WI_X12_digestOfPlayer WS_X12_digestOfPlayer WN_X12 (ax_rcO (t := 10) (axEx hG rfl) rfl (by decide)) (Nat.le_of_ble_eq_true rfl)) kX12_digestOfPlayer rfl True.intro (T_X12_digestOfPlayer (by omega) hG r122) ?_
    refine x_lstore_n (ls' := [some (vR 150), some (vL v124), none, none]) (pc := 121) dX12_digest_121 (Nat.le_of_ble_eq_true rfl) rfl rfl ?_
    refine x_iconst (pc := 122) dX12_digest_122 ⟨by decide, by decide⟩ ?_
    refine x_istore_n (ls' := [some (vR 150), some (vL v124), none, some (vI 0)]) (pc := 123) dX12_digest_123 (Nat.le_of_ble_eq_true rfl) rfl rfl ?_
    obtain ⟨t125, t126, hf⟩ := bd1_some hf
    refine lp_ex (P := (fun s => ax_Ex G tX12_digest d 124 [some (vR 150), some (vL s.1), none, some (vI s.2)] [] M123 _ _)) (K := (fun t => ax_Ex G tX12_digest d 157 [some (vR 150), some (vL t), none, none] [] M123 _ _)) (fun s y hy h1 h2 => B_X12_digest_124 (by omega) hG hy (fun s' e => h1 s' e) (fun t e => h2 t e)) _ _ _ t126 ?_
    refine x_lload_n (pc := 157) dX12_digest_157 rfl ?_
    cases hf
    exact x_retJ (pc := 158) dX12_digest_158
