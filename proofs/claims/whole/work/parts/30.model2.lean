/-! walks: HexPondModel, the pond -/
/- HexPondModel.errorAt()I -/
def fX14_errorAt (M : ax_M) : Option (Int × ax_M) :=
  (bd2 (fX14_ok M (mI M 203 3)) fun v103 M102 => (some (v103, M102)))
theorem T_X14_errorAt {G : ax_G} {d : Nat} (hd : 1 ≤ d) (hG : axPs G 150 244) {M : ax_M} {r : Int} {M1 : ax_M} (hf : fX14_errorAt M = some (r, M1)) : ax_Ex G tX14_errorAt d 0 (ax_args [vR 203] ++ List.replicate 0 none) [] M (.inl (some (vI r))) M1 := by
  show ax_Ex G tX14_errorAt d 0 [some (vR 203)] [] M _ _
  unfold fX14_errorAt at hf
  refine x_aload_n (pc := 0) dX14_errorAt_0 rfl ?_
  refine x_aload_n (pc := 1) dX14_errorAt_1 rfl ?_
  refine x_getI (t := 12) (j := 3) (pc := 2) dX14_errorAt_2 (axEx hG rfl) rfl (by decide) (by decide) rfl WF_X14_13 ?_
  obtain ⟨v103, M102, r101, hf⟩ := bd2_some hf
  refine x_cr (v := vI v103) (vs := [vR 203, vI (mI M 203 3)]) (rest := []) (k := 0) rfl (by omega) (ax_caV (pc := 5) dX14_errorAt_5 kX14_ok rfl rfl WM_X14_272 WI_X14_ok WS_X14_ok WN_X14 (ax_rcO (t := 12) (axEx hG rfl) rfl (by decide)) (Nat.le_of_ble_eq_true rfl)) kX14_ok rfl True.intro (T_X14_ok (by omega) hG r101) ?_
  cases hf
  exact x_retI (pc := 8) dX14_errorAt_8
/- HexPondModel.cells()I -/
def fX14_cells (M : ax_M) : Int :=
  ((wr ((mI M 208 0) * (mI M 208 1))))
theorem T_X14_cells {G : ax_G} {d : Nat} (hd : 0 ≤ d) (hG : axPs G 150 244) {M : ax_M} {r : Int} (hf : fX14_cells M = r) : ax_Ex G tX14_cells d 0 (ax_args [vR 203] ++ List.replicate 0 none) [] M (.inl (some (vI r))) M := by
  show ax_Ex G tX14_cells d 0 [some (vR 203)] [] M _ _
  unfold fX14_cells at hf
  refine x_aload_n (pc := 0) dX14_cells_0 rfl ?_
  refine x_getF (t := 12) (j := 12) (r := 208) (pc := 1) dX14_cells_1 (axH hG rfl) (axEx hG rfl) rfl (by decide) (by decide) rfl rfl WF_X14_29 ?_
  refine x_getIN (t := 11) (j := 0) (pc := 4) dX14_cells_4 (axEx hG rfl) rfl (by decide) (by decide) rfl NF_X14_208 ?_
  refine x_aload_n (pc := 7) dX14_cells_7 rfl ?_
  refine x_getF (t := 12) (j := 12) (r := 208) (pc := 8) dX14_cells_8 (axH hG rfl) (axEx hG rfl) rfl (by decide) (by decide) rfl rfl WF_X14_29 ?_
  refine x_getIN (t := 11) (j := 1) (pc := 11) dX14_cells_11 (axEx hG rfl) rfl (by decide) (by decide) rfl NF_X14_211 ?_
  refine x_imulw (pc := 14) dX14_cells_14 ?_
  subst hf
  exact x_retI (pc := 15) dX14_cells_15
/- HexPondModel.isOn(II)Z -/
def fX14_isOn (M : ax_M) (a1 : Int) (a2 : Int) : Int :=
  (if (fX14_isIn M a1 0 (wr ((mI M 208 0) - 1))) = 0 then (0) else (if (fX14_isIn M a2 0 (wr ((mI M 208 1) - 1))) = 0 then (0) else (1)))
theorem T_X14_isOn {G : ax_G} {d : Nat} (hd : 1 ≤ d) (hG : axPs G 150 244) {M : ax_M} {a1 : Int} {a2 : Int} {r : Int} (hf : fX14_isOn M a1 a2 = r) : ax_Ex G tX14_isOn d 0 (ax_args [vR 203, vI a1, vI a2] ++ List.replicate 0 none) [] M (.inl (some (vI r))) M := by
  show ax_Ex G tX14_isOn d 0 [some (vR 203), some (vI a1), some (vI a2)] [] M _ _
  unfold fX14_isOn at hf
  refine x_iload_n (pc := 0) dX14_isOn_0 rfl ?_
  refine x_iconst (pc := 1) dX14_isOn_1 ⟨by decide, by decide⟩ ?_
  refine x_aload_n (pc := 2) dX14_isOn_2 rfl ?_
  refine x_getF (t := 12) (j := 12) (r := 208) (pc := 3) dX14_isOn_3 (axH hG rfl) (axEx hG rfl) rfl (by decide) (by decide) rfl rfl WF_X14_29 ?_
  refine x_getIN (t := 11) (j := 0) (pc := 6) dX14_isOn_6 (axEx hG rfl) rfl (by decide) (by decide) rfl NF_X14_208 ?_
  refine x_iconst (pc := 9) dX14_isOn_9 ⟨by decide, by decide⟩ ?_
  refine x_isubw (pc := 10) dX14_isOn_10 ?_
  refine x_cr (v := vI (fX14_isIn M a1 0 (wr ((mI M 208 0) - 1)))) (vs := [vI a1, vI 0, vI (wr ((mI M 208 0) - 1))]) (rest := []) (k := 0) rfl (by omega) (ax_caS (pc := 11) dX14_isOn_11 kX14_isIn rfl rfl WM_X14_76 WT_X14_isIn WN_X14 (Nat.le_of_ble_eq_true rfl)) kX14_isIn rfl (Z_X14_isIn rfl) (T_X14_isIn (by omega) hG rfl) ?_
  refine x_ifeq (tgt := 38) (pc := 14) dX14_isOn_14 rfl (fun h101 => ?_) (fun h101 => ?_)
  · replace hf := (if_pos h101).symm.trans hf
    refine x_iconst (pc := 38) dX14_isOn_38 ⟨by decide, by decide⟩ ?_
    subst hf
    exact x_retI (pc := 39) dX14_isOn_39
  · replace hf := (if_neg h101).symm.trans hf
    refine x_iload_n (pc := 17) dX14_isOn_17 rfl ?_
    refine x_iconst (pc := 18) dX14_isOn_18 ⟨by decide, by decide⟩ ?_
    refine x_aload_n (pc := 19) dX14_isOn_19 rfl ?_
    refine x_getF (t := 12) (j := 12) (r := 208) (pc := 20) dX14_isOn_20 (axH hG rfl) (axEx hG rfl) rfl (by decide) (by decide) rfl rfl WF_X14_29 ?_
    refine x_getIN (t := 11) (j := 1) (pc := 23) dX14_isOn_23 (axEx hG rfl) rfl (by decide) (by decide) rfl NF_X14_211 ?_
    refine x_iconst (pc := 26) dX14_isOn_26 ⟨by decide, by decide⟩ ?_
    refine x_isubw (pc := 27) dX14_isOn_27 ?_
    refine x_cr (v := vI (fX14_isIn M a2 0 (wr ((mI M 208 1) - 1)))) (vs := [vI a2, vI 0, vI (wr ((mI M 208 1) - 1))]) (rest := []) (k := 0) rfl (by omega) (ax_caS (pc := 28) dX14_isOn_28 kX14_isIn rfl rfl WM_X14_76 WT_X14_isIn WN_X14 (Nat.le_of_ble_eq_true rfl)) kX14_isIn rfl (Z_X14_isIn rfl) (T_X14_isIn (by omega) hG rfl) ?_
    refine x_ifeq (tgt := 38) (pc := 31) dX14_isOn_31 rfl (fun h102 => ?_) (fun h102 => ?_)
    · replace hf := (if_pos h102).symm.trans hf
      refine x_iconst (pc := 38) dX14_isOn_38 ⟨by decide, by decide⟩ ?_
      subst hf
      exact x_retI (pc := 39) dX14_isOn_39
    · replace hf := (if_neg h102).symm.trans hf
      refine x_iconst (pc := 34) dX14_isOn_34 ⟨by decide, by decide⟩ ?_
      refine x_goto (tgt := 39) (pc := 35) dX14_isOn_35 rfl ?_
      subst hf
      exact x_retI (pc := 39) dX14_isOn_39
theorem Z_X14_isOn {M : ax_M} {a1 : Int} {a2 : Int} {r : Int} (hf : fX14_isOn M a1 a2 = r) : r = 0 ∨ r = 1 := by
  unfold fX14_isOn at hf
  by_cases h101 : (fX14_isIn M a1 0 (wr ((mI M 208 0) - 1))) = 0
  · replace hf := (if_pos h101).symm.trans hf
    subst hf
    exact Or.inl rfl
  · replace hf := (if_neg h101).symm.trans hf
    by_cases h102 : (fX14_isIn M a2 0 (wr ((mI M 208 1) - 1))) = 0
    · replace hf := (if_pos h102).symm.trans hf
      subst hf
      exact Or.inl rfl
    · replace hf := (if_neg h102).symm.trans hf
      subst hf
      exact Or.inr rfl
/- HexPondModel.at(II)I -/
def fX14_at (M : ax_M) (a1 : Int) (a2 : Int) : Int :=
  ((wr ((wr ((mI M 208 0) * a2)) + a1)))
theorem T_X14_at {G : ax_G} {d : Nat} (hd : 0 ≤ d) (hG : axPs G 150 244) {M : ax_M} {a1 : Int} {a2 : Int} {r : Int} (hf : fX14_at M a1 a2 = r) : ax_Ex G tX14_at d 0 (ax_args [vR 203, vI a1, vI a2] ++ List.replicate 0 none) [] M (.inl (some (vI r))) M := by
  show ax_Ex G tX14_at d 0 [some (vR 203), some (vI a1), some (vI a2)] [] M _ _
  unfold fX14_at at hf
  refine x_aload_n (pc := 0) dX14_at_0 rfl ?_
  refine x_getF (t := 12) (j := 12) (r := 208) (pc := 1) dX14_at_1 (axH hG rfl) (axEx hG rfl) rfl (by decide) (by decide) rfl rfl WF_X14_29 ?_
  refine x_getIN (t := 11) (j := 0) (pc := 4) dX14_at_4 (axEx hG rfl) rfl (by decide) (by decide) rfl NF_X14_208 ?_
  refine x_iload_n (pc := 7) dX14_at_7 rfl ?_
  refine x_imulw (pc := 8) dX14_at_8 ?_
  refine x_iload_n (pc := 9) dX14_at_9 rfl ?_
  refine x_iaddw (pc := 10) dX14_at_10 ?_
  subst hf
  exact x_retI (pc := 11) dX14_at_11
/- HexPondModel.isPlayer(I)Z -/
def fX14_isPlayer (M : ax_M) (a1 : Int) : Int :=
  (if a1 = 0 then (1) else (if a1 = 1 then (1) else (0)))
theorem T_X14_isPlayer {G : ax_G} {d : Nat} (hd : 0 ≤ d) (hG : axPs G 150 244) {M : ax_M} {a1 : Int} {r : Int} (hf : fX14_isPlayer M a1 = r) : ax_Ex G tX14_isPlayer d 0 (ax_args [vI a1] ++ List.replicate 0 none) [] M (.inl (some (vI r))) M := by
  show ax_Ex G tX14_isPlayer d 0 [some (vI a1)] [] M _ _
  unfold fX14_isPlayer at hf
  refine x_iload_n (pc := 0) dX14_isPlayer_0 rfl ?_
  refine x_ifeq (tgt := 9) (pc := 1) dX14_isPlayer_1 rfl (fun h101 => ?_) (fun h101 => ?_)
  · replace hf := (if_pos h101).symm.trans hf
    refine x_iconst (pc := 9) dX14_isPlayer_9 ⟨by decide, by decide⟩ ?_
    refine x_goto (tgt := 14) (pc := 10) dX14_isPlayer_10 rfl ?_
    subst hf
    exact x_retI (pc := 14) dX14_isPlayer_14
  · replace hf := (if_neg h101).symm.trans hf
    refine x_iload_n (pc := 4) dX14_isPlayer_4 rfl ?_
    refine x_iconst (pc := 5) dX14_isPlayer_5 ⟨by decide, by decide⟩ ?_
    refine x_icmpne (tgt := 13) (pc := 6) dX14_isPlayer_6 rfl (fun h102 => ?_) (fun h102 => ?_)
    · replace hf := (if_neg h102).symm.trans hf
      refine x_iconst (pc := 13) dX14_isPlayer_13 ⟨by decide, by decide⟩ ?_
      subst hf
      exact x_retI (pc := 14) dX14_isPlayer_14
    · replace hf := (if_pos h102).symm.trans hf
      refine x_iconst (pc := 9) dX14_isPlayer_9 ⟨by decide, by decide⟩ ?_
      refine x_goto (tgt := 14) (pc := 10) dX14_isPlayer_10 rfl ?_
      subst hf
      exact x_retI (pc := 14) dX14_isPlayer_14
theorem Z_X14_isPlayer {M : ax_M} {a1 : Int} {r : Int} (hf : fX14_isPlayer M a1 = r) : r = 0 ∨ r = 1 := by
  unfold fX14_isPlayer at hf
  by_cases h101 : a1 = 0
  · replace hf := (if_pos h101).symm.trans hf
    subst hf
    exact Or.inr rfl
  · replace hf := (if_neg h101).symm.trans hf
    by_cases h102 : a1 = 1
    · replace hf := (if_pos h102).symm.trans hf
      subst hf
      exact Or.inr rfl
    · replace hf := (if_neg h102).symm.trans hf
      subst hf
      exact Or.inl rfl
/- HexPondModel.isCell(I)Z -/
def fX14_isCell (M : ax_M) (a1 : Int) : Int :=
  ((fX14_isIn M a1 0 (wr ((fX14_cells M) - 1))))
theorem T_X14_isCell {G : ax_G} {d : Nat} (hd : 1 ≤ d) (hG : axPs G 150 244) {M : ax_M} {a1 : Int} {r : Int} (hf : fX14_isCell M a1 = r) : ax_Ex G tX14_isCell d 0 (ax_args [vR 203, vI a1] ++ List.replicate 0 none) [] M (.inl (some (vI r))) M := by
  show ax_Ex G tX14_isCell d 0 [some (vR 203), some (vI a1)] [] M _ _
  unfold fX14_isCell at hf
  refine x_iload_n (pc := 0) dX14_isCell_0 rfl ?_
  refine x_iconst (pc := 1) dX14_isCell_1 ⟨by decide, by decide⟩ ?_
  refine x_aload_n (pc := 2) dX14_isCell_2 rfl ?_
  refine x_cr (v := vI (fX14_cells M)) (vs := [vR 203]) (rest := [vI 0, vI a1]) (k := 0) rfl (by omega) (ax_caV (pc := 3) dX14_isCell_3 kX14_cells rfl rfl WM_X14_275 WI_X14_cells WS_X14_cells WN_X14 (ax_rcO (t := 12) (axEx hG rfl) rfl (by decide)) (Nat.le_of_ble_eq_true rfl)) kX14_cells rfl True.intro (T_X14_cells (by omega) hG rfl) ?_
  refine x_iconst (pc := 6) dX14_isCell_6 ⟨by decide, by decide⟩ ?_
  refine x_isubw (pc := 7) dX14_isCell_7 ?_
  refine x_cr (v := vI (fX14_isIn M a1 0 (wr ((fX14_cells M) - 1)))) (vs := [vI a1, vI 0, vI (wr ((fX14_cells M) - 1))]) (rest := []) (k := 0) rfl (by omega) (ax_caS (pc := 8) dX14_isCell_8 kX14_isIn rfl rfl WM_X14_76 WT_X14_isIn WN_X14 (Nat.le_of_ble_eq_true rfl)) kX14_isIn rfl (Z_X14_isIn rfl) (T_X14_isIn (by omega) hG rfl) ?_
  subst hf
  exact x_retI (pc := 11) dX14_isCell_11
theorem Z_X14_isCell {M : ax_M} {a1 : Int} {r : Int} (hf : fX14_isCell M a1 = r) : r = 0 ∨ r = 1 := by
  unfold fX14_isCell at hf
  subst hf
  exact (Z_X14_isIn rfl)
/- HexPondModel.beside(II)I -/
def fX14_beside (M : ax_M) (a1 : Int) (a2 : Int) : Option Int :=
  (if ¬ (mI M 208 0) = 0 then (if 0 ≤ a2 ∧ a2 < 6 then (if (fX14_isOn M (wr ((Int.tmod a1 (mI M 208 0)) + (cA3.getD (Int.toNat a2) 0))) (wr ((wr (Int.tdiv a1 (mI M 208 0))) + (cA4.getD (Int.toNat a2) 0)))) = 0 then (some (-1)) else (some (fX14_at M (wr ((Int.tmod a1 (mI M 208 0)) + (cA3.getD (Int.toNat a2) 0))) (wr ((wr (Int.tdiv a1 (mI M 208 0))) + (cA4.getD (Int.toNat a2) 0)))))) else none) else none)
theorem T_X14_beside {G : ax_G} {d : Nat} (hd : 2 ≤ d) (hG : axPs G 150 244) {M : ax_M} {a1 : Int} {a2 : Int} {r : Int} (hf : fX14_beside M a1 a2 = some r) : ax_Ex G tX14_beside d 0 (ax_args [vR 203, vI a1, vI a2] ++ List.replicate 2 none) [] M (.inl (some (vI r))) M := by
  show ax_Ex G tX14_beside d 0 [some (vR 203), some (vI a1), some (vI a2), none, none] [] M _ _
  unfold fX14_beside at hf
  refine x_iload_n (pc := 0) dX14_beside_0 rfl ?_
  refine x_aload_n (pc := 1) dX14_beside_1 rfl ?_
  refine x_getF (t := 12) (j := 12) (r := 208) (pc := 2) dX14_beside_2 (axH hG rfl) (axEx hG rfl) rfl (by decide) (by decide) rfl rfl WF_X14_29 ?_
  refine x_getIN (t := 11) (j := 0) (pc := 5) dX14_beside_5 (axEx hG rfl) rfl (by decide) (by decide) rfl NF_X14_208 ?_
  by_cases h101 : ¬ (mI M 208 0) = 0
  · replace hf := (if_pos h101).symm.trans hf
    refine x_iremT (pc := 8) dX14_beside_8 h101 ?_
    refine x_gets (v := vR 3) _ (pc := 9) dX14_beside_9 (axS_mem (n := 2) rfl) rfl trivial WF_X14_278 ?_
    refine x_iload_n (pc := 12) dX14_beside_12 rfl ?_
    by_cases h102 : 0 ≤ a2 ∧ a2 < 6
    · replace hf := (if_pos h102).symm.trans hf
      refine x_cald2 cA3 (pc := 13) dX14_beside_13 cA3_K cA3_in h102.1 (by have e9 : (cA3.length : Int) = 6 := rfl; have := h102.2; omega) ?_
      refine x_iaddw (pc := 14) dX14_beside_14 ?_
      refine x_istore_n (ls' := [some (vR 203), some (vI a1), some (vI a2), some (vI (wr ((Int.tmod a1 (mI M 208 0)) + (cA3.getD (Int.toNat a2) 0)))), none]) (pc := 15) dX14_beside_15 (Nat.le_of_ble_eq_true rfl) rfl rfl ?_
      refine x_iload_n (pc := 16) dX14_beside_16 rfl ?_
      refine x_aload_n (pc := 17) dX14_beside_17 rfl ?_
      refine x_getF (t := 12) (j := 12) (r := 208) (pc := 18) dX14_beside_18 (axH hG rfl) (axEx hG rfl) rfl (by decide) (by decide) rfl rfl WF_X14_29 ?_
      refine x_getIN (t := 11) (j := 0) (pc := 21) dX14_beside_21 (axEx hG rfl) rfl (by decide) (by decide) rfl NF_X14_208 ?_
      refine x_idivT (pc := 24) dX14_beside_24 (by omega) ?_
      refine x_gets (v := vR 4) _ (pc := 25) dX14_beside_25 (axS_mem (n := 3) rfl) rfl trivial WF_X14_281 ?_
      refine x_iload_n (pc := 28) dX14_beside_28 rfl ?_
      refine x_cald2 cA4 (pc := 29) dX14_beside_29 cA4_K cA4_in (by omega) (by have e9 : (cA4.length : Int) = 6 := rfl; omega) ?_
      refine x_iaddw (pc := 30) dX14_beside_30 ?_
      refine x_istore (ls' := [some (vR 203), some (vI a1), some (vI a2), some (vI (wr ((Int.tmod a1 (mI M 208 0)) + (cA3.getD (Int.toNat a2) 0)))), some (vI (wr ((wr (Int.tdiv a1 (mI M 208 0))) + (cA4.getD (Int.toNat a2) 0))))]) (pc := 31) dX14_beside_31 (Nat.le_of_ble_eq_true rfl) rfl rfl ?_
      refine x_aload_n (pc := 33) dX14_beside_33 rfl ?_
      refine x_iload_n (pc := 34) dX14_beside_34 rfl ?_
      refine x_iload (pc := 35) dX14_beside_35 rfl ?_
      refine x_cr (v := vI (fX14_isOn M (wr ((Int.tmod a1 (mI M 208 0)) + (cA3.getD (Int.toNat a2) 0))) (wr ((wr (Int.tdiv a1 (mI M 208 0))) + (cA4.getD (Int.toNat a2) 0))))) (vs := [vR 203, vI (wr ((Int.tmod a1 (mI M 208 0)) + (cA3.getD (Int.toNat a2) 0))), vI (wr ((wr (Int.tdiv a1 (mI M 208 0))) + (cA4.getD (Int.toNat a2) 0)))]) (rest := []) (k := 0) rfl (by omega) (ax_caV (pc := 37) dX14_beside_37 kX14_isOn rfl rfl WM_X14_284 WI_X14_isOn WS_X14_isOn WN_X14 (ax_rcO (t := 12) (axEx hG rfl) rfl (by decide)) (Nat.le_of_ble_eq_true rfl)) kX14_isOn rfl (Z_X14_isOn rfl) (T_X14_isOn (by omega) hG rfl) ?_
      refine x_ifeq (tgt := 53) (pc := 40) dX14_beside_40 rfl (fun h103 => ?_) (fun h103 => ?_)
      · replace hf := (if_pos h103).symm.trans hf
        refine x_iconst (pc := 53) dX14_beside_53 ⟨by decide, by decide⟩ ?_
        cases hf
        exact x_retI (pc := 54) dX14_beside_54
      · replace hf := (if_neg h103).symm.trans hf
        refine x_aload_n (pc := 43) dX14_beside_43 rfl ?_
        refine x_iload_n (pc := 44) dX14_beside_44 rfl ?_
        refine x_iload (pc := 45) dX14_beside_45 rfl ?_
        refine x_cr (v := vI (fX14_at M (wr ((Int.tmod a1 (mI M 208 0)) + (cA3.getD (Int.toNat a2) 0))) (wr ((wr (Int.tdiv a1 (mI M 208 0))) + (cA4.getD (Int.toNat a2) 0))))) (vs := [vR 203, vI (wr ((Int.tmod a1 (mI M 208 0)) + (cA3.getD (Int.toNat a2) 0))), vI (wr ((wr (Int.tdiv a1 (mI M 208 0))) + (cA4.getD (Int.toNat a2) 0)))]) (rest := []) (k := 0) rfl (by omega) (ax_caV (pc := 47) dX14_beside_47 kX14_at rfl rfl WM_X14_288 WI_X14_at WS_X14_at WN_X14 (ax_rcO (t := 12) (axEx hG rfl) rfl (by decide)) (Nat.le_of_ble_eq_true rfl)) kX14_at rfl True.intro (T_X14_at (by omega) hG rfl) ?_
        refine x_goto (tgt := 54) (pc := 50) dX14_beside_50 rfl ?_
        cases hf
        exact x_retI (pc := 54) dX14_beside_54
    · replace hf := (if_neg h102).symm.trans hf
      cases hf
  · replace hf := (if_neg h101).symm.trans hf
    cases hf
/- HexPondModel.count(I)I -/
def fX14_count_b4 (M : ax_M) (x1 : Int) (v2 : Int) (v3 : Int) : Option ((Int × Int) ⊕ Int) :=
  (if v3 < (fX14_cells M) then (if 0 ≤ v3 ∧ v3 < 81 then (if (mI M 233 (Int.toNat v3)) = x1 then (some (.inl ((wr (v2 + 1)), (v3 + 1)))) else (some (.inl ((wr (v2 + 0)), (v3 + 1))))) else none) else (some (.inr v2)))
def fX14_count (M : ax_M) (a1 : Int) : Option Int :=
  (bd1 (lp (fun s => fX14_count_b4 M a1 s.1 s.2) lpN (0, 0)) fun t105 => (some t105))
theorem B_X14_count_4 {G : ax_G} {d : Nat} (hd : 1 ≤ d) (hG : axPs G 150 244) {M : ax_M} {x1 : Int} {v2 : Int} {v3 : Int} {o : Option ax_V ⊕ String} {M' : ax_M} {y : (Int × Int) ⊕ Int} (hf : fX14_count_b4 M x1 v2 v3 = some y) (h1 : ∀ s', y = .inl s' → ax_Ex G tX14_count d 4 [some (vR 203), some (vI x1), some (vI s'.1), some (vI s'.2)] [] M o M') (h2a : ∀ t, y = .inr t → ax_Ex G tX14_count d 36 [some (vR 203), some (vI x1), some (vI t), none] [] M o M') : ax_Ex G tX14_count d 4 [some (vR 203), some (vI x1), some (vI v2), some (vI v3)] [] M o M' := by
  unfold fX14_count_b4 at hf
  refine x_iload_n (pc := 4) dX14_count_4 rfl ?_
  refine x_aload_n (pc := 5) dX14_count_5 rfl ?_
  refine x_cr (v := vI (fX14_cells M)) (vs := [vR 203]) (rest := [vI v3]) (k := 0) rfl (by omega) (ax_caV (pc := 6) dX14_count_6 kX14_cells rfl rfl WM_X14_275 WI_X14_cells WS_X14_cells WN_X14 (ax_rcO (t := 12) (axEx hG rfl) rfl (by decide)) (Nat.le_of_ble_eq_true rfl)) kX14_cells rfl True.intro (T_X14_cells (by omega) hG rfl) ?_
  refine ax_cmp (fun b102a b102b b102c b102e => ?_)
  refine x_icmpge (tgt := 36) (pc := 9) dX14_count_9 rfl (fun h101 => ?_) (fun h101 => ?_)
  · replace hf := (if_neg (Int.not_lt.mpr h101)).symm.trans hf
    cases hf
    exact x_fgt (axS' (axS' (axS' (axN' axD)))) (h2a _ rfl)
  · replace hf := (if_pos h101).symm.trans hf
    refine x_iload_n (pc := 12) dX14_count_12 rfl ?_
    refine x_aload_n (pc := 13) dX14_count_13 rfl ?_
    refine x_getF (t := 12) (j := 15) (r := 233) (pc := 14) dX14_count_14 (axH hG rfl) (axEx hG rfl) rfl (by decide) (by decide) rfl rfl WF_X14_39 ?_
    refine x_iload_n (pc := 17) dX14_count_17 rfl ?_
    by_cases h103 : 0 ≤ v3 ∧ v3 < 81
    · replace hf := (if_pos h103).symm.trans hf
      refine x_iald2 (n := 81) (pc := 18) dX14_count_18 (axEx hG rfl) rfl h103.1 h103.2 ?_
      refine x_iload_n (pc := 19) dX14_count_19 rfl ?_
      refine x_icmpne (tgt := 27) (pc := 20) dX14_count_20 rfl (fun h104 => ?_) (fun h104 => ?_)
      · replace hf := (if_neg h104).symm.trans hf
        refine x_iconst (pc := 27) dX14_count_27 ⟨by decide, by decide⟩ ?_
        refine x_iaddw (pc := 28) dX14_count_28 ?_
        refine x_istore_n (ls' := [some (vR 203), some (vI x1), some (vI (wr (v2 + 0))), some (vI v3)]) (pc := 29) dX14_count_29 (Nat.le_of_ble_eq_true rfl) rfl rfl ?_
        refine x_iinc (z := (v3 + 1)) (ls' := [some (vR 203), some (vI x1), some (vI (wr (v2 + 0))), some (vI (v3 + 1))]) (pc := 30) dX14_count_30 rfl (Nat.le_of_ble_eq_true rfl) rfl rfl (ax_i (by omega) (by omega)) rfl ?_
        refine x_goto (tgt := 4) (pc := 33) dX14_count_33 rfl ?_
        cases hf
        exact h1 _ rfl
      · replace hf := (if_pos h104).symm.trans hf
        refine x_iconst (pc := 23) dX14_count_23 ⟨by decide, by decide⟩ ?_
        refine x_goto (tgt := 28) (pc := 24) dX14_count_24 rfl ?_
        refine x_iaddw (pc := 28) dX14_count_28 ?_
        refine x_istore_n (ls' := [some (vR 203), some (vI x1), some (vI (wr (v2 + 1))), some (vI v3)]) (pc := 29) dX14_count_29 (Nat.le_of_ble_eq_true rfl) rfl rfl ?_
        refine x_iinc (z := (v3 + 1)) (ls' := [some (vR 203), some (vI x1), some (vI (wr (v2 + 1))), some (vI (v3 + 1))]) (pc := 30) dX14_count_30 rfl (Nat.le_of_ble_eq_true rfl) rfl rfl (ax_i (by omega) (by omega)) rfl ?_
        refine x_goto (tgt := 4) (pc := 33) dX14_count_33 rfl ?_
        cases hf
        exact h1 _ rfl
    · replace hf := (if_neg h103).symm.trans hf
      cases hf
theorem T_X14_count {G : ax_G} {d : Nat} (hd : 1 ≤ d) (hG : axPs G 150 244) {M : ax_M} {a1 : Int} {r : Int} (hf : fX14_count M a1 = some r) : ax_Ex G tX14_count d 0 (ax_args [vR 203, vI a1] ++ List.replicate 2 none) [] M (.inl (some (vI r))) M := by
  show ax_Ex G tX14_count d 0 [some (vR 203), some (vI a1), none, none] [] M _ _
  unfold fX14_count at hf
  refine x_iconst (pc := 0) dX14_count_0 ⟨by decide, by decide⟩ ?_
  refine x_istore_n (ls' := [some (vR 203), some (vI a1), some (vI 0), none]) (pc := 1) dX14_count_1 (Nat.le_of_ble_eq_true rfl) rfl rfl ?_
  refine x_iconst (pc := 2) dX14_count_2 ⟨by decide, by decide⟩ ?_
  refine x_istore_n (ls' := [some (vR 203), some (vI a1), some (vI 0), some (vI 0)]) (pc := 3) dX14_count_3 (Nat.le_of_ble_eq_true rfl) rfl rfl ?_
  obtain ⟨t105, t106, hf⟩ := bd1_some hf
  refine lp_ex (P := (fun s => ax_Ex G tX14_count d 4 [some (vR 203), some (vI a1), some (vI s.1), some (vI s.2)] [] M _ _)) (K := (fun t => ax_Ex G tX14_count d 36 [some (vR 203), some (vI a1), some (vI t), none] [] M _ _)) (fun s y hy h1 h2 => B_X14_count_4 (by omega) hG hy (fun s' e => h1 s' e) (fun t e => h2 t e)) _ _ _ t106 ?_
  refine x_iload_n (pc := 36) dX14_count_36 rfl ?_
  cases hf
  exact x_retI (pc := 37) dX14_count_37
/- HexPondModel.isShore(IIZ)Z -/
def fX14_isShore (M : ax_M) (a1 : Int) (a2 : Int) (a3 : Int) : Option Int :=
  (if a2 = 0 then (if ¬ (mI M 208 0) = 0 then (if a3 = 0 then (if (Int.tmod a1 (mI M 208 0)) = 0 then (some 1) else (some 0)) else (if (Int.tmod a1 (mI M 208 0)) = (wr ((mI M 208 0) - 1)) then (some 1) else (some 0))) else none) else (if ¬ (mI M 208 0) = 0 then (if a3 = 0 then (if (wr (Int.tdiv a1 (mI M 208 0))) = 0 then (some 1) else (some 0)) else (if (wr (Int.tdiv a1 (mI M 208 0))) = (wr ((mI M 208 1) - 1)) then (some 1) else (some 0))) else none))
theorem T_X14_isShore {G : ax_G} {d : Nat} (hd : 0 ≤ d) (hG : axPs G 150 244) {M : ax_M} {a1 : Int} {a2 : Int} {a3 : Int} {r : Int} (hf : fX14_isShore M a1 a2 a3 = some r) : ax_Ex G tX14_isShore d 0 (ax_args [vR 203, vI a1, vI a2, vI a3] ++ List.replicate 1 none) [] M (.inl (some (vI r))) M := by
  show ax_Ex G tX14_isShore d 0 [some (vR 203), some (vI a1), some (vI a2), some (vI a3), none] [] M _ _
  unfold fX14_isShore at hf
  refine x_iload_n (pc := 0) dX14_isShore_0 rfl ?_
  refine x_ifne (tgt := 16) (pc := 1) dX14_isShore_1 rfl (fun h101 => ?_) (fun h101 => ?_)
  · replace hf := (if_neg h101).symm.trans hf
    refine x_iload_n (pc := 16) dX14_isShore_16 rfl ?_
    refine x_aload_n (pc := 17) dX14_isShore_17 rfl ?_
    refine x_getF (t := 12) (j := 12) (r := 208) (pc := 18) dX14_isShore_18 (axH hG rfl) (axEx hG rfl) rfl (by decide) (by decide) rfl rfl WF_X14_29 ?_
    refine x_getIN (t := 11) (j := 0) (pc := 21) dX14_isShore_21 (axEx hG rfl) rfl (by decide) (by decide) rfl NF_X14_208 ?_
    by_cases h107 : ¬ (mI M 208 0) = 0
    · replace hf := (if_pos h107).symm.trans hf
      refine x_idivT (pc := 24) dX14_isShore_24 h107 ?_
      refine x_istore (ls' := [some (vR 203), some (vI a1), some (vI a2), some (vI a3), some (vI (wr (Int.tdiv a1 (mI M 208 0))))]) (pc := 25) dX14_isShore_25 (Nat.le_of_ble_eq_true rfl) rfl rfl ?_
      refine x_iload (pc := 27) dX14_isShore_27 rfl ?_
      refine x_iload_n (pc := 29) dX14_isShore_29 rfl ?_
      refine x_ifne (tgt := 37) (pc := 30) dX14_isShore_30 rfl (fun h108 => ?_) (fun h108 => ?_)
      · replace hf := (if_neg h108).symm.trans hf
        refine x_iload_n (pc := 37) dX14_isShore_37 rfl ?_
        refine x_ifne (tgt := 53) (pc := 38) dX14_isShore_38 rfl (fun h110 => ?_) (fun h110 => absurd h110 (by omega))
        refine x_aload_n (pc := 53) dX14_isShore_53 rfl ?_
        refine x_getF (t := 12) (j := 12) (r := 208) (pc := 54) dX14_isShore_54 (axH hG rfl) (axEx hG rfl) rfl (by decide) (by decide) rfl rfl WF_X14_29 ?_
        refine x_getIN (t := 11) (j := 1) (pc := 57) dX14_isShore_57 (axEx hG rfl) rfl (by decide) (by decide) rfl NF_X14_211 ?_
        refine x_iconst (pc := 60) dX14_isShore_60 ⟨by decide, by decide⟩ ?_
        refine x_isubw (pc := 61) dX14_isShore_61 ?_
        refine x_icmpne (tgt := 69) (pc := 62) dX14_isShore_62 rfl (fun h111 => ?_) (fun h111 => ?_)
        · replace hf := (if_neg h111).symm.trans hf
          refine x_iconst (pc := 69) dX14_isShore_69 ⟨by decide, by decide⟩ ?_
          cases hf
          exact x_retI (pc := 70) dX14_isShore_70
        · replace hf := (if_pos h111).symm.trans hf
          refine x_iconst (pc := 65) dX14_isShore_65 ⟨by decide, by decide⟩ ?_
          refine x_goto (tgt := 70) (pc := 66) dX14_isShore_66 rfl ?_
          cases hf
          exact x_retI (pc := 70) dX14_isShore_70
      · replace hf := (if_pos h108).symm.trans hf
        refine x_iconst (pc := 33) dX14_isShore_33 ⟨by decide, by decide⟩ ?_
        refine x_goto (tgt := 62) (pc := 34) dX14_isShore_34 rfl ?_
        refine x_icmpne (tgt := 69) (pc := 62) dX14_isShore_62 rfl (fun h109 => ?_) (fun h109 => ?_)
        · replace hf := (if_neg h109).symm.trans hf
          refine x_iconst (pc := 69) dX14_isShore_69 ⟨by decide, by decide⟩ ?_
          cases hf
          exact x_retI (pc := 70) dX14_isShore_70
        · replace hf := (if_pos h109).symm.trans hf
          refine x_iconst (pc := 65) dX14_isShore_65 ⟨by decide, by decide⟩ ?_
          refine x_goto (tgt := 70) (pc := 66) dX14_isShore_66 rfl ?_
          cases hf
          exact x_retI (pc := 70) dX14_isShore_70
    · replace hf := (if_neg h107).symm.trans hf
      cases hf
  · replace hf := (if_pos h101).symm.trans hf
    refine x_iload_n (pc := 4) dX14_isShore_4 rfl ?_
    refine x_aload_n (pc := 5) dX14_isShore_5 rfl ?_
    refine x_getF (t := 12) (j := 12) (r := 208) (pc := 6) dX14_isShore_6 (axH hG rfl) (axEx hG rfl) rfl (by decide) (by decide) rfl rfl WF_X14_29 ?_
    refine x_getIN (t := 11) (j := 0) (pc := 9) dX14_isShore_9 (axEx hG rfl) rfl (by decide) (by decide) rfl NF_X14_208 ?_
    by_cases h102 : ¬ (mI M 208 0) = 0
    · replace hf := (if_pos h102).symm.trans hf
      refine x_iremT (pc := 12) dX14_isShore_12 h102 ?_
      refine x_goto (tgt := 25) (pc := 13) dX14_isShore_13 rfl ?_
      refine x_istore (ls' := [some (vR 203), some (vI a1), some (vI a2), some (vI a3), some (vI (Int.tmod a1 (mI M 208 0)))]) (pc := 25) dX14_isShore_25 (Nat.le_of_ble_eq_true rfl) rfl rfl ?_
      refine x_iload (pc := 27) dX14_isShore_27 rfl ?_
      refine x_iload_n (pc := 29) dX14_isShore_29 rfl ?_
      refine x_ifne (tgt := 37) (pc := 30) dX14_isShore_30 rfl (fun h103 => ?_) (fun h103 => ?_)
      · replace hf := (if_neg h103).symm.trans hf
        refine x_iload_n (pc := 37) dX14_isShore_37 rfl ?_
        refine x_ifne (tgt := 53) (pc := 38) dX14_isShore_38 rfl (fun h105 => absurd h105 (by omega)) (fun h105 => ?_)
        refine x_aload_n (pc := 41) dX14_isShore_41 rfl ?_
        refine x_getF (t := 12) (j := 12) (r := 208) (pc := 42) dX14_isShore_42 (axH hG rfl) (axEx hG rfl) rfl (by decide) (by decide) rfl rfl WF_X14_29 ?_
        refine x_getIN (t := 11) (j := 0) (pc := 45) dX14_isShore_45 (axEx hG rfl) rfl (by decide) (by decide) rfl NF_X14_208 ?_
        refine x_iconst (pc := 48) dX14_isShore_48 ⟨by decide, by decide⟩ ?_
        refine x_isubw (pc := 49) dX14_isShore_49 ?_
        refine x_goto (tgt := 62) (pc := 50) dX14_isShore_50 rfl ?_
        refine x_icmpne (tgt := 69) (pc := 62) dX14_isShore_62 rfl (fun h106 => ?_) (fun h106 => ?_)
        · replace hf := (if_neg h106).symm.trans hf
          refine x_iconst (pc := 69) dX14_isShore_69 ⟨by decide, by decide⟩ ?_
          cases hf
          exact x_retI (pc := 70) dX14_isShore_70
        · replace hf := (if_pos h106).symm.trans hf
          refine x_iconst (pc := 65) dX14_isShore_65 ⟨by decide, by decide⟩ ?_
          refine x_goto (tgt := 70) (pc := 66) dX14_isShore_66 rfl ?_
          cases hf
          exact x_retI (pc := 70) dX14_isShore_70
      · replace hf := (if_pos h103).symm.trans hf
        refine x_iconst (pc := 33) dX14_isShore_33 ⟨by decide, by decide⟩ ?_
        refine x_goto (tgt := 62) (pc := 34) dX14_isShore_34 rfl ?_
        refine x_icmpne (tgt := 69) (pc := 62) dX14_isShore_62 rfl (fun h104 => ?_) (fun h104 => ?_)
        · replace hf := (if_neg h104).symm.trans hf
          refine x_iconst (pc := 69) dX14_isShore_69 ⟨by decide, by decide⟩ ?_
          cases hf
          exact x_retI (pc := 70) dX14_isShore_70
        · replace hf := (if_pos h104).symm.trans hf
          refine x_iconst (pc := 65) dX14_isShore_65 ⟨by decide, by decide⟩ ?_
          refine x_goto (tgt := 70) (pc := 66) dX14_isShore_66 rfl ?_
          cases hf
          exact x_retI (pc := 70) dX14_isShore_70
    · replace hf := (if_neg h102).symm.trans hf
      cases hf
theorem Z_X14_isShore {M : ax_M} {a1 : Int} {a2 : Int} {a3 : Int} {r : Int} (hf : fX14_isShore M a1 a2 a3 = some r) : r = 0 ∨ r = 1 := by
  unfold fX14_isShore at hf
  by_cases h101 : a2 = 0
  · replace hf := (if_pos h101).symm.trans hf
    by_cases h102 : ¬ (mI M 208 0) = 0
    · replace hf := (if_pos h102).symm.trans hf
      by_cases h103 : a3 = 0
      · replace hf := (if_pos h103).symm.trans hf
        by_cases h104 : (Int.tmod a1 (mI M 208 0)) = 0
        · replace hf := (if_pos h104).symm.trans hf
          cases hf
          exact Or.inr rfl
        · replace hf := (if_neg h104).symm.trans hf
          cases hf
          exact Or.inl rfl
      · replace hf := (if_neg h103).symm.trans hf
        by_cases h106 : (Int.tmod a1 (mI M 208 0)) = (wr ((mI M 208 0) - 1))
        · replace hf := (if_pos h106).symm.trans hf
          cases hf
          exact Or.inr rfl
        · replace hf := (if_neg h106).symm.trans hf
          cases hf
          exact Or.inl rfl
    · replace hf := (if_neg h102).symm.trans hf
      cases hf
  · replace hf := (if_neg h101).symm.trans hf
    by_cases h107 : ¬ (mI M 208 0) = 0
    · replace hf := (if_pos h107).symm.trans hf
      by_cases h108 : a3 = 0
      · replace hf := (if_pos h108).symm.trans hf
        by_cases h109 : (wr (Int.tdiv a1 (mI M 208 0))) = 0
        · replace hf := (if_pos h109).symm.trans hf
          cases hf
          exact Or.inr rfl
        · replace hf := (if_neg h109).symm.trans hf
          cases hf
          exact Or.inl rfl
      · replace hf := (if_neg h108).symm.trans hf
        by_cases h111 : (wr (Int.tdiv a1 (mI M 208 0))) = (wr ((mI M 208 1) - 1))
        · replace hf := (if_pos h111).symm.trans hf
          cases hf
          exact Or.inr rfl
        · replace hf := (if_neg h111).symm.trans hf
          cases hf
          exact Or.inl rfl
    · replace hf := (if_neg h107).symm.trans hf
      cases hf
/- HexPondModel.spread(I)V -/
def fX14_spread_b29 (M : ax_M) (x1 : Int) (x3 : Int) (v2 : Int) (v4 : Int) : Option ((Int × Int × ax_M) ⊕ (Int × ax_M)) :=
  (if v4 < 6 then (if 0 ≤ x3 ∧ x3 < 81 then (bd1 (fX14_beside M (mI M 240 (Int.toNat x3)) v4) fun v108 => (if v108 = (-1) then (some (.inl (v2, (v4 + 1), M))) else (if 0 ≤ v108 ∧ v108 < 81 then (if (mI M 238 (Int.toNat v108)) = (-1) then (if 0 ≤ x1 ∧ x1 < 81 then (if (mI M 233 (Int.toNat v108)) = (mI M 233 (Int.toNat x1)) then (if 0 ≤ v2 ∧ v2 < 81 then (some (.inl ((v2 + 1), (v4 + 1), (mUI (mUI M 238 (Int.toNat v108) (mI M 203 25)) 240 (Int.toNat v2) v108)))) else none) else (some (.inl (v2, (v4 + 1), M)))) else none) else (some (.inl (v2, (v4 + 1), M)))) else none))) else none) else (some (.inr (v2, M))))
def fX14_spread_b21 (M : ax_M) (x1 : Int) (v2 : Int) (v3 : Int) : Option ((Int × Int × ax_M) ⊕ (Int × ax_M)) :=
  (if v3 < v2 then (bd1 (lp (fun s => fX14_spread_b29 s.2.2 x1 v3 s.1 s.2.1) lpN (v2, 0, M)) fun t115 => (some (.inl (t115.1, (v3 + 1), t115.2)))) else (some (.inr (v2, M))))
def fX14_spread (M : ax_M) (a1 : Int) : Option ax_M :=
  (if 0 ≤ a1 ∧ a1 < 81 then (bd1 (lp (fun s => fX14_spread_b21 s.2.2 a1 s.1 s.2.1) lpN (1, 0, (mUI (mUI M 238 (Int.toNat a1) (mI M 203 25)) 240 0 a1))) fun t117 => (if 0 ≤ (mI t117.2 203 25) ∧ (mI t117.2 203 25) < 82 then (some (mUI (mUI t117.2 239 (Int.toNat (mI t117.2 203 25)) t117.1) 203 25 (wr ((mI (mUI t117.2 239 (Int.toNat (mI t117.2 203 25)) t117.1) 203 25) + 1)))) else none)) else none)
theorem B_X14_spread_29 {G : ax_G} {d : Nat} (hd : 3 ≤ d) (hG : axPs G 150 244) {M : ax_M} {x1 : Int} {x3 : Int} {v2 : Int} {v4 : Int} {o : Option ax_V ⊕ String} {M' : ax_M} {y : (Int × Int × ax_M) ⊕ (Int × ax_M)} (hf : fX14_spread_b29 M x1 x3 v2 v4 = some y) (h1 : ∀ s', y = .inl s' → ax_Ex G tX14_spread d 29 [some (vR 203), some (vI x1), some (vI s'.1), some (vI x3), some (vI s'.2.1), none] [] s'.2.2 o M') (h2a : ∀ t, y = .inr t → ax_Ex G tX14_spread d 114 [some (vR 203), some (vI x1), some (vI t.1), some (vI x3), none, none] [] t.2 o M') : ax_Ex G tX14_spread d 29 [some (vR 203), some (vI x1), some (vI v2), some (vI x3), some (vI v4), none] [] M o M' := by
  unfold fX14_spread_b29 at hf
  refine x_iload (pc := 29) dX14_spread_29 rfl ?_
  refine x_bipush (pc := 31) dX14_spread_31 (by decide) ⟨by decide, by decide⟩ ?_
  refine ax_cmp (fun b105a b105b b105c b105e => ?_)
  refine x_icmpge (tgt := 114) (pc := 33) dX14_spread_33 rfl (fun h104 => ?_) (fun h104 => ?_)
  · replace hf := (if_neg (Int.not_lt.mpr h104)).symm.trans hf
    cases hf
    exact x_fgt (axS' (axS' (axS' (axS' (axN' (axN' axD)))))) (h2a _ rfl)
  · replace hf := (if_pos h104).symm.trans hf
    refine x_aload_n (pc := 36) dX14_spread_36 rfl ?_
    refine x_aload_n (pc := 37) dX14_spread_37 rfl ?_
    refine x_getF (t := 12) (j := 23) (r := 240) (pc := 38) dX14_spread_38 (axH hG rfl) (axEx hG rfl) rfl (by decide) (by decide) rfl rfl WF_X14_60 ?_
    refine x_iload_n (pc := 41) dX14_spread_41 rfl ?_
    by_cases h106 : 0 ≤ x3 ∧ x3 < 81
    · replace hf := (if_pos h106).symm.trans hf
      refine x_iald2 (n := 81) (pc := 42) dX14_spread_42 (axEx hG rfl) rfl h106.1 h106.2 ?_
      refine x_iload (pc := 43) dX14_spread_43 rfl ?_
      obtain ⟨v108, r107, hf⟩ := bd1_some hf
      refine x_cr (v := vI v108) (vs := [vR 203, vI (mI M 240 (Int.toNat x3)), vI v4]) (rest := []) (k := 2) rfl (by omega) (ax_caV (pc := 45) dX14_spread_45 kX14_beside rfl rfl WM_X14_297 WI_X14_beside WS_X14_beside WN_X14 (ax_rcO (t := 12) (axEx hG rfl) rfl (by decide)) (Nat.le_of_ble_eq_true rfl)) kX14_beside rfl True.intro (T_X14_beside (by omega) hG r107) ?_
      refine x_istore (ls' := [some (vR 203), some (vI x1), some (vI v2), some (vI x3), some (vI v4), some (vI v108)]) (pc := 48) dX14_spread_48 (Nat.le_of_ble_eq_true rfl) rfl rfl ?_
      refine x_iload (pc := 50) dX14_spread_50 rfl ?_
      refine x_iconst (pc := 52) dX14_spread_52 ⟨by decide, by decide⟩ ?_
      refine x_icmpeq (tgt := 108) (pc := 53) dX14_spread_53 rfl (fun h109 => ?_) (fun h109 => ?_)
      · replace hf := (if_pos h109).symm.trans hf
        refine x_iinc (z := (v4 + 1)) (ls' := [some (vR 203), some (vI x1), some (vI v2), some (vI x3), some (vI (v4 + 1)), some (vI v108)]) (pc := 108) dX14_spread_108 rfl (Nat.le_of_ble_eq_true rfl) rfl rfl (ax_i (by omega) (by omega)) rfl ?_
        refine x_goto (tgt := 29) (pc := 111) dX14_spread_111 rfl ?_
        cases hf
        exact x_fgt (axS' (axS' (axS' (axS' (axS' (axN' axD)))))) (h1 _ rfl)
      · replace hf := (if_neg h109).symm.trans hf
        refine x_aload_n (pc := 56) dX14_spread_56 rfl ?_
        refine x_getF (t := 12) (j := 21) (r := 238) (pc := 57) dX14_spread_57 (axH hG rfl) (axEx hG rfl) rfl (by decide) (by decide) rfl rfl WF_X14_54 ?_
        refine x_iload (pc := 60) dX14_spread_60 rfl ?_
        by_cases h110 : 0 ≤ v108 ∧ v108 < 81
        · replace hf := (if_pos h110).symm.trans hf
          refine x_iald2 (n := 81) (pc := 62) dX14_spread_62 (axEx hG rfl) rfl h110.1 h110.2 ?_
          refine x_iconst (pc := 63) dX14_spread_63 ⟨by decide, by decide⟩ ?_
          refine x_icmpne (tgt := 108) (pc := 64) dX14_spread_64 rfl (fun h111 => ?_) (fun h111 => ?_)
          · replace hf := (if_neg h111).symm.trans hf
            refine x_iinc (z := (v4 + 1)) (ls' := [some (vR 203), some (vI x1), some (vI v2), some (vI x3), some (vI (v4 + 1)), some (vI v108)]) (pc := 108) dX14_spread_108 rfl (Nat.le_of_ble_eq_true rfl) rfl rfl (ax_i (by omega) (by omega)) rfl ?_
            refine x_goto (tgt := 29) (pc := 111) dX14_spread_111 rfl ?_
            cases hf
            exact x_fgt (axS' (axS' (axS' (axS' (axS' (axN' axD)))))) (h1 _ rfl)
          · replace hf := (if_pos h111).symm.trans hf
            refine x_aload_n (pc := 67) dX14_spread_67 rfl ?_
            refine x_getF (t := 12) (j := 15) (r := 233) (pc := 68) dX14_spread_68 (axH hG rfl) (axEx hG rfl) rfl (by decide) (by decide) rfl rfl WF_X14_39 ?_
            refine x_iload (pc := 71) dX14_spread_71 rfl ?_
            refine x_iald2 (n := 81) (pc := 73) dX14_spread_73 (axEx hG rfl) rfl (by omega) (by omega) ?_
            refine x_aload_n (pc := 74) dX14_spread_74 rfl ?_
            refine x_getF (t := 12) (j := 15) (r := 233) (pc := 75) dX14_spread_75 (axH hG rfl) (axEx hG rfl) rfl (by decide) (by decide) rfl rfl WF_X14_39 ?_
            refine x_iload_n (pc := 78) dX14_spread_78 rfl ?_
            by_cases h112 : 0 ≤ x1 ∧ x1 < 81
            · replace hf := (if_pos h112).symm.trans hf
              refine x_iald2 (n := 81) (pc := 79) dX14_spread_79 (axEx hG rfl) rfl h112.1 h112.2 ?_
              refine x_icmpeq (tgt := 86) (pc := 80) dX14_spread_80 rfl (fun h113 => ?_) (fun h113 => ?_)
              · replace hf := (if_pos h113).symm.trans hf
                refine x_aload_n (pc := 86) dX14_spread_86 rfl ?_
                refine x_getF (t := 12) (j := 21) (r := 238) (pc := 87) dX14_spread_87 (axH hG rfl) (axEx hG rfl) rfl (by decide) (by decide) rfl rfl WF_X14_54 ?_
                refine x_iload (pc := 90) dX14_spread_90 rfl ?_
                refine x_aload_n (pc := 92) dX14_spread_92 rfl ?_
                refine x_getI (t := 12) (j := 25) (pc := 93) dX14_spread_93 (axEx hG rfl) rfl (by decide) (by decide) rfl WF_X14_291 ?_
                refine x_iast2 (n := 81) (pc := 96) dX14_spread_96 (axEx hG rfl) rfl (by omega) (by omega) ?_
                refine x_aload_n (pc := 97) dX14_spread_97 rfl ?_
                refine x_getF (t := 12) (j := 23) (r := 240) (pc := 98) dX14_spread_98 (axH hG rfl) (axEx hG rfl) rfl (by decide) (by decide) rfl rfl WF_X14_60 ?_
                refine x_iload_n (pc := 101) dX14_spread_101 rfl ?_
                refine x_iload (pc := 102) dX14_spread_102 rfl ?_
                by_cases h114 : 0 ≤ v2 ∧ v2 < 81
                · replace hf := (if_pos h114).symm.trans hf
                  refine x_iast2 (n := 81) (pc := 104) dX14_spread_104 (axEx hG rfl) rfl h114.1 h114.2 ?_
                  refine x_iinc (z := (v2 + 1)) (ls' := [some (vR 203), some (vI x1), some (vI (v2 + 1)), some (vI x3), some (vI v4), some (vI v108)]) (pc := 105) dX14_spread_105 rfl (Nat.le_of_ble_eq_true rfl) rfl rfl (ax_i (by omega) (by omega)) rfl ?_
                  refine x_iinc (z := (v4 + 1)) (ls' := [some (vR 203), some (vI x1), some (vI (v2 + 1)), some (vI x3), some (vI (v4 + 1)), some (vI v108)]) (pc := 108) dX14_spread_108 rfl (Nat.le_of_ble_eq_true rfl) rfl rfl (ax_i (by omega) (by omega)) rfl ?_
                  refine x_goto (tgt := 29) (pc := 111) dX14_spread_111 rfl ?_
                  cases hf
                  exact x_fgt (axS' (axS' (axS' (axS' (axS' (axN' axD)))))) (h1 _ rfl)
                · replace hf := (if_neg h114).symm.trans hf
                  cases hf
              · replace hf := (if_neg h113).symm.trans hf
                refine x_goto (tgt := 108) (pc := 83) dX14_spread_83 rfl ?_
                refine x_iinc (z := (v4 + 1)) (ls' := [some (vR 203), some (vI x1), some (vI v2), some (vI x3), some (vI (v4 + 1)), some (vI v108)]) (pc := 108) dX14_spread_108 rfl (Nat.le_of_ble_eq_true rfl) rfl rfl (ax_i (by omega) (by omega)) rfl ?_
                refine x_goto (tgt := 29) (pc := 111) dX14_spread_111 rfl ?_
                cases hf
                exact x_fgt (axS' (axS' (axS' (axS' (axS' (axN' axD)))))) (h1 _ rfl)
            · replace hf := (if_neg h112).symm.trans hf
              cases hf
        · replace hf := (if_neg h110).symm.trans hf
          cases hf
    · replace hf := (if_neg h106).symm.trans hf
      cases hf
theorem B_X14_spread_21 {G : ax_G} {d : Nat} (hd : 3 ≤ d) (hG : axPs G 150 244) {M : ax_M} {x1 : Int} {v2 : Int} {v3 : Int} {o : Option ax_V ⊕ String} {M' : ax_M} {y : (Int × Int × ax_M) ⊕ (Int × ax_M)} (hf : fX14_spread_b21 M x1 v2 v3 = some y) (h1 : ∀ s', y = .inl s' → ax_Ex G tX14_spread d 21 [some (vR 203), some (vI x1), some (vI s'.1), some (vI s'.2.1), none, none] [] s'.2.2 o M') (h2a : ∀ t, y = .inr t → ax_Ex G tX14_spread d 120 [some (vR 203), some (vI x1), some (vI t.1), none, none, none] [] t.2 o M') : ax_Ex G tX14_spread d 21 [some (vR 203), some (vI x1), some (vI v2), some (vI v3), none, none] [] M o M' := by
  unfold fX14_spread_b21 at hf
  refine x_iload_n (pc := 21) dX14_spread_21 rfl ?_
  refine x_iload_n (pc := 22) dX14_spread_22 rfl ?_
  refine ax_cmp (fun b103a b103b b103c b103e => ?_)
  refine x_icmpge (tgt := 120) (pc := 23) dX14_spread_23 rfl (fun h102 => ?_) (fun h102 => ?_)
  · replace hf := (if_neg (Int.not_lt.mpr h102)).symm.trans hf
    cases hf
    exact x_fgt (axS' (axS' (axS' (axN' (axN' (axN' axD)))))) (h2a _ rfl)
  · replace hf := (if_pos h102).symm.trans hf
    refine x_iconst (pc := 26) dX14_spread_26 ⟨by decide, by decide⟩ ?_
    refine x_istore (ls' := [some (vR 203), some (vI x1), some (vI v2), some (vI v3), some (vI 0), none]) (pc := 27) dX14_spread_27 (Nat.le_of_ble_eq_true rfl) rfl rfl ?_
    obtain ⟨t115, t116, hf⟩ := bd1_some hf
    refine lp_ex (P := (fun s => ax_Ex G tX14_spread d 29 [some (vR 203), some (vI x1), some (vI s.1), some (vI v3), some (vI s.2.1), none] [] s.2.2 _ _)) (K := (fun t => ax_Ex G tX14_spread d 114 [some (vR 203), some (vI x1), some (vI t.1), some (vI v3), none, none] [] t.2 _ _)) (fun s y hy h1 h2 => B_X14_spread_29 (by omega) hG hy (fun s' e => h1 s' e) (fun t e => h2 t e)) _ _ _ t116 ?_
    refine x_iinc (z := (v3 + 1)) (ls' := [some (vR 203), some (vI x1), some (vI t115.1), some (vI (v3 + 1)), none, none]) (pc := 114) dX14_spread_114 rfl (Nat.le_of_ble_eq_true rfl) rfl rfl (ax_i (by omega) (by omega)) rfl ?_
    refine x_goto (tgt := 21) (pc := 117) dX14_spread_117 rfl ?_
    cases hf
    exact h1 _ rfl
theorem T_X14_spread {G : ax_G} {d : Nat} (hd : 3 ≤ d) (hG : axPs G 150 244) {M : ax_M} {a1 : Int} {M1 : ax_M} (hf : fX14_spread M a1 = some M1) : ax_Ex G tX14_spread d 0 (ax_args [vR 203, vI a1] ++ List.replicate 4 none) [] M (.inl none) M1 := by
  show ax_Ex G tX14_spread d 0 [some (vR 203), some (vI a1), none, none, none, none] [] M _ _
  unfold fX14_spread at hf
  refine x_aload_n (pc := 0) dX14_spread_0 rfl ?_
  refine x_getF (t := 12) (j := 21) (r := 238) (pc := 1) dX14_spread_1 (axH hG rfl) (axEx hG rfl) rfl (by decide) (by decide) rfl rfl WF_X14_54 ?_
  refine x_iload_n (pc := 4) dX14_spread_4 rfl ?_
  refine x_aload_n (pc := 5) dX14_spread_5 rfl ?_
  refine x_getI (t := 12) (j := 25) (pc := 6) dX14_spread_6 (axEx hG rfl) rfl (by decide) (by decide) rfl WF_X14_291 ?_
  by_cases h101 : 0 ≤ a1 ∧ a1 < 81
  · replace hf := (if_pos h101).symm.trans hf
    refine x_iast2 (n := 81) (pc := 9) dX14_spread_9 (axEx hG rfl) rfl h101.1 h101.2 ?_
    refine x_aload_n (pc := 10) dX14_spread_10 rfl ?_
    refine x_getF (t := 12) (j := 23) (r := 240) (pc := 11) dX14_spread_11 (axH hG rfl) (axEx hG rfl) rfl (by decide) (by decide) rfl rfl WF_X14_60 ?_
    refine x_iconst (pc := 14) dX14_spread_14 ⟨by decide, by decide⟩ ?_
    refine x_iload_n (pc := 15) dX14_spread_15 rfl ?_
    refine x_iast (j := 0) (n := 81) (pc := 16) dX14_spread_16 (axEx hG rfl) rfl rfl (by decide) ?_
    refine x_iconst (pc := 17) dX14_spread_17 ⟨by decide, by decide⟩ ?_
    refine x_istore_n (ls' := [some (vR 203), some (vI a1), some (vI 1), none, none, none]) (pc := 18) dX14_spread_18 (Nat.le_of_ble_eq_true rfl) rfl rfl ?_
    refine x_iconst (pc := 19) dX14_spread_19 ⟨by decide, by decide⟩ ?_
    refine x_istore_n (ls' := [some (vR 203), some (vI a1), some (vI 1), some (vI 0), none, none]) (pc := 20) dX14_spread_20 (Nat.le_of_ble_eq_true rfl) rfl rfl ?_
    obtain ⟨t117, t118, hf⟩ := bd1_some hf
    refine lp_ex (P := (fun s => ax_Ex G tX14_spread d 21 [some (vR 203), some (vI a1), some (vI s.1), some (vI s.2.1), none, none] [] s.2.2 _ _)) (K := (fun t => ax_Ex G tX14_spread d 120 [some (vR 203), some (vI a1), some (vI t.1), none, none, none] [] t.2 _ _)) (fun s y hy h1 h2 => B_X14_spread_21 (by omega) hG hy (fun s' e => h1 s' e) (fun t e => h2 t e)) _ _ _ t118 ?_
    refine x_aload_n (pc := 120) dX14_spread_120 rfl ?_
    refine x_getF (t := 12) (j := 22) (r := 239) (pc := 121) dX14_spread_121 (axH hG rfl) (axEx hG rfl) rfl (by decide) (by decide) rfl rfl WF_X14_57 ?_
    refine x_aload_n (pc := 124) dX14_spread_124 rfl ?_
    refine x_getI (t := 12) (j := 25) (pc := 125) dX14_spread_125 (axEx hG rfl) rfl (by decide) (by decide) rfl WF_X14_291 ?_
    refine x_iload_n (pc := 128) dX14_spread_128 rfl ?_
    by_cases h119 : 0 ≤ (mI t117.2 203 25) ∧ (mI t117.2 203 25) < 82
    · replace hf := (if_pos h119).symm.trans hf
      refine x_iast2 (n := 82) (pc := 129) dX14_spread_129 (axEx hG rfl) rfl h119.1 h119.2 ?_
      refine x_aload_n (pc := 130) dX14_spread_130 rfl ?_
      refine x_dup (pc := 131) dX14_spread_131 rfl ?_
      refine x_getI (t := 12) (j := 25) (pc := 132) dX14_spread_132 (axEx hG rfl) rfl (by decide) (by decide) rfl WF_X14_291 ?_
      refine x_iconst (pc := 135) dX14_spread_135 ⟨by decide, by decide⟩ ?_
      refine x_iaddw (pc := 136) dX14_spread_136 ?_
      refine x_putI (t := 12) (j := 25) (pc := 137) dX14_spread_137 (axEx hG rfl) rfl (by decide) (by decide) rfl rfl WF_X14_291 ?_
      cases hf
      exact x_retV (pc := 140) dX14_spread_140
    · replace hf := (if_neg h119).symm.trans hf
      cases hf
  · replace hf := (if_neg h101).symm.trans hf
    cases hf
/- HexPondModel.gather(I)V -/
def fX14_gather_b7 (M : ax_M) (x1 : Int) (v2 : Int) : Option ((Int × ax_M) ⊕ ax_M) :=
  (if v2 < (fX14_cells M) then (if 0 ≤ v2 ∧ v2 < 81 then (some (.inl ((v2 + 1), (mUI M 238 (Int.toNat v2) (-1))))) else none) else (some (.inr M)))
def fX14_gather_b30 (M : ax_M) (x1 : Int) (v2 : Int) : Option ((Int × ax_M) ⊕ ax_M) :=
  (if v2 < (fX14_cells M) then (if 0 ≤ v2 ∧ v2 < 81 then (if (mI M 233 (Int.toNat v2)) = x1 then (if (mI M 238 (Int.toNat v2)) = (-1) then (bd1 (fX14_spread M v2) fun M112 => (some (.inl ((v2 + 1), M112)))) else (some (.inl ((v2 + 1), M)))) else (some (.inl ((v2 + 1), M)))) else none) else (some (.inr M)))
def fX14_gather (M : ax_M) (a1 : Int) : Option ax_M :=
  (bd1 (lp (fun s => fX14_gather_b7 s.2 a1 s.1) lpN (0, (mUI M 203 25 0))) fun t104 => (bd1 (lp (fun s => fX14_gather_b30 s.2 a1 s.1) lpN (0, t104)) fun t113 => (some t113)))
theorem B_X14_gather_7 {G : ax_G} {d : Nat} (hd : 4 ≤ d) (hG : axPs G 150 244) {M : ax_M} {x1 : Int} {v2 : Int} {o : Option ax_V ⊕ String} {M' : ax_M} {y : (Int × ax_M) ⊕ ax_M} (hf : fX14_gather_b7 M x1 v2 = some y) (h1 : ∀ s', y = .inl s' → ax_Ex G tX14_gather d 7 [some (vR 203), some (vI x1), some (vI s'.1)] [] s'.2 o M') (h2a : ∀ t, y = .inr t → ax_Ex G tX14_gather d 28 [some (vR 203), some (vI x1), none] [] t o M') : ax_Ex G tX14_gather d 7 [some (vR 203), some (vI x1), some (vI v2)] [] M o M' := by
  unfold fX14_gather_b7 at hf
  refine x_iload_n (pc := 7) dX14_gather_7 rfl ?_
  refine x_aload_n (pc := 8) dX14_gather_8 rfl ?_
  refine x_cr (v := vI (fX14_cells M)) (vs := [vR 203]) (rest := [vI v2]) (k := 0) rfl (by omega) (ax_caV (pc := 9) dX14_gather_9 kX14_cells rfl rfl WM_X14_275 WI_X14_cells WS_X14_cells WN_X14 (ax_rcO (t := 12) (axEx hG rfl) rfl (by decide)) (Nat.le_of_ble_eq_true rfl)) kX14_cells rfl True.intro (T_X14_cells (by omega) hG rfl) ?_
  refine ax_cmp (fun b102a b102b b102c b102e => ?_)
  refine x_icmpge (tgt := 28) (pc := 12) dX14_gather_12 rfl (fun h101 => ?_) (fun h101 => ?_)
  · replace hf := (if_neg (Int.not_lt.mpr h101)).symm.trans hf
    cases hf
    exact x_fgt (axS' (axS' (axN' axD))) (h2a _ rfl)
  · replace hf := (if_pos h101).symm.trans hf
    refine x_aload_n (pc := 15) dX14_gather_15 rfl ?_
    refine x_getF (t := 12) (j := 21) (r := 238) (pc := 16) dX14_gather_16 (axH hG rfl) (axEx hG rfl) rfl (by decide) (by decide) rfl rfl WF_X14_54 ?_
    refine x_iload_n (pc := 19) dX14_gather_19 rfl ?_
    refine x_iconst (pc := 20) dX14_gather_20 ⟨by decide, by decide⟩ ?_
    by_cases h103 : 0 ≤ v2 ∧ v2 < 81
    · replace hf := (if_pos h103).symm.trans hf
      refine x_iast2 (n := 81) (pc := 21) dX14_gather_21 (axEx hG rfl) rfl h103.1 h103.2 ?_
      refine x_iinc (z := (v2 + 1)) (ls' := [some (vR 203), some (vI x1), some (vI (v2 + 1))]) (pc := 22) dX14_gather_22 rfl (Nat.le_of_ble_eq_true rfl) rfl rfl (ax_i (by omega) (by omega)) rfl ?_
      refine x_goto (tgt := 7) (pc := 25) dX14_gather_25 rfl ?_
      cases hf
      exact h1 _ rfl
    · replace hf := (if_neg h103).symm.trans hf
      cases hf
theorem B_X14_gather_30 {G : ax_G} {d : Nat} (hd : 4 ≤ d) (hG : axPs G 150 244) {M : ax_M} {x1 : Int} {v2 : Int} {o : Option ax_V ⊕ String} {M' : ax_M} {y : (Int × ax_M) ⊕ ax_M} (hf : fX14_gather_b30 M x1 v2 = some y) (h1 : ∀ s', y = .inl s' → ax_Ex G tX14_gather d 30 [some (vR 203), some (vI x1), some (vI s'.1)] [] s'.2 o M') (h2a : ∀ t, y = .inr t → ax_Ex G tX14_gather d 69 [some (vR 203), some (vI x1), none] [] t o M') : ax_Ex G tX14_gather d 30 [some (vR 203), some (vI x1), some (vI v2)] [] M o M' := by
  unfold fX14_gather_b30 at hf
  refine x_iload_n (pc := 30) dX14_gather_30 rfl ?_
  refine x_aload_n (pc := 31) dX14_gather_31 rfl ?_
  refine x_cr (v := vI (fX14_cells M)) (vs := [vR 203]) (rest := [vI v2]) (k := 0) rfl (by omega) (ax_caV (pc := 32) dX14_gather_32 kX14_cells rfl rfl WM_X14_275 WI_X14_cells WS_X14_cells WN_X14 (ax_rcO (t := 12) (axEx hG rfl) rfl (by decide)) (Nat.le_of_ble_eq_true rfl)) kX14_cells rfl True.intro (T_X14_cells (by omega) hG rfl) ?_
  refine ax_cmp (fun b107a b107b b107c b107e => ?_)
  refine x_icmpge (tgt := 69) (pc := 35) dX14_gather_35 rfl (fun h106 => ?_) (fun h106 => ?_)
  · replace hf := (if_neg (Int.not_lt.mpr h106)).symm.trans hf
    cases hf
    exact x_fgt (axS' (axS' (axN' axD))) (h2a _ rfl)
  · replace hf := (if_pos h106).symm.trans hf
    refine x_aload_n (pc := 38) dX14_gather_38 rfl ?_
    refine x_getF (t := 12) (j := 15) (r := 233) (pc := 39) dX14_gather_39 (axH hG rfl) (axEx hG rfl) rfl (by decide) (by decide) rfl rfl WF_X14_39 ?_
    refine x_iload_n (pc := 42) dX14_gather_42 rfl ?_
    by_cases h108 : 0 ≤ v2 ∧ v2 < 81
    · replace hf := (if_pos h108).symm.trans hf
      refine x_iald2 (n := 81) (pc := 43) dX14_gather_43 (axEx hG rfl) rfl h108.1 h108.2 ?_
      refine x_iload_n (pc := 44) dX14_gather_44 rfl ?_
      refine x_icmpne (tgt := 63) (pc := 45) dX14_gather_45 rfl (fun h109 => ?_) (fun h109 => ?_)
      · replace hf := (if_neg h109).symm.trans hf
        refine x_iinc (z := (v2 + 1)) (ls' := [some (vR 203), some (vI x1), some (vI (v2 + 1))]) (pc := 63) dX14_gather_63 rfl (Nat.le_of_ble_eq_true rfl) rfl rfl (ax_i (by omega) (by omega)) rfl ?_
        refine x_goto (tgt := 30) (pc := 66) dX14_gather_66 rfl ?_
        cases hf
        exact h1 _ rfl
      · replace hf := (if_pos h109).symm.trans hf
        refine x_aload_n (pc := 48) dX14_gather_48 rfl ?_
        refine x_getF (t := 12) (j := 21) (r := 238) (pc := 49) dX14_gather_49 (axH hG rfl) (axEx hG rfl) rfl (by decide) (by decide) rfl rfl WF_X14_54 ?_
        refine x_iload_n (pc := 52) dX14_gather_52 rfl ?_
        refine x_iald2 (n := 81) (pc := 53) dX14_gather_53 (axEx hG rfl) rfl (by omega) (by omega) ?_
        refine x_iconst (pc := 54) dX14_gather_54 ⟨by decide, by decide⟩ ?_
        refine x_icmpne (tgt := 63) (pc := 55) dX14_gather_55 rfl (fun h110 => ?_) (fun h110 => ?_)
        · replace hf := (if_neg h110).symm.trans hf
          refine x_iinc (z := (v2 + 1)) (ls' := [some (vR 203), some (vI x1), some (vI (v2 + 1))]) (pc := 63) dX14_gather_63 rfl (Nat.le_of_ble_eq_true rfl) rfl rfl (ax_i (by omega) (by omega)) rfl ?_
          refine x_goto (tgt := 30) (pc := 66) dX14_gather_66 rfl ?_
          cases hf
          exact h1 _ rfl
        · replace hf := (if_pos h110).symm.trans hf
          refine x_aload_n (pc := 58) dX14_gather_58 rfl ?_
          refine x_iload_n (pc := 59) dX14_gather_59 rfl ?_
          obtain ⟨M112, r111, hf⟩ := bd1_some hf
          refine x_cv (vs := [vR 203, vI v2]) (rest := []) (k := 4) rfl (by omega) (ax_caV (pc := 60) dX14_gather_60 kX14_spread rfl rfl WM_X14_294 WI_X14_spread WS_X14_spread WN_X14 (ax_rcO (t := 12) (axEx hG rfl) rfl (by decide)) (Nat.le_of_ble_eq_true rfl)) kX14_spread rfl True.intro (T_X14_spread (by omega) hG r111) ?_
          refine x_iinc (z := (v2 + 1)) (ls' := [some (vR 203), some (vI x1), some (vI (v2 + 1))]) (pc := 63) dX14_gather_63 rfl (Nat.le_of_ble_eq_true rfl) rfl rfl (ax_i (by omega) (by omega)) rfl ?_
          refine x_goto (tgt := 30) (pc := 66) dX14_gather_66 rfl ?_
          cases hf
          exact h1 _ rfl
    · replace hf := (if_neg h108).symm.trans hf
      cases hf
theorem T_X14_gather {G : ax_G} {d : Nat} (hd : 4 ≤ d) (hG : axPs G 150 244) {M : ax_M} {a1 : Int} {M1 : ax_M} (hf : fX14_gather M a1 = some M1) : ax_Ex G tX14_gather d 0 (ax_args [vR 203, vI a1] ++ List.replicate 1 none) [] M (.inl none) M1 := by
  show ax_Ex G tX14_gather d 0 [some (vR 203), some (vI a1), none] [] M _ _
  unfold fX14_gather at hf
  refine x_aload_n (pc := 0) dX14_gather_0 rfl ?_
  refine x_iconst (pc := 1) dX14_gather_1 ⟨by decide, by decide⟩ ?_
  refine x_putI (t := 12) (j := 25) (pc := 2) dX14_gather_2 (axEx hG rfl) rfl (by decide) (by decide) rfl rfl WF_X14_291 ?_
  refine x_iconst (pc := 5) dX14_gather_5 ⟨by decide, by decide⟩ ?_
  refine x_istore_n (ls' := [some (vR 203), some (vI a1), some (vI 0)]) (pc := 6) dX14_gather_6 (Nat.le_of_ble_eq_true rfl) rfl rfl ?_
  obtain ⟨t104, t105, hf⟩ := bd1_some hf
  refine lp_ex (P := (fun s => ax_Ex G tX14_gather d 7 [some (vR 203), some (vI a1), some (vI s.1)] [] s.2 _ _)) (K := (fun t => ax_Ex G tX14_gather d 28 [some (vR 203), some (vI a1), none] [] t _ _)) (fun s y hy h1 h2 => B_X14_gather_7 (by omega) hG hy (fun s' e => h1 s' e) (fun t e => h2 t e)) _ _ _ t105 ?_
  refine x_iconst (pc := 28) dX14_gather_28 ⟨by decide, by decide⟩ ?_
  refine x_istore_n (ls' := [some (vR 203), some (vI a1), some (vI 0)]) (pc := 29) dX14_gather_29 (Nat.le_of_ble_eq_true rfl) rfl rfl ?_
  obtain ⟨t113, t114, hf⟩ := bd1_some hf
  refine lp_ex (P := (fun s => ax_Ex G tX14_gather d 30 [some (vR 203), some (vI a1), some (vI s.1)] [] s.2 _ _)) (K := (fun t => ax_Ex G tX14_gather d 69 [some (vR 203), some (vI a1), none] [] t _ _)) (fun s y hy h1 h2 => B_X14_gather_30 (by omega) hG hy (fun s' e => h1 s' e) (fun t e => h2 t e)) _ _ _ t114 ?_
  cases hf
  exact x_retV (pc := 69) dX14_gather_69
/- HexPondModel.hasShore(IIZ)Z -/
def fX14_hasShore_b3 (M : ax_M) (x1 : Int) (x2 : Int) (x3 : Int) (v4 : Int) : Option (Int ⊕ (Unit ⊕ Unit)) :=
  (if v4 < (fX14_cells M) then (if 0 ≤ v4 ∧ v4 < 81 then (if (mI M 238 (Int.toNat v4)) = x1 then (bd1 (fX14_isShore M v4 x2 x3) fun v106 => (if v106 = 0 then (some (.inl (v4 + 1))) else (some (.inr (.inl ()))))) else (some (.inl (v4 + 1)))) else none) else (some (.inr (.inr ()))))
def fX14_hasShore (M : ax_M) (a1 : Int) (a2 : Int) (a3 : Int) : Option Int :=
  (bdS (lp (fun s => fX14_hasShore_b3 M a1 a2 a3 s) lpN 0) (fun t108 => (some 1)) (fun t110 => (some 0)))
theorem B_X14_hasShore_3 {G : ax_G} {d : Nat} (hd : 1 ≤ d) (hG : axPs G 150 244) {M : ax_M} {x1 : Int} {x2 : Int} {x3 : Int} {v4 : Int} {o : Option ax_V ⊕ String} {M' : ax_M} {y : Int ⊕ (Unit ⊕ Unit)} (hf : fX14_hasShore_b3 M x1 x2 x3 v4 = some y) (h1 : ∀ s', y = .inl s' → ax_Ex G tX14_hasShore d 3 [some (vR 203), some (vI x1), some (vI x2), some (vI x3), some (vI s')] [] M o M') (h2a : ∀ t, y = .inr (.inl t) → ax_Ex G tX14_hasShore d 34 [some (vR 203), some (vI x1), some (vI x2), some (vI x3), none] [] M o M') (h2b : ∀ t, y = .inr (.inr t) → ax_Ex G tX14_hasShore d 42 [some (vR 203), some (vI x1), some (vI x2), some (vI x3), none] [] M o M') : ax_Ex G tX14_hasShore d 3 [some (vR 203), some (vI x1), some (vI x2), some (vI x3), some (vI v4)] [] M o M' := by
  unfold fX14_hasShore_b3 at hf
  refine x_iload (pc := 3) dX14_hasShore_3 rfl ?_
  refine x_aload_n (pc := 5) dX14_hasShore_5 rfl ?_
  refine x_cr (v := vI (fX14_cells M)) (vs := [vR 203]) (rest := [vI v4]) (k := 0) rfl (by omega) (ax_caV (pc := 6) dX14_hasShore_6 kX14_cells rfl rfl WM_X14_275 WI_X14_cells WS_X14_cells WN_X14 (ax_rcO (t := 12) (axEx hG rfl) rfl (by decide)) (Nat.le_of_ble_eq_true rfl)) kX14_cells rfl True.intro (T_X14_cells (by omega) hG rfl) ?_
  refine ax_cmp (fun b102a b102b b102c b102e => ?_)
  refine x_icmpge (tgt := 42) (pc := 9) dX14_hasShore_9 rfl (fun h101 => ?_) (fun h101 => ?_)
  · replace hf := (if_neg (Int.not_lt.mpr h101)).symm.trans hf
    cases hf
    exact x_fgt (axS' (axS' (axS' (axS' (axN' axD))))) (h2b _ rfl)
  · replace hf := (if_pos h101).symm.trans hf
    refine x_aload_n (pc := 12) dX14_hasShore_12 rfl ?_
    refine x_getF (t := 12) (j := 21) (r := 238) (pc := 13) dX14_hasShore_13 (axH hG rfl) (axEx hG rfl) rfl (by decide) (by decide) rfl rfl WF_X14_54 ?_
    refine x_iload (pc := 16) dX14_hasShore_16 rfl ?_
    by_cases h103 : 0 ≤ v4 ∧ v4 < 81
    · replace hf := (if_pos h103).symm.trans hf
      refine x_iald2 (n := 81) (pc := 18) dX14_hasShore_18 (axEx hG rfl) rfl h103.1 h103.2 ?_
      refine x_iload_n (pc := 19) dX14_hasShore_19 rfl ?_
      refine x_icmpne (tgt := 36) (pc := 20) dX14_hasShore_20 rfl (fun h104 => ?_) (fun h104 => ?_)
      · replace hf := (if_neg h104).symm.trans hf
        refine x_iinc (z := (v4 + 1)) (ls' := [some (vR 203), some (vI x1), some (vI x2), some (vI x3), some (vI (v4 + 1))]) (pc := 36) dX14_hasShore_36 rfl (Nat.le_of_ble_eq_true rfl) rfl rfl (ax_i (by omega) (by omega)) rfl ?_
        refine x_goto (tgt := 3) (pc := 39) dX14_hasShore_39 rfl ?_
        cases hf
        exact h1 _ rfl
      · replace hf := (if_pos h104).symm.trans hf
        refine x_aload_n (pc := 23) dX14_hasShore_23 rfl ?_
        refine x_iload (pc := 24) dX14_hasShore_24 rfl ?_
        refine x_iload_n (pc := 26) dX14_hasShore_26 rfl ?_
        refine x_iload_n (pc := 27) dX14_hasShore_27 rfl ?_
        obtain ⟨v106, r105, hf⟩ := bd1_some hf
        refine x_cr (v := vI v106) (vs := [vR 203, vI v4, vI x2, vI x3]) (rest := []) (k := 1) rfl (by omega) (ax_caV (pc := 28) dX14_hasShore_28 kX14_isShore rfl rfl WM_X14_300 WI_X14_isShore WS_X14_isShore WN_X14 (ax_rcO (t := 12) (axEx hG rfl) rfl (by decide)) (Nat.le_of_ble_eq_true rfl)) kX14_isShore rfl (Z_X14_isShore r105) (T_X14_isShore (by omega) hG r105) ?_
        refine x_ifeq (tgt := 36) (pc := 31) dX14_hasShore_31 rfl (fun h107 => ?_) (fun h107 => ?_)
        · replace hf := (if_pos h107).symm.trans hf
          refine x_iinc (z := (v4 + 1)) (ls' := [some (vR 203), some (vI x1), some (vI x2), some (vI x3), some (vI (v4 + 1))]) (pc := 36) dX14_hasShore_36 rfl (Nat.le_of_ble_eq_true rfl) rfl rfl (ax_i (by omega) (by omega)) rfl ?_
          refine x_goto (tgt := 3) (pc := 39) dX14_hasShore_39 rfl ?_
          cases hf
          exact h1 _ rfl
        · replace hf := (if_neg h107).symm.trans hf
          cases hf
          exact x_fgt (axS' (axS' (axS' (axS' (axN' axD))))) (h2a _ rfl)
    · replace hf := (if_neg h103).symm.trans hf
      cases hf
theorem T_X14_hasShore {G : ax_G} {d : Nat} (hd : 1 ≤ d) (hG : axPs G 150 244) {M : ax_M} {a1 : Int} {a2 : Int} {a3 : Int} {r : Int} (hf : fX14_hasShore M a1 a2 a3 = some r) : ax_Ex G tX14_hasShore d 0 (ax_args [vR 203, vI a1, vI a2, vI a3] ++ List.replicate 1 none) [] M (.inl (some (vI r))) M := by
  show ax_Ex G tX14_hasShore d 0 [some (vR 203), some (vI a1), some (vI a2), some (vI a3), none] [] M _ _
  unfold fX14_hasShore at hf
  refine x_iconst (pc := 0) dX14_hasShore_0 ⟨by decide, by decide⟩ ?_
  refine x_istore (ls' := [some (vR 203), some (vI a1), some (vI a2), some (vI a3), some (vI 0)]) (pc := 1) dX14_hasShore_1 (Nat.le_of_ble_eq_true rfl) rfl rfl ?_
  rcases bdS_some hf with ⟨t108, t109, hf⟩ | ⟨t110, t111, hf⟩
  · refine lp_ex (P := (fun s => ax_Ex G tX14_hasShore d 3 [some (vR 203), some (vI a1), some (vI a2), some (vI a3), some (vI s)] [] M _ _)) (K := (fun r => (∀ t, r = .inl t → ax_Ex G tX14_hasShore d 34 [some (vR 203), some (vI a1), some (vI a2), some (vI a3), none] [] M _ _) ∧ (∀ t, r = .inr t → ax_Ex G tX14_hasShore d 42 [some (vR 203), some (vI a1), some (vI a2), some (vI a3), none] [] M _ _))) (fun s y hy h1 h2 => B_X14_hasShore_3 (by omega) hG hy (fun s' e => h1 s' e) (fun t e => (h2 _ e).1 t rfl) (fun t e => (h2 _ e).2 t rfl)) _ _ _ t109 ?_
    refine ⟨fun t e => ?_, fun t e => (by cases e)⟩
    cases e
    refine x_iconst (pc := 34) dX14_hasShore_34 ⟨by decide, by decide⟩ ?_
    cases hf
    exact x_retI (pc := 35) dX14_hasShore_35
  · refine lp_ex (P := (fun s => ax_Ex G tX14_hasShore d 3 [some (vR 203), some (vI a1), some (vI a2), some (vI a3), some (vI s)] [] M _ _)) (K := (fun r => (∀ t, r = .inl t → ax_Ex G tX14_hasShore d 34 [some (vR 203), some (vI a1), some (vI a2), some (vI a3), none] [] M _ _) ∧ (∀ t, r = .inr t → ax_Ex G tX14_hasShore d 42 [some (vR 203), some (vI a1), some (vI a2), some (vI a3), none] [] M _ _))) (fun s y hy h1 h2 => B_X14_hasShore_3 (by omega) hG hy (fun s' e => h1 s' e) (fun t e => (h2 _ e).1 t rfl) (fun t e => (h2 _ e).2 t rfl)) _ _ _ t111 ?_
    refine ⟨fun t e => (by cases e), fun t e => ?_⟩
    cases e
    refine x_iconst (pc := 42) dX14_hasShore_42 ⟨by decide, by decide⟩ ?_
    cases hf
    exact x_retI (pc := 43) dX14_hasShore_43
theorem Z_X14_hasShore {M : ax_M} {a1 : Int} {a2 : Int} {a3 : Int} {r : Int} (hf : fX14_hasShore M a1 a2 a3 = some r) : r = 0 ∨ r = 1 := by
  unfold fX14_hasShore at hf
  rcases bdS_some hf with ⟨t108, t109, hf⟩ | ⟨t110, t111, hf⟩
  · skip
    cases hf
    exact Or.inr rfl
  · skip
    cases hf
    exact Or.inl rfl
/- HexPondModel.won(I)Z -/
def fX14_won_b4 (M : ax_M) (x1 : Int) (v2 : Int) (v3 : Int) : Option ((Int × Int × ax_M) ⊕ (Int × ax_M)) :=
  (if v3 < (fX14_cells M) then (if 0 ≤ v3 ∧ v3 < 81 then (if (mI M 233 (Int.toNat v3)) = x1 then (bd1 (fX14_isShore M v3 x1 0) fun v106 => (if v106 = 0 then (if (mI (mUI M 241 (Int.toNat v3) 0) 241 (Int.toNat v3)) = 0 then (some (.inl (v2, (v3 + 1), (mUI M 241 (Int.toNat v3) 0)))) else (if 0 ≤ v2 ∧ v2 < 81 then (some (.inl ((v2 + 1), (v3 + 1), (mUI (mUI M 241 (Int.toNat v3) 0) 240 (Int.toNat v2) v3)))) else none)) else (if (mI (mUI M 241 (Int.toNat v3) 1) 241 (Int.toNat v3)) = 0 then (some (.inl (v2, (v3 + 1), (mUI M 241 (Int.toNat v3) 1)))) else (if 0 ≤ v2 ∧ v2 < 81 then (some (.inl ((v2 + 1), (v3 + 1), (mUI (mUI M 241 (Int.toNat v3) 1) 240 (Int.toNat v2) v3)))) else none)))) else (if (mI (mUI M 241 (Int.toNat v3) 0) 241 (Int.toNat v3)) = 0 then (some (.inl (v2, (v3 + 1), (mUI M 241 (Int.toNat v3) 0)))) else (if 0 ≤ v2 ∧ v2 < 81 then (some (.inl ((v2 + 1), (v3 + 1), (mUI (mUI M 241 (Int.toNat v3) 0) 240 (Int.toNat v2) v3)))) else none))) else none) else (some (.inr (v2, M))))
def fX14_won_b98 (M : ax_M) (x1 : Int) (x3 : Int) (v2 : Int) (v4 : Int) : Option ((Int × Int × ax_M) ⊕ (Int × ax_M)) :=
  (if v4 < 6 then (if 0 ≤ x3 ∧ x3 < 81 then (bd1 (fX14_beside M (mI M 240 (Int.toNat x3)) v4) fun v126 => (if v126 = (-1) then (some (.inl (v2, (v4 + 1), M))) else (if 0 ≤ v126 ∧ v126 < 81 then (if (mI M 241 (Int.toNat v126)) = 0 then (if (mI M 233 (Int.toNat v126)) = x1 then (if 0 ≤ v2 ∧ v2 < 81 then (some (.inl ((v2 + 1), (v4 + 1), (mUI (mUI M 241 (Int.toNat v126) 1) 240 (Int.toNat v2) v126)))) else none) else (some (.inl (v2, (v4 + 1), M)))) else (some (.inl (v2, (v4 + 1), M)))) else none))) else none) else (some (.inr (v2, M))))
def fX14_won_b73 (M : ax_M) (x1 : Int) (v2 : Int) (v3 : Int) : Option ((Int × Int × ax_M) ⊕ (ax_M ⊕ ax_M)) :=
  (if v3 < v2 then (if 0 ≤ v3 ∧ v3 < 81 then (bd1 (fX14_isShore M (mI M 240 (Int.toNat v3)) x1 1) fun v120 => (if v120 = 0 then (bd1 (lp (fun s => fX14_won_b98 s.2.2 x1 v3 s.1 s.2.1) lpN (v2, 0, M)) fun t132 => (some (.inl (t132.1, (v3 + 1), t132.2)))) else (some (.inr (.inl M))))) else none) else (some (.inr (.inr M))))
def fX14_won (M : ax_M) (a1 : Int) : Option (Int × ax_M) :=
  (bd1 (lp (fun s => fX14_won_b4 s.2.2 a1 s.1 s.2.1) lpN (0, 0, M)) fun t114 => (bdS (lp (fun s => fX14_won_b73 s.2.2 a1 s.1 s.2.1) lpN (t114.1, 0, t114.2)) (fun t134 => (some (1, t134))) (fun t136 => (some (0, t136)))))
theorem B_X14_won_4 {G : ax_G} {d : Nat} (hd : 3 ≤ d) (hG : axPs G 150 244) {M : ax_M} {x1 : Int} {v2 : Int} {v3 : Int} {o : Option ax_V ⊕ String} {M' : ax_M} {y : (Int × Int × ax_M) ⊕ (Int × ax_M)} (hf : fX14_won_b4 M x1 v2 v3 = some y) (h1 : ∀ s', y = .inl s' → ax_Ex G tX14_won d 4 [some (vR 203), some (vI x1), some (vI s'.1), some (vI s'.2.1), none, none] [] s'.2.2 o M') (h2a : ∀ t, y = .inr t → ax_Ex G tX14_won d 71 [some (vR 203), some (vI x1), some (vI t.1), none, none, none] [] t.2 o M') : ax_Ex G tX14_won d 4 [some (vR 203), some (vI x1), some (vI v2), some (vI v3), none, none] [] M o M' := by
  unfold fX14_won_b4 at hf
  refine x_iload_n (pc := 4) dX14_won_4 rfl ?_
  refine x_aload_n (pc := 5) dX14_won_5 rfl ?_
  refine x_cr (v := vI (fX14_cells M)) (vs := [vR 203]) (rest := [vI v3]) (k := 0) rfl (by omega) (ax_caV (pc := 6) dX14_won_6 kX14_cells rfl rfl WM_X14_275 WI_X14_cells WS_X14_cells WN_X14 (ax_rcO (t := 12) (axEx hG rfl) rfl (by decide)) (Nat.le_of_ble_eq_true rfl)) kX14_cells rfl True.intro (T_X14_cells (by omega) hG rfl) ?_
  refine ax_cmp (fun b102a b102b b102c b102e => ?_)
  refine x_icmpge (tgt := 71) (pc := 9) dX14_won_9 rfl (fun h101 => ?_) (fun h101 => ?_)
  · replace hf := (if_neg (Int.not_lt.mpr h101)).symm.trans hf
    cases hf
    exact x_fgt (axS' (axS' (axS' (axN' (axN' (axN' axD)))))) (h2a _ rfl)
  · replace hf := (if_pos h101).symm.trans hf
    refine x_aload_n (pc := 12) dX14_won_12 rfl ?_
    refine x_getF (t := 12) (j := 24) (r := 241) (pc := 13) dX14_won_13 (axH hG rfl) (axEx hG rfl) rfl (by decide) (by decide) rfl rfl WF_X14_63 ?_
    refine x_iload_n (pc := 16) dX14_won_16 rfl ?_
    refine x_aload_n (pc := 17) dX14_won_17 rfl ?_
    refine x_getF (t := 12) (j := 15) (r := 233) (pc := 18) dX14_won_18 (axH hG rfl) (axEx hG rfl) rfl (by decide) (by decide) rfl rfl WF_X14_39 ?_
    refine x_iload_n (pc := 21) dX14_won_21 rfl ?_
    by_cases h103 : 0 ≤ v3 ∧ v3 < 81
    · replace hf := (if_pos h103).symm.trans hf
      refine x_iald2 (n := 81) (pc := 22) dX14_won_22 (axEx hG rfl) rfl h103.1 h103.2 ?_
      refine x_iload_n (pc := 23) dX14_won_23 rfl ?_
      refine x_icmpne (tgt := 41) (pc := 24) dX14_won_24 rfl (fun h104 => ?_) (fun h104 => ?_)
      · replace hf := (if_neg h104).symm.trans hf
        refine x_iconst (pc := 41) dX14_won_41 ⟨by decide, by decide⟩ ?_
        refine x_zast2 (n := 81) (pc := 42) dX14_won_42 (axEx hG rfl) rfl (by omega) (by omega) (by decide) ?_
        refine x_aload_n (pc := 43) dX14_won_43 rfl ?_
        refine x_getF (t := 12) (j := 24) (r := 241) (pc := 44) dX14_won_44 (axH hG rfl) (axEx hG rfl) rfl (by decide) (by decide) rfl rfl WF_X14_63 ?_
        refine x_iload_n (pc := 47) dX14_won_47 rfl ?_
        refine x_zald2 (n := 81) (pc := 48) dX14_won_48 (axEx hG rfl) rfl (by omega) (by omega) ?_
        refine x_ifne (tgt := 55) (pc := 49) dX14_won_49 rfl (fun h112 => ?_) (fun h112 => ?_)
        · replace hf := (if_neg h112).symm.trans hf
          refine x_aload_n (pc := 55) dX14_won_55 rfl ?_
          refine x_getF (t := 12) (j := 23) (r := 240) (pc := 56) dX14_won_56 (axH hG rfl) (axEx hG rfl) rfl (by decide) (by decide) rfl rfl WF_X14_60 ?_
          refine x_iload_n (pc := 59) dX14_won_59 rfl ?_
          refine x_iload_n (pc := 60) dX14_won_60 rfl ?_
          by_cases h113 : 0 ≤ v2 ∧ v2 < 81
          · replace hf := (if_pos h113).symm.trans hf
            refine x_iast2 (n := 81) (pc := 61) dX14_won_61 (axEx hG rfl) rfl h113.1 h113.2 ?_
            refine x_iinc (z := (v2 + 1)) (ls' := [some (vR 203), some (vI x1), some (vI (v2 + 1)), some (vI v3), none, none]) (pc := 62) dX14_won_62 rfl (Nat.le_of_ble_eq_true rfl) rfl rfl (ax_i (by omega) (by omega)) rfl ?_
            refine x_iinc (z := (v3 + 1)) (ls' := [some (vR 203), some (vI x1), some (vI (v2 + 1)), some (vI (v3 + 1)), none, none]) (pc := 65) dX14_won_65 rfl (Nat.le_of_ble_eq_true rfl) rfl rfl (ax_i (by omega) (by omega)) rfl ?_
            refine x_goto (tgt := 4) (pc := 68) dX14_won_68 rfl ?_
            cases hf
            exact h1 _ rfl
          · replace hf := (if_neg h113).symm.trans hf
            cases hf
        · replace hf := (if_pos h112).symm.trans hf
          refine x_goto (tgt := 65) (pc := 52) dX14_won_52 rfl ?_
          refine x_iinc (z := (v3 + 1)) (ls' := [some (vR 203), some (vI x1), some (vI v2), some (vI (v3 + 1)), none, none]) (pc := 65) dX14_won_65 rfl (Nat.le_of_ble_eq_true rfl) rfl rfl (ax_i (by omega) (by omega)) rfl ?_
          refine x_goto (tgt := 4) (pc := 68) dX14_won_68 rfl ?_
          cases hf
          exact h1 _ rfl
      · replace hf := (if_pos h104).symm.trans hf
        refine x_aload_n (pc := 27) dX14_won_27 rfl ?_
        refine x_iload_n (pc := 28) dX14_won_28 rfl ?_
        refine x_iload_n (pc := 29) dX14_won_29 rfl ?_
        refine x_iconst (pc := 30) dX14_won_30 ⟨by decide, by decide⟩ ?_
        obtain ⟨v106, r105, hf⟩ := bd1_some hf
        refine x_cr (v := vI v106) (vs := [vR 203, vI v3, vI x1, vI 0]) (rest := [vI v3, vR 241]) (k := 1) rfl (by omega) (ax_caV (pc := 31) dX14_won_31 kX14_isShore rfl rfl WM_X14_300 WI_X14_isShore WS_X14_isShore WN_X14 (ax_rcO (t := 12) (axEx hG rfl) rfl (by decide)) (Nat.le_of_ble_eq_true rfl)) kX14_isShore rfl (Z_X14_isShore r105) (T_X14_isShore (by omega) hG r105) ?_
        refine x_ifeq (tgt := 41) (pc := 34) dX14_won_34 rfl (fun h107 => ?_) (fun h107 => ?_)
        · replace hf := (if_pos h107).symm.trans hf
          refine x_iconst (pc := 41) dX14_won_41 ⟨by decide, by decide⟩ ?_
          refine x_zast2 (n := 81) (pc := 42) dX14_won_42 (axEx hG rfl) rfl (by omega) (by omega) (by decide) ?_
          refine x_aload_n (pc := 43) dX14_won_43 rfl ?_
          refine x_getF (t := 12) (j := 24) (r := 241) (pc := 44) dX14_won_44 (axH hG rfl) (axEx hG rfl) rfl (by decide) (by decide) rfl rfl WF_X14_63 ?_
          refine x_iload_n (pc := 47) dX14_won_47 rfl ?_
          refine x_zald2 (n := 81) (pc := 48) dX14_won_48 (axEx hG rfl) rfl (by omega) (by omega) ?_
          refine x_ifne (tgt := 55) (pc := 49) dX14_won_49 rfl (fun h108 => ?_) (fun h108 => ?_)
          · replace hf := (if_neg h108).symm.trans hf
            refine x_aload_n (pc := 55) dX14_won_55 rfl ?_
            refine x_getF (t := 12) (j := 23) (r := 240) (pc := 56) dX14_won_56 (axH hG rfl) (axEx hG rfl) rfl (by decide) (by decide) rfl rfl WF_X14_60 ?_
            refine x_iload_n (pc := 59) dX14_won_59 rfl ?_
            refine x_iload_n (pc := 60) dX14_won_60 rfl ?_
            by_cases h109 : 0 ≤ v2 ∧ v2 < 81
            · replace hf := (if_pos h109).symm.trans hf
              refine x_iast2 (n := 81) (pc := 61) dX14_won_61 (axEx hG rfl) rfl h109.1 h109.2 ?_
              refine x_iinc (z := (v2 + 1)) (ls' := [some (vR 203), some (vI x1), some (vI (v2 + 1)), some (vI v3), none, none]) (pc := 62) dX14_won_62 rfl (Nat.le_of_ble_eq_true rfl) rfl rfl (ax_i (by omega) (by omega)) rfl ?_
              refine x_iinc (z := (v3 + 1)) (ls' := [some (vR 203), some (vI x1), some (vI (v2 + 1)), some (vI (v3 + 1)), none, none]) (pc := 65) dX14_won_65 rfl (Nat.le_of_ble_eq_true rfl) rfl rfl (ax_i (by omega) (by omega)) rfl ?_
              refine x_goto (tgt := 4) (pc := 68) dX14_won_68 rfl ?_
              cases hf
              exact h1 _ rfl
            · replace hf := (if_neg h109).symm.trans hf
              cases hf
          · replace hf := (if_pos h108).symm.trans hf
            refine x_goto (tgt := 65) (pc := 52) dX14_won_52 rfl ?_
            refine x_iinc (z := (v3 + 1)) (ls' := [some (vR 203), some (vI x1), some (vI v2), some (vI (v3 + 1)), none, none]) (pc := 65) dX14_won_65 rfl (Nat.le_of_ble_eq_true rfl) rfl rfl (ax_i (by omega) (by omega)) rfl ?_
            refine x_goto (tgt := 4) (pc := 68) dX14_won_68 rfl ?_
            cases hf
            exact h1 _ rfl
        · replace hf := (if_neg h107).symm.trans hf
          refine x_iconst (pc := 37) dX14_won_37 ⟨by decide, by decide⟩ ?_
          refine x_goto (tgt := 42) (pc := 38) dX14_won_38 rfl ?_
          refine x_zast2 (n := 81) (pc := 42) dX14_won_42 (axEx hG rfl) rfl (by omega) (by omega) (by decide) ?_
          refine x_aload_n (pc := 43) dX14_won_43 rfl ?_
          refine x_getF (t := 12) (j := 24) (r := 241) (pc := 44) dX14_won_44 (axH hG rfl) (axEx hG rfl) rfl (by decide) (by decide) rfl rfl WF_X14_63 ?_
          refine x_iload_n (pc := 47) dX14_won_47 rfl ?_
          refine x_zald2 (n := 81) (pc := 48) dX14_won_48 (axEx hG rfl) rfl (by omega) (by omega) ?_
          refine x_ifne (tgt := 55) (pc := 49) dX14_won_49 rfl (fun h110 => ?_) (fun h110 => ?_)
          · replace hf := (if_neg h110).symm.trans hf
            refine x_aload_n (pc := 55) dX14_won_55 rfl ?_
            refine x_getF (t := 12) (j := 23) (r := 240) (pc := 56) dX14_won_56 (axH hG rfl) (axEx hG rfl) rfl (by decide) (by decide) rfl rfl WF_X14_60 ?_
            refine x_iload_n (pc := 59) dX14_won_59 rfl ?_
            refine x_iload_n (pc := 60) dX14_won_60 rfl ?_
            by_cases h111 : 0 ≤ v2 ∧ v2 < 81
            · replace hf := (if_pos h111).symm.trans hf
              refine x_iast2 (n := 81) (pc := 61) dX14_won_61 (axEx hG rfl) rfl h111.1 h111.2 ?_
              refine x_iinc (z := (v2 + 1)) (ls' := [some (vR 203), some (vI x1), some (vI (v2 + 1)), some (vI v3), none, none]) (pc := 62) dX14_won_62 rfl (Nat.le_of_ble_eq_true rfl) rfl rfl (ax_i (by omega) (by omega)) rfl ?_
              refine x_iinc (z := (v3 + 1)) (ls' := [some (vR 203), some (vI x1), some (vI (v2 + 1)), some (vI (v3 + 1)), none, none]) (pc := 65) dX14_won_65 rfl (Nat.le_of_ble_eq_true rfl) rfl rfl (ax_i (by omega) (by omega)) rfl ?_
              refine x_goto (tgt := 4) (pc := 68) dX14_won_68 rfl ?_
              cases hf
              exact h1 _ rfl
            · replace hf := (if_neg h111).symm.trans hf
              cases hf
          · replace hf := (if_pos h110).symm.trans hf
            refine x_goto (tgt := 65) (pc := 52) dX14_won_52 rfl ?_
            refine x_iinc (z := (v3 + 1)) (ls' := [some (vR 203), some (vI x1), some (vI v2), some (vI (v3 + 1)), none, none]) (pc := 65) dX14_won_65 rfl (Nat.le_of_ble_eq_true rfl) rfl rfl (ax_i (by omega) (by omega)) rfl ?_
            refine x_goto (tgt := 4) (pc := 68) dX14_won_68 rfl ?_
            cases hf
            exact h1 _ rfl
    · replace hf := (if_neg h103).symm.trans hf
      cases hf
theorem B_X14_won_98 {G : ax_G} {d : Nat} (hd : 3 ≤ d) (hG : axPs G 150 244) {M : ax_M} {x1 : Int} {x3 : Int} {v2 : Int} {v4 : Int} {o : Option ax_V ⊕ String} {M' : ax_M} {y : (Int × Int × ax_M) ⊕ (Int × ax_M)} (hf : fX14_won_b98 M x1 x3 v2 v4 = some y) (h1 : ∀ s', y = .inl s' → ax_Ex G tX14_won d 98 [some (vR 203), some (vI x1), some (vI s'.1), some (vI x3), some (vI s'.2.1), none] [] s'.2.2 o M') (h2a : ∀ t, y = .inr t → ax_Ex G tX14_won d 174 [some (vR 203), some (vI x1), some (vI t.1), some (vI x3), none, none] [] t.2 o M') : ax_Ex G tX14_won d 98 [some (vR 203), some (vI x1), some (vI v2), some (vI x3), some (vI v4), none] [] M o M' := by
  unfold fX14_won_b98 at hf
  refine x_iload (pc := 98) dX14_won_98 rfl ?_
  refine x_bipush (pc := 100) dX14_won_100 (by decide) ⟨by decide, by decide⟩ ?_
  refine ax_cmp (fun b123a b123b b123c b123e => ?_)
  refine x_icmpge (tgt := 174) (pc := 102) dX14_won_102 rfl (fun h122 => ?_) (fun h122 => ?_)
  · replace hf := (if_neg (Int.not_lt.mpr h122)).symm.trans hf
    cases hf
    exact x_fgt (axS' (axS' (axS' (axS' (axN' (axN' axD)))))) (h2a _ rfl)
  · replace hf := (if_pos h122).symm.trans hf
    refine x_aload_n (pc := 105) dX14_won_105 rfl ?_
    refine x_aload_n (pc := 106) dX14_won_106 rfl ?_
    refine x_getF (t := 12) (j := 23) (r := 240) (pc := 107) dX14_won_107 (axH hG rfl) (axEx hG rfl) rfl (by decide) (by decide) rfl rfl WF_X14_60 ?_
    refine x_iload_n (pc := 110) dX14_won_110 rfl ?_
    by_cases h124 : 0 ≤ x3 ∧ x3 < 81
    · replace hf := (if_pos h124).symm.trans hf
      refine x_iald2 (n := 81) (pc := 111) dX14_won_111 (axEx hG rfl) rfl h124.1 h124.2 ?_
      refine x_iload (pc := 112) dX14_won_112 rfl ?_
      obtain ⟨v126, r125, hf⟩ := bd1_some hf
      refine x_cr (v := vI v126) (vs := [vR 203, vI (mI M 240 (Int.toNat x3)), vI v4]) (rest := []) (k := 2) rfl (by omega) (ax_caV (pc := 114) dX14_won_114 kX14_beside rfl rfl WM_X14_297 WI_X14_beside WS_X14_beside WN_X14 (ax_rcO (t := 12) (axEx hG rfl) rfl (by decide)) (Nat.le_of_ble_eq_true rfl)) kX14_beside rfl True.intro (T_X14_beside (by omega) hG r125) ?_
      refine x_istore (ls' := [some (vR 203), some (vI x1), some (vI v2), some (vI x3), some (vI v4), some (vI v126)]) (pc := 117) dX14_won_117 (Nat.le_of_ble_eq_true rfl) rfl rfl ?_
      refine x_iload (pc := 119) dX14_won_119 rfl ?_
      refine x_iconst (pc := 121) dX14_won_121 ⟨by decide, by decide⟩ ?_
      refine x_icmpeq (tgt := 168) (pc := 122) dX14_won_122 rfl (fun h127 => ?_) (fun h127 => ?_)
      · replace hf := (if_pos h127).symm.trans hf
        refine x_iinc (z := (v4 + 1)) (ls' := [some (vR 203), some (vI x1), some (vI v2), some (vI x3), some (vI (v4 + 1)), some (vI v126)]) (pc := 168) dX14_won_168 rfl (Nat.le_of_ble_eq_true rfl) rfl rfl (ax_i (by omega) (by omega)) rfl ?_
        refine x_goto (tgt := 98) (pc := 171) dX14_won_171 rfl ?_
        cases hf
        exact x_fgt (axS' (axS' (axS' (axS' (axS' (axN' axD)))))) (h1 _ rfl)
      · replace hf := (if_neg h127).symm.trans hf
        refine x_aload_n (pc := 125) dX14_won_125 rfl ?_
        refine x_getF (t := 12) (j := 24) (r := 241) (pc := 126) dX14_won_126 (axH hG rfl) (axEx hG rfl) rfl (by decide) (by decide) rfl rfl WF_X14_63 ?_
        refine x_iload (pc := 129) dX14_won_129 rfl ?_
        by_cases h128 : 0 ≤ v126 ∧ v126 < 81
        · replace hf := (if_pos h128).symm.trans hf
          refine x_zald2 (n := 81) (pc := 131) dX14_won_131 (axEx hG rfl) rfl h128.1 h128.2 ?_
          refine x_ifne (tgt := 168) (pc := 132) dX14_won_132 rfl (fun h129 => ?_) (fun h129 => ?_)
          · replace hf := (if_neg h129).symm.trans hf
            refine x_iinc (z := (v4 + 1)) (ls' := [some (vR 203), some (vI x1), some (vI v2), some (vI x3), some (vI (v4 + 1)), some (vI v126)]) (pc := 168) dX14_won_168 rfl (Nat.le_of_ble_eq_true rfl) rfl rfl (ax_i (by omega) (by omega)) rfl ?_
            refine x_goto (tgt := 98) (pc := 171) dX14_won_171 rfl ?_
            cases hf
            exact x_fgt (axS' (axS' (axS' (axS' (axS' (axN' axD)))))) (h1 _ rfl)
          · replace hf := (if_pos h129).symm.trans hf
            refine x_aload_n (pc := 135) dX14_won_135 rfl ?_
            refine x_getF (t := 12) (j := 15) (r := 233) (pc := 136) dX14_won_136 (axH hG rfl) (axEx hG rfl) rfl (by decide) (by decide) rfl rfl WF_X14_39 ?_
            refine x_iload (pc := 139) dX14_won_139 rfl ?_
            refine x_iald2 (n := 81) (pc := 141) dX14_won_141 (axEx hG rfl) rfl (by omega) (by omega) ?_
            refine x_iload_n (pc := 142) dX14_won_142 rfl ?_
            refine x_icmpeq (tgt := 149) (pc := 143) dX14_won_143 rfl (fun h130 => ?_) (fun h130 => ?_)
            · replace hf := (if_pos h130).symm.trans hf
              refine x_aload_n (pc := 149) dX14_won_149 rfl ?_
              refine x_getF (t := 12) (j := 24) (r := 241) (pc := 150) dX14_won_150 (axH hG rfl) (axEx hG rfl) rfl (by decide) (by decide) rfl rfl WF_X14_63 ?_
              refine x_iload (pc := 153) dX14_won_153 rfl ?_
              refine x_iconst (pc := 155) dX14_won_155 ⟨by decide, by decide⟩ ?_
              refine x_zast2 (n := 81) (pc := 156) dX14_won_156 (axEx hG rfl) rfl (by omega) (by omega) (by decide) ?_
              refine x_aload_n (pc := 157) dX14_won_157 rfl ?_
              refine x_getF (t := 12) (j := 23) (r := 240) (pc := 158) dX14_won_158 (axH hG rfl) (axEx hG rfl) rfl (by decide) (by decide) rfl rfl WF_X14_60 ?_
              refine x_iload_n (pc := 161) dX14_won_161 rfl ?_
              refine x_iload (pc := 162) dX14_won_162 rfl ?_
              by_cases h131 : 0 ≤ v2 ∧ v2 < 81
              · replace hf := (if_pos h131).symm.trans hf
                refine x_iast2 (n := 81) (pc := 164) dX14_won_164 (axEx hG rfl) rfl h131.1 h131.2 ?_
                refine x_iinc (z := (v2 + 1)) (ls' := [some (vR 203), some (vI x1), some (vI (v2 + 1)), some (vI x3), some (vI v4), some (vI v126)]) (pc := 165) dX14_won_165 rfl (Nat.le_of_ble_eq_true rfl) rfl rfl (ax_i (by omega) (by omega)) rfl ?_
                refine x_iinc (z := (v4 + 1)) (ls' := [some (vR 203), some (vI x1), some (vI (v2 + 1)), some (vI x3), some (vI (v4 + 1)), some (vI v126)]) (pc := 168) dX14_won_168 rfl (Nat.le_of_ble_eq_true rfl) rfl rfl (ax_i (by omega) (by omega)) rfl ?_
                refine x_goto (tgt := 98) (pc := 171) dX14_won_171 rfl ?_
                cases hf
                exact x_fgt (axS' (axS' (axS' (axS' (axS' (axN' axD)))))) (h1 _ rfl)
              · replace hf := (if_neg h131).symm.trans hf
                cases hf
            · replace hf := (if_neg h130).symm.trans hf
              refine x_goto (tgt := 168) (pc := 146) dX14_won_146 rfl ?_
              refine x_iinc (z := (v4 + 1)) (ls' := [some (vR 203), some (vI x1), some (vI v2), some (vI x3), some (vI (v4 + 1)), some (vI v126)]) (pc := 168) dX14_won_168 rfl (Nat.le_of_ble_eq_true rfl) rfl rfl (ax_i (by omega) (by omega)) rfl ?_
              refine x_goto (tgt := 98) (pc := 171) dX14_won_171 rfl ?_
              cases hf
              exact x_fgt (axS' (axS' (axS' (axS' (axS' (axN' axD)))))) (h1 _ rfl)
        · replace hf := (if_neg h128).symm.trans hf
          cases hf
    · replace hf := (if_neg h124).symm.trans hf
      cases hf
theorem B_X14_won_73 {G : ax_G} {d : Nat} (hd : 3 ≤ d) (hG : axPs G 150 244) {M : ax_M} {x1 : Int} {v2 : Int} {v3 : Int} {o : Option ax_V ⊕ String} {M' : ax_M} {y : (Int × Int × ax_M) ⊕ (ax_M ⊕ ax_M)} (hf : fX14_won_b73 M x1 v2 v3 = some y) (h1 : ∀ s', y = .inl s' → ax_Ex G tX14_won d 73 [some (vR 203), some (vI x1), some (vI s'.1), some (vI s'.2.1), none, none] [] s'.2.2 o M') (h2a : ∀ t, y = .inr (.inl t) → ax_Ex G tX14_won d 93 [some (vR 203), some (vI x1), none, none, none, none] [] t o M') (h2b : ∀ t, y = .inr (.inr t) → ax_Ex G tX14_won d 180 [some (vR 203), some (vI x1), none, none, none, none] [] t o M') : ax_Ex G tX14_won d 73 [some (vR 203), some (vI x1), some (vI v2), some (vI v3), none, none] [] M o M' := by
  unfold fX14_won_b73 at hf
  refine x_iload_n (pc := 73) dX14_won_73 rfl ?_
  refine x_iload_n (pc := 74) dX14_won_74 rfl ?_
  refine ax_cmp (fun b117a b117b b117c b117e => ?_)
  refine x_icmpge (tgt := 180) (pc := 75) dX14_won_75 rfl (fun h116 => ?_) (fun h116 => ?_)
  · replace hf := (if_neg (Int.not_lt.mpr h116)).symm.trans hf
    cases hf
    exact x_fgt (axS' (axS' (axN' (axN' (axN' (axN' axD)))))) (h2b _ rfl)
  · replace hf := (if_pos h116).symm.trans hf
    refine x_aload_n (pc := 78) dX14_won_78 rfl ?_
    refine x_aload_n (pc := 79) dX14_won_79 rfl ?_
    refine x_getF (t := 12) (j := 23) (r := 240) (pc := 80) dX14_won_80 (axH hG rfl) (axEx hG rfl) rfl (by decide) (by decide) rfl rfl WF_X14_60 ?_
    refine x_iload_n (pc := 83) dX14_won_83 rfl ?_
    by_cases h118 : 0 ≤ v3 ∧ v3 < 81
    · replace hf := (if_pos h118).symm.trans hf
      refine x_iald2 (n := 81) (pc := 84) dX14_won_84 (axEx hG rfl) rfl h118.1 h118.2 ?_
      refine x_iload_n (pc := 85) dX14_won_85 rfl ?_
      refine x_iconst (pc := 86) dX14_won_86 ⟨by decide, by decide⟩ ?_
      obtain ⟨v120, r119, hf⟩ := bd1_some hf
      refine x_cr (v := vI v120) (vs := [vR 203, vI (mI M 240 (Int.toNat v3)), vI x1, vI 1]) (rest := []) (k := 1) rfl (by omega) (ax_caV (pc := 87) dX14_won_87 kX14_isShore rfl rfl WM_X14_300 WI_X14_isShore WS_X14_isShore WN_X14 (ax_rcO (t := 12) (axEx hG rfl) rfl (by decide)) (Nat.le_of_ble_eq_true rfl)) kX14_isShore rfl (Z_X14_isShore r119) (T_X14_isShore (by omega) hG r119) ?_
      refine x_ifeq (tgt := 95) (pc := 90) dX14_won_90 rfl (fun h121 => ?_) (fun h121 => ?_)
      · replace hf := (if_pos h121).symm.trans hf
        refine x_iconst (pc := 95) dX14_won_95 ⟨by decide, by decide⟩ ?_
        refine x_istore (ls' := [some (vR 203), some (vI x1), some (vI v2), some (vI v3), some (vI 0), none]) (pc := 96) dX14_won_96 (Nat.le_of_ble_eq_true rfl) rfl rfl ?_
        obtain ⟨t132, t133, hf⟩ := bd1_some hf
        refine lp_ex (P := (fun s => ax_Ex G tX14_won d 98 [some (vR 203), some (vI x1), some (vI s.1), some (vI v3), some (vI s.2.1), none] [] s.2.2 _ _)) (K := (fun t => ax_Ex G tX14_won d 174 [some (vR 203), some (vI x1), some (vI t.1), some (vI v3), none, none] [] t.2 _ _)) (fun s y hy h1 h2 => B_X14_won_98 (by omega) hG hy (fun s' e => h1 s' e) (fun t e => h2 t e)) _ _ _ t133 ?_
        refine x_iinc (z := (v3 + 1)) (ls' := [some (vR 203), some (vI x1), some (vI t132.1), some (vI (v3 + 1)), none, none]) (pc := 174) dX14_won_174 rfl (Nat.le_of_ble_eq_true rfl) rfl rfl (ax_i (by omega) (by omega)) rfl ?_
        refine x_goto (tgt := 73) (pc := 177) dX14_won_177 rfl ?_
        cases hf
        exact h1 _ rfl
      · replace hf := (if_neg h121).symm.trans hf
        cases hf
        exact x_fgt (axS' (axS' (axN' (axN' (axN' (axN' axD)))))) (h2a _ rfl)
    · replace hf := (if_neg h118).symm.trans hf
      cases hf
theorem T_X14_won {G : ax_G} {d : Nat} (hd : 3 ≤ d) (hG : axPs G 150 244) {M : ax_M} {a1 : Int} {r : Int} {M1 : ax_M} (hf : fX14_won M a1 = some (r, M1)) : ax_Ex G tX14_won d 0 (ax_args [vR 203, vI a1] ++ List.replicate 4 none) [] M (.inl (some (vI r))) M1 := by
  show ax_Ex G tX14_won d 0 [some (vR 203), some (vI a1), none, none, none, none] [] M _ _
  unfold fX14_won at hf
  refine x_iconst (pc := 0) dX14_won_0 ⟨by decide, by decide⟩ ?_
  refine x_istore_n (ls' := [some (vR 203), some (vI a1), some (vI 0), none, none, none]) (pc := 1) dX14_won_1 (Nat.le_of_ble_eq_true rfl) rfl rfl ?_
  refine x_iconst (pc := 2) dX14_won_2 ⟨by decide, by decide⟩ ?_
  refine x_istore_n (ls' := [some (vR 203), some (vI a1), some (vI 0), some (vI 0), none, none]) (pc := 3) dX14_won_3 (Nat.le_of_ble_eq_true rfl) rfl rfl ?_
  obtain ⟨t114, t115, hf⟩ := bd1_some hf
  refine lp_ex (P := (fun s => ax_Ex G tX14_won d 4 [some (vR 203), some (vI a1), some (vI s.1), some (vI s.2.1), none, none] [] s.2.2 _ _)) (K := (fun t => ax_Ex G tX14_won d 71 [some (vR 203), some (vI a1), some (vI t.1), none, none, none] [] t.2 _ _)) (fun s y hy h1 h2 => B_X14_won_4 (by omega) hG hy (fun s' e => h1 s' e) (fun t e => h2 t e)) _ _ _ t115 ?_
  refine x_iconst (pc := 71) dX14_won_71 ⟨by decide, by decide⟩ ?_
  refine x_istore_n (ls' := [some (vR 203), some (vI a1), some (vI t114.1), some (vI 0), none, none]) (pc := 72) dX14_won_72 (Nat.le_of_ble_eq_true rfl) rfl rfl ?_
  rcases bdS_some hf with ⟨t134, t135, hf⟩ | ⟨t136, t137, hf⟩
  · refine lp_ex (P := (fun s => ax_Ex G tX14_won d 73 [some (vR 203), some (vI a1), some (vI s.1), some (vI s.2.1), none, none] [] s.2.2 _ _)) (K := (fun r => (∀ t, r = .inl t → ax_Ex G tX14_won d 93 [some (vR 203), some (vI a1), none, none, none, none] [] t _ _) ∧ (∀ t, r = .inr t → ax_Ex G tX14_won d 180 [some (vR 203), some (vI a1), none, none, none, none] [] t _ _))) (fun s y hy h1 h2 => B_X14_won_73 (by omega) hG hy (fun s' e => h1 s' e) (fun t e => (h2 _ e).1 t rfl) (fun t e => (h2 _ e).2 t rfl)) _ _ _ t135 ?_
    refine ⟨fun t e => ?_, fun t e => (by cases e)⟩
    cases e
    refine x_iconst (pc := 93) dX14_won_93 ⟨by decide, by decide⟩ ?_
    cases hf
    exact x_retI (pc := 94) dX14_won_94
  · refine lp_ex (P := (fun s => ax_Ex G tX14_won d 73 [some (vR 203), some (vI a1), some (vI s.1), some (vI s.2.1), none, none] [] s.2.2 _ _)) (K := (fun r => (∀ t, r = .inl t → ax_Ex G tX14_won d 93 [some (vR 203), some (vI a1), none, none, none, none] [] t _ _) ∧ (∀ t, r = .inr t → ax_Ex G tX14_won d 180 [some (vR 203), some (vI a1), none, none, none, none] [] t _ _))) (fun s y hy h1 h2 => B_X14_won_73 (by omega) hG hy (fun s' e => h1 s' e) (fun t e => (h2 _ e).1 t rfl) (fun t e => (h2 _ e).2 t rfl)) _ _ _ t137 ?_
    refine ⟨fun t e => (by cases e), fun t e => ?_⟩
    cases e
    refine x_iconst (pc := 180) dX14_won_180 ⟨by decide, by decide⟩ ?_
    cases hf
    exact x_retI (pc := 181) dX14_won_181
theorem Z_X14_won {M : ax_M} {a1 : Int} {r : Int} {M1 : ax_M} (hf : fX14_won M a1 = some (r, M1)) : r = 0 ∨ r = 1 := by
  unfold fX14_won at hf
  obtain ⟨t114, t115, hf⟩ := bd1_some hf
  rcases bdS_some hf with ⟨t134, t135, hf⟩ | ⟨t136, t137, hf⟩
  · skip
    cases hf
    exact Or.inr rfl
  · skip
    cases hf
    exact Or.inl rfl
/- HexPondModel.over()Z -/
def fX14_over (M : ax_M) : Option (Int × ax_M) :=
  (bd2 (fX14_won M 0) fun v103 M102 => (if v103 = 0 then (bd2 (fX14_won M102 1) fun v107 M106 => (if v107 = 0 then (some (0, M106)) else (some (1, M106)))) else (some (1, M102))))
theorem T_X14_over {G : ax_G} {d : Nat} (hd : 4 ≤ d) (hG : axPs G 150 244) {M : ax_M} {r : Int} {M1 : ax_M} (hf : fX14_over M = some (r, M1)) : ax_Ex G tX14_over d 0 (ax_args [vR 203] ++ List.replicate 0 none) [] M (.inl (some (vI r))) M1 := by
  show ax_Ex G tX14_over d 0 [some (vR 203)] [] M _ _
  unfold fX14_over at hf
  refine x_aload_n (pc := 0) dX14_over_0 rfl ?_
  refine x_iconst (pc := 1) dX14_over_1 ⟨by decide, by decide⟩ ?_
  obtain ⟨v103, M102, r101, hf⟩ := bd2_some hf
  refine x_cr (v := vI v103) (vs := [vR 203, vI 0]) (rest := []) (k := 4) rfl (by omega) (ax_caV (pc := 2) dX14_over_2 kX14_won rfl rfl WM_X14_304 WI_X14_won WS_X14_won WN_X14 (ax_rcO (t := 12) (axEx hG rfl) rfl (by decide)) (Nat.le_of_ble_eq_true rfl)) kX14_won rfl (Z_X14_won r101) (T_X14_won (by omega) hG r101) ?_
  refine x_ifne (tgt := 16) (pc := 5) dX14_over_5 rfl (fun h104 => ?_) (fun h104 => ?_)
  · replace hf := (if_neg h104).symm.trans hf
    refine x_iconst (pc := 16) dX14_over_16 ⟨by decide, by decide⟩ ?_
    refine x_goto (tgt := 21) (pc := 17) dX14_over_17 rfl ?_
    cases hf
    exact x_retI (pc := 21) dX14_over_21
  · replace hf := (if_pos h104).symm.trans hf
    refine x_aload_n (pc := 8) dX14_over_8 rfl ?_
    refine x_iconst (pc := 9) dX14_over_9 ⟨by decide, by decide⟩ ?_
    obtain ⟨v107, M106, r105, hf⟩ := bd2_some hf
    refine x_cr (v := vI v107) (vs := [vR 203, vI 1]) (rest := []) (k := 4) rfl (by omega) (ax_caV (pc := 10) dX14_over_10 kX14_won rfl rfl WM_X14_304 WI_X14_won WS_X14_won WN_X14 (ax_rcO (t := 12) (axEx hG rfl) rfl (by decide)) (Nat.le_of_ble_eq_true rfl)) kX14_won rfl (Z_X14_won r105) (T_X14_won (by omega) hG r105) ?_
    refine x_ifeq (tgt := 20) (pc := 13) dX14_over_13 rfl (fun h108 => ?_) (fun h108 => ?_)
    · replace hf := (if_pos h108).symm.trans hf
      refine x_iconst (pc := 20) dX14_over_20 ⟨by decide, by decide⟩ ?_
      cases hf
      exact x_retI (pc := 21) dX14_over_21
    · replace hf := (if_neg h108).symm.trans hf
      refine x_iconst (pc := 16) dX14_over_16 ⟨by decide, by decide⟩ ?_
      refine x_goto (tgt := 21) (pc := 17) dX14_over_17 rfl ?_
      cases hf
      exact x_retI (pc := 21) dX14_over_21
theorem Z_X14_over {M : ax_M} {r : Int} {M1 : ax_M} (hf : fX14_over M = some (r, M1)) : r = 0 ∨ r = 1 := by
  unfold fX14_over at hf
  obtain ⟨v103, M102, r101, hf⟩ := bd2_some hf
  by_cases h104 : v103 = 0
  · replace hf := (if_pos h104).symm.trans hf
    obtain ⟨v107, M106, r105, hf⟩ := bd2_some hf
    by_cases h108 : v107 = 0
    · replace hf := (if_pos h108).symm.trans hf
      cases hf
      exact Or.inl rfl
    · replace hf := (if_neg h108).symm.trans hf
      cases hf
      exact Or.inr rfl
  · replace hf := (if_neg h104).symm.trans hf
    cases hf
    exact Or.inr rfl
/- HexPondModel.inTurn()I -/
def fX14_inTurn (M : ax_M) : Option Int :=
  (bd1 (fX14_count M 0) fun v102 => (bd1 (fX14_count M 1) fun v104 => (if v104 < v102 then (some 1) else (some 0))))
theorem T_X14_inTurn {G : ax_G} {d : Nat} (hd : 2 ≤ d) (hG : axPs G 150 244) {M : ax_M} {r : Int} (hf : fX14_inTurn M = some r) : ax_Ex G tX14_inTurn d 0 (ax_args [vR 203] ++ List.replicate 0 none) [] M (.inl (some (vI r))) M := by
  show ax_Ex G tX14_inTurn d 0 [some (vR 203)] [] M _ _
  unfold fX14_inTurn at hf
  refine x_aload_n (pc := 0) dX14_inTurn_0 rfl ?_
  refine x_iconst (pc := 1) dX14_inTurn_1 ⟨by decide, by decide⟩ ?_
  obtain ⟨v102, r101, hf⟩ := bd1_some hf
  refine x_cr (v := vI v102) (vs := [vR 203, vI 0]) (rest := []) (k := 2) rfl (by omega) (ax_caV (pc := 2) dX14_inTurn_2 kX14_count rfl rfl WM_X14_307 WI_X14_count WS_X14_count WN_X14 (ax_rcO (t := 12) (axEx hG rfl) rfl (by decide)) (Nat.le_of_ble_eq_true rfl)) kX14_count rfl True.intro (T_X14_count (by omega) hG r101) ?_
  refine x_aload_n (pc := 5) dX14_inTurn_5 rfl ?_
  refine x_iconst (pc := 6) dX14_inTurn_6 ⟨by decide, by decide⟩ ?_
  obtain ⟨v104, r103, hf⟩ := bd1_some hf
  refine x_cr (v := vI v104) (vs := [vR 203, vI 1]) (rest := [vI v102]) (k := 2) rfl (by omega) (ax_caV (pc := 7) dX14_inTurn_7 kX14_count rfl rfl WM_X14_307 WI_X14_count WS_X14_count WN_X14 (ax_rcO (t := 12) (axEx hG rfl) rfl (by decide)) (Nat.le_of_ble_eq_true rfl)) kX14_count rfl True.intro (T_X14_count (by omega) hG r103) ?_
  refine ax_cmp (fun b106a b106b b106c b106e => ?_)
  refine x_icmpgt (tgt := 17) (pc := 10) dX14_inTurn_10 rfl (fun h105 => ?_) (fun h105 => ?_)
  · replace hf := (if_pos h105).symm.trans hf
    refine x_iconst (pc := 17) dX14_inTurn_17 ⟨by decide, by decide⟩ ?_
    cases hf
    exact x_retI (pc := 18) dX14_inTurn_18
  · replace hf := (if_neg (Int.not_lt.mpr h105)).symm.trans hf
    refine x_iconst (pc := 13) dX14_inTurn_13 ⟨by decide, by decide⟩ ?_
    refine x_goto (tgt := 18) (pc := 14) dX14_inTurn_14 rfl ?_
    cases hf
    exact x_retI (pc := 18) dX14_inTurn_18
/- HexPondModel.between(IIZ)I -/
def fX14_between_b3 (M : ax_M) (x1 : Int) (x2 : Int) (x3 : Int) (v4 : Int) : Option (Int ⊕ ((Int × Int) ⊕ Unit)) :=
  (if v4 < 6 then (bd1 (fX14_beside M x1 v4) fun v104 => (bd1 (fX14_beside M x1 (Int.tmod (v4 + 1) 6)) fun v106 => (if ¬ (mI M 208 0) = 0 then (if 0 ≤ v4 ∧ v4 < 6 then (if 0 ≤ (Int.tmod (v4 + 1) 6) ∧ (Int.tmod (v4 + 1) 6) < 6 then (if v104 = (-1) then (some (.inl (v4 + 1))) else (if v106 = (-1) then (some (.inl (v4 + 1))) else (if (fX14_isOn M (wr ((wr ((Int.tmod x1 (mI M 208 0)) + (cA3.getD (Int.toNat v4) 0))) + (cA3.getD (Int.toNat (Int.tmod (v4 + 1) 6)) 0))) (wr ((wr ((wr (Int.tdiv x1 (mI M 208 0))) + (cA4.getD (Int.toNat v4) 0))) + (cA4.getD (Int.toNat (Int.tmod (v4 + 1) 6)) 0)))) = 0 then (some (.inl (v4 + 1))) else (if (fX14_at M (wr ((wr ((Int.tmod x1 (mI M 208 0)) + (cA3.getD (Int.toNat v4) 0))) + (cA3.getD (Int.toNat (Int.tmod (v4 + 1) 6)) 0))) (wr ((wr ((wr (Int.tdiv x1 (mI M 208 0))) + (cA4.getD (Int.toNat v4) 0))) + (cA4.getD (Int.toNat (Int.tmod (v4 + 1) 6)) 0)))) = x2 then (some (.inr (.inl (v104, v106)))) else (some (.inl (v4 + 1))))))) else none) else none) else none))) else (some (.inr (.inr ()))))
def fX14_between (M : ax_M) (a1 : Int) (a2 : Int) (a3 : Int) : Option Int :=
  (bdS (lp (fun s => fX14_between_b3 M a1 a2 a3 s) lpN 0) (fun t114 => (if a3 = 0 then (some t114.1) else (some t114.2))) (fun t117 => (some (-1))))
theorem B_X14_between_3 {G : ax_G} {d : Nat} (hd : 3 ≤ d) (hG : axPs G 150 244) {M : ax_M} {x1 : Int} {x2 : Int} {x3 : Int} {v4 : Int} {o : Option ax_V ⊕ String} {M' : ax_M} {y : Int ⊕ ((Int × Int) ⊕ Unit)} (hf : fX14_between_b3 M x1 x2 x3 v4 = some y) (h1 : ∀ s', y = .inl s' → ax_Ex G tX14_between d 3 [some (vR 203), some (vI x1), some (vI x2), some (vI x3), some (vI s'), none, none, none, none] [] M o M') (h2a : ∀ t, y = .inr (.inl t) → ax_Ex G tX14_between d 128 [some (vR 203), some (vI x1), some (vI x2), some (vI x3), none, some (vI t.1), some (vI t.2), none, none] [] M o M') (h2b : ∀ t, y = .inr (.inr t) → ax_Ex G tX14_between d 146 [some (vR 203), some (vI x1), some (vI x2), some (vI x3), none, none, none, none, none] [] M o M') : ax_Ex G tX14_between d 3 [some (vR 203), some (vI x1), some (vI x2), some (vI x3), some (vI v4), none, none, none, none] [] M o M' := by
  unfold fX14_between_b3 at hf
  refine x_iload (pc := 3) dX14_between_3 rfl ?_
  refine x_bipush (pc := 5) dX14_between_5 (by decide) ⟨by decide, by decide⟩ ?_
  refine ax_cmp (fun b102a b102b b102c b102e => ?_)
  refine x_icmpge (tgt := 146) (pc := 7) dX14_between_7 rfl (fun h101 => ?_) (fun h101 => ?_)
  · replace hf := (if_neg (Int.not_lt.mpr h101)).symm.trans hf
    cases hf
    exact x_fgt (axS' (axS' (axS' (axS' (axN' (axN' (axN' (axN' (axN' axD))))))))) (h2b _ rfl)
  · replace hf := (if_pos h101).symm.trans hf
    refine x_aload_n (pc := 10) dX14_between_10 rfl ?_
    refine x_iload_n (pc := 11) dX14_between_11 rfl ?_
    refine x_iload (pc := 12) dX14_between_12 rfl ?_
    obtain ⟨v104, r103, hf⟩ := bd1_some hf
    refine x_cr (v := vI v104) (vs := [vR 203, vI x1, vI v4]) (rest := []) (k := 2) rfl (by omega) (ax_caV (pc := 14) dX14_between_14 kX14_beside rfl rfl WM_X14_297 WI_X14_beside WS_X14_beside WN_X14 (ax_rcO (t := 12) (axEx hG rfl) rfl (by decide)) (Nat.le_of_ble_eq_true rfl)) kX14_beside rfl True.intro (T_X14_beside (by omega) hG r103) ?_
    refine x_istore (ls' := [some (vR 203), some (vI x1), some (vI x2), some (vI x3), some (vI v4), some (vI v104), none, none, none]) (pc := 17) dX14_between_17 (Nat.le_of_ble_eq_true rfl) rfl rfl ?_
    refine x_aload_n (pc := 19) dX14_between_19 rfl ?_
    refine x_iload_n (pc := 20) dX14_between_20 rfl ?_
    refine x_iload (pc := 21) dX14_between_21 rfl ?_
    refine x_iconst (pc := 23) dX14_between_23 ⟨by decide, by decide⟩ ?_
    refine x_iadd (z := (v4 + 1)) (pc := 24) dX14_between_24 rfl (ax_i (by omega) (by omega)) ?_
    refine x_bipush (pc := 25) dX14_between_25 (by decide) ⟨by decide, by decide⟩ ?_
    refine x_iremT (pc := 27) dX14_between_27 (by omega) ?_
    obtain ⟨v106, r105, hf⟩ := bd1_some hf
    refine x_cr (v := vI v106) (vs := [vR 203, vI x1, vI (Int.tmod (v4 + 1) 6)]) (rest := []) (k := 2) rfl (by omega) (ax_caV (pc := 28) dX14_between_28 kX14_beside rfl rfl WM_X14_297 WI_X14_beside WS_X14_beside WN_X14 (ax_rcO (t := 12) (axEx hG rfl) rfl (by decide)) (Nat.le_of_ble_eq_true rfl)) kX14_beside rfl True.intro (T_X14_beside (by omega) hG r105) ?_
    refine x_istore (ls' := [some (vR 203), some (vI x1), some (vI x2), some (vI x3), some (vI v4), some (vI v104), some (vI v106), none, none]) (pc := 31) dX14_between_31 (Nat.le_of_ble_eq_true rfl) rfl rfl ?_
    refine x_iload_n (pc := 33) dX14_between_33 rfl ?_
    refine x_aload_n (pc := 34) dX14_between_34 rfl ?_
    refine x_getF (t := 12) (j := 12) (r := 208) (pc := 35) dX14_between_35 (axH hG rfl) (axEx hG rfl) rfl (by decide) (by decide) rfl rfl WF_X14_29 ?_
    refine x_getIN (t := 11) (j := 0) (pc := 38) dX14_between_38 (axEx hG rfl) rfl (by decide) (by decide) rfl NF_X14_208 ?_
    by_cases h107 : ¬ (mI M 208 0) = 0
    · replace hf := (if_pos h107).symm.trans hf
      refine x_iremT (pc := 41) dX14_between_41 h107 ?_
      refine x_gets (v := vR 3) _ (pc := 42) dX14_between_42 (axS_mem (n := 2) rfl) rfl trivial WF_X14_278 ?_
      refine x_iload (pc := 45) dX14_between_45 rfl ?_
      by_cases h108 : 0 ≤ v4 ∧ v4 < 6
      · replace hf := (if_pos h108).symm.trans hf
        refine x_cald2 cA3 (pc := 47) dX14_between_47 cA3_K cA3_in h108.1 (by have e9 : (cA3.length : Int) = 6 := rfl; have := h108.2; omega) ?_
        refine x_iaddw (pc := 48) dX14_between_48 ?_
        refine x_gets (v := vR 3) _ (pc := 49) dX14_between_49 (axS_mem (n := 2) rfl) rfl trivial WF_X14_278 ?_
        refine x_iload (pc := 52) dX14_between_52 rfl ?_
        refine x_iconst (pc := 54) dX14_between_54 ⟨by decide, by decide⟩ ?_
        refine x_iadd (z := (v4 + 1)) (pc := 55) dX14_between_55 rfl (ax_i (by omega) (by omega)) ?_
        refine x_bipush (pc := 56) dX14_between_56 (by decide) ⟨by decide, by decide⟩ ?_
        refine x_iremT (pc := 58) dX14_between_58 (by omega) ?_
        by_cases h109 : 0 ≤ (Int.tmod (v4 + 1) 6) ∧ (Int.tmod (v4 + 1) 6) < 6
        · replace hf := (if_pos h109).symm.trans hf
          refine x_cald2 cA3 (pc := 59) dX14_between_59 cA3_K cA3_in h109.1 (by have e9 : (cA3.length : Int) = 6 := rfl; have := h109.2; omega) ?_
          refine x_iaddw (pc := 60) dX14_between_60 ?_
          refine x_istore (ls' := [some (vR 203), some (vI x1), some (vI x2), some (vI x3), some (vI v4), some (vI v104), some (vI v106), some (vI (wr ((wr ((Int.tmod x1 (mI M 208 0)) + (cA3.getD (Int.toNat v4) 0))) + (cA3.getD (Int.toNat (Int.tmod (v4 + 1) 6)) 0)))), none]) (pc := 61) dX14_between_61 (Nat.le_of_ble_eq_true rfl) rfl rfl ?_
          refine x_iload_n (pc := 63) dX14_between_63 rfl ?_
          refine x_aload_n (pc := 64) dX14_between_64 rfl ?_
          refine x_getF (t := 12) (j := 12) (r := 208) (pc := 65) dX14_between_65 (axH hG rfl) (axEx hG rfl) rfl (by decide) (by decide) rfl rfl WF_X14_29 ?_
          refine x_getIN (t := 11) (j := 0) (pc := 68) dX14_between_68 (axEx hG rfl) rfl (by decide) (by decide) rfl NF_X14_208 ?_
          refine x_idivT (pc := 71) dX14_between_71 (by omega) ?_
          refine x_gets (v := vR 4) _ (pc := 72) dX14_between_72 (axS_mem (n := 3) rfl) rfl trivial WF_X14_281 ?_
          refine x_iload (pc := 75) dX14_between_75 rfl ?_
          refine x_cald2 cA4 (pc := 77) dX14_between_77 cA4_K cA4_in (by omega) (by have e9 : (cA4.length : Int) = 6 := rfl; omega) ?_
          refine x_iaddw (pc := 78) dX14_between_78 ?_
          refine x_gets (v := vR 4) _ (pc := 79) dX14_between_79 (axS_mem (n := 3) rfl) rfl trivial WF_X14_281 ?_
          refine x_iload (pc := 82) dX14_between_82 rfl ?_
          refine x_iconst (pc := 84) dX14_between_84 ⟨by decide, by decide⟩ ?_
          refine x_iadd (z := (v4 + 1)) (pc := 85) dX14_between_85 rfl (ax_i (by omega) (by omega)) ?_
          refine x_bipush (pc := 86) dX14_between_86 (by decide) ⟨by decide, by decide⟩ ?_
          refine x_iremT (pc := 88) dX14_between_88 (by omega) ?_
          refine x_cald2 cA4 (pc := 89) dX14_between_89 cA4_K cA4_in (by omega) (by have e9 : (cA4.length : Int) = 6 := rfl; omega) ?_
          refine x_iaddw (pc := 90) dX14_between_90 ?_
          refine x_istore (ls' := [some (vR 203), some (vI x1), some (vI x2), some (vI x3), some (vI v4), some (vI v104), some (vI v106), some (vI (wr ((wr ((Int.tmod x1 (mI M 208 0)) + (cA3.getD (Int.toNat v4) 0))) + (cA3.getD (Int.toNat (Int.tmod (v4 + 1) 6)) 0)))), some (vI (wr ((wr ((wr (Int.tdiv x1 (mI M 208 0))) + (cA4.getD (Int.toNat v4) 0))) + (cA4.getD (Int.toNat (Int.tmod (v4 + 1) 6)) 0))))]) (pc := 91) dX14_between_91 (Nat.le_of_ble_eq_true rfl) rfl rfl ?_
          refine x_iload (pc := 93) dX14_between_93 rfl ?_
          refine x_iconst (pc := 95) dX14_between_95 ⟨by decide, by decide⟩ ?_
          refine x_icmpeq (tgt := 140) (pc := 96) dX14_between_96 rfl (fun h110 => ?_) (fun h110 => ?_)
          · replace hf := (if_pos h110).symm.trans hf
            refine x_iinc (z := (v4 + 1)) (ls' := [some (vR 203), some (vI x1), some (vI x2), some (vI x3), some (vI (v4 + 1)), some (vI v104), some (vI v106), some (vI (wr ((wr ((Int.tmod x1 (mI M 208 0)) + (cA3.getD (Int.toNat v4) 0))) + (cA3.getD (Int.toNat (Int.tmod (v4 + 1) 6)) 0)))), some (vI (wr ((wr ((wr (Int.tdiv x1 (mI M 208 0))) + (cA4.getD (Int.toNat v4) 0))) + (cA4.getD (Int.toNat (Int.tmod (v4 + 1) 6)) 0))))]) (pc := 140) dX14_between_140 rfl (Nat.le_of_ble_eq_true rfl) rfl rfl (ax_i (by omega) (by omega)) rfl ?_
            refine x_goto (tgt := 3) (pc := 143) dX14_between_143 rfl ?_
            cases hf
            exact x_fgt (axS' (axS' (axS' (axS' (axS' (axN' (axN' (axN' (axN' axD))))))))) (h1 _ rfl)
          · replace hf := (if_neg h110).symm.trans hf
            refine x_iload (pc := 99) dX14_between_99 rfl ?_
            refine x_iconst (pc := 101) dX14_between_101 ⟨by decide, by decide⟩ ?_
            refine x_icmpeq (tgt := 140) (pc := 102) dX14_between_102 rfl (fun h111 => ?_) (fun h111 => ?_)
            · replace hf := (if_pos h111).symm.trans hf
              refine x_iinc (z := (v4 + 1)) (ls' := [some (vR 203), some (vI x1), some (vI x2), some (vI x3), some (vI (v4 + 1)), some (vI v104), some (vI v106), some (vI (wr ((wr ((Int.tmod x1 (mI M 208 0)) + (cA3.getD (Int.toNat v4) 0))) + (cA3.getD (Int.toNat (Int.tmod (v4 + 1) 6)) 0)))), some (vI (wr ((wr ((wr (Int.tdiv x1 (mI M 208 0))) + (cA4.getD (Int.toNat v4) 0))) + (cA4.getD (Int.toNat (Int.tmod (v4 + 1) 6)) 0))))]) (pc := 140) dX14_between_140 rfl (Nat.le_of_ble_eq_true rfl) rfl rfl (ax_i (by omega) (by omega)) rfl ?_
              refine x_goto (tgt := 3) (pc := 143) dX14_between_143 rfl ?_
              cases hf
              exact x_fgt (axS' (axS' (axS' (axS' (axS' (axN' (axN' (axN' (axN' axD))))))))) (h1 _ rfl)
            · replace hf := (if_neg h111).symm.trans hf
              refine x_aload_n (pc := 105) dX14_between_105 rfl ?_
              refine x_iload (pc := 106) dX14_between_106 rfl ?_
              refine x_iload (pc := 108) dX14_between_108 rfl ?_
              refine x_cr (v := vI (fX14_isOn M (wr ((wr ((Int.tmod x1 (mI M 208 0)) + (cA3.getD (Int.toNat v4) 0))) + (cA3.getD (Int.toNat (Int.tmod (v4 + 1) 6)) 0))) (wr ((wr ((wr (Int.tdiv x1 (mI M 208 0))) + (cA4.getD (Int.toNat v4) 0))) + (cA4.getD (Int.toNat (Int.tmod (v4 + 1) 6)) 0))))) (vs := [vR 203, vI (wr ((wr ((Int.tmod x1 (mI M 208 0)) + (cA3.getD (Int.toNat v4) 0))) + (cA3.getD (Int.toNat (Int.tmod (v4 + 1) 6)) 0))), vI (wr ((wr ((wr (Int.tdiv x1 (mI M 208 0))) + (cA4.getD (Int.toNat v4) 0))) + (cA4.getD (Int.toNat (Int.tmod (v4 + 1) 6)) 0)))]) (rest := []) (k := 0) rfl (by omega) (ax_caV (pc := 110) dX14_between_110 kX14_isOn rfl rfl WM_X14_284 WI_X14_isOn WS_X14_isOn WN_X14 (ax_rcO (t := 12) (axEx hG rfl) rfl (by decide)) (Nat.le_of_ble_eq_true rfl)) kX14_isOn rfl (Z_X14_isOn rfl) (T_X14_isOn (by omega) hG rfl) ?_
              refine x_ifeq (tgt := 140) (pc := 113) dX14_between_113 rfl (fun h112 => ?_) (fun h112 => ?_)
              · replace hf := (if_pos h112).symm.trans hf
                refine x_iinc (z := (v4 + 1)) (ls' := [some (vR 203), some (vI x1), some (vI x2), some (vI x3), some (vI (v4 + 1)), some (vI v104), some (vI v106), some (vI (wr ((wr ((Int.tmod x1 (mI M 208 0)) + (cA3.getD (Int.toNat v4) 0))) + (cA3.getD (Int.toNat (Int.tmod (v4 + 1) 6)) 0)))), some (vI (wr ((wr ((wr (Int.tdiv x1 (mI M 208 0))) + (cA4.getD (Int.toNat v4) 0))) + (cA4.getD (Int.toNat (Int.tmod (v4 + 1) 6)) 0))))]) (pc := 140) dX14_between_140 rfl (Nat.le_of_ble_eq_true rfl) rfl rfl (ax_i (by omega) (by omega)) rfl ?_
                refine x_goto (tgt := 3) (pc := 143) dX14_between_143 rfl ?_
                cases hf
                exact x_fgt (axS' (axS' (axS' (axS' (axS' (axN' (axN' (axN' (axN' axD))))))))) (h1 _ rfl)
              · replace hf := (if_neg h112).symm.trans hf
                refine x_aload_n (pc := 116) dX14_between_116 rfl ?_
                refine x_iload (pc := 117) dX14_between_117 rfl ?_
                refine x_iload (pc := 119) dX14_between_119 rfl ?_
                refine x_cr (v := vI (fX14_at M (wr ((wr ((Int.tmod x1 (mI M 208 0)) + (cA3.getD (Int.toNat v4) 0))) + (cA3.getD (Int.toNat (Int.tmod (v4 + 1) 6)) 0))) (wr ((wr ((wr (Int.tdiv x1 (mI M 208 0))) + (cA4.getD (Int.toNat v4) 0))) + (cA4.getD (Int.toNat (Int.tmod (v4 + 1) 6)) 0))))) (vs := [vR 203, vI (wr ((wr ((Int.tmod x1 (mI M 208 0)) + (cA3.getD (Int.toNat v4) 0))) + (cA3.getD (Int.toNat (Int.tmod (v4 + 1) 6)) 0))), vI (wr ((wr ((wr (Int.tdiv x1 (mI M 208 0))) + (cA4.getD (Int.toNat v4) 0))) + (cA4.getD (Int.toNat (Int.tmod (v4 + 1) 6)) 0)))]) (rest := []) (k := 0) rfl (by omega) (ax_caV (pc := 121) dX14_between_121 kX14_at rfl rfl WM_X14_288 WI_X14_at WS_X14_at WN_X14 (ax_rcO (t := 12) (axEx hG rfl) rfl (by decide)) (Nat.le_of_ble_eq_true rfl)) kX14_at rfl True.intro (T_X14_at (by omega) hG rfl) ?_
                refine x_iload_n (pc := 124) dX14_between_124 rfl ?_
                refine x_icmpne (tgt := 140) (pc := 125) dX14_between_125 rfl (fun h113 => ?_) (fun h113 => ?_)
                · replace hf := (if_neg h113).symm.trans hf
                  refine x_iinc (z := (v4 + 1)) (ls' := [some (vR 203), some (vI x1), some (vI x2), some (vI x3), some (vI (v4 + 1)), some (vI v104), some (vI v106), some (vI (wr ((wr ((Int.tmod x1 (mI M 208 0)) + (cA3.getD (Int.toNat v4) 0))) + (cA3.getD (Int.toNat (Int.tmod (v4 + 1) 6)) 0)))), some (vI (wr ((wr ((wr (Int.tdiv x1 (mI M 208 0))) + (cA4.getD (Int.toNat v4) 0))) + (cA4.getD (Int.toNat (Int.tmod (v4 + 1) 6)) 0))))]) (pc := 140) dX14_between_140 rfl (Nat.le_of_ble_eq_true rfl) rfl rfl (ax_i (by omega) (by omega)) rfl ?_
                  refine x_goto (tgt := 3) (pc := 143) dX14_between_143 rfl ?_
                  cases hf
                  exact x_fgt (axS' (axS' (axS' (axS' (axS' (axN' (axN' (axN' (axN' axD))))))))) (h1 _ rfl)
                · replace hf := (if_pos h113).symm.trans hf
                  cases hf
                  exact x_fgt (axS' (axS' (axS' (axS' (axN' (axS' (axS' (axN' (axN' axD))))))))) (h2a _ rfl)
        · replace hf := (if_neg h109).symm.trans hf
          cases hf
      · replace hf := (if_neg h108).symm.trans hf
        cases hf
    · replace hf := (if_neg h107).symm.trans hf
      cases hf
theorem T_X14_between {G : ax_G} {d : Nat} (hd : 3 ≤ d) (hG : axPs G 150 244) {M : ax_M} {a1 : Int} {a2 : Int} {a3 : Int} {r : Int} (hf : fX14_between M a1 a2 a3 = some r) : ax_Ex G tX14_between d 0 (ax_args [vR 203, vI a1, vI a2, vI a3] ++ List.replicate 5 none) [] M (.inl (some (vI r))) M := by
  show ax_Ex G tX14_between d 0 [some (vR 203), some (vI a1), some (vI a2), some (vI a3), none, none, none, none, none] [] M _ _
  unfold fX14_between at hf
  refine x_iconst (pc := 0) dX14_between_0 ⟨by decide, by decide⟩ ?_
  refine x_istore (ls' := [some (vR 203), some (vI a1), some (vI a2), some (vI a3), some (vI 0), none, none, none, none]) (pc := 1) dX14_between_1 (Nat.le_of_ble_eq_true rfl) rfl rfl ?_
  rcases bdS_some hf with ⟨t114, t115, hf⟩ | ⟨t117, t118, hf⟩
  · refine lp_ex (P := (fun s => ax_Ex G tX14_between d 3 [some (vR 203), some (vI a1), some (vI a2), some (vI a3), some (vI s), none, none, none, none] [] M _ _)) (K := (fun r => (∀ t, r = .inl t → ax_Ex G tX14_between d 128 [some (vR 203), some (vI a1), some (vI a2), some (vI a3), none, some (vI t.1), some (vI t.2), none, none] [] M _ _) ∧ (∀ t, r = .inr t → ax_Ex G tX14_between d 146 [some (vR 203), some (vI a1), some (vI a2), some (vI a3), none, none, none, none, none] [] M _ _))) (fun s y hy h1 h2 => B_X14_between_3 (by omega) hG hy (fun s' e => h1 s' e) (fun t e => (h2 _ e).1 t rfl) (fun t e => (h2 _ e).2 t rfl)) _ _ _ t115 ?_
    refine ⟨fun t e => ?_, fun t e => (by cases e)⟩
    cases e
    refine x_iload_n (pc := 128) dX14_between_128 rfl ?_
    refine x_ifeq (tgt := 137) (pc := 129) dX14_between_129 rfl (fun h116 => ?_) (fun h116 => ?_)
    · replace hf := (if_pos h116).symm.trans hf
      refine x_iload (pc := 137) dX14_between_137 rfl ?_
      cases hf
      exact x_retI (pc := 139) dX14_between_139
    · replace hf := (if_neg h116).symm.trans hf
      refine x_iload (pc := 132) dX14_between_132 rfl ?_
      refine x_goto (tgt := 139) (pc := 134) dX14_between_134 rfl ?_
      cases hf
      exact x_retI (pc := 139) dX14_between_139
  · refine lp_ex (P := (fun s => ax_Ex G tX14_between d 3 [some (vR 203), some (vI a1), some (vI a2), some (vI a3), some (vI s), none, none, none, none] [] M _ _)) (K := (fun r => (∀ t, r = .inl t → ax_Ex G tX14_between d 128 [some (vR 203), some (vI a1), some (vI a2), some (vI a3), none, some (vI t.1), some (vI t.2), none, none] [] M _ _) ∧ (∀ t, r = .inr t → ax_Ex G tX14_between d 146 [some (vR 203), some (vI a1), some (vI a2), some (vI a3), none, none, none, none, none] [] M _ _))) (fun s y hy h1 h2 => B_X14_between_3 (by omega) hG hy (fun s' e => h1 s' e) (fun t e => (h2 _ e).1 t rfl) (fun t e => (h2 _ e).2 t rfl)) _ _ _ t118 ?_
    refine ⟨fun t e => (by cases e), fun t e => ?_⟩
    cases e
    refine x_iconst (pc := 146) dX14_between_146 ⟨by decide, by decide⟩ ?_
    cases hf
    exact x_retI (pc := 147) dX14_between_147
/- HexPondModel.bridge(III)I -/
def fX14_bridge (M : ax_M) (a1 : Int) (a2 : Int) (a3 : Int) : Option Int :=
  (if 0 ≤ a1 ∧ a1 < 81 then (if (mI M 233 (Int.toNat a1)) = a3 then (if 0 ≤ a2 ∧ a2 < 81 then (if (mI M 233 (Int.toNat a2)) = a3 then (bd1 (fX14_between M a1 a2 0) fun v106 => (if v106 = (-1) then (some 0) else (bd1 (fX14_between M a1 a2 1) fun v109 => (if 0 ≤ v106 ∧ v106 < 81 then (if (mI M 233 (Int.toNat v106)) = (-1) then (if 0 ≤ v109 ∧ v109 < 81 then (if (mI M 233 (Int.toNat v109)) = (-1) then (some 1) else (if (mI M 233 (Int.toNat v109)) = (wr (1 - a3)) then (some 2) else (some 0))) else none) else (if 0 ≤ v109 ∧ v109 < 81 then (if (mI M 233 (Int.toNat v109)) = (-1) then (if (mI M 233 (Int.toNat v106)) = (wr (1 - a3)) then (some 2) else (some 0)) else (some 0)) else none)) else none)))) else (some 0)) else none) else (some 0)) else none)
theorem T_X14_bridge {G : ax_G} {d : Nat} (hd : 4 ≤ d) (hG : axPs G 150 244) {M : ax_M} {a1 : Int} {a2 : Int} {a3 : Int} {r : Int} (hf : fX14_bridge M a1 a2 a3 = some r) : ax_Ex G tX14_bridge d 0 (ax_args [vR 203, vI a1, vI a2, vI a3] ++ List.replicate 2 none) [] M (.inl (some (vI r))) M := by
  show ax_Ex G tX14_bridge d 0 [some (vR 203), some (vI a1), some (vI a2), some (vI a3), none, none] [] M _ _
  unfold fX14_bridge at hf
  refine x_aload_n (pc := 0) dX14_bridge_0 rfl ?_
  refine x_getF (t := 12) (j := 15) (r := 233) (pc := 1) dX14_bridge_1 (axH hG rfl) (axEx hG rfl) rfl (by decide) (by decide) rfl rfl WF_X14_39 ?_
  refine x_iload_n (pc := 4) dX14_bridge_4 rfl ?_
  by_cases h101 : 0 ≤ a1 ∧ a1 < 81
  · replace hf := (if_pos h101).symm.trans hf
    refine x_iald2 (n := 81) (pc := 5) dX14_bridge_5 (axEx hG rfl) rfl h101.1 h101.2 ?_
    refine x_iload_n (pc := 6) dX14_bridge_6 rfl ?_
    refine x_icmpne (tgt := 20) (pc := 7) dX14_bridge_7 rfl (fun h102 => ?_) (fun h102 => ?_)
    · replace hf := (if_neg h102).symm.trans hf
      refine x_iconst (pc := 20) dX14_bridge_20 ⟨by decide, by decide⟩ ?_
      cases hf
      exact x_retI (pc := 21) dX14_bridge_21
    · replace hf := (if_pos h102).symm.trans hf
      refine x_aload_n (pc := 10) dX14_bridge_10 rfl ?_
      refine x_getF (t := 12) (j := 15) (r := 233) (pc := 11) dX14_bridge_11 (axH hG rfl) (axEx hG rfl) rfl (by decide) (by decide) rfl rfl WF_X14_39 ?_
      refine x_iload_n (pc := 14) dX14_bridge_14 rfl ?_
      by_cases h103 : 0 ≤ a2 ∧ a2 < 81
      · replace hf := (if_pos h103).symm.trans hf
        refine x_iald2 (n := 81) (pc := 15) dX14_bridge_15 (axEx hG rfl) rfl h103.1 h103.2 ?_
        refine x_iload_n (pc := 16) dX14_bridge_16 rfl ?_
        refine x_icmpeq (tgt := 22) (pc := 17) dX14_bridge_17 rfl (fun h104 => ?_) (fun h104 => ?_)
        · replace hf := (if_pos h104).symm.trans hf
          refine x_aload_n (pc := 22) dX14_bridge_22 rfl ?_
          refine x_iload_n (pc := 23) dX14_bridge_23 rfl ?_
          refine x_iload_n (pc := 24) dX14_bridge_24 rfl ?_
          refine x_iconst (pc := 25) dX14_bridge_25 ⟨by decide, by decide⟩ ?_
          obtain ⟨v106, r105, hf⟩ := bd1_some hf
          refine x_cr (v := vI v106) (vs := [vR 203, vI a1, vI a2, vI 0]) (rest := []) (k := 5) rfl (by omega) (ax_caV (pc := 26) dX14_bridge_26 kX14_between rfl rfl WM_X14_310 WI_X14_between WS_X14_between WN_X14 (ax_rcO (t := 12) (axEx hG rfl) rfl (by decide)) (Nat.le_of_ble_eq_true rfl)) kX14_between rfl True.intro (T_X14_between (by omega) hG r105) ?_
          refine x_istore (ls' := [some (vR 203), some (vI a1), some (vI a2), some (vI a3), some (vI v106), none]) (pc := 29) dX14_bridge_29 (Nat.le_of_ble_eq_true rfl) rfl rfl ?_
          refine x_iload (pc := 31) dX14_bridge_31 rfl ?_
          refine x_iconst (pc := 33) dX14_bridge_33 ⟨by decide, by decide⟩ ?_
          refine x_icmpne (tgt := 39) (pc := 34) dX14_bridge_34 rfl (fun h107 => ?_) (fun h107 => ?_)
          · replace hf := (if_neg h107).symm.trans hf
            refine x_aload_n (pc := 39) dX14_bridge_39 rfl ?_
            refine x_iload_n (pc := 40) dX14_bridge_40 rfl ?_
            refine x_iload_n (pc := 41) dX14_bridge_41 rfl ?_
            refine x_iconst (pc := 42) dX14_bridge_42 ⟨by decide, by decide⟩ ?_
            obtain ⟨v109, r108, hf⟩ := bd1_some hf
            refine x_cr (v := vI v109) (vs := [vR 203, vI a1, vI a2, vI 1]) (rest := []) (k := 5) rfl (by omega) (ax_caV (pc := 43) dX14_bridge_43 kX14_between rfl rfl WM_X14_310 WI_X14_between WS_X14_between WN_X14 (ax_rcO (t := 12) (axEx hG rfl) rfl (by decide)) (Nat.le_of_ble_eq_true rfl)) kX14_between rfl True.intro (T_X14_between (by omega) hG r108) ?_
            refine x_istore (ls' := [some (vR 203), some (vI a1), some (vI a2), some (vI a3), some (vI v106), some (vI v109)]) (pc := 46) dX14_bridge_46 (Nat.le_of_ble_eq_true rfl) rfl rfl ?_
            refine x_aload_n (pc := 48) dX14_bridge_48 rfl ?_
            refine x_getF (t := 12) (j := 15) (r := 233) (pc := 49) dX14_bridge_49 (axH hG rfl) (axEx hG rfl) rfl (by decide) (by decide) rfl rfl WF_X14_39 ?_
            refine x_iload (pc := 52) dX14_bridge_52 rfl ?_
            by_cases h110 : 0 ≤ v106 ∧ v106 < 81
            · replace hf := (if_pos h110).symm.trans hf
              refine x_iald2 (n := 81) (pc := 54) dX14_bridge_54 (axEx hG rfl) rfl h110.1 h110.2 ?_
              refine x_iconst (pc := 55) dX14_bridge_55 ⟨by decide, by decide⟩ ?_
              refine x_icmpne (tgt := 72) (pc := 56) dX14_bridge_56 rfl (fun h111 => ?_) (fun h111 => ?_)
              · replace hf := (if_neg h111).symm.trans hf
                refine x_aload_n (pc := 72) dX14_bridge_72 rfl ?_
                refine x_getF (t := 12) (j := 15) (r := 233) (pc := 73) dX14_bridge_73 (axH hG rfl) (axEx hG rfl) rfl (by decide) (by decide) rfl rfl WF_X14_39 ?_
                refine x_iload (pc := 76) dX14_bridge_76 rfl ?_
                refine x_iald2 (n := 81) (pc := 78) dX14_bridge_78 (axEx hG rfl) rfl (by omega) (by omega) ?_
                refine x_iconst (pc := 79) dX14_bridge_79 ⟨by decide, by decide⟩ ?_
                refine x_icmpne (tgt := 96) (pc := 80) dX14_bridge_80 rfl (fun h117 => ?_) (fun h117 => absurd h117 (by omega))
                refine x_aload_n (pc := 96) dX14_bridge_96 rfl ?_
                refine x_getF (t := 12) (j := 15) (r := 233) (pc := 97) dX14_bridge_97 (axH hG rfl) (axEx hG rfl) rfl (by decide) (by decide) rfl rfl WF_X14_39 ?_
                refine x_iload (pc := 100) dX14_bridge_100 rfl ?_
                by_cases h118 : 0 ≤ v109 ∧ v109 < 81
                · replace hf := (if_pos h118).symm.trans hf
                  refine x_iald2 (n := 81) (pc := 102) dX14_bridge_102 (axEx hG rfl) rfl h118.1 h118.2 ?_
                  refine x_iconst (pc := 103) dX14_bridge_103 ⟨by decide, by decide⟩ ?_
                  refine x_icmpne (tgt := 124) (pc := 104) dX14_bridge_104 rfl (fun h119 => ?_) (fun h119 => ?_)
                  · replace hf := (if_neg h119).symm.trans hf
                    refine x_iconst (pc := 124) dX14_bridge_124 ⟨by decide, by decide⟩ ?_
                    cases hf
                    exact x_retI (pc := 125) dX14_bridge_125
                  · replace hf := (if_pos h119).symm.trans hf
                    refine x_aload_n (pc := 107) dX14_bridge_107 rfl ?_
                    refine x_getF (t := 12) (j := 15) (r := 233) (pc := 108) dX14_bridge_108 (axH hG rfl) (axEx hG rfl) rfl (by decide) (by decide) rfl rfl WF_X14_39 ?_
                    refine x_iload (pc := 111) dX14_bridge_111 rfl ?_
                    refine x_iald2 (n := 81) (pc := 113) dX14_bridge_113 (axEx hG rfl) rfl (by omega) (by omega) ?_
                    refine x_iconst (pc := 114) dX14_bridge_114 ⟨by decide, by decide⟩ ?_
                    refine x_iload_n (pc := 115) dX14_bridge_115 rfl ?_
                    refine x_isubw (pc := 116) dX14_bridge_116 ?_
                    refine x_icmpne (tgt := 124) (pc := 117) dX14_bridge_117 rfl (fun h120 => ?_) (fun h120 => ?_)
                    · replace hf := (if_neg h120).symm.trans hf
                      refine x_iconst (pc := 124) dX14_bridge_124 ⟨by decide, by decide⟩ ?_
                      cases hf
                      exact x_retI (pc := 125) dX14_bridge_125
                    · replace hf := (if_pos h120).symm.trans hf
                      refine x_iconst (pc := 120) dX14_bridge_120 ⟨by decide, by decide⟩ ?_
                      refine x_goto (tgt := 125) (pc := 121) dX14_bridge_121 rfl ?_
                      cases hf
                      exact x_retI (pc := 125) dX14_bridge_125
                · replace hf := (if_neg h118).symm.trans hf
                  cases hf
              · replace hf := (if_pos h111).symm.trans hf
                refine x_aload_n (pc := 59) dX14_bridge_59 rfl ?_
                refine x_getF (t := 12) (j := 15) (r := 233) (pc := 60) dX14_bridge_60 (axH hG rfl) (axEx hG rfl) rfl (by decide) (by decide) rfl rfl WF_X14_39 ?_
                refine x_iload (pc := 63) dX14_bridge_63 rfl ?_
                by_cases h112 : 0 ≤ v109 ∧ v109 < 81
                · replace hf := (if_pos h112).symm.trans hf
                  refine x_iald2 (n := 81) (pc := 65) dX14_bridge_65 (axEx hG rfl) rfl h112.1 h112.2 ?_
                  refine x_iconst (pc := 66) dX14_bridge_66 ⟨by decide, by decide⟩ ?_
                  refine x_icmpne (tgt := 72) (pc := 67) dX14_bridge_67 rfl (fun h113 => ?_) (fun h113 => ?_)
                  · replace hf := (if_neg h113).symm.trans hf
                    refine x_aload_n (pc := 72) dX14_bridge_72 rfl ?_
                    refine x_getF (t := 12) (j := 15) (r := 233) (pc := 73) dX14_bridge_73 (axH hG rfl) (axEx hG rfl) rfl (by decide) (by decide) rfl rfl WF_X14_39 ?_
                    refine x_iload (pc := 76) dX14_bridge_76 rfl ?_
                    refine x_iald2 (n := 81) (pc := 78) dX14_bridge_78 (axEx hG rfl) rfl (by omega) (by omega) ?_
                    refine x_iconst (pc := 79) dX14_bridge_79 ⟨by decide, by decide⟩ ?_
                    refine x_icmpne (tgt := 96) (pc := 80) dX14_bridge_80 rfl (fun h114 => absurd h114 (by omega)) (fun h114 => ?_)
                    refine x_aload_n (pc := 83) dX14_bridge_83 rfl ?_
                    refine x_getF (t := 12) (j := 15) (r := 233) (pc := 84) dX14_bridge_84 (axH hG rfl) (axEx hG rfl) rfl (by decide) (by decide) rfl rfl WF_X14_39 ?_
                    refine x_iload (pc := 87) dX14_bridge_87 rfl ?_
                    refine x_iald2 (n := 81) (pc := 89) dX14_bridge_89 (axEx hG rfl) rfl (by omega) (by omega) ?_
                    refine x_iconst (pc := 90) dX14_bridge_90 ⟨by decide, by decide⟩ ?_
                    refine x_iload_n (pc := 91) dX14_bridge_91 rfl ?_
                    refine x_isubw (pc := 92) dX14_bridge_92 ?_
                    refine x_icmpeq (tgt := 120) (pc := 93) dX14_bridge_93 rfl (fun h115 => ?_) (fun h115 => ?_)
                    · replace hf := (if_pos h115).symm.trans hf
                      refine x_iconst (pc := 120) dX14_bridge_120 ⟨by decide, by decide⟩ ?_
                      refine x_goto (tgt := 125) (pc := 121) dX14_bridge_121 rfl ?_
                      cases hf
                      exact x_retI (pc := 125) dX14_bridge_125
                    · replace hf := (if_neg h115).symm.trans hf
                      refine x_aload_n (pc := 96) dX14_bridge_96 rfl ?_
                      refine x_getF (t := 12) (j := 15) (r := 233) (pc := 97) dX14_bridge_97 (axH hG rfl) (axEx hG rfl) rfl (by decide) (by decide) rfl rfl WF_X14_39 ?_
                      refine x_iload (pc := 100) dX14_bridge_100 rfl ?_
                      refine x_iald2 (n := 81) (pc := 102) dX14_bridge_102 (axEx hG rfl) rfl (by omega) (by omega) ?_
                      refine x_iconst (pc := 103) dX14_bridge_103 ⟨by decide, by decide⟩ ?_
                      refine x_icmpne (tgt := 124) (pc := 104) dX14_bridge_104 rfl (fun h116 => ?_) (fun h116 => absurd h116 (by omega))
                      refine x_iconst (pc := 124) dX14_bridge_124 ⟨by decide, by decide⟩ ?_
                      cases hf
                      exact x_retI (pc := 125) dX14_bridge_125
                  · replace hf := (if_pos h113).symm.trans hf
                    refine x_iconst (pc := 70) dX14_bridge_70 ⟨by decide, by decide⟩ ?_
                    cases hf
                    exact x_retI (pc := 71) dX14_bridge_71
                · replace hf := (if_neg h112).symm.trans hf
                  cases hf
            · replace hf := (if_neg h110).symm.trans hf
              cases hf
          · replace hf := (if_pos h107).symm.trans hf
            refine x_iconst (pc := 37) dX14_bridge_37 ⟨by decide, by decide⟩ ?_
            cases hf
            exact x_retI (pc := 38) dX14_bridge_38
        · replace hf := (if_neg h104).symm.trans hf
          refine x_iconst (pc := 20) dX14_bridge_20 ⟨by decide, by decide⟩ ?_
          cases hf
          exact x_retI (pc := 21) dX14_bridge_21
      · replace hf := (if_neg h103).symm.trans hf
        cases hf
  · replace hf := (if_neg h101).symm.trans hf
    cases hf
/- HexPondModel.bridges(II)I -/
def fX14_bridges_b20 (M : ax_M) (x1 : Int) (x2 : Int) (x4 : Int) (v3 : Int) (v5 : Int) : Option ((Int × Int) ⊕ Int) :=
  (if v5 < (fX14_cells M) then (bd1 (fX14_bridge M x4 v5 x1) fun v106 => (if v106 = x2 then (some (.inl ((wr (v3 + 1)), (v5 + 1)))) else (some (.inl ((wr (v3 + 0)), (v5 + 1)))))) else (some (.inr v3)))
def fX14_bridges_b5 (M : ax_M) (x1 : Int) (x2 : Int) (v3 : Int) (v4 : Int) : Option ((Int × Int) ⊕ Int) :=
  (if v4 < (fX14_cells M) then (bd1 (lp (fun s => fX14_bridges_b20 M x1 x2 v4 s.1 s.2) lpN (v3, (v4 + 1))) fun t108 => (some (.inl (t108, (v4 + 1))))) else (some (.inr v3)))
def fX14_bridges (M : ax_M) (a1 : Int) (a2 : Int) : Option Int :=
  (bd1 (lp (fun s => fX14_bridges_b5 M a1 a2 s.1 s.2) lpN (0, 0)) fun t110 => (some t110))
theorem B_X14_bridges_20 {G : ax_G} {d : Nat} (hd : 5 ≤ d) (hG : axPs G 150 244) {M : ax_M} {x1 : Int} {x2 : Int} {x4 : Int} {v3 : Int} {v5 : Int} {o : Option ax_V ⊕ String} {M' : ax_M} {y : (Int × Int) ⊕ Int} (hf : fX14_bridges_b20 M x1 x2 x4 v3 v5 = some y) (h1 : ∀ s', y = .inl s' → ax_Ex G tX14_bridges d 20 [some (vR 203), some (vI x1), some (vI x2), some (vI s'.1), some (vI x4), some (vI s'.2)] [] M o M') (h2a : ∀ t, y = .inr t → ax_Ex G tX14_bridges d 56 [some (vR 203), some (vI x1), some (vI x2), some (vI t), some (vI x4), none] [] M o M') : ax_Ex G tX14_bridges d 20 [some (vR 203), some (vI x1), some (vI x2), some (vI v3), some (vI x4), some (vI v5)] [] M o M' := by
  unfold fX14_bridges_b20 at hf
  refine x_iload (pc := 20) dX14_bridges_20 rfl ?_
  refine x_aload_n (pc := 22) dX14_bridges_22 rfl ?_
  refine x_cr (v := vI (fX14_cells M)) (vs := [vR 203]) (rest := [vI v5]) (k := 0) rfl (by omega) (ax_caV (pc := 23) dX14_bridges_23 kX14_cells rfl rfl WM_X14_275 WI_X14_cells WS_X14_cells WN_X14 (ax_rcO (t := 12) (axEx hG rfl) rfl (by decide)) (Nat.le_of_ble_eq_true rfl)) kX14_cells rfl True.intro (T_X14_cells (by omega) hG rfl) ?_
  refine ax_cmp (fun b104a b104b b104c b104e => ?_)
  refine x_icmpge (tgt := 56) (pc := 26) dX14_bridges_26 rfl (fun h103 => ?_) (fun h103 => ?_)
  · replace hf := (if_neg (Int.not_lt.mpr h103)).symm.trans hf
    cases hf
    exact x_fgt (axS' (axS' (axS' (axS' (axS' (axN' axD)))))) (h2a _ rfl)
  · replace hf := (if_pos h103).symm.trans hf
    refine x_iload_n (pc := 29) dX14_bridges_29 rfl ?_
    refine x_aload_n (pc := 30) dX14_bridges_30 rfl ?_
    refine x_iload (pc := 31) dX14_bridges_31 rfl ?_
    refine x_iload (pc := 33) dX14_bridges_33 rfl ?_
    refine x_iload_n (pc := 35) dX14_bridges_35 rfl ?_
    obtain ⟨v106, r105, hf⟩ := bd1_some hf
    refine x_cr (v := vI v106) (vs := [vR 203, vI x4, vI v5, vI x1]) (rest := [vI v3]) (k := 2) rfl (by omega) (ax_caV (pc := 36) dX14_bridges_36 kX14_bridge rfl rfl WM_X14_314 WI_X14_bridge WS_X14_bridge WN_X14 (ax_rcO (t := 12) (axEx hG rfl) rfl (by decide)) (Nat.le_of_ble_eq_true rfl)) kX14_bridge rfl True.intro (T_X14_bridge (by omega) hG r105) ?_
    refine x_iload_n (pc := 39) dX14_bridges_39 rfl ?_
    refine x_icmpne (tgt := 47) (pc := 40) dX14_bridges_40 rfl (fun h107 => ?_) (fun h107 => ?_)
    · replace hf := (if_neg h107).symm.trans hf
      refine x_iconst (pc := 47) dX14_bridges_47 ⟨by decide, by decide⟩ ?_
      refine x_iaddw (pc := 48) dX14_bridges_48 ?_
      refine x_istore_n (ls' := [some (vR 203), some (vI x1), some (vI x2), some (vI (wr (v3 + 0))), some (vI x4), some (vI v5)]) (pc := 49) dX14_bridges_49 (Nat.le_of_ble_eq_true rfl) rfl rfl ?_
      refine x_iinc (z := (v5 + 1)) (ls' := [some (vR 203), some (vI x1), some (vI x2), some (vI (wr (v3 + 0))), some (vI x4), some (vI (v5 + 1))]) (pc := 50) dX14_bridges_50 rfl (Nat.le_of_ble_eq_true rfl) rfl rfl (ax_i (by omega) (by omega)) rfl ?_
      refine x_goto (tgt := 20) (pc := 53) dX14_bridges_53 rfl ?_
      cases hf
      exact h1 _ rfl
    · replace hf := (if_pos h107).symm.trans hf
      refine x_iconst (pc := 43) dX14_bridges_43 ⟨by decide, by decide⟩ ?_
      refine x_goto (tgt := 48) (pc := 44) dX14_bridges_44 rfl ?_
      refine x_iaddw (pc := 48) dX14_bridges_48 ?_
      refine x_istore_n (ls' := [some (vR 203), some (vI x1), some (vI x2), some (vI (wr (v3 + 1))), some (vI x4), some (vI v5)]) (pc := 49) dX14_bridges_49 (Nat.le_of_ble_eq_true rfl) rfl rfl ?_
      refine x_iinc (z := (v5 + 1)) (ls' := [some (vR 203), some (vI x1), some (vI x2), some (vI (wr (v3 + 1))), some (vI x4), some (vI (v5 + 1))]) (pc := 50) dX14_bridges_50 rfl (Nat.le_of_ble_eq_true rfl) rfl rfl (ax_i (by omega) (by omega)) rfl ?_
      refine x_goto (tgt := 20) (pc := 53) dX14_bridges_53 rfl ?_
      cases hf
      exact h1 _ rfl
theorem B_X14_bridges_5 {G : ax_G} {d : Nat} (hd : 5 ≤ d) (hG : axPs G 150 244) {M : ax_M} {x1 : Int} {x2 : Int} {v3 : Int} {v4 : Int} {o : Option ax_V ⊕ String} {M' : ax_M} {y : (Int × Int) ⊕ Int} (hf : fX14_bridges_b5 M x1 x2 v3 v4 = some y) (h1 : ∀ s', y = .inl s' → ax_Ex G tX14_bridges d 5 [some (vR 203), some (vI x1), some (vI x2), some (vI s'.1), some (vI s'.2), none] [] M o M') (h2a : ∀ t, y = .inr t → ax_Ex G tX14_bridges d 62 [some (vR 203), some (vI x1), some (vI x2), some (vI t), none, none] [] M o M') : ax_Ex G tX14_bridges d 5 [some (vR 203), some (vI x1), some (vI x2), some (vI v3), some (vI v4), none] [] M o M' := by
  unfold fX14_bridges_b5 at hf
  refine x_iload (pc := 5) dX14_bridges_5 rfl ?_
  refine x_aload_n (pc := 7) dX14_bridges_7 rfl ?_
  refine x_cr (v := vI (fX14_cells M)) (vs := [vR 203]) (rest := [vI v4]) (k := 0) rfl (by omega) (ax_caV (pc := 8) dX14_bridges_8 kX14_cells rfl rfl WM_X14_275 WI_X14_cells WS_X14_cells WN_X14 (ax_rcO (t := 12) (axEx hG rfl) rfl (by decide)) (Nat.le_of_ble_eq_true rfl)) kX14_cells rfl True.intro (T_X14_cells (by omega) hG rfl) ?_
  refine ax_cmp (fun b102a b102b b102c b102e => ?_)
  refine x_icmpge (tgt := 62) (pc := 11) dX14_bridges_11 rfl (fun h101 => ?_) (fun h101 => ?_)
  · replace hf := (if_neg (Int.not_lt.mpr h101)).symm.trans hf
    cases hf
    exact x_fgt (axS' (axS' (axS' (axS' (axN' (axN' axD)))))) (h2a _ rfl)
  · replace hf := (if_pos h101).symm.trans hf
    refine x_iload (pc := 14) dX14_bridges_14 rfl ?_
    refine x_iconst (pc := 16) dX14_bridges_16 ⟨by decide, by decide⟩ ?_
    refine x_iadd (z := (v4 + 1)) (pc := 17) dX14_bridges_17 rfl (ax_i (by omega) (by omega)) ?_
    refine x_istore (ls' := [some (vR 203), some (vI x1), some (vI x2), some (vI v3), some (vI v4), some (vI (v4 + 1))]) (pc := 18) dX14_bridges_18 (Nat.le_of_ble_eq_true rfl) rfl rfl ?_
    obtain ⟨t108, t109, hf⟩ := bd1_some hf
    refine lp_ex (P := (fun s => ax_Ex G tX14_bridges d 20 [some (vR 203), some (vI x1), some (vI x2), some (vI s.1), some (vI v4), some (vI s.2)] [] M _ _)) (K := (fun t => ax_Ex G tX14_bridges d 56 [some (vR 203), some (vI x1), some (vI x2), some (vI t), some (vI v4), none] [] M _ _)) (fun s y hy h1 h2 => B_X14_bridges_20 (by omega) hG hy (fun s' e => h1 s' e) (fun t e => h2 t e)) _ _ _ t109 ?_
    refine x_iinc (z := (v4 + 1)) (ls' := [some (vR 203), some (vI x1), some (vI x2), some (vI t108), some (vI (v4 + 1)), none]) (pc := 56) dX14_bridges_56 rfl (Nat.le_of_ble_eq_true rfl) rfl rfl (ax_i (by omega) (by omega)) rfl ?_
    refine x_goto (tgt := 5) (pc := 59) dX14_bridges_59 rfl ?_
    cases hf
    exact h1 _ rfl
theorem T_X14_bridges {G : ax_G} {d : Nat} (hd : 5 ≤ d) (hG : axPs G 150 244) {M : ax_M} {a1 : Int} {a2 : Int} {r : Int} (hf : fX14_bridges M a1 a2 = some r) : ax_Ex G tX14_bridges d 0 (ax_args [vR 203, vI a1, vI a2] ++ List.replicate 3 none) [] M (.inl (some (vI r))) M := by
  show ax_Ex G tX14_bridges d 0 [some (vR 203), some (vI a1), some (vI a2), none, none, none] [] M _ _
  unfold fX14_bridges at hf
  refine x_iconst (pc := 0) dX14_bridges_0 ⟨by decide, by decide⟩ ?_
  refine x_istore_n (ls' := [some (vR 203), some (vI a1), some (vI a2), some (vI 0), none, none]) (pc := 1) dX14_bridges_1 (Nat.le_of_ble_eq_true rfl) rfl rfl ?_
  refine x_iconst (pc := 2) dX14_bridges_2 ⟨by decide, by decide⟩ ?_
  refine x_istore (ls' := [some (vR 203), some (vI a1), some (vI a2), some (vI 0), some (vI 0), none]) (pc := 3) dX14_bridges_3 (Nat.le_of_ble_eq_true rfl) rfl rfl ?_
  obtain ⟨t110, t111, hf⟩ := bd1_some hf
  refine lp_ex (P := (fun s => ax_Ex G tX14_bridges d 5 [some (vR 203), some (vI a1), some (vI a2), some (vI s.1), some (vI s.2), none] [] M _ _)) (K := (fun t => ax_Ex G tX14_bridges d 62 [some (vR 203), some (vI a1), some (vI a2), some (vI t), none, none] [] M _ _)) (fun s y hy h1 h2 => B_X14_bridges_5 (by omega) hG hy (fun s' e => h1 s' e) (fun t e => h2 t e)) _ _ _ t111 ?_
  refine x_iload_n (pc := 62) dX14_bridges_62 rfl ?_
  cases hf
  exact x_retI (pc := 63) dX14_bridges_63
/- HexPondModel.around(II)I -/
def fX14_around (M : ax_M) (a1 : Int) (a2 : Int) : Option Int :=
  (if ¬ (mI M 208 0) = 0 then (if 0 ≤ a2 ∧ a2 < 6 then (if (fX14_isIn M (wr ((Int.tmod a1 (mI M 208 0)) + (cA3.getD (Int.toNat a2) 0))) 0 (wr ((mI M 208 0) - 1))) = 0 then (if (fX14_isIn M (wr ((wr (Int.tdiv a1 (mI M 208 0))) + (cA4.getD (Int.toNat a2) 0))) 0 (wr ((mI M 208 1) - 1))) = 0 then (some (-1)) else (some 0)) else (if (fX14_isIn M (wr ((wr (Int.tdiv a1 (mI M 208 0))) + (cA4.getD (Int.toNat a2) 0))) 0 (wr ((mI M 208 1) - 1))) = 0 then (some 1) else (if 0 ≤ (fX14_at M (wr ((Int.tmod a1 (mI M 208 0)) + (cA3.getD (Int.toNat a2) 0))) (wr ((wr (Int.tdiv a1 (mI M 208 0))) + (cA4.getD (Int.toNat a2) 0)))) ∧ (fX14_at M (wr ((Int.tmod a1 (mI M 208 0)) + (cA3.getD (Int.toNat a2) 0))) (wr ((wr (Int.tdiv a1 (mI M 208 0))) + (cA4.getD (Int.toNat a2) 0)))) < 81 then (some (mI M 233 (Int.toNat (fX14_at M (wr ((Int.tmod a1 (mI M 208 0)) + (cA3.getD (Int.toNat a2) 0))) (wr ((wr (Int.tdiv a1 (mI M 208 0))) + (cA4.getD (Int.toNat a2) 0))))))) else none))) else none) else none)
theorem T_X14_around {G : ax_G} {d : Nat} (hd : 1 ≤ d) (hG : axPs G 150 244) {M : ax_M} {a1 : Int} {a2 : Int} {r : Int} (hf : fX14_around M a1 a2 = some r) : ax_Ex G tX14_around d 0 (ax_args [vR 203, vI a1, vI a2] ++ List.replicate 4 none) [] M (.inl (some (vI r))) M := by
  show ax_Ex G tX14_around d 0 [some (vR 203), some (vI a1), some (vI a2), none, none, none, none] [] M _ _
  unfold fX14_around at hf
  refine x_iload_n (pc := 0) dX14_around_0 rfl ?_
  refine x_aload_n (pc := 1) dX14_around_1 rfl ?_
  refine x_getF (t := 12) (j := 12) (r := 208) (pc := 2) dX14_around_2 (axH hG rfl) (axEx hG rfl) rfl (by decide) (by decide) rfl rfl WF_X14_29 ?_
  refine x_getIN (t := 11) (j := 0) (pc := 5) dX14_around_5 (axEx hG rfl) rfl (by decide) (by decide) rfl NF_X14_208 ?_
  by_cases h101 : ¬ (mI M 208 0) = 0
  · replace hf := (if_pos h101).symm.trans hf
    refine x_iremT (pc := 8) dX14_around_8 h101 ?_
    refine x_gets (v := vR 3) _ (pc := 9) dX14_around_9 (axS_mem (n := 2) rfl) rfl trivial WF_X14_278 ?_
    refine x_iload_n (pc := 12) dX14_around_12 rfl ?_
    by_cases h102 : 0 ≤ a2 ∧ a2 < 6
    · replace hf := (if_pos h102).symm.trans hf
      refine x_cald2 cA3 (pc := 13) dX14_around_13 cA3_K cA3_in h102.1 (by have e9 : (cA3.length : Int) = 6 := rfl; have := h102.2; omega) ?_
      refine x_iaddw (pc := 14) dX14_around_14 ?_
      refine x_istore_n (ls' := [some (vR 203), some (vI a1), some (vI a2), some (vI (wr ((Int.tmod a1 (mI M 208 0)) + (cA3.getD (Int.toNat a2) 0)))), none, none, none]) (pc := 15) dX14_around_15 (Nat.le_of_ble_eq_true rfl) rfl rfl ?_
      refine x_iload_n (pc := 16) dX14_around_16 rfl ?_
      refine x_aload_n (pc := 17) dX14_around_17 rfl ?_
      refine x_getF (t := 12) (j := 12) (r := 208) (pc := 18) dX14_around_18 (axH hG rfl) (axEx hG rfl) rfl (by decide) (by decide) rfl rfl WF_X14_29 ?_
      refine x_getIN (t := 11) (j := 0) (pc := 21) dX14_around_21 (axEx hG rfl) rfl (by decide) (by decide) rfl NF_X14_208 ?_
      refine x_idivT (pc := 24) dX14_around_24 (by omega) ?_
      refine x_gets (v := vR 4) _ (pc := 25) dX14_around_25 (axS_mem (n := 3) rfl) rfl trivial WF_X14_281 ?_
      refine x_iload_n (pc := 28) dX14_around_28 rfl ?_
      refine x_cald2 cA4 (pc := 29) dX14_around_29 cA4_K cA4_in (by omega) (by have e9 : (cA4.length : Int) = 6 := rfl; omega) ?_
      refine x_iaddw (pc := 30) dX14_around_30 ?_
      refine x_istore (ls' := [some (vR 203), some (vI a1), some (vI a2), some (vI (wr ((Int.tmod a1 (mI M 208 0)) + (cA3.getD (Int.toNat a2) 0)))), some (vI (wr ((wr (Int.tdiv a1 (mI M 208 0))) + (cA4.getD (Int.toNat a2) 0)))), none, none]) (pc := 31) dX14_around_31 (Nat.le_of_ble_eq_true rfl) rfl rfl ?_
      refine x_iload_n (pc := 33) dX14_around_33 rfl ?_
      refine x_iconst (pc := 34) dX14_around_34 ⟨by decide, by decide⟩ ?_
      refine x_aload_n (pc := 35) dX14_around_35 rfl ?_
      refine x_getF (t := 12) (j := 12) (r := 208) (pc := 36) dX14_around_36 (axH hG rfl) (axEx hG rfl) rfl (by decide) (by decide) rfl rfl WF_X14_29 ?_
      refine x_getIN (t := 11) (j := 0) (pc := 39) dX14_around_39 (axEx hG rfl) rfl (by decide) (by decide) rfl NF_X14_208 ?_
      refine x_iconst (pc := 42) dX14_around_42 ⟨by decide, by decide⟩ ?_
      refine x_isubw (pc := 43) dX14_around_43 ?_
      refine x_cr (v := vI (fX14_isIn M (wr ((Int.tmod a1 (mI M 208 0)) + (cA3.getD (Int.toNat a2) 0))) 0 (wr ((mI M 208 0) - 1)))) (vs := [vI (wr ((Int.tmod a1 (mI M 208 0)) + (cA3.getD (Int.toNat a2) 0))), vI 0, vI (wr ((mI M 208 0) - 1))]) (rest := []) (k := 0) rfl (by omega) (ax_caS (pc := 44) dX14_around_44 kX14_isIn rfl rfl WM_X14_76 WT_X14_isIn WN_X14 (Nat.le_of_ble_eq_true rfl)) kX14_isIn rfl (Z_X14_isIn rfl) (T_X14_isIn (by omega) hG rfl) ?_
      refine x_istore (ls' := [some (vR 203), some (vI a1), some (vI a2), some (vI (wr ((Int.tmod a1 (mI M 208 0)) + (cA3.getD (Int.toNat a2) 0)))), some (vI (wr ((wr (Int.tdiv a1 (mI M 208 0))) + (cA4.getD (Int.toNat a2) 0)))), some (vI (fX14_isIn M (wr ((Int.tmod a1 (mI M 208 0)) + (cA3.getD (Int.toNat a2) 0))) 0 (wr ((mI M 208 0) - 1)))), none]) (pc := 47) dX14_around_47 (Nat.le_of_ble_eq_true rfl) rfl rfl ?_
      refine x_iload (pc := 49) dX14_around_49 rfl ?_
      refine x_iconst (pc := 51) dX14_around_51 ⟨by decide, by decide⟩ ?_
      refine x_aload_n (pc := 52) dX14_around_52 rfl ?_
      refine x_getF (t := 12) (j := 12) (r := 208) (pc := 53) dX14_around_53 (axH hG rfl) (axEx hG rfl) rfl (by decide) (by decide) rfl rfl WF_X14_29 ?_
      refine x_getIN (t := 11) (j := 1) (pc := 56) dX14_around_56 (axEx hG rfl) rfl (by decide) (by decide) rfl NF_X14_211 ?_
      refine x_iconst (pc := 59) dX14_around_59 ⟨by decide, by decide⟩ ?_
      refine x_isubw (pc := 60) dX14_around_60 ?_
      refine x_cr (v := vI (fX14_isIn M (wr ((wr (Int.tdiv a1 (mI M 208 0))) + (cA4.getD (Int.toNat a2) 0))) 0 (wr ((mI M 208 1) - 1)))) (vs := [vI (wr ((wr (Int.tdiv a1 (mI M 208 0))) + (cA4.getD (Int.toNat a2) 0))), vI 0, vI (wr ((mI M 208 1) - 1))]) (rest := []) (k := 0) rfl (by omega) (ax_caS (pc := 61) dX14_around_61 kX14_isIn rfl rfl WM_X14_76 WT_X14_isIn WN_X14 (Nat.le_of_ble_eq_true rfl)) kX14_isIn rfl (Z_X14_isIn rfl) (T_X14_isIn (by omega) hG rfl) ?_
      refine x_istore (ls' := [some (vR 203), some (vI a1), some (vI a2), some (vI (wr ((Int.tmod a1 (mI M 208 0)) + (cA3.getD (Int.toNat a2) 0)))), some (vI (wr ((wr (Int.tdiv a1 (mI M 208 0))) + (cA4.getD (Int.toNat a2) 0)))), some (vI (fX14_isIn M (wr ((Int.tmod a1 (mI M 208 0)) + (cA3.getD (Int.toNat a2) 0))) 0 (wr ((mI M 208 0) - 1)))), some (vI (fX14_isIn M (wr ((wr (Int.tdiv a1 (mI M 208 0))) + (cA4.getD (Int.toNat a2) 0))) 0 (wr ((mI M 208 1) - 1))))]) (pc := 64) dX14_around_64 (Nat.le_of_ble_eq_true rfl) rfl rfl ?_
      refine x_iload (pc := 66) dX14_around_66 rfl ?_
      refine x_ifeq (tgt := 89) (pc := 68) dX14_around_68 rfl (fun h103 => ?_) (fun h103 => ?_)
      · replace hf := (if_pos h103).symm.trans hf
        refine x_iload (pc := 89) dX14_around_89 rfl ?_
        refine x_ifeq (tgt := 98) (pc := 91) dX14_around_91 rfl (fun h104 => ?_) (fun h104 => ?_)
        · replace hf := (if_pos h104).symm.trans hf
          refine x_iload (pc := 98) dX14_around_98 rfl ?_
          refine x_ifeq (tgt := 107) (pc := 100) dX14_around_100 rfl (fun h105 => ?_) (fun h105 => absurd h105 (by omega))
          refine x_iconst (pc := 107) dX14_around_107 ⟨by decide, by decide⟩ ?_
          cases hf
          exact x_retI (pc := 108) dX14_around_108
        · replace hf := (if_neg h104).symm.trans hf
          refine x_iconst (pc := 94) dX14_around_94 ⟨by decide, by decide⟩ ?_
          refine x_goto (tgt := 108) (pc := 95) dX14_around_95 rfl ?_
          cases hf
          exact x_retI (pc := 108) dX14_around_108
      · replace hf := (if_neg h103).symm.trans hf
        refine x_iload (pc := 71) dX14_around_71 rfl ?_
        refine x_ifeq (tgt := 89) (pc := 73) dX14_around_73 rfl (fun h106 => ?_) (fun h106 => ?_)
        · replace hf := (if_pos h106).symm.trans hf
          refine x_iload (pc := 89) dX14_around_89 rfl ?_
          refine x_ifeq (tgt := 98) (pc := 91) dX14_around_91 rfl (fun h107 => ?_) (fun h107 => absurd h107 (by omega))
          refine x_iload (pc := 98) dX14_around_98 rfl ?_
          refine x_ifeq (tgt := 107) (pc := 100) dX14_around_100 rfl (fun h108 => absurd h108 (by omega)) (fun h108 => ?_)
          refine x_iconst (pc := 103) dX14_around_103 ⟨by decide, by decide⟩ ?_
          refine x_goto (tgt := 108) (pc := 104) dX14_around_104 rfl ?_
          cases hf
          exact x_retI (pc := 108) dX14_around_108
        · replace hf := (if_neg h106).symm.trans hf
          refine x_aload_n (pc := 76) dX14_around_76 rfl ?_
          refine x_getF (t := 12) (j := 15) (r := 233) (pc := 77) dX14_around_77 (axH hG rfl) (axEx hG rfl) rfl (by decide) (by decide) rfl rfl WF_X14_39 ?_
          refine x_aload_n (pc := 80) dX14_around_80 rfl ?_
          refine x_iload_n (pc := 81) dX14_around_81 rfl ?_
          refine x_iload (pc := 82) dX14_around_82 rfl ?_
          refine x_cr (v := vI (fX14_at M (wr ((Int.tmod a1 (mI M 208 0)) + (cA3.getD (Int.toNat a2) 0))) (wr ((wr (Int.tdiv a1 (mI M 208 0))) + (cA4.getD (Int.toNat a2) 0))))) (vs := [vR 203, vI (wr ((Int.tmod a1 (mI M 208 0)) + (cA3.getD (Int.toNat a2) 0))), vI (wr ((wr (Int.tdiv a1 (mI M 208 0))) + (cA4.getD (Int.toNat a2) 0)))]) (rest := [vR 233]) (k := 0) rfl (by omega) (ax_caV (pc := 84) dX14_around_84 kX14_at rfl rfl WM_X14_288 WI_X14_at WS_X14_at WN_X14 (ax_rcO (t := 12) (axEx hG rfl) rfl (by decide)) (Nat.le_of_ble_eq_true rfl)) kX14_at rfl True.intro (T_X14_at (by omega) hG rfl) ?_
          by_cases h109 : 0 ≤ (fX14_at M (wr ((Int.tmod a1 (mI M 208 0)) + (cA3.getD (Int.toNat a2) 0))) (wr ((wr (Int.tdiv a1 (mI M 208 0))) + (cA4.getD (Int.toNat a2) 0)))) ∧ (fX14_at M (wr ((Int.tmod a1 (mI M 208 0)) + (cA3.getD (Int.toNat a2) 0))) (wr ((wr (Int.tdiv a1 (mI M 208 0))) + (cA4.getD (Int.toNat a2) 0)))) < 81
          · replace hf := (if_pos h109).symm.trans hf
            refine x_iald2 (n := 81) (pc := 87) dX14_around_87 (axEx hG rfl) rfl h109.1 h109.2 ?_
            cases hf
            exact x_retI (pc := 88) dX14_around_88
          · replace hf := (if_neg h109).symm.trans hf
            cases hf
    · replace hf := (if_neg h102).symm.trans hf
      cases hf
  · replace hf := (if_neg h101).symm.trans hf
    cases hf
/- HexPondModel.frozen(I)Z -/
def fX14_frozen_b14 (M : ax_M) (x1 : Int) (v2 : Int) : Option ((Int × ax_M) ⊕ ax_M) :=
  (if v2 < 6 then (bd1 (fX14_around M x1 v2) fun v106 => (if 0 ≤ v2 ∧ v2 < 6 then (some (.inl ((v2 + 1), (mUI M 242 (Int.toNat v2) v106)))) else none)) else (some (.inr M)))
def fX14_frozen_b48 (M : ax_M) (x2 : Int) (v3 : Int) : Option (Int ⊕ Int) :=
  (if v3 < 4 then (if 0 ≤ x2 ∧ x2 < 6 then (if (mI M 242 (Int.toNat x2)) = (-1) then (some (.inr v3)) else (if 0 ≤ (Int.tmod (x2 + v3) 6) ∧ (Int.tmod (x2 + v3) 6) < 6 then (if (mI M 242 (Int.toNat (Int.tmod (x2 + v3) 6))) = (mI M 242 (Int.toNat x2)) then (some (.inl (v3 + 1))) else (some (.inr v3))) else none)) else none) else (some (.inr v3)))
def fX14_frozen_b40 (M : ax_M) (v2 : Int) : Option (Int ⊕ (Unit ⊕ Unit)) :=
  (if v2 < 6 then (bd1 (lp (fun s => fX14_frozen_b48 M v2 s) lpN 0) fun t118 => (if t118 = 4 then (some (.inr (.inl ()))) else (some (.inl (v2 + 1))))) else (some (.inr (.inr ()))))
def fX14_frozen (M : ax_M) (a1 : Int) : Option (Int × ax_M) :=
  (if 0 ≤ a1 ∧ a1 < 81 then (if (mI M 233 (Int.toNat a1)) = (-1) then (bd1 (lp (fun s => fX14_frozen_b14 s.2 a1 s.1) lpN (0, M)) fun t108 => (bdS (lp (fun s => fX14_frozen_b40 t108 s) lpN 0) (fun t121 => (some (1, t108))) (fun t123 => (some (0, t108))))) else (some (0, M))) else none)
theorem B_X14_frozen_14 {G : ax_G} {d : Nat} (hd : 2 ≤ d) (hG : axPs G 150 244) {M : ax_M} {x1 : Int} {v2 : Int} {o : Option ax_V ⊕ String} {M' : ax_M} {y : (Int × ax_M) ⊕ ax_M} (hf : fX14_frozen_b14 M x1 v2 = some y) (h1 : ∀ s', y = .inl s' → ax_Ex G tX14_frozen d 14 [some (vR 203), some (vI x1), some (vI s'.1), none] [] s'.2 o M') (h2a : ∀ t, y = .inr t → ax_Ex G tX14_frozen d 38 [some (vR 203), some (vI x1), none, none] [] t o M') : ax_Ex G tX14_frozen d 14 [some (vR 203), some (vI x1), some (vI v2), none] [] M o M' := by
  unfold fX14_frozen_b14 at hf
  refine x_iload_n (pc := 14) dX14_frozen_14 rfl ?_
  refine x_bipush (pc := 15) dX14_frozen_15 (by decide) ⟨by decide, by decide⟩ ?_
  refine ax_cmp (fun b104a b104b b104c b104e => ?_)
  refine x_icmpge (tgt := 38) (pc := 17) dX14_frozen_17 rfl (fun h103 => ?_) (fun h103 => ?_)
  · replace hf := (if_neg (Int.not_lt.mpr h103)).symm.trans hf
    cases hf
    exact x_fgt (axS' (axS' (axN' (axN' axD)))) (h2a _ rfl)
  · replace hf := (if_pos h103).symm.trans hf
    refine x_aload_n (pc := 20) dX14_frozen_20 rfl ?_
    refine x_getF (t := 12) (j := 26) (r := 242) (pc := 21) dX14_frozen_21 (axH hG rfl) (axEx hG rfl) rfl (by decide) (by decide) rfl rfl WF_X14_67 ?_
    refine x_iload_n (pc := 24) dX14_frozen_24 rfl ?_
    refine x_aload_n (pc := 25) dX14_frozen_25 rfl ?_
    refine x_iload_n (pc := 26) dX14_frozen_26 rfl ?_
    refine x_iload_n (pc := 27) dX14_frozen_27 rfl ?_
    obtain ⟨v106, r105, hf⟩ := bd1_some hf
    refine x_cr (v := vI v106) (vs := [vR 203, vI x1, vI v2]) (rest := [vI v2, vR 242]) (k := 4) rfl (by omega) (ax_caV (pc := 28) dX14_frozen_28 kX14_around rfl rfl WM_X14_317 WI_X14_around WS_X14_around WN_X14 (ax_rcO (t := 12) (axEx hG rfl) rfl (by decide)) (Nat.le_of_ble_eq_true rfl)) kX14_around rfl True.intro (T_X14_around (by omega) hG r105) ?_
    by_cases h107 : 0 ≤ v2 ∧ v2 < 6
    · replace hf := (if_pos h107).symm.trans hf
      refine x_iast2 (n := 6) (pc := 31) dX14_frozen_31 (axEx hG rfl) rfl h107.1 h107.2 ?_
      refine x_iinc (z := (v2 + 1)) (ls' := [some (vR 203), some (vI x1), some (vI (v2 + 1)), none]) (pc := 32) dX14_frozen_32 rfl (Nat.le_of_ble_eq_true rfl) rfl rfl (ax_i (by omega) (by omega)) rfl ?_
      refine x_goto (tgt := 14) (pc := 35) dX14_frozen_35 rfl ?_
      cases hf
      exact h1 _ rfl
    · replace hf := (if_neg h107).symm.trans hf
      cases hf
theorem B_X14_frozen_48 {G : ax_G} {d : Nat} (hd : 2 ≤ d) (hG : axPs G 150 244) {M : ax_M} {x2 : Int} {v3 : Int} {o : Option ax_V ⊕ String} {M' : ax_M} {y : Int ⊕ Int} (hf : fX14_frozen_b48 M x2 v3 = some y) (h1 : ∀ s', y = .inl s' → ax_Ex G tX14_frozen d 48 [some (vR 203), none, some (vI x2), some (vI s')] [] M o M') (h2a : ∀ t, y = .inr t → ax_Ex G tX14_frozen d 89 [some (vR 203), none, some (vI x2), some (vI t)] [] M o M') : ax_Ex G tX14_frozen d 48 [some (vR 203), none, some (vI x2), some (vI v3)] [] M o M' := by
  unfold fX14_frozen_b48 at hf
  refine x_iload_n (pc := 48) dX14_frozen_48 rfl ?_
  refine x_iconst (pc := 49) dX14_frozen_49 ⟨by decide, by decide⟩ ?_
  refine ax_cmp (fun b113a b113b b113c b113e => ?_)
  refine x_icmpge (tgt := 89) (pc := 50) dX14_frozen_50 rfl (fun h112 => ?_) (fun h112 => ?_)
  · replace hf := (if_neg (Int.not_lt.mpr h112)).symm.trans hf
    cases hf
    exact h2a _ rfl
  · replace hf := (if_pos h112).symm.trans hf
    refine x_aload_n (pc := 53) dX14_frozen_53 rfl ?_
    refine x_getF (t := 12) (j := 26) (r := 242) (pc := 54) dX14_frozen_54 (axH hG rfl) (axEx hG rfl) rfl (by decide) (by decide) rfl rfl WF_X14_67 ?_
    refine x_iload_n (pc := 57) dX14_frozen_57 rfl ?_
    by_cases h114 : 0 ≤ x2 ∧ x2 < 6
    · replace hf := (if_pos h114).symm.trans hf
      refine x_iald2 (n := 6) (pc := 58) dX14_frozen_58 (axEx hG rfl) rfl h114.1 h114.2 ?_
      refine x_iconst (pc := 59) dX14_frozen_59 ⟨by decide, by decide⟩ ?_
      refine x_icmpeq (tgt := 89) (pc := 60) dX14_frozen_60 rfl (fun h115 => ?_) (fun h115 => ?_)
      · replace hf := (if_pos h115).symm.trans hf
        cases hf
        exact h2a _ rfl
      · replace hf := (if_neg h115).symm.trans hf
        refine x_aload_n (pc := 63) dX14_frozen_63 rfl ?_
        refine x_getF (t := 12) (j := 26) (r := 242) (pc := 64) dX14_frozen_64 (axH hG rfl) (axEx hG rfl) rfl (by decide) (by decide) rfl rfl WF_X14_67 ?_
        refine x_iload_n (pc := 67) dX14_frozen_67 rfl ?_
        refine x_iload_n (pc := 68) dX14_frozen_68 rfl ?_
        refine x_iadd (z := (x2 + v3)) (pc := 69) dX14_frozen_69 rfl (ax_i (by omega) (by omega)) ?_
        refine x_bipush (pc := 70) dX14_frozen_70 (by decide) ⟨by decide, by decide⟩ ?_
        refine x_iremT (pc := 72) dX14_frozen_72 (by omega) ?_
        by_cases h116 : 0 ≤ (Int.tmod (x2 + v3) 6) ∧ (Int.tmod (x2 + v3) 6) < 6
        · replace hf := (if_pos h116).symm.trans hf
          refine x_iald2 (n := 6) (pc := 73) dX14_frozen_73 (axEx hG rfl) rfl h116.1 h116.2 ?_
          refine x_aload_n (pc := 74) dX14_frozen_74 rfl ?_
          refine x_getF (t := 12) (j := 26) (r := 242) (pc := 75) dX14_frozen_75 (axH hG rfl) (axEx hG rfl) rfl (by decide) (by decide) rfl rfl WF_X14_67 ?_
          refine x_iload_n (pc := 78) dX14_frozen_78 rfl ?_
          refine x_iald2 (n := 6) (pc := 79) dX14_frozen_79 (axEx hG rfl) rfl (by omega) (by omega) ?_
          refine x_icmpne (tgt := 89) (pc := 80) dX14_frozen_80 rfl (fun h117 => ?_) (fun h117 => ?_)
          · replace hf := (if_neg h117).symm.trans hf
            cases hf
            exact h2a _ rfl
          · replace hf := (if_pos h117).symm.trans hf
            refine x_iinc (z := (v3 + 1)) (ls' := [some (vR 203), none, some (vI x2), some (vI (v3 + 1))]) (pc := 83) dX14_frozen_83 rfl (Nat.le_of_ble_eq_true rfl) rfl rfl (ax_i (by omega) (by omega)) rfl ?_
            refine x_goto (tgt := 48) (pc := 86) dX14_frozen_86 rfl ?_
            cases hf
            exact h1 _ rfl
        · replace hf := (if_neg h116).symm.trans hf
          cases hf
    · replace hf := (if_neg h114).symm.trans hf
      cases hf
theorem B_X14_frozen_40 {G : ax_G} {d : Nat} (hd : 2 ≤ d) (hG : axPs G 150 244) {M : ax_M} {v2 : Int} {o : Option ax_V ⊕ String} {M' : ax_M} {y : Int ⊕ (Unit ⊕ Unit)} (hf : fX14_frozen_b40 M v2 = some y) (h1 : ∀ s', y = .inl s' → ax_Ex G tX14_frozen d 40 [some (vR 203), none, some (vI s'), none] [] M o M') (h2a : ∀ t, y = .inr (.inl t) → ax_Ex G tX14_frozen d 94 [some (vR 203), none, none, none] [] M o M') (h2b : ∀ t, y = .inr (.inr t) → ax_Ex G tX14_frozen d 102 [some (vR 203), none, none, none] [] M o M') : ax_Ex G tX14_frozen d 40 [some (vR 203), none, some (vI v2), none] [] M o M' := by
  unfold fX14_frozen_b40 at hf
  refine x_iload_n (pc := 40) dX14_frozen_40 rfl ?_
  refine x_bipush (pc := 41) dX14_frozen_41 (by decide) ⟨by decide, by decide⟩ ?_
  refine ax_cmp (fun b111a b111b b111c b111e => ?_)
  refine x_icmpge (tgt := 102) (pc := 43) dX14_frozen_43 rfl (fun h110 => ?_) (fun h110 => ?_)
  · replace hf := (if_neg (Int.not_lt.mpr h110)).symm.trans hf
    cases hf
    exact x_fgt (axS' (axN' (axN' (axN' axD)))) (h2b _ rfl)
  · replace hf := (if_pos h110).symm.trans hf
    refine x_iconst (pc := 46) dX14_frozen_46 ⟨by decide, by decide⟩ ?_
    refine x_istore_n (ls' := [some (vR 203), none, some (vI v2), some (vI 0)]) (pc := 47) dX14_frozen_47 (Nat.le_of_ble_eq_true rfl) rfl rfl ?_
    obtain ⟨t118, t119, hf⟩ := bd1_some hf
    refine lp_ex (P := (fun s => ax_Ex G tX14_frozen d 48 [some (vR 203), none, some (vI v2), some (vI s)] [] M _ _)) (K := (fun t => ax_Ex G tX14_frozen d 89 [some (vR 203), none, some (vI v2), some (vI t)] [] M _ _)) (fun s y hy h1 h2 => B_X14_frozen_48 (by omega) hG hy (fun s' e => h1 s' e) (fun t e => h2 t e)) _ _ _ t119 ?_
    refine x_iload_n (pc := 89) dX14_frozen_89 rfl ?_
    refine x_iconst (pc := 90) dX14_frozen_90 ⟨by decide, by decide⟩ ?_
    refine x_icmpne (tgt := 96) (pc := 91) dX14_frozen_91 rfl (fun h120 => ?_) (fun h120 => ?_)
    · replace hf := (if_neg h120).symm.trans hf
      refine x_iinc (z := (v2 + 1)) (ls' := [some (vR 203), none, some (vI (v2 + 1)), some (vI t118)]) (pc := 96) dX14_frozen_96 rfl (Nat.le_of_ble_eq_true rfl) rfl rfl (ax_i (by omega) (by omega)) rfl ?_
      refine x_goto (tgt := 40) (pc := 99) dX14_frozen_99 rfl ?_
      cases hf
      exact x_fgt (axS' (axN' (axS' (axN' axD)))) (h1 _ rfl)
    · replace hf := (if_pos h120).symm.trans hf
      cases hf
      exact x_fgt (axS' (axN' (axN' (axN' axD)))) (h2a _ rfl)
theorem T_X14_frozen {G : ax_G} {d : Nat} (hd : 2 ≤ d) (hG : axPs G 150 244) {M : ax_M} {a1 : Int} {r : Int} {M1 : ax_M} (hf : fX14_frozen M a1 = some (r, M1)) : ax_Ex G tX14_frozen d 0 (ax_args [vR 203, vI a1] ++ List.replicate 2 none) [] M (.inl (some (vI r))) M1 := by
  show ax_Ex G tX14_frozen d 0 [some (vR 203), some (vI a1), none, none] [] M _ _
  unfold fX14_frozen at hf
  refine x_aload_n (pc := 0) dX14_frozen_0 rfl ?_
  refine x_getF (t := 12) (j := 15) (r := 233) (pc := 1) dX14_frozen_1 (axH hG rfl) (axEx hG rfl) rfl (by decide) (by decide) rfl rfl WF_X14_39 ?_
  refine x_iload_n (pc := 4) dX14_frozen_4 rfl ?_
  by_cases h101 : 0 ≤ a1 ∧ a1 < 81
  · replace hf := (if_pos h101).symm.trans hf
    refine x_iald2 (n := 81) (pc := 5) dX14_frozen_5 (axEx hG rfl) rfl h101.1 h101.2 ?_
    refine x_iconst (pc := 6) dX14_frozen_6 ⟨by decide, by decide⟩ ?_
    refine x_icmpeq (tgt := 12) (pc := 7) dX14_frozen_7 rfl (fun h102 => ?_) (fun h102 => ?_)
    · replace hf := (if_pos h102).symm.trans hf
      refine x_iconst (pc := 12) dX14_frozen_12 ⟨by decide, by decide⟩ ?_
      refine x_istore_n (ls' := [some (vR 203), some (vI a1), some (vI 0), none]) (pc := 13) dX14_frozen_13 (Nat.le_of_ble_eq_true rfl) rfl rfl ?_
      obtain ⟨t108, t109, hf⟩ := bd1_some hf
      refine lp_ex (P := (fun s => ax_Ex G tX14_frozen d 14 [some (vR 203), some (vI a1), some (vI s.1), none] [] s.2 _ _)) (K := (fun t => ax_Ex G tX14_frozen d 38 [some (vR 203), some (vI a1), none, none] [] t _ _)) (fun s y hy h1 h2 => B_X14_frozen_14 (by omega) hG hy (fun s' e => h1 s' e) (fun t e => h2 t e)) _ _ _ t109 ?_
      refine x_iconst (pc := 38) dX14_frozen_38 ⟨by decide, by decide⟩ ?_
      refine x_istore_n (ls' := [some (vR 203), some (vI a1), some (vI 0), none]) (pc := 39) dX14_frozen_39 (Nat.le_of_ble_eq_true rfl) rfl rfl ?_
      rcases bdS_some hf with ⟨t121, t122, hf⟩ | ⟨t123, t124, hf⟩
      · refine x_fgt (axS' (axN' (axS' (axN' axD)))) (lp_ex (P := (fun s => ax_Ex G tX14_frozen d 40 [some (vR 203), none, some (vI s), none] [] t108 _ _)) (K := (fun r => (∀ t, r = .inl t → ax_Ex G tX14_frozen d 94 [some (vR 203), none, none, none] [] t108 _ _) ∧ (∀ t, r = .inr t → ax_Ex G tX14_frozen d 102 [some (vR 203), none, none, none] [] t108 _ _))) (fun s y hy h1 h2 => B_X14_frozen_40 (by omega) hG hy (fun s' e => h1 s' e) (fun t e => (h2 _ e).1 t rfl) (fun t e => (h2 _ e).2 t rfl)) _ _ _ t122 ?_)
        refine ⟨fun t e => ?_, fun t e => (by cases e)⟩
        cases e
        refine x_iconst (pc := 94) dX14_frozen_94 ⟨by decide, by decide⟩ ?_
        cases hf
        exact x_retI (pc := 95) dX14_frozen_95
      · refine x_fgt (axS' (axN' (axS' (axN' axD)))) (lp_ex (P := (fun s => ax_Ex G tX14_frozen d 40 [some (vR 203), none, some (vI s), none] [] t108 _ _)) (K := (fun r => (∀ t, r = .inl t → ax_Ex G tX14_frozen d 94 [some (vR 203), none, none, none] [] t108 _ _) ∧ (∀ t, r = .inr t → ax_Ex G tX14_frozen d 102 [some (vR 203), none, none, none] [] t108 _ _))) (fun s y hy h1 h2 => B_X14_frozen_40 (by omega) hG hy (fun s' e => h1 s' e) (fun t e => (h2 _ e).1 t rfl) (fun t e => (h2 _ e).2 t rfl)) _ _ _ t124 ?_)
        refine ⟨fun t e => (by cases e), fun t e => ?_⟩
        cases e
        refine x_iconst (pc := 102) dX14_frozen_102 ⟨by decide, by decide⟩ ?_
        cases hf
        exact x_retI (pc := 103) dX14_frozen_103
    · replace hf := (if_neg h102).symm.trans hf
      refine x_iconst (pc := 10) dX14_frozen_10 ⟨by decide, by decide⟩ ?_
      cases hf
      exact x_retI (pc := 11) dX14_frozen_11
  · replace hf := (if_neg h101).symm.trans hf
    cases hf
theorem Z_X14_frozen {M : ax_M} {a1 : Int} {r : Int} {M1 : ax_M} (hf : fX14_frozen M a1 = some (r, M1)) : r = 0 ∨ r = 1 := by
  unfold fX14_frozen at hf
  by_cases h101 : 0 ≤ a1 ∧ a1 < 81
  · replace hf := (if_pos h101).symm.trans hf
    by_cases h102 : (mI M 233 (Int.toNat a1)) = (-1)
    · replace hf := (if_pos h102).symm.trans hf
      obtain ⟨t108, t109, hf⟩ := bd1_some hf
      rcases bdS_some hf with ⟨t121, t122, hf⟩ | ⟨t123, t124, hf⟩
      · skip
        cases hf
        exact Or.inr rfl
      · skip
        cases hf
        exact Or.inl rfl
    · replace hf := (if_neg h102).symm.trans hf
      cases hf
      exact Or.inl rfl
  · replace hf := (if_neg h101).symm.trans hf
    cases hf
/- HexPondModel.allFrozen()I -/
def fX14_allFrozen_b4 (M : ax_M) (v1 : Int) (v2 : Int) : Option ((Int × Int × ax_M) ⊕ (Int × ax_M)) :=
  (if v2 < (fX14_cells M) then (bd2 (fX14_frozen M v2) fun v105 M104 => (if v105 = 0 then (some (.inl ((wr (v1 + 0)), (v2 + 1), M104))) else (some (.inl ((wr (v1 + 1)), (v2 + 1), M104))))) else (some (.inr (v1, M))))
def fX14_allFrozen (M : ax_M) : Option (Int × ax_M) :=
  (bd1 (lp (fun s => fX14_allFrozen_b4 s.2.2 s.1 s.2.1) lpN (0, 0, M)) fun t107 => (some (t107.1, t107.2)))
theorem B_X14_allFrozen_4 {G : ax_G} {d : Nat} (hd : 3 ≤ d) (hG : axPs G 150 244) {M : ax_M} {v1 : Int} {v2 : Int} {o : Option ax_V ⊕ String} {M' : ax_M} {y : (Int × Int × ax_M) ⊕ (Int × ax_M)} (hf : fX14_allFrozen_b4 M v1 v2 = some y) (h1 : ∀ s', y = .inl s' → ax_Ex G tX14_allFrozen d 4 [some (vR 203), some (vI s'.1), some (vI s'.2.1)] [] s'.2.2 o M') (h2a : ∀ t, y = .inr t → ax_Ex G tX14_allFrozen d 34 [some (vR 203), some (vI t.1), none] [] t.2 o M') : ax_Ex G tX14_allFrozen d 4 [some (vR 203), some (vI v1), some (vI v2)] [] M o M' := by
  unfold fX14_allFrozen_b4 at hf
  refine x_iload_n (pc := 4) dX14_allFrozen_4 rfl ?_
  refine x_aload_n (pc := 5) dX14_allFrozen_5 rfl ?_
  refine x_cr (v := vI (fX14_cells M)) (vs := [vR 203]) (rest := [vI v2]) (k := 0) rfl (by omega) (ax_caV (pc := 6) dX14_allFrozen_6 kX14_cells rfl rfl WM_X14_275 WI_X14_cells WS_X14_cells WN_X14 (ax_rcO (t := 12) (axEx hG rfl) rfl (by decide)) (Nat.le_of_ble_eq_true rfl)) kX14_cells rfl True.intro (T_X14_cells (by omega) hG rfl) ?_
  refine ax_cmp (fun b102a b102b b102c b102e => ?_)
  refine x_icmpge (tgt := 34) (pc := 9) dX14_allFrozen_9 rfl (fun h101 => ?_) (fun h101 => ?_)
  · replace hf := (if_neg (Int.not_lt.mpr h101)).symm.trans hf
    cases hf
    exact x_fgt (axS' (axS' (axN' axD))) (h2a _ rfl)
  · replace hf := (if_pos h101).symm.trans hf
    refine x_iload_n (pc := 12) dX14_allFrozen_12 rfl ?_
    refine x_aload_n (pc := 13) dX14_allFrozen_13 rfl ?_
    refine x_iload_n (pc := 14) dX14_allFrozen_14 rfl ?_
    obtain ⟨v105, M104, r103, hf⟩ := bd2_some hf
    refine x_cr (v := vI v105) (vs := [vR 203, vI v2]) (rest := [vI v1]) (k := 2) rfl (by omega) (ax_caV (pc := 15) dX14_allFrozen_15 kX14_frozen rfl rfl WM_X14_320 WI_X14_frozen WS_X14_frozen WN_X14 (ax_rcO (t := 12) (axEx hG rfl) rfl (by decide)) (Nat.le_of_ble_eq_true rfl)) kX14_frozen rfl (Z_X14_frozen r103) (T_X14_frozen (by omega) hG r103) ?_
    refine x_ifeq (tgt := 25) (pc := 18) dX14_allFrozen_18 rfl (fun h106 => ?_) (fun h106 => ?_)
    · replace hf := (if_pos h106).symm.trans hf
      refine x_iconst (pc := 25) dX14_allFrozen_25 ⟨by decide, by decide⟩ ?_
      refine x_iaddw (pc := 26) dX14_allFrozen_26 ?_
      refine x_istore_n (ls' := [some (vR 203), some (vI (wr (v1 + 0))), some (vI v2)]) (pc := 27) dX14_allFrozen_27 (Nat.le_of_ble_eq_true rfl) rfl rfl ?_
      refine x_iinc (z := (v2 + 1)) (ls' := [some (vR 203), some (vI (wr (v1 + 0))), some (vI (v2 + 1))]) (pc := 28) dX14_allFrozen_28 rfl (Nat.le_of_ble_eq_true rfl) rfl rfl (ax_i (by omega) (by omega)) rfl ?_
      refine x_goto (tgt := 4) (pc := 31) dX14_allFrozen_31 rfl ?_
      cases hf
      exact h1 _ rfl
    · replace hf := (if_neg h106).symm.trans hf
      refine x_iconst (pc := 21) dX14_allFrozen_21 ⟨by decide, by decide⟩ ?_
      refine x_goto (tgt := 26) (pc := 22) dX14_allFrozen_22 rfl ?_
      refine x_iaddw (pc := 26) dX14_allFrozen_26 ?_
      refine x_istore_n (ls' := [some (vR 203), some (vI (wr (v1 + 1))), some (vI v2)]) (pc := 27) dX14_allFrozen_27 (Nat.le_of_ble_eq_true rfl) rfl rfl ?_
      refine x_iinc (z := (v2 + 1)) (ls' := [some (vR 203), some (vI (wr (v1 + 1))), some (vI (v2 + 1))]) (pc := 28) dX14_allFrozen_28 rfl (Nat.le_of_ble_eq_true rfl) rfl rfl (ax_i (by omega) (by omega)) rfl ?_
      refine x_goto (tgt := 4) (pc := 31) dX14_allFrozen_31 rfl ?_
      cases hf
      exact h1 _ rfl
theorem T_X14_allFrozen {G : ax_G} {d : Nat} (hd : 3 ≤ d) (hG : axPs G 150 244) {M : ax_M} {r : Int} {M1 : ax_M} (hf : fX14_allFrozen M = some (r, M1)) : ax_Ex G tX14_allFrozen d 0 (ax_args [vR 203] ++ List.replicate 2 none) [] M (.inl (some (vI r))) M1 := by
  show ax_Ex G tX14_allFrozen d 0 [some (vR 203), none, none] [] M _ _
  unfold fX14_allFrozen at hf
  refine x_iconst (pc := 0) dX14_allFrozen_0 ⟨by decide, by decide⟩ ?_
  refine x_istore_n (ls' := [some (vR 203), some (vI 0), none]) (pc := 1) dX14_allFrozen_1 (Nat.le_of_ble_eq_true rfl) rfl rfl ?_
  refine x_iconst (pc := 2) dX14_allFrozen_2 ⟨by decide, by decide⟩ ?_
  refine x_istore_n (ls' := [some (vR 203), some (vI 0), some (vI 0)]) (pc := 3) dX14_allFrozen_3 (Nat.le_of_ble_eq_true rfl) rfl rfl ?_
  obtain ⟨t107, t108, hf⟩ := bd1_some hf
  refine lp_ex (P := (fun s => ax_Ex G tX14_allFrozen d 4 [some (vR 203), some (vI s.1), some (vI s.2.1)] [] s.2.2 _ _)) (K := (fun t => ax_Ex G tX14_allFrozen d 34 [some (vR 203), some (vI t.1), none] [] t.2 _ _)) (fun s y hy h1 h2 => B_X14_allFrozen_4 (by omega) hG hy (fun s' e => h1 s' e) (fun t e => h2 t e)) _ _ _ t108 ?_
  refine x_iload_n (pc := 34) dX14_allFrozen_34 rfl ?_
  cases hf
  exact x_retI (pc := 35) dX14_allFrozen_35
/- HexPondModel.cost(I)I -/
def fX14_cost (M : ax_M) (a1 : Int) : Option Int :=
  (if 0 ≤ a1 ∧ a1 < 81 then (if (mI M 233 (Int.toNat a1)) = (-1) then (some 1) else (some 0)) else none)
theorem T_X14_cost {G : ax_G} {d : Nat} (hd : 0 ≤ d) (hG : axPs G 150 244) {M : ax_M} {a1 : Int} {r : Int} (hf : fX14_cost M a1 = some r) : ax_Ex G tX14_cost d 0 (ax_args [vR 203, vI a1] ++ List.replicate 0 none) [] M (.inl (some (vI r))) M := by
  show ax_Ex G tX14_cost d 0 [some (vR 203), some (vI a1)] [] M _ _
  unfold fX14_cost at hf
  refine x_aload_n (pc := 0) dX14_cost_0 rfl ?_
  refine x_getF (t := 12) (j := 15) (r := 233) (pc := 1) dX14_cost_1 (axH hG rfl) (axEx hG rfl) rfl (by decide) (by decide) rfl rfl WF_X14_39 ?_
  refine x_iload_n (pc := 4) dX14_cost_4 rfl ?_
  by_cases h101 : 0 ≤ a1 ∧ a1 < 81
  · replace hf := (if_pos h101).symm.trans hf
    refine x_iald2 (n := 81) (pc := 5) dX14_cost_5 (axEx hG rfl) rfl h101.1 h101.2 ?_
    refine x_iconst (pc := 6) dX14_cost_6 ⟨by decide, by decide⟩ ?_
    refine x_icmpne (tgt := 14) (pc := 7) dX14_cost_7 rfl (fun h102 => ?_) (fun h102 => ?_)
    · replace hf := (if_neg h102).symm.trans hf
      refine x_iconst (pc := 14) dX14_cost_14 ⟨by decide, by decide⟩ ?_
      cases hf
      exact x_retI (pc := 15) dX14_cost_15
    · replace hf := (if_pos h102).symm.trans hf
      refine x_iconst (pc := 10) dX14_cost_10 ⟨by decide, by decide⟩ ?_
      refine x_goto (tgt := 15) (pc := 11) dX14_cost_11 rfl ?_
      cases hf
      exact x_retI (pc := 15) dX14_cost_15
  · replace hf := (if_neg h101).symm.trans hf
    cases hf
/- HexPondModel.reach([IIZ)V -/
def fX14_reach_b3 (M : ax_M) (x1 : Nat) (x2 : Int) (x3 : Int) (v4 : Int) : Option ((Int × ax_M) ⊕ ax_M) :=
  (if v4 < (fX14_cells M) then (if 0 ≤ v4 ∧ v4 < 81 then (if (mI M 233 (Int.toNat v4)) = (wr (1 - x2)) then (some (.inl ((v4 + 1), (mUI M x1 (Int.toNat v4) 9999)))) else (bd1 (fX14_isShore M v4 x2 x3) fun v106 => (if v106 = 0 then (some (.inl ((v4 + 1), (mUI M x1 (Int.toNat v4) 9999)))) else (bd1 (fX14_cost M v4) fun v109 => (some (.inl ((v4 + 1), (mUI M x1 (Int.toNat v4) v109)))))))) else none) else (some (.inr M)))
def fX14_reach_b84 (M : ax_M) (x1 : Nat) (x2 : Int) (x5 : Int) (v4 : Int) (v6 : Int) : Option ((Int × Int × ax_M) ⊕ (Int × ax_M)) :=
  (if v6 < 6 then (if 0 ≤ x5 ∧ x5 < 81 then (if (mI M 233 (Int.toNat x5)) = (wr (1 - x2)) then (some (.inr (v4, M))) else (bd1 (fX14_beside M x5 v6) fun v120 => (if v120 = (-1) then (some (.inl (v4, (v6 + 1), M))) else (if 0 ≤ v120 ∧ v120 < 81 then (bd1 (fX14_cost M x5) fun v124 => (if (wr ((mI M x1 (Int.toNat v120)) + v124)) < (mI M x1 (Int.toNat x5)) then (bd1 (fX14_cost M x5) fun v128 => (some (.inl (1, (v6 + 1), (mUI M x1 (Int.toNat x5) (wr ((mI M x1 (Int.toNat v120)) + v128))))))) else (some (.inl (v4, (v6 + 1), M))))) else none)))) else none) else (some (.inr (v4, M))))
def fX14_reach_b72 (M : ax_M) (x1 : Nat) (x2 : Int) (v4 : Int) (v5 : Int) : Option ((Int × Int × ax_M) ⊕ (Int × ax_M)) :=
  (if v5 < (fX14_cells M) then (bd1 (lp (fun s => fX14_reach_b84 s.2.2 x1 x2 v5 s.1 s.2.1) lpN (v4, 0, M)) fun t129 => (some (.inl (t129.1, (v5 + 1), t129.2)))) else (some (.inr (v4, M))))
def fX14_reach_b61 (M : ax_M) (x1 : Nat) (x2 : Int) (v4 : Int) : Option ((Int × ax_M) ⊕ ax_M) :=
  (if v4 = 0 then (some (.inr M)) else (bd1 (lp (fun s => fX14_reach_b72 s.2.2 x1 x2 s.1 s.2.1) lpN (0, 0, M)) fun t131 => (some (.inl (t131.1, t131.2)))))
def fX14_reach (M : ax_M) (a1 : Nat) (a2 : Int) (a3 : Int) : Option ax_M :=
  (bd1 (lp (fun s => fX14_reach_b3 s.2 a1 a2 a3 s.1) lpN (0, M)) fun t110 => (bd1 (lp (fun s => fX14_reach_b61 s.2 a1 a2 s.1) lpN (1, t110)) fun t133 => (some t133)))
theorem B_X14_reach_3 {G : ax_G} {d : Nat} (hd : 3 ≤ d) (hG : axPs G 150 244) {M : ax_M} {x1 : Nat} {x2 : Int} {x3 : Int} {v4 : Int} (hy1 : (x1 = 236 ∨ x1 = 237)) {o : Option ax_V ⊕ String} {M' : ax_M} {y : (Int × ax_M) ⊕ ax_M} (hf : fX14_reach_b3 M x1 x2 x3 v4 = some y) (h1 : ∀ s', y = .inl s' → ax_Ex G tX14_reach d 3 [some (vR 203), some (vR x1), some (vI x2), some (vI x3), some (vI s'.1), none, none, none] [] s'.2 o M') (h2a : ∀ t, y = .inr t → ax_Ex G tX14_reach d 58 [some (vR 203), some (vR x1), some (vI x2), some (vI x3), none, none, none, none] [] t o M') : ax_Ex G tX14_reach d 3 [some (vR 203), some (vR x1), some (vI x2), some (vI x3), some (vI v4), none, none, none] [] M o M' := by
  unfold fX14_reach_b3 at hf
  refine x_iload (pc := 3) dX14_reach_3 rfl ?_
  refine x_aload_n (pc := 5) dX14_reach_5 rfl ?_
  refine x_cr (v := vI (fX14_cells M)) (vs := [vR 203]) (rest := [vI v4]) (k := 0) rfl (by omega) (ax_caV (pc := 6) dX14_reach_6 kX14_cells rfl rfl WM_X14_275 WI_X14_cells WS_X14_cells WN_X14 (ax_rcO (t := 12) (axEx hG rfl) rfl (by decide)) (Nat.le_of_ble_eq_true rfl)) kX14_cells rfl True.intro (T_X14_cells (by omega) hG rfl) ?_
  refine ax_cmp (fun b102a b102b b102c b102e => ?_)
  refine x_icmpge (tgt := 58) (pc := 9) dX14_reach_9 rfl (fun h101 => ?_) (fun h101 => ?_)
  · replace hf := (if_neg (Int.not_lt.mpr h101)).symm.trans hf
    cases hf
    exact x_fgt (axS' (axS' (axS' (axS' (axN' (axN' (axN' (axN' axD)))))))) (h2a _ rfl)
  · replace hf := (if_pos h101).symm.trans hf
    refine x_aload_n (pc := 12) dX14_reach_12 rfl ?_
    refine x_iload (pc := 13) dX14_reach_13 rfl ?_
    refine x_aload_n (pc := 15) dX14_reach_15 rfl ?_
    refine x_getF (t := 12) (j := 15) (r := 233) (pc := 16) dX14_reach_16 (axH hG rfl) (axEx hG rfl) rfl (by decide) (by decide) rfl rfl WF_X14_39 ?_
    refine x_iload (pc := 19) dX14_reach_19 rfl ?_
    by_cases h103 : 0 ≤ v4 ∧ v4 < 81
    · replace hf := (if_pos h103).symm.trans hf
      refine x_iald2 (n := 81) (pc := 21) dX14_reach_21 (axEx hG rfl) rfl h103.1 h103.2 ?_
      refine x_iconst (pc := 22) dX14_reach_22 ⟨by decide, by decide⟩ ?_
      refine x_iload_n (pc := 23) dX14_reach_23 rfl ?_
      refine x_isubw (pc := 24) dX14_reach_24 ?_
      refine x_icmpeq (tgt := 48) (pc := 25) dX14_reach_25 rfl (fun h104 => ?_) (fun h104 => ?_)
      · replace hf := (if_pos h104).symm.trans hf
        refine x_sipush (pc := 48) dX14_reach_48 (by decide) ⟨by decide, by decide⟩ ?_
        refine x_iast2 (n := 81) (pc := 51) dX14_reach_51 (by rcases hy1 with rfl | rfl <;> exact axEx hG rfl) (by rcases hy1 with rfl | rfl <;> rfl) (by omega) (by omega) ?_
        refine x_iinc (z := (v4 + 1)) (ls' := [some (vR 203), some (vR x1), some (vI x2), some (vI x3), some (vI (v4 + 1)), none, none, none]) (pc := 52) dX14_reach_52 rfl (Nat.le_of_ble_eq_true rfl) rfl rfl (ax_i (by omega) (by omega)) rfl ?_
        refine x_goto (tgt := 3) (pc := 55) dX14_reach_55 rfl ?_
        cases hf
        exact h1 _ rfl
      · replace hf := (if_neg h104).symm.trans hf
        refine x_aload_n (pc := 28) dX14_reach_28 rfl ?_
        refine x_iload (pc := 29) dX14_reach_29 rfl ?_
        refine x_iload_n (pc := 31) dX14_reach_31 rfl ?_
        refine x_iload_n (pc := 32) dX14_reach_32 rfl ?_
        obtain ⟨v106, r105, hf⟩ := bd1_some hf
        refine x_cr (v := vI v106) (vs := [vR 203, vI v4, vI x2, vI x3]) (rest := [vI v4, vR x1]) (k := 1) rfl (by omega) (ax_caV (pc := 33) dX14_reach_33 kX14_isShore rfl rfl WM_X14_300 WI_X14_isShore WS_X14_isShore WN_X14 (ax_rcO (t := 12) (axEx hG rfl) rfl (by decide)) (Nat.le_of_ble_eq_true rfl)) kX14_isShore rfl (Z_X14_isShore r105) (T_X14_isShore (by omega) hG r105) ?_
        refine x_ifeq (tgt := 48) (pc := 36) dX14_reach_36 rfl (fun h107 => ?_) (fun h107 => ?_)
        · replace hf := (if_pos h107).symm.trans hf
          refine x_sipush (pc := 48) dX14_reach_48 (by decide) ⟨by decide, by decide⟩ ?_
          refine x_iast2 (n := 81) (pc := 51) dX14_reach_51 (by rcases hy1 with rfl | rfl <;> exact axEx hG rfl) (by rcases hy1 with rfl | rfl <;> rfl) (by omega) (by omega) ?_
          refine x_iinc (z := (v4 + 1)) (ls' := [some (vR 203), some (vR x1), some (vI x2), some (vI x3), some (vI (v4 + 1)), none, none, none]) (pc := 52) dX14_reach_52 rfl (Nat.le_of_ble_eq_true rfl) rfl rfl (ax_i (by omega) (by omega)) rfl ?_
          refine x_goto (tgt := 3) (pc := 55) dX14_reach_55 rfl ?_
          cases hf
          exact h1 _ rfl
        · replace hf := (if_neg h107).symm.trans hf
          refine x_aload_n (pc := 39) dX14_reach_39 rfl ?_
          refine x_iload (pc := 40) dX14_reach_40 rfl ?_
          obtain ⟨v109, r108, hf⟩ := bd1_some hf
          refine x_cr (v := vI v109) (vs := [vR 203, vI v4]) (rest := [vI v4, vR x1]) (k := 0) rfl (by omega) (ax_caV (pc := 42) dX14_reach_42 kX14_cost rfl rfl WM_X14_323 WI_X14_cost WS_X14_cost WN_X14 (ax_rcO (t := 12) (axEx hG rfl) rfl (by decide)) (Nat.le_of_ble_eq_true rfl)) kX14_cost rfl True.intro (T_X14_cost (by omega) hG r108) ?_
          refine x_goto (tgt := 51) (pc := 45) dX14_reach_45 rfl ?_
          refine x_iast2 (n := 81) (pc := 51) dX14_reach_51 (by rcases hy1 with rfl | rfl <;> exact axEx hG rfl) (by rcases hy1 with rfl | rfl <;> rfl) (by omega) (by omega) ?_
          refine x_iinc (z := (v4 + 1)) (ls' := [some (vR 203), some (vR x1), some (vI x2), some (vI x3), some (vI (v4 + 1)), none, none, none]) (pc := 52) dX14_reach_52 rfl (Nat.le_of_ble_eq_true rfl) rfl rfl (ax_i (by omega) (by omega)) rfl ?_
          refine x_goto (tgt := 3) (pc := 55) dX14_reach_55 rfl ?_
          cases hf
          exact h1 _ rfl
    · replace hf := (if_neg h103).symm.trans hf
      cases hf
theorem B_X14_reach_84 {G : ax_G} {d : Nat} (hd : 3 ≤ d) (hG : axPs G 150 244) {M : ax_M} {x1 : Nat} {x2 : Int} {x5 : Int} {v4 : Int} {v6 : Int} (hy1 : (x1 = 236 ∨ x1 = 237)) {o : Option ax_V ⊕ String} {M' : ax_M} {y : (Int × Int × ax_M) ⊕ (Int × ax_M)} (hf : fX14_reach_b84 M x1 x2 x5 v4 v6 = some y) (h1 : ∀ s', y = .inl s' → ax_Ex G tX14_reach d 84 [some (vR 203), some (vR x1), some (vI x2), none, some (vI s'.1), some (vI x5), some (vI s'.2.1), none] [] s'.2.2 o M') (h2a : ∀ t, y = .inr t → ax_Ex G tX14_reach d 165 [some (vR 203), some (vR x1), some (vI x2), none, some (vI t.1), some (vI x5), none, none] [] t.2 o M') : ax_Ex G tX14_reach d 84 [some (vR 203), some (vR x1), some (vI x2), none, some (vI v4), some (vI x5), some (vI v6), none] [] M o M' := by
  unfold fX14_reach_b84 at hf
  refine x_iload (pc := 84) dX14_reach_84 rfl ?_
  refine x_bipush (pc := 86) dX14_reach_86 (by decide) ⟨by decide, by decide⟩ ?_
  refine ax_cmp (fun b116a b116b b116c b116e => ?_)
  refine x_icmpge (tgt := 165) (pc := 88) dX14_reach_88 rfl (fun h115 => ?_) (fun h115 => ?_)
  · replace hf := (if_neg (Int.not_lt.mpr h115)).symm.trans hf
    cases hf
    exact x_fgt (axS' (axS' (axS' (axN' (axS' (axS' (axN' (axN' axD)))))))) (h2a _ rfl)
  · replace hf := (if_pos h115).symm.trans hf
    refine x_aload_n (pc := 91) dX14_reach_91 rfl ?_
    refine x_getF (t := 12) (j := 15) (r := 233) (pc := 92) dX14_reach_92 (axH hG rfl) (axEx hG rfl) rfl (by decide) (by decide) rfl rfl WF_X14_39 ?_
    refine x_iload (pc := 95) dX14_reach_95 rfl ?_
    by_cases h117 : 0 ≤ x5 ∧ x5 < 81
    · replace hf := (if_pos h117).symm.trans hf
      refine x_iald2 (n := 81) (pc := 97) dX14_reach_97 (axEx hG rfl) rfl h117.1 h117.2 ?_
      refine x_iconst (pc := 98) dX14_reach_98 ⟨by decide, by decide⟩ ?_
      refine x_iload_n (pc := 99) dX14_reach_99 rfl ?_
      refine x_isubw (pc := 100) dX14_reach_100 ?_
      refine x_icmpeq (tgt := 165) (pc := 101) dX14_reach_101 rfl (fun h118 => ?_) (fun h118 => ?_)
      · replace hf := (if_pos h118).symm.trans hf
        cases hf
        exact x_fgt (axS' (axS' (axS' (axN' (axS' (axS' (axN' (axN' axD)))))))) (h2a _ rfl)
      · replace hf := (if_neg h118).symm.trans hf
        refine x_aload_n (pc := 104) dX14_reach_104 rfl ?_
        refine x_iload (pc := 105) dX14_reach_105 rfl ?_
        refine x_iload (pc := 107) dX14_reach_107 rfl ?_
        obtain ⟨v120, r119, hf⟩ := bd1_some hf
        refine x_cr (v := vI v120) (vs := [vR 203, vI x5, vI v6]) (rest := []) (k := 2) rfl (by omega) (ax_caV (pc := 109) dX14_reach_109 kX14_beside rfl rfl WM_X14_297 WI_X14_beside WS_X14_beside WN_X14 (ax_rcO (t := 12) (axEx hG rfl) rfl (by decide)) (Nat.le_of_ble_eq_true rfl)) kX14_beside rfl True.intro (T_X14_beside (by omega) hG r119) ?_
        refine x_istore (ls' := [some (vR 203), some (vR x1), some (vI x2), none, some (vI v4), some (vI x5), some (vI v6), some (vI v120)]) (pc := 112) dX14_reach_112 (Nat.le_of_ble_eq_true rfl) rfl rfl ?_
        refine x_iload (pc := 114) dX14_reach_114 rfl ?_
        refine x_iconst (pc := 116) dX14_reach_116 ⟨by decide, by decide⟩ ?_
        refine x_icmpeq (tgt := 159) (pc := 117) dX14_reach_117 rfl (fun h121 => ?_) (fun h121 => ?_)
        · replace hf := (if_pos h121).symm.trans hf
          refine x_iinc (z := (v6 + 1)) (ls' := [some (vR 203), some (vR x1), some (vI x2), none, some (vI v4), some (vI x5), some (vI (v6 + 1)), some (vI v120)]) (pc := 159) dX14_reach_159 rfl (Nat.le_of_ble_eq_true rfl) rfl rfl (ax_i (by omega) (by omega)) rfl ?_
          refine x_goto (tgt := 84) (pc := 162) dX14_reach_162 rfl ?_
          cases hf
          exact x_fgt (axS' (axS' (axS' (axN' (axS' (axS' (axS' (axN' axD)))))))) (h1 _ rfl)
        · replace hf := (if_neg h121).symm.trans hf
          refine x_aload_n (pc := 120) dX14_reach_120 rfl ?_
          refine x_iload (pc := 121) dX14_reach_121 rfl ?_
          by_cases h122 : 0 ≤ v120 ∧ v120 < 81
          · replace hf := (if_pos h122).symm.trans hf
            refine x_iald2 (n := 81) (pc := 123) dX14_reach_123 (by rcases hy1 with rfl | rfl <;> exact axEx hG rfl) (by rcases hy1 with rfl | rfl <;> rfl) h122.1 h122.2 ?_
            refine x_aload_n (pc := 124) dX14_reach_124 rfl ?_
            refine x_iload (pc := 125) dX14_reach_125 rfl ?_
            obtain ⟨v124, r123, hf⟩ := bd1_some hf
            refine x_cr (v := vI v124) (vs := [vR 203, vI x5]) (rest := [vI (mI M x1 (Int.toNat v120))]) (k := 0) rfl (by omega) (ax_caV (pc := 127) dX14_reach_127 kX14_cost rfl rfl WM_X14_323 WI_X14_cost WS_X14_cost WN_X14 (ax_rcO (t := 12) (axEx hG rfl) rfl (by decide)) (Nat.le_of_ble_eq_true rfl)) kX14_cost rfl True.intro (T_X14_cost (by omega) hG r123) ?_
            refine x_iaddw (pc := 130) dX14_reach_130 ?_
            refine x_aload_n (pc := 131) dX14_reach_131 rfl ?_
            refine x_iload (pc := 132) dX14_reach_132 rfl ?_
            refine x_iald2 (n := 81) (pc := 134) dX14_reach_134 (by rcases hy1 with rfl | rfl <;> exact axEx hG rfl) (by rcases hy1 with rfl | rfl <;> rfl) (by omega) (by omega) ?_
            refine ax_cmp (fun b126a b126b b126c b126e => ?_)
            refine x_icmplt (tgt := 141) (pc := 135) dX14_reach_135 rfl (fun h125 => ?_) (fun h125 => ?_)
            · replace hf := (if_pos h125).symm.trans hf
              refine x_aload_n (pc := 141) dX14_reach_141 rfl ?_
              refine x_iload (pc := 142) dX14_reach_142 rfl ?_
              refine x_aload_n (pc := 144) dX14_reach_144 rfl ?_
              refine x_iload (pc := 145) dX14_reach_145 rfl ?_
              refine x_iald2 (n := 81) (pc := 147) dX14_reach_147 (by rcases hy1 with rfl | rfl <;> exact axEx hG rfl) (by rcases hy1 with rfl | rfl <;> rfl) (by omega) (by omega) ?_
              refine x_aload_n (pc := 148) dX14_reach_148 rfl ?_
              refine x_iload (pc := 149) dX14_reach_149 rfl ?_
              obtain ⟨v128, r127, hf⟩ := bd1_some hf
              refine x_cr (v := vI v128) (vs := [vR 203, vI x5]) (rest := [vI (mI M x1 (Int.toNat v120)), vI x5, vR x1]) (k := 0) rfl (by omega) (ax_caV (pc := 151) dX14_reach_151 kX14_cost rfl rfl WM_X14_323 WI_X14_cost WS_X14_cost WN_X14 (ax_rcO (t := 12) (axEx hG rfl) rfl (by decide)) (Nat.le_of_ble_eq_true rfl)) kX14_cost rfl True.intro (T_X14_cost (by omega) hG r127) ?_
              refine x_iaddw (pc := 154) dX14_reach_154 ?_
              refine x_iast2 (n := 81) (pc := 155) dX14_reach_155 (by rcases hy1 with rfl | rfl <;> exact axEx hG rfl) (by rcases hy1 with rfl | rfl <;> rfl) (by omega) (by omega) ?_
              refine x_iconst (pc := 156) dX14_reach_156 ⟨by decide, by decide⟩ ?_
              refine x_istore (ls' := [some (vR 203), some (vR x1), some (vI x2), none, some (vI 1), some (vI x5), some (vI v6), some (vI v120)]) (pc := 157) dX14_reach_157 (Nat.le_of_ble_eq_true rfl) rfl rfl ?_
              refine x_iinc (z := (v6 + 1)) (ls' := [some (vR 203), some (vR x1), some (vI x2), none, some (vI 1), some (vI x5), some (vI (v6 + 1)), some (vI v120)]) (pc := 159) dX14_reach_159 rfl (Nat.le_of_ble_eq_true rfl) rfl rfl (ax_i (by omega) (by omega)) rfl ?_
              refine x_goto (tgt := 84) (pc := 162) dX14_reach_162 rfl ?_
              cases hf
              exact x_fgt (axS' (axS' (axS' (axN' (axS' (axS' (axS' (axN' axD)))))))) (h1 _ rfl)
            · replace hf := (if_neg (Int.not_lt.mpr h125)).symm.trans hf
              refine x_goto (tgt := 159) (pc := 138) dX14_reach_138 rfl ?_
              refine x_iinc (z := (v6 + 1)) (ls' := [some (vR 203), some (vR x1), some (vI x2), none, some (vI v4), some (vI x5), some (vI (v6 + 1)), some (vI v120)]) (pc := 159) dX14_reach_159 rfl (Nat.le_of_ble_eq_true rfl) rfl rfl (ax_i (by omega) (by omega)) rfl ?_
              refine x_goto (tgt := 84) (pc := 162) dX14_reach_162 rfl ?_
              cases hf
              exact x_fgt (axS' (axS' (axS' (axN' (axS' (axS' (axS' (axN' axD)))))))) (h1 _ rfl)
          · replace hf := (if_neg h122).symm.trans hf
            cases hf
    · replace hf := (if_neg h117).symm.trans hf
      cases hf
theorem B_X14_reach_72 {G : ax_G} {d : Nat} (hd : 3 ≤ d) (hG : axPs G 150 244) {M : ax_M} {x1 : Nat} {x2 : Int} {v4 : Int} {v5 : Int} (hy1 : (x1 = 236 ∨ x1 = 237)) {o : Option ax_V ⊕ String} {M' : ax_M} {y : (Int × Int × ax_M) ⊕ (Int × ax_M)} (hf : fX14_reach_b72 M x1 x2 v4 v5 = some y) (h1 : ∀ s', y = .inl s' → ax_Ex G tX14_reach d 72 [some (vR 203), some (vR x1), some (vI x2), none, some (vI s'.1), some (vI s'.2.1), none, none] [] s'.2.2 o M') (h2a : ∀ t, y = .inr t → ax_Ex G tX14_reach d 171 [some (vR 203), some (vR x1), some (vI x2), none, some (vI t.1), none, none, none] [] t.2 o M') : ax_Ex G tX14_reach d 72 [some (vR 203), some (vR x1), some (vI x2), none, some (vI v4), some (vI v5), none, none] [] M o M' := by
  unfold fX14_reach_b72 at hf
  refine x_iload (pc := 72) dX14_reach_72 rfl ?_
  refine x_aload_n (pc := 74) dX14_reach_74 rfl ?_
  refine x_cr (v := vI (fX14_cells M)) (vs := [vR 203]) (rest := [vI v5]) (k := 0) rfl (by omega) (ax_caV (pc := 75) dX14_reach_75 kX14_cells rfl rfl WM_X14_275 WI_X14_cells WS_X14_cells WN_X14 (ax_rcO (t := 12) (axEx hG rfl) rfl (by decide)) (Nat.le_of_ble_eq_true rfl)) kX14_cells rfl True.intro (T_X14_cells (by omega) hG rfl) ?_
  refine ax_cmp (fun b114a b114b b114c b114e => ?_)
  refine x_icmpge (tgt := 171) (pc := 78) dX14_reach_78 rfl (fun h113 => ?_) (fun h113 => ?_)
  · replace hf := (if_neg (Int.not_lt.mpr h113)).symm.trans hf
    cases hf
    exact x_fgt (axS' (axS' (axS' (axN' (axS' (axN' (axN' (axN' axD)))))))) (h2a _ rfl)
  · replace hf := (if_pos h113).symm.trans hf
    refine x_iconst (pc := 81) dX14_reach_81 ⟨by decide, by decide⟩ ?_
    refine x_istore (ls' := [some (vR 203), some (vR x1), some (vI x2), none, some (vI v4), some (vI v5), some (vI 0), none]) (pc := 82) dX14_reach_82 (Nat.le_of_ble_eq_true rfl) rfl rfl ?_
    obtain ⟨t129, t130, hf⟩ := bd1_some hf
    refine lp_ex (P := (fun s => ax_Ex G tX14_reach d 84 [some (vR 203), some (vR x1), some (vI x2), none, some (vI s.1), some (vI v5), some (vI s.2.1), none] [] s.2.2 _ _)) (K := (fun t => ax_Ex G tX14_reach d 165 [some (vR 203), some (vR x1), some (vI x2), none, some (vI t.1), some (vI v5), none, none] [] t.2 _ _)) (fun s y hy h1 h2 => B_X14_reach_84 (by omega) hG hy1 hy (fun s' e => h1 s' e) (fun t e => h2 t e)) _ _ _ t130 ?_
    refine x_iinc (z := (v5 + 1)) (ls' := [some (vR 203), some (vR x1), some (vI x2), none, some (vI t129.1), some (vI (v5 + 1)), none, none]) (pc := 165) dX14_reach_165 rfl (Nat.le_of_ble_eq_true rfl) rfl rfl (ax_i (by omega) (by omega)) rfl ?_
    refine x_goto (tgt := 72) (pc := 168) dX14_reach_168 rfl ?_
    cases hf
    exact h1 _ rfl
theorem B_X14_reach_61 {G : ax_G} {d : Nat} (hd : 3 ≤ d) (hG : axPs G 150 244) {M : ax_M} {x1 : Nat} {x2 : Int} {v4 : Int} (hy1 : (x1 = 236 ∨ x1 = 237)) {o : Option ax_V ⊕ String} {M' : ax_M} {y : (Int × ax_M) ⊕ ax_M} (hf : fX14_reach_b61 M x1 x2 v4 = some y) (h1 : ∀ s', y = .inl s' → ax_Ex G tX14_reach d 61 [some (vR 203), some (vR x1), some (vI x2), none, some (vI s'.1), none, none, none] [] s'.2 o M') (h2a : ∀ t, y = .inr t → ax_Ex G tX14_reach d 174 [some (vR 203), some (vR x1), some (vI x2), none, none, none, none, none] [] t o M') : ax_Ex G tX14_reach d 61 [some (vR 203), some (vR x1), some (vI x2), none, some (vI v4), none, none, none] [] M o M' := by
  unfold fX14_reach_b61 at hf
  refine x_iload (pc := 61) dX14_reach_61 rfl ?_
  refine x_ifeq (tgt := 174) (pc := 63) dX14_reach_63 rfl (fun h112 => ?_) (fun h112 => ?_)
  · replace hf := (if_pos h112).symm.trans hf
    cases hf
    exact x_fgt (axS' (axS' (axS' (axN' (axN' (axN' (axN' (axN' axD)))))))) (h2a _ rfl)
  · replace hf := (if_neg h112).symm.trans hf
    refine x_iconst (pc := 66) dX14_reach_66 ⟨by decide, by decide⟩ ?_
    refine x_istore (ls' := [some (vR 203), some (vR x1), some (vI x2), none, some (vI 0), none, none, none]) (pc := 67) dX14_reach_67 (Nat.le_of_ble_eq_true rfl) rfl rfl ?_
    refine x_iconst (pc := 69) dX14_reach_69 ⟨by decide, by decide⟩ ?_
    refine x_istore (ls' := [some (vR 203), some (vR x1), some (vI x2), none, some (vI 0), some (vI 0), none, none]) (pc := 70) dX14_reach_70 (Nat.le_of_ble_eq_true rfl) rfl rfl ?_
    obtain ⟨t131, t132, hf⟩ := bd1_some hf
    refine lp_ex (P := (fun s => ax_Ex G tX14_reach d 72 [some (vR 203), some (vR x1), some (vI x2), none, some (vI s.1), some (vI s.2.1), none, none] [] s.2.2 _ _)) (K := (fun t => ax_Ex G tX14_reach d 171 [some (vR 203), some (vR x1), some (vI x2), none, some (vI t.1), none, none, none] [] t.2 _ _)) (fun s y hy h1 h2 => B_X14_reach_72 (by omega) hG hy1 hy (fun s' e => h1 s' e) (fun t e => h2 t e)) _ _ _ t132 ?_
    refine x_goto (tgt := 61) (pc := 171) dX14_reach_171 rfl ?_
    cases hf
    exact h1 _ rfl
theorem T_X14_reach {G : ax_G} {d : Nat} (hd : 3 ≤ d) (hG : axPs G 150 244) {M : ax_M} {a1 : Nat} {a2 : Int} {a3 : Int} (y_a1 : (a1 = 236 ∨ a1 = 237)) {M1 : ax_M} (hf : fX14_reach M a1 a2 a3 = some M1) : ax_Ex G tX14_reach d 0 (ax_args [vR 203, vR a1, vI a2, vI a3] ++ List.replicate 4 none) [] M (.inl none) M1 := by
  show ax_Ex G tX14_reach d 0 [some (vR 203), some (vR a1), some (vI a2), some (vI a3), none, none, none, none] [] M _ _
  unfold fX14_reach at hf
  refine x_iconst (pc := 0) dX14_reach_0 ⟨by decide, by decide⟩ ?_
  refine x_istore (ls' := [some (vR 203), some (vR a1), some (vI a2), some (vI a3), some (vI 0), none, none, none]) (pc := 1) dX14_reach_1 (Nat.le_of_ble_eq_true rfl) rfl rfl ?_
  obtain ⟨t110, t111, hf⟩ := bd1_some hf
  refine lp_ex (P := (fun s => ax_Ex G tX14_reach d 3 [some (vR 203), some (vR a1), some (vI a2), some (vI a3), some (vI s.1), none, none, none] [] s.2 _ _)) (K := (fun t => ax_Ex G tX14_reach d 58 [some (vR 203), some (vR a1), some (vI a2), some (vI a3), none, none, none, none] [] t _ _)) (fun s y hy h1 h2 => B_X14_reach_3 (by omega) hG y_a1 hy (fun s' e => h1 s' e) (fun t e => h2 t e)) _ _ _ t111 ?_
  refine x_iconst (pc := 58) dX14_reach_58 ⟨by decide, by decide⟩ ?_
  refine x_istore (ls' := [some (vR 203), some (vR a1), some (vI a2), some (vI a3), some (vI 1), none, none, none]) (pc := 59) dX14_reach_59 (Nat.le_of_ble_eq_true rfl) rfl rfl ?_
  obtain ⟨t133, t134, hf⟩ := bd1_some hf
  refine x_fgt (axS' (axS' (axS' (axN' (axS' (axN' (axN' (axN' axD)))))))) (lp_ex (P := (fun s => ax_Ex G tX14_reach d 61 [some (vR 203), some (vR a1), some (vI a2), none, some (vI s.1), none, none, none] [] s.2 _ _)) (K := (fun t => ax_Ex G tX14_reach d 174 [some (vR 203), some (vR a1), some (vI a2), none, none, none, none, none] [] t _ _)) (fun s y hy h1 h2 => B_X14_reach_61 (by omega) hG y_a1 hy (fun s' e => h1 s' e) (fun t e => h2 t e)) _ _ _ t134 ?_)
  cases hf
  exact x_retV (pc := 174) dX14_reach_174
/- HexPondModel.reachBoth(I)V -/
def fX14_reachBoth (M : ax_M) (a1 : Int) : Option ax_M :=
  (bd1 (fX14_reach M 236 a1 0) fun M102 => (bd1 (fX14_reach M102 237 a1 1) fun M104 => (some M104)))
theorem T_X14_reachBoth {G : ax_G} {d : Nat} (hd : 4 ≤ d) (hG : axPs G 150 244) {M : ax_M} {a1 : Int} {M1 : ax_M} (hf : fX14_reachBoth M a1 = some M1) : ax_Ex G tX14_reachBoth d 0 (ax_args [vR 203, vI a1] ++ List.replicate 0 none) [] M (.inl none) M1 := by
  show ax_Ex G tX14_reachBoth d 0 [some (vR 203), some (vI a1)] [] M _ _
  unfold fX14_reachBoth at hf
  refine x_aload_n (pc := 0) dX14_reachBoth_0 rfl ?_
  refine x_aload_n (pc := 1) dX14_reachBoth_1 rfl ?_
  refine x_getF (t := 12) (j := 19) (r := 236) (pc := 2) dX14_reachBoth_2 (axH hG rfl) (axEx hG rfl) rfl (by decide) (by decide) rfl rfl WF_X14_48 ?_
  refine x_iload_n (pc := 5) dX14_reachBoth_5 rfl ?_
  refine x_iconst (pc := 6) dX14_reachBoth_6 ⟨by decide, by decide⟩ ?_
  obtain ⟨M102, r101, hf⟩ := bd1_some hf
  refine x_cv (vs := [vR 203, vR 236, vI a1, vI 0]) (rest := []) (k := 4) rfl (by omega) (ax_caV (pc := 7) dX14_reachBoth_7 kX14_reach rfl rfl WM_X14_326 WI_X14_reach WS_X14_reach WN_X14 (ax_rcO (t := 12) (axEx hG rfl) rfl (by decide)) (Nat.le_of_ble_eq_true rfl)) kX14_reach rfl True.intro (T_X14_reach (by omega) hG (by decide) r101) ?_
  refine x_aload_n (pc := 10) dX14_reachBoth_10 rfl ?_
  refine x_aload_n (pc := 11) dX14_reachBoth_11 rfl ?_
  refine x_getF (t := 12) (j := 20) (r := 237) (pc := 12) dX14_reachBoth_12 (axH hG rfl) (axEx hG rfl) rfl (by decide) (by decide) rfl rfl WF_X14_51 ?_
  refine x_iload_n (pc := 15) dX14_reachBoth_15 rfl ?_
  refine x_iconst (pc := 16) dX14_reachBoth_16 ⟨by decide, by decide⟩ ?_
  obtain ⟨M104, r103, hf⟩ := bd1_some hf
  refine x_cv (vs := [vR 203, vR 237, vI a1, vI 1]) (rest := []) (k := 4) rfl (by omega) (ax_caV (pc := 17) dX14_reachBoth_17 kX14_reach rfl rfl WM_X14_326 WI_X14_reach WS_X14_reach WN_X14 (ax_rcO (t := 12) (axEx hG rfl) rfl (by decide)) (Nat.le_of_ble_eq_true rfl)) kX14_reach rfl True.intro (T_X14_reach (by omega) hG (by decide) r103) ?_
  cases hf
  exact x_retV (pc := 20) dX14_reachBoth_20
/- HexPondModel.throughThen(I)I -/
def fX14_throughThen (M : ax_M) (a1 : Int) : Option Int :=
  (if 0 ≤ a1 ∧ a1 < 81 then (if (mI M 236 (Int.toNat a1)) < 9999 then (if (mI M 237 (Int.toNat a1)) < 9999 then (bd1 (fX14_cost M a1) fun v107 => (some (wr ((wr ((mI M 236 (Int.toNat a1)) + (mI M 237 (Int.toNat a1)))) - v107)))) else (some 9999)) else (some 9999)) else none)
theorem T_X14_throughThen {G : ax_G} {d : Nat} (hd : 1 ≤ d) (hG : axPs G 150 244) {M : ax_M} {a1 : Int} {r : Int} (hf : fX14_throughThen M a1 = some r) : ax_Ex G tX14_throughThen d 0 (ax_args [vR 203, vI a1] ++ List.replicate 0 none) [] M (.inl (some (vI r))) M := by
  show ax_Ex G tX14_throughThen d 0 [some (vR 203), some (vI a1)] [] M _ _
  unfold fX14_throughThen at hf
  refine x_aload_n (pc := 0) dX14_throughThen_0 rfl ?_
  refine x_getF (t := 12) (j := 19) (r := 236) (pc := 1) dX14_throughThen_1 (axH hG rfl) (axEx hG rfl) rfl (by decide) (by decide) rfl rfl WF_X14_48 ?_
  refine x_iload_n (pc := 4) dX14_throughThen_4 rfl ?_
  by_cases h101 : 0 ≤ a1 ∧ a1 < 81
  · replace hf := (if_pos h101).symm.trans hf
    refine x_iald2 (n := 81) (pc := 5) dX14_throughThen_5 (axEx hG rfl) rfl h101.1 h101.2 ?_
    refine x_sipush (pc := 6) dX14_throughThen_6 (by decide) ⟨by decide, by decide⟩ ?_
    refine ax_cmp (fun b103a b103b b103c b103e => ?_)
    refine x_icmpge (tgt := 24) (pc := 9) dX14_throughThen_9 rfl (fun h102 => ?_) (fun h102 => ?_)
    · replace hf := (if_neg (Int.not_lt.mpr h102)).symm.trans hf
      refine x_sipush (pc := 24) dX14_throughThen_24 (by decide) ⟨by decide, by decide⟩ ?_
      refine x_goto (tgt := 49) (pc := 27) dX14_throughThen_27 rfl ?_
      cases hf
      exact x_retI (pc := 49) dX14_throughThen_49
    · replace hf := (if_pos h102).symm.trans hf
      refine x_aload_n (pc := 12) dX14_throughThen_12 rfl ?_
      refine x_getF (t := 12) (j := 20) (r := 237) (pc := 13) dX14_throughThen_13 (axH hG rfl) (axEx hG rfl) rfl (by decide) (by decide) rfl rfl WF_X14_51 ?_
      refine x_iload_n (pc := 16) dX14_throughThen_16 rfl ?_
      refine x_iald2 (n := 81) (pc := 17) dX14_throughThen_17 (axEx hG rfl) rfl (by omega) (by omega) ?_
      refine x_sipush (pc := 18) dX14_throughThen_18 (by decide) ⟨by decide, by decide⟩ ?_
      refine ax_cmp (fun b105a b105b b105c b105e => ?_)
      refine x_icmplt (tgt := 30) (pc := 21) dX14_throughThen_21 rfl (fun h104 => ?_) (fun h104 => ?_)
      · replace hf := (if_pos h104).symm.trans hf
        refine x_aload_n (pc := 30) dX14_throughThen_30 rfl ?_
        refine x_getF (t := 12) (j := 19) (r := 236) (pc := 31) dX14_throughThen_31 (axH hG rfl) (axEx hG rfl) rfl (by decide) (by decide) rfl rfl WF_X14_48 ?_
        refine x_iload_n (pc := 34) dX14_throughThen_34 rfl ?_
        refine x_iald2 (n := 81) (pc := 35) dX14_throughThen_35 (axEx hG rfl) rfl (by omega) (by omega) ?_
        refine x_aload_n (pc := 36) dX14_throughThen_36 rfl ?_
        refine x_getF (t := 12) (j := 20) (r := 237) (pc := 37) dX14_throughThen_37 (axH hG rfl) (axEx hG rfl) rfl (by decide) (by decide) rfl rfl WF_X14_51 ?_
        refine x_iload_n (pc := 40) dX14_throughThen_40 rfl ?_
        refine x_iald2 (n := 81) (pc := 41) dX14_throughThen_41 (axEx hG rfl) rfl (by omega) (by omega) ?_
        refine x_iaddw (pc := 42) dX14_throughThen_42 ?_
        refine x_aload_n (pc := 43) dX14_throughThen_43 rfl ?_
        refine x_iload_n (pc := 44) dX14_throughThen_44 rfl ?_
        obtain ⟨v107, r106, hf⟩ := bd1_some hf
        refine x_cr (v := vI v107) (vs := [vR 203, vI a1]) (rest := [vI (wr ((mI M 236 (Int.toNat a1)) + (mI M 237 (Int.toNat a1))))]) (k := 0) rfl (by omega) (ax_caV (pc := 45) dX14_throughThen_45 kX14_cost rfl rfl WM_X14_323 WI_X14_cost WS_X14_cost WN_X14 (ax_rcO (t := 12) (axEx hG rfl) rfl (by decide)) (Nat.le_of_ble_eq_true rfl)) kX14_cost rfl True.intro (T_X14_cost (by omega) hG r106) ?_
        refine x_isubw (pc := 48) dX14_throughThen_48 ?_
        cases hf
        exact x_retI (pc := 49) dX14_throughThen_49
      · replace hf := (if_neg (Int.not_lt.mpr h104)).symm.trans hf
        refine x_sipush (pc := 24) dX14_throughThen_24 (by decide) ⟨by decide, by decide⟩ ?_
        refine x_goto (tgt := 49) (pc := 27) dX14_throughThen_27 rfl ?_
        cases hf
        exact x_retI (pc := 49) dX14_throughThen_49
  · replace hf := (if_neg h101).symm.trans hf
    cases hf
/- HexPondModel.through(II)I -/
def fX14_through (M : ax_M) (a1 : Int) (a2 : Int) : Option (Int × ax_M) :=
  (bd1 (fX14_reachBoth M a1) fun M102 => (bd1 (fX14_throughThen M102 a2) fun v104 => (some (v104, M102))))
theorem T_X14_through {G : ax_G} {d : Nat} (hd : 5 ≤ d) (hG : axPs G 150 244) {M : ax_M} {a1 : Int} {a2 : Int} {r : Int} {M1 : ax_M} (hf : fX14_through M a1 a2 = some (r, M1)) : ax_Ex G tX14_through d 0 (ax_args [vR 203, vI a1, vI a2] ++ List.replicate 0 none) [] M (.inl (some (vI r))) M1 := by
  show ax_Ex G tX14_through d 0 [some (vR 203), some (vI a1), some (vI a2)] [] M _ _
  unfold fX14_through at hf
  refine x_aload_n (pc := 0) dX14_through_0 rfl ?_
  refine x_iload_n (pc := 1) dX14_through_1 rfl ?_
  obtain ⟨M102, r101, hf⟩ := bd1_some hf
  refine x_cv (vs := [vR 203, vI a1]) (rest := []) (k := 0) rfl (by omega) (ax_caV (pc := 2) dX14_through_2 kX14_reachBoth rfl rfl WM_X14_330 WI_X14_reachBoth WS_X14_reachBoth WN_X14 (ax_rcO (t := 12) (axEx hG rfl) rfl (by decide)) (Nat.le_of_ble_eq_true rfl)) kX14_reachBoth rfl True.intro (T_X14_reachBoth (by omega) hG r101) ?_
  refine x_aload_n (pc := 5) dX14_through_5 rfl ?_
  refine x_iload_n (pc := 6) dX14_through_6 rfl ?_
  obtain ⟨v104, r103, hf⟩ := bd1_some hf
  refine x_cr (v := vI v104) (vs := [vR 203, vI a2]) (rest := []) (k := 0) rfl (by omega) (ax_caV (pc := 7) dX14_through_7 kX14_throughThen rfl rfl WM_X14_333 WI_X14_throughThen WS_X14_throughThen WN_X14 (ax_rcO (t := 12) (axEx hG rfl) rfl (by decide)) (Nat.le_of_ble_eq_true rfl)) kX14_throughThen rfl True.intro (T_X14_throughThen (by omega) hG r103) ?_
  cases hf
  exact x_retI (pc := 10) dX14_through_10
/- HexPondModel.needs(I)I -/
def fX14_needs_b16 (M : ax_M) (x1 : Int) (v2 : Int) (v3 : Int) : Option ((Int × Int) ⊕ Int) :=
  (if v3 < (fX14_cells M) then (bd1 (fX14_isShore M v3 x1 1) fun v106 => (if v106 = 0 then (some (.inl (v2, (v3 + 1)))) else (if 0 ≤ v3 ∧ v3 < 81 then (some (.inl ((fJ9_min_7cf53 M v2 (mI M 236 (Int.toNat v3))), (v3 + 1)))) else none))) else (some (.inr v2)))
def fX14_needs (M : ax_M) (a1 : Int) : Option (Int × ax_M) :=
  (bd1 (fX14_reach M 236 a1 0) fun M102 => (bd1 (lp (fun s => fX14_needs_b16 M102 a1 s.1 s.2) lpN (9999, 0)) fun t109 => (some ((fJ9_min_7cf53 M102 99 t109), M102))))
theorem B_X14_needs_16 {G : ax_G} {d : Nat} (hd : 4 ≤ d) (hG : axPs G 150 244) {M : ax_M} {x1 : Int} {v2 : Int} {v3 : Int} {o : Option ax_V ⊕ String} {M' : ax_M} {y : (Int × Int) ⊕ Int} (hf : fX14_needs_b16 M x1 v2 v3 = some y) (h1 : ∀ s', y = .inl s' → ax_Ex G tX14_needs d 16 [some (vR 203), some (vI x1), some (vI s'.1), some (vI s'.2)] [] M o M') (h2a : ∀ t, y = .inr t → ax_Ex G tX14_needs d 51 [some (vR 203), some (vI x1), some (vI t), none] [] M o M') : ax_Ex G tX14_needs d 16 [some (vR 203), some (vI x1), some (vI v2), some (vI v3)] [] M o M' := by
  unfold fX14_needs_b16 at hf
  refine x_iload_n (pc := 16) dX14_needs_16 rfl ?_
  refine x_aload_n (pc := 17) dX14_needs_17 rfl ?_
  refine x_cr (v := vI (fX14_cells M)) (vs := [vR 203]) (rest := [vI v3]) (k := 0) rfl (by omega) (ax_caV (pc := 18) dX14_needs_18 kX14_cells rfl rfl WM_X14_275 WI_X14_cells WS_X14_cells WN_X14 (ax_rcO (t := 12) (axEx hG rfl) rfl (by decide)) (Nat.le_of_ble_eq_true rfl)) kX14_cells rfl True.intro (T_X14_cells (by omega) hG rfl) ?_
  refine ax_cmp (fun b104a b104b b104c b104e => ?_)
  refine x_icmpge (tgt := 51) (pc := 21) dX14_needs_21 rfl (fun h103 => ?_) (fun h103 => ?_)
  · replace hf := (if_neg (Int.not_lt.mpr h103)).symm.trans hf
    cases hf
    exact x_fgt (axS' (axS' (axS' (axN' axD)))) (h2a _ rfl)
  · replace hf := (if_pos h103).symm.trans hf
    refine x_aload_n (pc := 24) dX14_needs_24 rfl ?_
    refine x_iload_n (pc := 25) dX14_needs_25 rfl ?_
    refine x_iload_n (pc := 26) dX14_needs_26 rfl ?_
    refine x_iconst (pc := 27) dX14_needs_27 ⟨by decide, by decide⟩ ?_
    obtain ⟨v106, r105, hf⟩ := bd1_some hf
    refine x_cr (v := vI v106) (vs := [vR 203, vI v3, vI x1, vI 1]) (rest := []) (k := 1) rfl (by omega) (ax_caV (pc := 28) dX14_needs_28 kX14_isShore rfl rfl WM_X14_300 WI_X14_isShore WS_X14_isShore WN_X14 (ax_rcO (t := 12) (axEx hG rfl) rfl (by decide)) (Nat.le_of_ble_eq_true rfl)) kX14_isShore rfl (Z_X14_isShore r105) (T_X14_isShore (by omega) hG r105) ?_
    refine x_ifeq (tgt := 45) (pc := 31) dX14_needs_31 rfl (fun h107 => ?_) (fun h107 => ?_)
    · replace hf := (if_pos h107).symm.trans hf
      refine x_iinc (z := (v3 + 1)) (ls' := [some (vR 203), some (vI x1), some (vI v2), some (vI (v3 + 1))]) (pc := 45) dX14_needs_45 rfl (Nat.le_of_ble_eq_true rfl) rfl rfl (ax_i (by omega) (by omega)) rfl ?_
      refine x_goto (tgt := 16) (pc := 48) dX14_needs_48 rfl ?_
      cases hf
      exact h1 _ rfl
    · replace hf := (if_neg h107).symm.trans hf
      refine x_iload_n (pc := 34) dX14_needs_34 rfl ?_
      refine x_aload_n (pc := 35) dX14_needs_35 rfl ?_
      refine x_getF (t := 12) (j := 19) (r := 236) (pc := 36) dX14_needs_36 (axH hG rfl) (axEx hG rfl) rfl (by decide) (by decide) rfl rfl WF_X14_48 ?_
      refine x_iload_n (pc := 39) dX14_needs_39 rfl ?_
      by_cases h108 : 0 ≤ v3 ∧ v3 < 81
      · replace hf := (if_pos h108).symm.trans hf
        refine x_iald2 (n := 81) (pc := 40) dX14_needs_40 (axEx hG rfl) rfl h108.1 h108.2 ?_
        refine x_cr (v := vI (fJ9_min_7cf53 M v2 (mI M 236 (Int.toNat v3)))) (vs := [vI v2, vI (mI M 236 (Int.toNat v3))]) (rest := []) (k := 0) rfl (by omega) (ax_caS (pc := 41) dX14_needs_41 kJ9_min_7cf53 rfl rfl WM_X14_218 WT_J9_min_7cf53 WN_J9 (Nat.le_of_ble_eq_true rfl)) kJ9_min_7cf53 rfl True.intro (T_J9_min_7cf53 (by omega) rfl) ?_
        refine x_istore_n (ls' := [some (vR 203), some (vI x1), some (vI (fJ9_min_7cf53 M v2 (mI M 236 (Int.toNat v3)))), some (vI v3)]) (pc := 44) dX14_needs_44 (Nat.le_of_ble_eq_true rfl) rfl rfl ?_
        refine x_iinc (z := (v3 + 1)) (ls' := [some (vR 203), some (vI x1), some (vI (fJ9_min_7cf53 M v2 (mI M 236 (Int.toNat v3)))), some (vI (v3 + 1))]) (pc := 45) dX14_needs_45 rfl (Nat.le_of_ble_eq_true rfl) rfl rfl (ax_i (by omega) (by omega)) rfl ?_
        refine x_goto (tgt := 16) (pc := 48) dX14_needs_48 rfl ?_
        cases hf
        exact h1 _ rfl
      · replace hf := (if_neg h108).symm.trans hf
        cases hf
theorem T_X14_needs {G : ax_G} {d : Nat} (hd : 4 ≤ d) (hG : axPs G 150 244) {M : ax_M} {a1 : Int} {r : Int} {M1 : ax_M} (hf : fX14_needs M a1 = some (r, M1)) : ax_Ex G tX14_needs d 0 (ax_args [vR 203, vI a1] ++ List.replicate 2 none) [] M (.inl (some (vI r))) M1 := by
  show ax_Ex G tX14_needs d 0 [some (vR 203), some (vI a1), none, none] [] M _ _
  unfold fX14_needs at hf
  refine x_aload_n (pc := 0) dX14_needs_0 rfl ?_
  refine x_aload_n (pc := 1) dX14_needs_1 rfl ?_
  refine x_getF (t := 12) (j := 19) (r := 236) (pc := 2) dX14_needs_2 (axH hG rfl) (axEx hG rfl) rfl (by decide) (by decide) rfl rfl WF_X14_48 ?_
  refine x_iload_n (pc := 5) dX14_needs_5 rfl ?_
  refine x_iconst (pc := 6) dX14_needs_6 ⟨by decide, by decide⟩ ?_
  obtain ⟨M102, r101, hf⟩ := bd1_some hf
  refine x_cv (vs := [vR 203, vR 236, vI a1, vI 0]) (rest := []) (k := 4) rfl (by omega) (ax_caV (pc := 7) dX14_needs_7 kX14_reach rfl rfl WM_X14_326 WI_X14_reach WS_X14_reach WN_X14 (ax_rcO (t := 12) (axEx hG rfl) rfl (by decide)) (Nat.le_of_ble_eq_true rfl)) kX14_reach rfl True.intro (T_X14_reach (by omega) hG (by decide) r101) ?_
  refine x_sipush (pc := 10) dX14_needs_10 (by decide) ⟨by decide, by decide⟩ ?_
  refine x_istore_n (ls' := [some (vR 203), some (vI a1), some (vI 9999), none]) (pc := 13) dX14_needs_13 (Nat.le_of_ble_eq_true rfl) rfl rfl ?_
  refine x_iconst (pc := 14) dX14_needs_14 ⟨by decide, by decide⟩ ?_
  refine x_istore_n (ls' := [some (vR 203), some (vI a1), some (vI 9999), some (vI 0)]) (pc := 15) dX14_needs_15 (Nat.le_of_ble_eq_true rfl) rfl rfl ?_
  obtain ⟨t109, t110, hf⟩ := bd1_some hf
  refine lp_ex (P := (fun s => ax_Ex G tX14_needs d 16 [some (vR 203), some (vI a1), some (vI s.1), some (vI s.2)] [] M102 _ _)) (K := (fun t => ax_Ex G tX14_needs d 51 [some (vR 203), some (vI a1), some (vI t), none] [] M102 _ _)) (fun s y hy h1 h2 => B_X14_needs_16 (by omega) hG hy (fun s' e => h1 s' e) (fun t e => h2 t e)) _ _ _ t110 ?_
  refine x_bipush (pc := 51) dX14_needs_51 (by decide) ⟨by decide, by decide⟩ ?_
  refine x_iload_n (pc := 53) dX14_needs_53 rfl ?_
  refine x_cr (v := vI (fJ9_min_7cf53 M102 99 t109)) (vs := [vI 99, vI t109]) (rest := []) (k := 0) rfl (by omega) (ax_caS (pc := 54) dX14_needs_54 kJ9_min_7cf53 rfl rfl WM_X14_218 WT_J9_min_7cf53 WN_J9 (Nat.le_of_ble_eq_true rfl)) kJ9_min_7cf53 rfl True.intro (T_J9_min_7cf53 (by omega) rfl) ?_
  cases hf
  exact x_retI (pc := 57) dX14_needs_57
/- HexPondModel.wins(II)Z -/
def fX14_wins (M : ax_M) (a1 : Int) (a2 : Int) : Option (Int × ax_M) :=
  (if 0 ≤ a2 ∧ a2 < 81 then (if (mI M 233 (Int.toNat a2)) = (-1) then (bd2 (fX14_won (mUI M 233 (Int.toNat a2) a1) a1) fun v105 M104 => (some (v105, (mUI M104 233 (Int.toNat a2) (-1))))) else (some (0, M))) else none)
theorem T_X14_wins {G : ax_G} {d : Nat} (hd : 4 ≤ d) (hG : axPs G 150 244) {M : ax_M} {a1 : Int} {a2 : Int} {r : Int} {M1 : ax_M} (hf : fX14_wins M a1 a2 = some (r, M1)) : ax_Ex G tX14_wins d 0 (ax_args [vR 203, vI a1, vI a2] ++ List.replicate 1 none) [] M (.inl (some (vI r))) M1 := by
  show ax_Ex G tX14_wins d 0 [some (vR 203), some (vI a1), some (vI a2), none] [] M _ _
  unfold fX14_wins at hf
  refine x_aload_n (pc := 0) dX14_wins_0 rfl ?_
  refine x_getF (t := 12) (j := 15) (r := 233) (pc := 1) dX14_wins_1 (axH hG rfl) (axEx hG rfl) rfl (by decide) (by decide) rfl rfl WF_X14_39 ?_
  refine x_iload_n (pc := 4) dX14_wins_4 rfl ?_
  by_cases h101 : 0 ≤ a2 ∧ a2 < 81
  · replace hf := (if_pos h101).symm.trans hf
    refine x_iald2 (n := 81) (pc := 5) dX14_wins_5 (axEx hG rfl) rfl h101.1 h101.2 ?_
    refine x_iconst (pc := 6) dX14_wins_6 ⟨by decide, by decide⟩ ?_
    refine x_icmpeq (tgt := 12) (pc := 7) dX14_wins_7 rfl (fun h102 => ?_) (fun h102 => ?_)
    · replace hf := (if_pos h102).symm.trans hf
      refine x_aload_n (pc := 12) dX14_wins_12 rfl ?_
      refine x_getF (t := 12) (j := 15) (r := 233) (pc := 13) dX14_wins_13 (axH hG rfl) (axEx hG rfl) rfl (by decide) (by decide) rfl rfl WF_X14_39 ?_
      refine x_iload_n (pc := 16) dX14_wins_16 rfl ?_
      refine x_iload_n (pc := 17) dX14_wins_17 rfl ?_
      refine x_iast2 (n := 81) (pc := 18) dX14_wins_18 (axEx hG rfl) rfl (by omega) (by omega) ?_
      refine x_aload_n (pc := 19) dX14_wins_19 rfl ?_
      refine x_iload_n (pc := 20) dX14_wins_20 rfl ?_
      obtain ⟨v105, M104, r103, hf⟩ := bd2_some hf
      refine x_cr (v := vI v105) (vs := [vR 203, vI a1]) (rest := []) (k := 4) rfl (by omega) (ax_caV (pc := 21) dX14_wins_21 kX14_won rfl rfl WM_X14_304 WI_X14_won WS_X14_won WN_X14 (ax_rcO (t := 12) (axEx hG rfl) rfl (by decide)) (Nat.le_of_ble_eq_true rfl)) kX14_won rfl (Z_X14_won r103) (T_X14_won (by omega) hG r103) ?_
      refine x_istore_n (ls' := [some (vR 203), some (vI a1), some (vI a2), some (vI v105)]) (pc := 24) dX14_wins_24 (Nat.le_of_ble_eq_true rfl) rfl rfl ?_
      refine x_aload_n (pc := 25) dX14_wins_25 rfl ?_
      refine x_getF (t := 12) (j := 15) (r := 233) (pc := 26) dX14_wins_26 (axH hG rfl) (axEx hG rfl) rfl (by decide) (by decide) rfl rfl WF_X14_39 ?_
      refine x_iload_n (pc := 29) dX14_wins_29 rfl ?_
      refine x_iconst (pc := 30) dX14_wins_30 ⟨by decide, by decide⟩ ?_
      refine x_iast2 (n := 81) (pc := 31) dX14_wins_31 (axEx hG rfl) rfl (by omega) (by omega) ?_
      refine x_iload_n (pc := 32) dX14_wins_32 rfl ?_
      cases hf
      exact x_retI (pc := 33) dX14_wins_33
    · replace hf := (if_neg h102).symm.trans hf
      refine x_iconst (pc := 10) dX14_wins_10 ⟨by decide, by decide⟩ ?_
      cases hf
      exact x_retI (pc := 11) dX14_wins_11
  · replace hf := (if_neg h101).symm.trans hf
    cases hf
theorem Z_X14_wins {M : ax_M} {a1 : Int} {a2 : Int} {r : Int} {M1 : ax_M} (hf : fX14_wins M a1 a2 = some (r, M1)) : r = 0 ∨ r = 1 := by
  unfold fX14_wins at hf
  by_cases h101 : 0 ≤ a2 ∧ a2 < 81
  · replace hf := (if_pos h101).symm.trans hf
    by_cases h102 : (mI M 233 (Int.toNat a2)) = (-1)
    · replace hf := (if_pos h102).symm.trans hf
      obtain ⟨v105, M104, r103, hf⟩ := bd2_some hf
      cases hf
      exact (Z_X14_won r103)
    · replace hf := (if_neg h102).symm.trans hf
      cases hf
      exact Or.inl rfl
  · replace hf := (if_neg h101).symm.trans hf
    cases hf
/- HexPondModel.winning(IZ)I -/
def fX14_winning_b5 (M : ax_M) (x1 : Int) (x2 : Int) (v3 : Int) (v4 : Int) : Option ((Int × Int × ax_M) ⊕ ((Int × ax_M) ⊕ (Int × ax_M))) :=
  (if v4 < (fX14_cells M) then (bd2 (fX14_wins M x1 v4) fun v105 M104 => (if v105 = 0 then (some (.inl (v3, (v4 + 1), M104))) else (if x2 = 0 then (some (.inl ((wr (v3 + 1)), (v4 + 1), M104))) else (some (.inr (.inl (v4, M104))))))) else (some (.inr (.inr ((v3, M))))))
def fX14_winning (M : ax_M) (a1 : Int) (a2 : Int) : Option (Int × ax_M) :=
  (bdS (lp (fun s => fX14_winning_b5 s.2.2 a1 a2 s.1 s.2.1) lpN (0, 0, M)) (fun t108 => (some (t108.1, t108.2))) (fun t110 => (if a2 = 0 then (some (t110.1, t110.2)) else (some ((-1), t110.2)))))
theorem B_X14_winning_5 {G : ax_G} {d : Nat} (hd : 5 ≤ d) (hG : axPs G 150 244) {M : ax_M} {x1 : Int} {x2 : Int} {v3 : Int} {v4 : Int} {o : Option ax_V ⊕ String} {M' : ax_M} {y : (Int × Int × ax_M) ⊕ ((Int × ax_M) ⊕ (Int × ax_M))} (hf : fX14_winning_b5 M x1 x2 v3 v4 = some y) (h1 : ∀ s', y = .inl s' → ax_Ex G tX14_winning d 5 [some (vR 203), some (vI x1), some (vI x2), some (vI s'.1), some (vI s'.2.1)] [] s'.2.2 o M') (h2a : ∀ t, y = .inr (.inl t) → ax_Ex G tX14_winning d 31 [some (vR 203), some (vI x1), some (vI x2), none, some (vI t.1)] [] t.2 o M') (h2b : ∀ t, y = .inr (.inr t) → ax_Ex G tX14_winning d 43 [some (vR 203), some (vI x1), some (vI x2), some (vI t.1), none] [] t.2 o M') : ax_Ex G tX14_winning d 5 [some (vR 203), some (vI x1), some (vI x2), some (vI v3), some (vI v4)] [] M o M' := by
  unfold fX14_winning_b5 at hf
  refine x_iload (pc := 5) dX14_winning_5 rfl ?_
  refine x_aload_n (pc := 7) dX14_winning_7 rfl ?_
  refine x_cr (v := vI (fX14_cells M)) (vs := [vR 203]) (rest := [vI v4]) (k := 0) rfl (by omega) (ax_caV (pc := 8) dX14_winning_8 kX14_cells rfl rfl WM_X14_275 WI_X14_cells WS_X14_cells WN_X14 (ax_rcO (t := 12) (axEx hG rfl) rfl (by decide)) (Nat.le_of_ble_eq_true rfl)) kX14_cells rfl True.intro (T_X14_cells (by omega) hG rfl) ?_
  refine ax_cmp (fun b102a b102b b102c b102e => ?_)
  refine x_icmpge (tgt := 43) (pc := 11) dX14_winning_11 rfl (fun h101 => ?_) (fun h101 => ?_)
  · replace hf := (if_neg (Int.not_lt.mpr h101)).symm.trans hf
    cases hf
    exact x_fgt (axS' (axS' (axS' (axS' (axN' axD))))) (h2b _ rfl)
  · replace hf := (if_pos h101).symm.trans hf
    refine x_aload_n (pc := 14) dX14_winning_14 rfl ?_
    refine x_iload_n (pc := 15) dX14_winning_15 rfl ?_
    refine x_iload (pc := 16) dX14_winning_16 rfl ?_
    obtain ⟨v105, M104, r103, hf⟩ := bd2_some hf
    refine x_cr (v := vI v105) (vs := [vR 203, vI x1, vI v4]) (rest := []) (k := 1) rfl (by omega) (ax_caV (pc := 18) dX14_winning_18 kX14_wins rfl rfl WM_X14_336 WI_X14_wins WS_X14_wins WN_X14 (ax_rcO (t := 12) (axEx hG rfl) rfl (by decide)) (Nat.le_of_ble_eq_true rfl)) kX14_wins rfl (Z_X14_wins r103) (T_X14_wins (by omega) hG r103) ?_
    refine x_ifne (tgt := 27) (pc := 21) dX14_winning_21 rfl (fun h106 => ?_) (fun h106 => ?_)
    · replace hf := (if_neg h106).symm.trans hf
      refine x_iload_n (pc := 27) dX14_winning_27 rfl ?_
      refine x_ifeq (tgt := 34) (pc := 28) dX14_winning_28 rfl (fun h107 => ?_) (fun h107 => ?_)
      · replace hf := (if_pos h107).symm.trans hf
        refine x_iincw (ls' := [some (vR 203), some (vI x1), some (vI x2), some (vI (wr (v3 + 1))), some (vI v4)]) (pc := 34) dX14_winning_34 rfl (Nat.le_of_ble_eq_true rfl) rfl rfl ?_
        refine x_iinc (z := (v4 + 1)) (ls' := [some (vR 203), some (vI x1), some (vI x2), some (vI (wr (v3 + 1))), some (vI (v4 + 1))]) (pc := 37) dX14_winning_37 rfl (Nat.le_of_ble_eq_true rfl) rfl rfl (ax_i (by omega) (by omega)) rfl ?_
        refine x_goto (tgt := 5) (pc := 40) dX14_winning_40 rfl ?_
        cases hf
        exact h1 _ rfl
      · replace hf := (if_neg h107).symm.trans hf
        cases hf
        exact x_fgt (axS' (axS' (axS' (axN' (axS' axD))))) (h2a _ rfl)
    · replace hf := (if_pos h106).symm.trans hf
      refine x_goto (tgt := 37) (pc := 24) dX14_winning_24 rfl ?_
      refine x_iinc (z := (v4 + 1)) (ls' := [some (vR 203), some (vI x1), some (vI x2), some (vI v3), some (vI (v4 + 1))]) (pc := 37) dX14_winning_37 rfl (Nat.le_of_ble_eq_true rfl) rfl rfl (ax_i (by omega) (by omega)) rfl ?_
      refine x_goto (tgt := 5) (pc := 40) dX14_winning_40 rfl ?_
      cases hf
      exact h1 _ rfl
theorem T_X14_winning {G : ax_G} {d : Nat} (hd : 5 ≤ d) (hG : axPs G 150 244) {M : ax_M} {a1 : Int} {a2 : Int} {r : Int} {M1 : ax_M} (hf : fX14_winning M a1 a2 = some (r, M1)) : ax_Ex G tX14_winning d 0 (ax_args [vR 203, vI a1, vI a2] ++ List.replicate 2 none) [] M (.inl (some (vI r))) M1 := by
  show ax_Ex G tX14_winning d 0 [some (vR 203), some (vI a1), some (vI a2), none, none] [] M _ _
  unfold fX14_winning at hf
  refine x_iconst (pc := 0) dX14_winning_0 ⟨by decide, by decide⟩ ?_
  refine x_istore_n (ls' := [some (vR 203), some (vI a1), some (vI a2), some (vI 0), none]) (pc := 1) dX14_winning_1 (Nat.le_of_ble_eq_true rfl) rfl rfl ?_
  refine x_iconst (pc := 2) dX14_winning_2 ⟨by decide, by decide⟩ ?_
  refine x_istore (ls' := [some (vR 203), some (vI a1), some (vI a2), some (vI 0), some (vI 0)]) (pc := 3) dX14_winning_3 (Nat.le_of_ble_eq_true rfl) rfl rfl ?_
  rcases bdS_some hf with ⟨t108, t109, hf⟩ | ⟨t110, t111, hf⟩
  · refine lp_ex (P := (fun s => ax_Ex G tX14_winning d 5 [some (vR 203), some (vI a1), some (vI a2), some (vI s.1), some (vI s.2.1)] [] s.2.2 _ _)) (K := (fun r => (∀ t, r = .inl t → ax_Ex G tX14_winning d 31 [some (vR 203), some (vI a1), some (vI a2), none, some (vI t.1)] [] t.2 _ _) ∧ (∀ t, r = .inr t → ax_Ex G tX14_winning d 43 [some (vR 203), some (vI a1), some (vI a2), some (vI t.1), none] [] t.2 _ _))) (fun s y hy h1 h2 => B_X14_winning_5 (by omega) hG hy (fun s' e => h1 s' e) (fun t e => (h2 _ e).1 t rfl) (fun t e => (h2 _ e).2 t rfl)) _ _ _ t109 ?_
    refine ⟨fun t e => ?_, fun t e => (by cases e)⟩
    cases e
    refine x_iload (pc := 31) dX14_winning_31 rfl ?_
    cases hf
    exact x_retI (pc := 33) dX14_winning_33
  · refine lp_ex (P := (fun s => ax_Ex G tX14_winning d 5 [some (vR 203), some (vI a1), some (vI a2), some (vI s.1), some (vI s.2.1)] [] s.2.2 _ _)) (K := (fun r => (∀ t, r = .inl t → ax_Ex G tX14_winning d 31 [some (vR 203), some (vI a1), some (vI a2), none, some (vI t.1)] [] t.2 _ _) ∧ (∀ t, r = .inr t → ax_Ex G tX14_winning d 43 [some (vR 203), some (vI a1), some (vI a2), some (vI t.1), none] [] t.2 _ _))) (fun s y hy h1 h2 => B_X14_winning_5 (by omega) hG hy (fun s' e => h1 s' e) (fun t e => (h2 _ e).1 t rfl) (fun t e => (h2 _ e).2 t rfl)) _ _ _ t111 ?_
    refine ⟨fun t e => (by cases e), fun t e => ?_⟩
    cases e
    refine x_iload_n (pc := 43) dX14_winning_43 rfl ?_
    refine x_ifeq (tgt := 51) (pc := 44) dX14_winning_44 rfl (fun h112 => ?_) (fun h112 => ?_)
    · replace hf := (if_pos h112).symm.trans hf
      refine x_iload_n (pc := 51) dX14_winning_51 rfl ?_
      cases hf
      exact x_retI (pc := 52) dX14_winning_52
    · replace hf := (if_neg h112).symm.trans hf
      refine x_iconst (pc := 47) dX14_winning_47 ⟨by decide, by decide⟩ ?_
      refine x_goto (tgt := 52) (pc := 48) dX14_winning_48 rfl ?_
      cases hf
      exact x_retI (pc := 52) dX14_winning_52
