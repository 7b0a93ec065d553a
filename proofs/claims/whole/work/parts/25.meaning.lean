/-! walks: Meaning -/
/- HexPond$Meaning.columns()I -/
def fX6_columns (M : ax_M) : Int :=
  ((mI M 167 2))
theorem T_X6_columns {G : ax_G} {d : Nat} (hd : 0 ≤ d) (hG : axPs G 150 244) {M : ax_M} {r : Int} (hf : fX6_columns M = r) : ax_Ex G tX6_columns d 0 (ax_args [vR 167] ++ List.replicate 0 none) [] M (.inl (some (vI r))) M := by
  show ax_Ex G tX6_columns d 0 [some (vR 167)] [] M _ _
  unfold fX6_columns at hf
  refine x_aload_n (pc := 0) dX6_columns_0 rfl ?_
  refine x_getI (t := 4) (j := 2) (pc := 1) dX6_columns_1 (axEx hG rfl) rfl (by decide) (by decide) rfl WF_X6_19 ?_
  subst hf
  exact x_retI (pc := 4) dX6_columns_4
/- HexPond$Meaning.rows()I -/
def fX6_rows (M : ax_M) : Int :=
  ((mI M 167 3))
theorem T_X6_rows {G : ax_G} {d : Nat} (hd : 0 ≤ d) (hG : axPs G 150 244) {M : ax_M} {r : Int} (hf : fX6_rows M = r) : ax_Ex G tX6_rows d 0 (ax_args [vR 167] ++ List.replicate 0 none) [] M (.inl (some (vI r))) M := by
  show ax_Ex G tX6_rows d 0 [some (vR 167)] [] M _ _
  unfold fX6_rows at hf
  refine x_aload_n (pc := 0) dX6_rows_0 rfl ?_
  refine x_getI (t := 4) (j := 3) (pc := 1) dX6_rows_1 (axEx hG rfl) rfl (by decide) (by decide) rfl WF_X6_23 ?_
  subst hf
  exact x_retI (pc := 4) dX6_rows_4
/- HexPond$Meaning.ownerAt(I)I -/
def fX6_ownerAt (M : ax_M) (a1 : Int) : Int :=
  (if a1 < 0 then (0) else (if a1 < 81 then ((mI M 168 (Int.toNat a1))) else (0)))
theorem T_X6_ownerAt {G : ax_G} {d : Nat} (hd : 0 ≤ d) (hG : axPs G 150 244) {M : ax_M} {a1 : Int} {r : Int} (hf : fX6_ownerAt M a1 = r) : ax_Ex G tX6_ownerAt d 0 (ax_args [vR 167, vI a1] ++ List.replicate 0 none) [] M (.inl (some (vI r))) M := by
  show ax_Ex G tX6_ownerAt d 0 [some (vR 167), some (vI a1)] [] M _ _
  unfold fX6_ownerAt at hf
  refine x_iload_n (pc := 0) dX6_ownerAt_0 rfl ?_
  refine ax_cmp1 (fun b2a b2b => ?_)
  refine x_iflt (tgt := 22) (pc := 1) dX6_ownerAt_1 rfl (fun h1 => ?_) (fun h1 => ?_)
  · replace hf := (if_pos h1).symm.trans hf
    refine x_iconst (pc := 22) dX6_ownerAt_22 ⟨by decide, by decide⟩ ?_
    subst hf
    exact x_retI (pc := 23) dX6_ownerAt_23
  · replace hf := (if_neg (Int.not_lt.mpr h1)).symm.trans hf
    refine x_iload_n (pc := 4) dX6_ownerAt_4 rfl ?_
    refine x_aload_n (pc := 5) dX6_ownerAt_5 rfl ?_
    refine x_getF (t := 4) (j := 1) (r := 168) (pc := 6) dX6_ownerAt_6 (axH hG rfl) (axEx hG rfl) rfl (by decide) (by decide) rfl rfl WF_X6_9 ?_
    refine x_alen (t := 0) (n := 81) (pc := 9) dX6_ownerAt_9 (axEx hG rfl) rfl (by decide) (by decide) ?_
    refine ax_cmp (fun b4a b4b b4c b4e => ?_)
    refine x_icmpge (tgt := 22) (pc := 10) dX6_ownerAt_10 rfl (fun h3 => ?_) (fun h3 => ?_)
    · replace hf := (if_neg (Int.not_lt.mpr h3)).symm.trans hf
      refine x_iconst (pc := 22) dX6_ownerAt_22 ⟨by decide, by decide⟩ ?_
      subst hf
      exact x_retI (pc := 23) dX6_ownerAt_23
    · replace hf := (if_pos h3).symm.trans hf
      refine x_aload_n (pc := 13) dX6_ownerAt_13 rfl ?_
      refine x_getF (t := 4) (j := 1) (r := 168) (pc := 14) dX6_ownerAt_14 (axH hG rfl) (axEx hG rfl) rfl (by decide) (by decide) rfl rfl WF_X6_9 ?_
      refine x_iload_n (pc := 17) dX6_ownerAt_17 rfl ?_
      refine x_iald2 (n := 81) (pc := 18) dX6_ownerAt_18 (axEx hG rfl) rfl (by omega) (by omega) ?_
      refine x_goto (tgt := 23) (pc := 19) dX6_ownerAt_19 rfl ?_
      subst hf
      exact x_retI (pc := 23) dX6_ownerAt_23
/- HexPond$Meaning.wrongToken()I -/
def fX6_wrongToken (M : ax_M) : Int :=
  ((mI M 167 5))
theorem T_X6_wrongToken {G : ax_G} {d : Nat} (hd : 0 ≤ d) (hG : axPs G 150 244) {M : ax_M} {r : Int} (hf : fX6_wrongToken M = r) : ax_Ex G tX6_wrongToken d 0 (ax_args [vR 167] ++ List.replicate 0 none) [] M (.inl (some (vI r))) M := by
  show ax_Ex G tX6_wrongToken d 0 [some (vR 167)] [] M _ _
  unfold fX6_wrongToken at hf
  refine x_aload_n (pc := 0) dX6_wrongToken_0 rfl ?_
  refine x_getI (t := 4) (j := 5) (pc := 1) dX6_wrongToken_1 (axEx hG rfl) rfl (by decide) (by decide) rfl WF_X6_26 ?_
  subst hf
  exact x_retI (pc := 4) dX6_wrongToken_4
/- HexPond$Meaning.isLength(I)Z -/
def fX6_isLength (M : ax_M) (a1 : Int) : Int :=
  (if a1 < 3 then (0) else (if 9 < a1 then (0) else (1)))
theorem T_X6_isLength {G : ax_G} {d : Nat} (hd : 0 ≤ d) (hG : axPs G 150 244) {M : ax_M} {a1 : Int} {r : Int} (hf : fX6_isLength M a1 = r) : ax_Ex G tX6_isLength d 0 (ax_args [vI a1] ++ List.replicate 0 none) [] M (.inl (some (vI r))) M := by
  show ax_Ex G tX6_isLength d 0 [some (vI a1)] [] M _ _
  unfold fX6_isLength at hf
  refine x_iload_n (pc := 0) dX6_isLength_0 rfl ?_
  refine x_iconst (pc := 1) dX6_isLength_1 ⟨by decide, by decide⟩ ?_
  refine ax_cmp (fun b2a b2b b2c b2e => ?_)
  refine x_icmplt (tgt := 15) (pc := 2) dX6_isLength_2 rfl (fun h1 => ?_) (fun h1 => ?_)
  · replace hf := (if_pos h1).symm.trans hf
    refine x_iconst (pc := 15) dX6_isLength_15 ⟨by decide, by decide⟩ ?_
    subst hf
    exact x_retI (pc := 16) dX6_isLength_16
  · replace hf := (if_neg (Int.not_lt.mpr h1)).symm.trans hf
    refine x_iload_n (pc := 5) dX6_isLength_5 rfl ?_
    refine x_bipush (pc := 6) dX6_isLength_6 (by decide) ⟨by decide, by decide⟩ ?_
    refine ax_cmp (fun b4a b4b b4c b4e => ?_)
    refine x_icmpgt (tgt := 15) (pc := 8) dX6_isLength_8 rfl (fun h3 => ?_) (fun h3 => ?_)
    · replace hf := (if_pos h3).symm.trans hf
      refine x_iconst (pc := 15) dX6_isLength_15 ⟨by decide, by decide⟩ ?_
      subst hf
      exact x_retI (pc := 16) dX6_isLength_16
    · replace hf := (if_neg (Int.not_lt.mpr h3)).symm.trans hf
      refine x_iconst (pc := 11) dX6_isLength_11 ⟨by decide, by decide⟩ ?_
      refine x_goto (tgt := 16) (pc := 12) dX6_isLength_12 rfl ?_
      subst hf
      exact x_retI (pc := 16) dX6_isLength_16
theorem Z_X6_isLength {M : ax_M} {a1 : Int} {r : Int} (hf : fX6_isLength M a1 = r) : r = 0 ∨ r = 1 := by
  unfold fX6_isLength at hf
  by_cases h1 : a1 < 3
  · replace hf := (if_pos h1).symm.trans hf
    subst hf
    exact Or.inl rfl
  · replace hf := (if_neg h1).symm.trans hf
    by_cases h3 : 9 < a1
    · replace hf := (if_pos h3).symm.trans hf
      subst hf
      exact Or.inl rfl
    · replace hf := (if_neg h3).symm.trans hf
      subst hf
      exact Or.inr rfl
/- HexPond$Meaning.errorOfStone(III)I -/
def fX6_errorOfStone (M : ax_M) (a1 : Int) (a2 : Int) (a3 : Int) : Option (Int × ax_M) :=
  (if a3 < (mI M 167 3) then (if (fX6_ownerAt M (wr ((wr ((mI M 167 2) * a3)) + a2))) = 0 then (if (wr ((wr ((mI M 167 2) * a3)) + a2)) < 0 then (some (0, M)) else (if (wr ((wr ((mI M 167 2) * a3)) + a2)) < 81 then (some (0, (mUI M 168 (Int.toNat (wr ((wr ((mI M 167 2) * a3)) + a2))) (wr (a1 + 1))))) else (some (0, M)))) else (some (2, M))) else (some (5, M)))
theorem T_X6_errorOfStone {G : ax_G} {d : Nat} (hd : 1 ≤ d) (hG : axPs G 150 244) {M : ax_M} {a1 : Int} {a2 : Int} {a3 : Int} {r : Int} {M1 : ax_M} (hf : fX6_errorOfStone M a1 a2 a3 = some (r, M1)) : ax_Ex G tX6_errorOfStone d 0 (ax_args [vR 167, vI a1, vI a2, vI a3] ++ List.replicate 1 none) [] M (.inl (some (vI r))) M1 := by
  show ax_Ex G tX6_errorOfStone d 0 [some (vR 167), some (vI a1), some (vI a2), some (vI a3), none] [] M _ _
  unfold fX6_errorOfStone at hf
  refine x_iload_n (pc := 0) dX6_errorOfStone_0 rfl ?_
  refine x_aload_n (pc := 1) dX6_errorOfStone_1 rfl ?_
  refine x_getI (t := 4) (j := 3) (pc := 2) dX6_errorOfStone_2 (axEx hG rfl) rfl (by decide) (by decide) rfl WF_X6_23 ?_
  refine ax_cmp (fun b2a b2b b2c b2e => ?_)
  refine x_icmplt (tgt := 10) (pc := 5) dX6_errorOfStone_5 rfl (fun h1 => ?_) (fun h1 => ?_)
  · replace hf := (if_pos h1).symm.trans hf
    refine x_aload_n (pc := 10) dX6_errorOfStone_10 rfl ?_
    refine x_getI (t := 4) (j := 2) (pc := 11) dX6_errorOfStone_11 (axEx hG rfl) rfl (by decide) (by decide) rfl WF_X6_19 ?_
    refine x_iload_n (pc := 14) dX6_errorOfStone_14 rfl ?_
    refine x_imulw (pc := 15) dX6_errorOfStone_15 ?_
    refine x_iload_n (pc := 16) dX6_errorOfStone_16 rfl ?_
    refine x_iaddw (pc := 17) dX6_errorOfStone_17 ?_
    refine x_istore (ls' := [some (vR 167), some (vI a1), some (vI a2), some (vI a3), some (vI (wr ((wr ((mI M 167 2) * a3)) + a2)))]) (pc := 18) dX6_errorOfStone_18 (Nat.le_of_ble_eq_true rfl) rfl rfl ?_
    refine x_aload_n (pc := 20) dX6_errorOfStone_20 rfl ?_
    refine x_iload (pc := 21) dX6_errorOfStone_21 rfl ?_
    refine x_cr (v := vI (fX6_ownerAt M (wr ((wr ((mI M 167 2) * a3)) + a2)))) (vs := [vR 167, vI (wr ((wr ((mI M 167 2) * a3)) + a2))]) (rest := []) (k := 0) rfl (by omega) (ax_caV (pc := 23) dX6_errorOfStone_23 kX6_ownerAt rfl rfl WM_X6_87 WI_X6_ownerAt WS_X6_ownerAt WN_X6 (ax_rcO (t := 4) (axEx hG rfl) rfl (by decide)) (Nat.le_of_ble_eq_true rfl)) kX6_ownerAt rfl True.intro (T_X6_ownerAt (by omega) hG rfl) ?_
    refine x_ifeq (tgt := 31) (pc := 26) dX6_errorOfStone_26 rfl (fun h3 => ?_) (fun h3 => ?_)
    · replace hf := (if_pos h3).symm.trans hf
      refine x_iload (pc := 31) dX6_errorOfStone_31 rfl ?_
      refine ax_cmp1 (fun b5a b5b => ?_)
      refine x_iflt (tgt := 56) (pc := 33) dX6_errorOfStone_33 rfl (fun h4 => ?_) (fun h4 => ?_)
      · replace hf := (if_pos h4).symm.trans hf
        refine x_iconst (pc := 56) dX6_errorOfStone_56 ⟨by decide, by decide⟩ ?_
        cases hf
        exact x_retI (pc := 57) dX6_errorOfStone_57
      · replace hf := (if_neg (Int.not_lt.mpr h4)).symm.trans hf
        refine x_iload (pc := 36) dX6_errorOfStone_36 rfl ?_
        refine x_aload_n (pc := 38) dX6_errorOfStone_38 rfl ?_
        refine x_getF (t := 4) (j := 1) (r := 168) (pc := 39) dX6_errorOfStone_39 (axH hG rfl) (axEx hG rfl) rfl (by decide) (by decide) rfl rfl WF_X6_9 ?_
        refine x_alen (t := 0) (n := 81) (pc := 42) dX6_errorOfStone_42 (axEx hG rfl) rfl (by decide) (by decide) ?_
        refine ax_cmp (fun b7a b7b b7c b7e => ?_)
        refine x_icmpge (tgt := 56) (pc := 43) dX6_errorOfStone_43 rfl (fun h6 => ?_) (fun h6 => ?_)
        · replace hf := (if_neg (Int.not_lt.mpr h6)).symm.trans hf
          refine x_iconst (pc := 56) dX6_errorOfStone_56 ⟨by decide, by decide⟩ ?_
          cases hf
          exact x_retI (pc := 57) dX6_errorOfStone_57
        · replace hf := (if_pos h6).symm.trans hf
          refine x_aload_n (pc := 46) dX6_errorOfStone_46 rfl ?_
          refine x_getF (t := 4) (j := 1) (r := 168) (pc := 47) dX6_errorOfStone_47 (axH hG rfl) (axEx hG rfl) rfl (by decide) (by decide) rfl rfl WF_X6_9 ?_
          refine x_iload (pc := 50) dX6_errorOfStone_50 rfl ?_
          refine x_iload_n (pc := 52) dX6_errorOfStone_52 rfl ?_
          refine x_iconst (pc := 53) dX6_errorOfStone_53 ⟨by decide, by decide⟩ ?_
          refine x_iaddw (pc := 54) dX6_errorOfStone_54 ?_
          refine x_iast2 (n := 81) (pc := 55) dX6_errorOfStone_55 (axEx hG rfl) rfl (by omega) (by omega) ?_
          refine x_iconst (pc := 56) dX6_errorOfStone_56 ⟨by decide, by decide⟩ ?_
          cases hf
          exact x_retI (pc := 57) dX6_errorOfStone_57
    · replace hf := (if_neg h3).symm.trans hf
      refine x_iconst (pc := 29) dX6_errorOfStone_29 ⟨by decide, by decide⟩ ?_
      cases hf
      exact x_retI (pc := 30) dX6_errorOfStone_30
  · replace hf := (if_neg (Int.not_lt.mpr h1)).symm.trans hf
    refine x_iconst (pc := 8) dX6_errorOfStone_8 ⟨by decide, by decide⟩ ?_
    cases hf
    exact x_retI (pc := 9) dX6_errorOfStone_9
/- HexPond$Meaning.errorAtNumber(I)I -/
def fX6_errorAtNumber (M : ax_M) (a1 : Int) : Option (Int × ax_M) :=
  (if (fX10_kindOf M (wr (a1 - 1))) = 10 then (if (fX6_isLength (mUI M 167 2 (fX10_valueOf M a1)) (fX10_valueOf M a1)) = 0 then (some (5, (mUI M 167 2 (fX10_valueOf M a1)))) else (some (0, (mUI M 167 2 (fX10_valueOf M a1))))) else (if (fX10_kindOf M (wr (a1 - 1))) = 11 then (if (fX6_isLength (mUI M 167 3 (fX10_valueOf M a1)) (fX10_valueOf M a1)) = 0 then (some (5, (mUI M 167 3 (fX10_valueOf M a1)))) else (some (0, (mUI M 167 3 (fX10_valueOf M a1))))) else (if (fX10_kindOf M (wr (a1 - 2))) = 12 then (if (fX10_valueOf M a1) < (mI M 167 2) then (some (0, M)) else (some (5, M))) else (if (fX10_kindOf M (wr (a1 - 4))) = 12 then (if (fX10_kindOf M (wr (a1 - 3))) = 14 then (bd2 (fX6_errorOfStone M 0 (fX10_valueOf M (wr (a1 - 2))) (fX10_valueOf M a1)) fun v22 M21 => (some (v22, M21))) else (bd2 (fX6_errorOfStone M 1 (fX10_valueOf M (wr (a1 - 2))) (fX10_valueOf M a1)) fun v25 M24 => (some (v25, M24)))) else (some (0, M))))))
theorem T_X6_errorAtNumber {G : ax_G} {d : Nat} (hd : 2 ≤ d) (hG : axPs G 150 244) {M : ax_M} {a1 : Int} {r : Int} {M1 : ax_M} (hf : fX6_errorAtNumber M a1 = some (r, M1)) : ax_Ex G tX6_errorAtNumber d 0 (ax_args [vR 167, vI a1] ++ List.replicate 2 none) [] M (.inl (some (vI r))) M1 := by
  show ax_Ex G tX6_errorAtNumber d 0 [some (vR 167), some (vI a1), none, none] [] M _ _
  unfold fX6_errorAtNumber at hf
  refine x_aload_n (pc := 0) dX6_errorAtNumber_0 rfl ?_
  refine x_getF (t := 4) (j := 0) (r := 153) (pc := 1) dX6_errorAtNumber_1 (axH hG rfl) (axEx hG rfl) rfl (by decide) (by decide) rfl rfl WF_X6_15 ?_
  refine x_iload_n (pc := 4) dX6_errorAtNumber_4 rfl ?_
  refine x_cr (v := vI (fX10_valueOf M a1)) (vs := [vR 153, vI a1]) (rest := []) (k := 0) rfl (by omega) (ax_caV (pc := 5) dX6_errorAtNumber_5 kX10_valueOf rfl rfl WM_X6_64 WI_X10_valueOf WS_X10_valueOf WN_X10 (ax_rcO (t := 8) (axEx hG rfl) rfl (by decide)) (Nat.le_of_ble_eq_true rfl)) kX10_valueOf rfl True.intro (T_X10_valueOf (by omega) hG rfl) ?_
  refine x_istore_n (ls' := [some (vR 167), some (vI a1), some (vI (fX10_valueOf M a1)), none]) (pc := 8) dX6_errorAtNumber_8 (Nat.le_of_ble_eq_true rfl) rfl rfl ?_
  refine x_aload_n (pc := 9) dX6_errorAtNumber_9 rfl ?_
  refine x_getF (t := 4) (j := 0) (r := 153) (pc := 10) dX6_errorAtNumber_10 (axH hG rfl) (axEx hG rfl) rfl (by decide) (by decide) rfl rfl WF_X6_15 ?_
  refine x_iload_n (pc := 13) dX6_errorAtNumber_13 rfl ?_
  refine x_iconst (pc := 14) dX6_errorAtNumber_14 ⟨by decide, by decide⟩ ?_
  refine x_isubw (pc := 15) dX6_errorAtNumber_15 ?_
  refine ax_know (fun g1 _ _ => ?_)
  have q2 := R_X10_kindOf g1 (r := (fX10_kindOf M (wr (a1 - 1)))) rfl
  refine x_cr (v := vR (fX10_kindOf M (wr (a1 - 1)))) (vs := [vR 153, vI (wr (a1 - 1))]) (rest := []) (k := 1) rfl (by omega) (ax_caV (pc := 16) dX6_errorAtNumber_16 kX10_kindOf rfl rfl WM_X6_48 WI_X10_kindOf WS_X10_kindOf WN_X10 (ax_rcO (t := 8) (axEx hG rfl) rfl (by decide)) (Nat.le_of_ble_eq_true rfl)) kX10_kindOf rfl True.intro (T_X10_kindOf (by omega) hG rfl) ?_
  refine x_gets (v := vR 10) _ (pc := 19) dX6_errorAtNumber_19 (axS_mem (n := 8) rfl) rfl trivial WF_X6_67 ?_
  refine x_acmpne (tgt := 43) (pc := 22) dX6_errorAtNumber_22 rfl q2 (by decide) (fun h3 => ?_) (fun h3 => ?_)
  · replace hf := (if_neg h3).symm.trans hf
    refine x_aload_n (pc := 43) dX6_errorAtNumber_43 rfl ?_
    refine x_getF (t := 4) (j := 0) (r := 153) (pc := 44) dX6_errorAtNumber_44 (axH hG rfl) (axEx hG rfl) rfl (by decide) (by decide) rfl rfl WF_X6_15 ?_
    refine x_iload_n (pc := 47) dX6_errorAtNumber_47 rfl ?_
    refine x_iconst (pc := 48) dX6_errorAtNumber_48 ⟨by decide, by decide⟩ ?_
    refine x_isubw (pc := 49) dX6_errorAtNumber_49 ?_
    refine ax_know (fun g5 _ _ => ?_)
    have q6 := R_X10_kindOf g5 (r := (fX10_kindOf M (wr (a1 - 1)))) rfl
    refine x_cr (v := vR (fX10_kindOf M (wr (a1 - 1)))) (vs := [vR 153, vI (wr (a1 - 1))]) (rest := []) (k := 1) rfl (by omega) (ax_caV (pc := 50) dX6_errorAtNumber_50 kX10_kindOf rfl rfl WM_X6_48 WI_X10_kindOf WS_X10_kindOf WN_X10 (ax_rcO (t := 8) (axEx hG rfl) rfl (by decide)) (Nat.le_of_ble_eq_true rfl)) kX10_kindOf rfl True.intro (T_X10_kindOf (by omega) hG rfl) ?_
    refine x_gets (v := vR 11) _ (pc := 53) dX6_errorAtNumber_53 (axS_mem (n := 9) rfl) rfl trivial WF_X6_74 ?_
    refine x_acmpne (tgt := 77) (pc := 56) dX6_errorAtNumber_56 rfl q6 (by decide) (fun h7 => ?_) (fun h7 => ?_)
    · replace hf := (if_neg h7).symm.trans hf
      refine x_aload_n (pc := 77) dX6_errorAtNumber_77 rfl ?_
      refine x_getF (t := 4) (j := 0) (r := 153) (pc := 78) dX6_errorAtNumber_78 (axH hG rfl) (axEx hG rfl) rfl (by decide) (by decide) rfl rfl WF_X6_15 ?_
      refine x_iload_n (pc := 81) dX6_errorAtNumber_81 rfl ?_
      refine x_iconst (pc := 82) dX6_errorAtNumber_82 ⟨by decide, by decide⟩ ?_
      refine x_isubw (pc := 83) dX6_errorAtNumber_83 ?_
      refine ax_know (fun g9 _ _ => ?_)
      have q10 := R_X10_kindOf g9 (r := (fX10_kindOf M (wr (a1 - 2)))) rfl
      refine x_cr (v := vR (fX10_kindOf M (wr (a1 - 2)))) (vs := [vR 153, vI (wr (a1 - 2))]) (rest := []) (k := 1) rfl (by omega) (ax_caV (pc := 84) dX6_errorAtNumber_84 kX10_kindOf rfl rfl WM_X6_48 WI_X10_kindOf WS_X10_kindOf WN_X10 (ax_rcO (t := 8) (axEx hG rfl) rfl (by decide)) (Nat.le_of_ble_eq_true rfl)) kX10_kindOf rfl True.intro (T_X10_kindOf (by omega) hG rfl) ?_
      refine x_gets (v := vR 12) _ (pc := 87) dX6_errorAtNumber_87 (axS_mem (n := 10) rfl) rfl trivial WF_X6_77 ?_
      refine x_acmpne (tgt := 107) (pc := 90) dX6_errorAtNumber_90 rfl q10 (by decide) (fun h11 => ?_) (fun h11 => ?_)
      · replace hf := (if_neg h11).symm.trans hf
        refine x_aload_n (pc := 107) dX6_errorAtNumber_107 rfl ?_
        refine x_getF (t := 4) (j := 0) (r := 153) (pc := 108) dX6_errorAtNumber_108 (axH hG rfl) (axEx hG rfl) rfl (by decide) (by decide) rfl rfl WF_X6_15 ?_
        refine x_iload_n (pc := 111) dX6_errorAtNumber_111 rfl ?_
        refine x_iconst (pc := 112) dX6_errorAtNumber_112 ⟨by decide, by decide⟩ ?_
        refine x_isubw (pc := 113) dX6_errorAtNumber_113 ?_
        refine ax_know (fun g14 _ _ => ?_)
        have q15 := R_X10_kindOf g14 (r := (fX10_kindOf M (wr (a1 - 4)))) rfl
        refine x_cr (v := vR (fX10_kindOf M (wr (a1 - 4)))) (vs := [vR 153, vI (wr (a1 - 4))]) (rest := []) (k := 1) rfl (by omega) (ax_caV (pc := 114) dX6_errorAtNumber_114 kX10_kindOf rfl rfl WM_X6_48 WI_X10_kindOf WS_X10_kindOf WN_X10 (ax_rcO (t := 8) (axEx hG rfl) rfl (by decide)) (Nat.le_of_ble_eq_true rfl)) kX10_kindOf rfl True.intro (T_X10_kindOf (by omega) hG rfl) ?_
        refine x_gets (v := vR 12) _ (pc := 117) dX6_errorAtNumber_117 (axS_mem (n := 10) rfl) rfl trivial WF_X6_77 ?_
        refine x_acmpne (tgt := 162) (pc := 120) dX6_errorAtNumber_120 rfl q15 (by decide) (fun h16 => ?_) (fun h16 => ?_)
        · replace hf := (if_neg h16).symm.trans hf
          refine x_iconst (pc := 162) dX6_errorAtNumber_162 ⟨by decide, by decide⟩ ?_
          cases hf
          exact x_retI (pc := 163) dX6_errorAtNumber_163
        · replace hf := (if_pos h16).symm.trans hf
          refine x_aload_n (pc := 123) dX6_errorAtNumber_123 rfl ?_
          refine x_getF (t := 4) (j := 0) (r := 153) (pc := 124) dX6_errorAtNumber_124 (axH hG rfl) (axEx hG rfl) rfl (by decide) (by decide) rfl rfl WF_X6_15 ?_
          refine x_iload_n (pc := 127) dX6_errorAtNumber_127 rfl ?_
          refine x_iconst (pc := 128) dX6_errorAtNumber_128 ⟨by decide, by decide⟩ ?_
          refine x_isubw (pc := 129) dX6_errorAtNumber_129 ?_
          refine ax_know (fun g17 _ _ => ?_)
          have q18 := R_X10_kindOf g17 (r := (fX10_kindOf M (wr (a1 - 3)))) rfl
          refine x_cr (v := vR (fX10_kindOf M (wr (a1 - 3)))) (vs := [vR 153, vI (wr (a1 - 3))]) (rest := []) (k := 1) rfl (by omega) (ax_caV (pc := 130) dX6_errorAtNumber_130 kX10_kindOf rfl rfl WM_X6_48 WI_X10_kindOf WS_X10_kindOf WN_X10 (ax_rcO (t := 8) (axEx hG rfl) rfl (by decide)) (Nat.le_of_ble_eq_true rfl)) kX10_kindOf rfl True.intro (T_X10_kindOf (by omega) hG rfl) ?_
          refine x_gets (v := vR 14) _ (pc := 133) dX6_errorAtNumber_133 (axS_mem (n := 12) rfl) rfl trivial WF_X6_80 ?_
          refine x_acmpne (tgt := 143) (pc := 136) dX6_errorAtNumber_136 rfl q18 (by decide) (fun h19 => ?_) (fun h19 => ?_)
          · replace hf := (if_neg h19).symm.trans hf
            refine x_iconst (pc := 143) dX6_errorAtNumber_143 ⟨by decide, by decide⟩ ?_
            refine x_istore_n (ls' := [some (vR 167), some (vI a1), some (vI (fX10_valueOf M a1)), some (vI 1)]) (pc := 144) dX6_errorAtNumber_144 (Nat.le_of_ble_eq_true rfl) rfl rfl ?_
            refine x_aload_n (pc := 145) dX6_errorAtNumber_145 rfl ?_
            refine x_iload_n (pc := 146) dX6_errorAtNumber_146 rfl ?_
            refine x_aload_n (pc := 147) dX6_errorAtNumber_147 rfl ?_
            refine x_getF (t := 4) (j := 0) (r := 153) (pc := 148) dX6_errorAtNumber_148 (axH hG rfl) (axEx hG rfl) rfl (by decide) (by decide) rfl rfl WF_X6_15 ?_
            refine x_iload_n (pc := 151) dX6_errorAtNumber_151 rfl ?_
            refine x_iconst (pc := 152) dX6_errorAtNumber_152 ⟨by decide, by decide⟩ ?_
            refine x_isubw (pc := 153) dX6_errorAtNumber_153 ?_
            refine x_cr (v := vI (fX10_valueOf M (wr (a1 - 2)))) (vs := [vR 153, vI (wr (a1 - 2))]) (rest := [vI 1, vR 167]) (k := 0) rfl (by omega) (ax_caV (pc := 154) dX6_errorAtNumber_154 kX10_valueOf rfl rfl WM_X6_64 WI_X10_valueOf WS_X10_valueOf WN_X10 (ax_rcO (t := 8) (axEx hG rfl) rfl (by decide)) (Nat.le_of_ble_eq_true rfl)) kX10_valueOf rfl True.intro (T_X10_valueOf (by omega) hG rfl) ?_
            refine x_iload_n (pc := 157) dX6_errorAtNumber_157 rfl ?_
            obtain ⟨v25, M24, r23, hf⟩ := bd2_some hf
            refine x_cr (v := vI v25) (vs := [vR 167, vI 1, vI (fX10_valueOf M (wr (a1 - 2))), vI (fX10_valueOf M a1)]) (rest := []) (k := 1) rfl (by omega) (ax_caV (pc := 158) dX6_errorAtNumber_158 kX6_errorOfStone rfl rfl WM_X6_83 WI_X6_errorOfStone WS_X6_errorOfStone WN_X6 (ax_rcO (t := 4) (axEx hG rfl) rfl (by decide)) (Nat.le_of_ble_eq_true rfl)) kX6_errorOfStone rfl True.intro (T_X6_errorOfStone (by omega) hG r23) ?_
            cases hf
            exact x_retI (pc := 161) dX6_errorAtNumber_161
          · replace hf := (if_pos h19).symm.trans hf
            refine x_iconst (pc := 139) dX6_errorAtNumber_139 ⟨by decide, by decide⟩ ?_
            refine x_goto (tgt := 144) (pc := 140) dX6_errorAtNumber_140 rfl ?_
            refine x_istore_n (ls' := [some (vR 167), some (vI a1), some (vI (fX10_valueOf M a1)), some (vI 0)]) (pc := 144) dX6_errorAtNumber_144 (Nat.le_of_ble_eq_true rfl) rfl rfl ?_
            refine x_aload_n (pc := 145) dX6_errorAtNumber_145 rfl ?_
            refine x_iload_n (pc := 146) dX6_errorAtNumber_146 rfl ?_
            refine x_aload_n (pc := 147) dX6_errorAtNumber_147 rfl ?_
            refine x_getF (t := 4) (j := 0) (r := 153) (pc := 148) dX6_errorAtNumber_148 (axH hG rfl) (axEx hG rfl) rfl (by decide) (by decide) rfl rfl WF_X6_15 ?_
            refine x_iload_n (pc := 151) dX6_errorAtNumber_151 rfl ?_
            refine x_iconst (pc := 152) dX6_errorAtNumber_152 ⟨by decide, by decide⟩ ?_
            refine x_isubw (pc := 153) dX6_errorAtNumber_153 ?_
            refine x_cr (v := vI (fX10_valueOf M (wr (a1 - 2)))) (vs := [vR 153, vI (wr (a1 - 2))]) (rest := [vI 0, vR 167]) (k := 0) rfl (by omega) (ax_caV (pc := 154) dX6_errorAtNumber_154 kX10_valueOf rfl rfl WM_X6_64 WI_X10_valueOf WS_X10_valueOf WN_X10 (ax_rcO (t := 8) (axEx hG rfl) rfl (by decide)) (Nat.le_of_ble_eq_true rfl)) kX10_valueOf rfl True.intro (T_X10_valueOf (by omega) hG rfl) ?_
            refine x_iload_n (pc := 157) dX6_errorAtNumber_157 rfl ?_
            obtain ⟨v22, M21, r20, hf⟩ := bd2_some hf
            refine x_cr (v := vI v22) (vs := [vR 167, vI 0, vI (fX10_valueOf M (wr (a1 - 2))), vI (fX10_valueOf M a1)]) (rest := []) (k := 1) rfl (by omega) (ax_caV (pc := 158) dX6_errorAtNumber_158 kX6_errorOfStone rfl rfl WM_X6_83 WI_X6_errorOfStone WS_X6_errorOfStone WN_X6 (ax_rcO (t := 4) (axEx hG rfl) rfl (by decide)) (Nat.le_of_ble_eq_true rfl)) kX6_errorOfStone rfl True.intro (T_X6_errorOfStone (by omega) hG r20) ?_
            cases hf
            exact x_retI (pc := 161) dX6_errorAtNumber_161
      · replace hf := (if_pos h11).symm.trans hf
        refine x_iload_n (pc := 93) dX6_errorAtNumber_93 rfl ?_
        refine x_aload_n (pc := 94) dX6_errorAtNumber_94 rfl ?_
        refine x_getI (t := 4) (j := 2) (pc := 95) dX6_errorAtNumber_95 (axEx hG rfl) rfl (by decide) (by decide) rfl WF_X6_19 ?_
        refine ax_cmp (fun b13a b13b b13c b13e => ?_)
        refine x_icmpge (tgt := 105) (pc := 98) dX6_errorAtNumber_98 rfl (fun h12 => ?_) (fun h12 => ?_)
        · replace hf := (if_neg (Int.not_lt.mpr h12)).symm.trans hf
          refine x_iconst (pc := 105) dX6_errorAtNumber_105 ⟨by decide, by decide⟩ ?_
          cases hf
          exact x_retI (pc := 106) dX6_errorAtNumber_106
        · replace hf := (if_pos h12).symm.trans hf
          refine x_iconst (pc := 101) dX6_errorAtNumber_101 ⟨by decide, by decide⟩ ?_
          refine x_goto (tgt := 106) (pc := 102) dX6_errorAtNumber_102 rfl ?_
          cases hf
          exact x_retI (pc := 106) dX6_errorAtNumber_106
    · replace hf := (if_pos h7).symm.trans hf
      refine x_aload_n (pc := 59) dX6_errorAtNumber_59 rfl ?_
      refine x_iload_n (pc := 60) dX6_errorAtNumber_60 rfl ?_
      refine x_putI (t := 4) (j := 3) (pc := 61) dX6_errorAtNumber_61 (axEx hG rfl) rfl (by decide) (by decide) rfl rfl WF_X6_23 ?_
      refine x_iload_n (pc := 64) dX6_errorAtNumber_64 rfl ?_
      refine x_cr (v := vI (fX6_isLength (mUI M 167 3 (fX10_valueOf M a1)) (fX10_valueOf M a1))) (vs := [vI (fX10_valueOf M a1)]) (rest := []) (k := 0) rfl (by omega) (ax_caS (pc := 65) dX6_errorAtNumber_65 kX6_isLength rfl rfl WM_X6_70 WT_X6_isLength WN_X6 (Nat.le_of_ble_eq_true rfl)) kX6_isLength rfl (Z_X6_isLength rfl) (T_X6_isLength (by omega) hG rfl) ?_
      refine x_ifeq (tgt := 75) (pc := 68) dX6_errorAtNumber_68 rfl (fun h8 => ?_) (fun h8 => ?_)
      · replace hf := (if_pos h8).symm.trans hf
        refine x_iconst (pc := 75) dX6_errorAtNumber_75 ⟨by decide, by decide⟩ ?_
        cases hf
        exact x_retI (pc := 76) dX6_errorAtNumber_76
      · replace hf := (if_neg h8).symm.trans hf
        refine x_iconst (pc := 71) dX6_errorAtNumber_71 ⟨by decide, by decide⟩ ?_
        refine x_goto (tgt := 76) (pc := 72) dX6_errorAtNumber_72 rfl ?_
        cases hf
        exact x_retI (pc := 76) dX6_errorAtNumber_76
  · replace hf := (if_pos h3).symm.trans hf
    refine x_aload_n (pc := 25) dX6_errorAtNumber_25 rfl ?_
    refine x_iload_n (pc := 26) dX6_errorAtNumber_26 rfl ?_
    refine x_putI (t := 4) (j := 2) (pc := 27) dX6_errorAtNumber_27 (axEx hG rfl) rfl (by decide) (by decide) rfl rfl WF_X6_19 ?_
    refine x_iload_n (pc := 30) dX6_errorAtNumber_30 rfl ?_
    refine x_cr (v := vI (fX6_isLength (mUI M 167 2 (fX10_valueOf M a1)) (fX10_valueOf M a1))) (vs := [vI (fX10_valueOf M a1)]) (rest := []) (k := 0) rfl (by omega) (ax_caS (pc := 31) dX6_errorAtNumber_31 kX6_isLength rfl rfl WM_X6_70 WT_X6_isLength WN_X6 (Nat.le_of_ble_eq_true rfl)) kX6_isLength rfl (Z_X6_isLength rfl) (T_X6_isLength (by omega) hG rfl) ?_
    refine x_ifeq (tgt := 41) (pc := 34) dX6_errorAtNumber_34 rfl (fun h4 => ?_) (fun h4 => ?_)
    · replace hf := (if_pos h4).symm.trans hf
      refine x_iconst (pc := 41) dX6_errorAtNumber_41 ⟨by decide, by decide⟩ ?_
      cases hf
      exact x_retI (pc := 42) dX6_errorAtNumber_42
    · replace hf := (if_neg h4).symm.trans hf
      refine x_iconst (pc := 37) dX6_errorAtNumber_37 ⟨by decide, by decide⟩ ?_
      refine x_goto (tgt := 42) (pc := 38) dX6_errorAtNumber_38 rfl ?_
      cases hf
      exact x_retI (pc := 42) dX6_errorAtNumber_42
/- HexPond$Meaning.errorAtToken(I)I -/
def fX6_errorAtToken (M : ax_M) (a1 : Int) : Option (Int × ax_M) :=
  (if (fX10_kindOf M a1) = 13 then (if 16 < (mI (mUI M 167 4 (wr ((mI M 167 4) + 1))) 167 4) then (some (4, (mUI M 167 4 (wr ((mI M 167 4) + 1))))) else (some (0, (mUI M 167 4 (wr ((mI M 167 4) + 1)))))) else (if (fX10_kindOf M a1) = 48 then (bd2 (fX6_errorAtNumber M a1) fun v11 M10 => (some (v11, M10))) else (some (0, M))))
theorem T_X6_errorAtToken {G : ax_G} {d : Nat} (hd : 3 ≤ d) (hG : axPs G 150 244) {M : ax_M} {a1 : Int} {r : Int} {M1 : ax_M} (hf : fX6_errorAtToken M a1 = some (r, M1)) : ax_Ex G tX6_errorAtToken d 0 (ax_args [vR 167, vI a1] ++ List.replicate 0 none) [] M (.inl (some (vI r))) M1 := by
  show ax_Ex G tX6_errorAtToken d 0 [some (vR 167), some (vI a1)] [] M _ _
  unfold fX6_errorAtToken at hf
  refine x_aload_n (pc := 0) dX6_errorAtToken_0 rfl ?_
  refine x_getF (t := 4) (j := 0) (r := 153) (pc := 1) dX6_errorAtToken_1 (axH hG rfl) (axEx hG rfl) rfl (by decide) (by decide) rfl rfl WF_X6_15 ?_
  refine x_iload_n (pc := 4) dX6_errorAtToken_4 rfl ?_
  refine ax_know (fun g1 _ _ => ?_)
  have q2 := R_X10_kindOf g1 (r := (fX10_kindOf M a1)) rfl
  refine x_cr (v := vR (fX10_kindOf M a1)) (vs := [vR 153, vI a1]) (rest := []) (k := 1) rfl (by omega) (ax_caV (pc := 5) dX6_errorAtToken_5 kX10_kindOf rfl rfl WM_X6_48 WI_X10_kindOf WS_X10_kindOf WN_X10 (ax_rcO (t := 8) (axEx hG rfl) rfl (by decide)) (Nat.le_of_ble_eq_true rfl)) kX10_kindOf rfl True.intro (T_X10_kindOf (by omega) hG rfl) ?_
  refine x_gets (v := vR 13) _ (pc := 8) dX6_errorAtToken_8 (axS_mem (n := 11) rfl) rfl trivial WF_X6_52 ?_
  refine x_acmpne (tgt := 39) (pc := 11) dX6_errorAtToken_11 rfl q2 (by decide) (fun h3 => ?_) (fun h3 => ?_)
  · replace hf := (if_neg h3).symm.trans hf
    refine x_aload_n (pc := 39) dX6_errorAtToken_39 rfl ?_
    refine x_getF (t := 4) (j := 0) (r := 153) (pc := 40) dX6_errorAtToken_40 (axH hG rfl) (axEx hG rfl) rfl (by decide) (by decide) rfl rfl WF_X6_15 ?_
    refine x_iload_n (pc := 43) dX6_errorAtToken_43 rfl ?_
    refine ax_know (fun g6 _ _ => ?_)
    have q7 := R_X10_kindOf g6 (r := (fX10_kindOf M a1)) rfl
    refine x_cr (v := vR (fX10_kindOf M a1)) (vs := [vR 153, vI a1]) (rest := []) (k := 1) rfl (by omega) (ax_caV (pc := 44) dX6_errorAtToken_44 kX10_kindOf rfl rfl WM_X6_48 WI_X10_kindOf WS_X10_kindOf WN_X10 (ax_rcO (t := 8) (axEx hG rfl) rfl (by decide)) (Nat.le_of_ble_eq_true rfl)) kX10_kindOf rfl True.intro (T_X10_kindOf (by omega) hG rfl) ?_
    refine x_gets (v := vR 48) _ (pc := 47) dX6_errorAtToken_47 (axS_mem (n := 46) rfl) rfl trivial WF_X6_58 ?_
    refine x_acmpne (tgt := 59) (pc := 50) dX6_errorAtToken_50 rfl q7 (by decide) (fun h8 => ?_) (fun h8 => ?_)
    · replace hf := (if_neg h8).symm.trans hf
      refine x_iconst (pc := 59) dX6_errorAtToken_59 ⟨by decide, by decide⟩ ?_
      cases hf
      exact x_retI (pc := 60) dX6_errorAtToken_60
    · replace hf := (if_pos h8).symm.trans hf
      refine x_aload_n (pc := 53) dX6_errorAtToken_53 rfl ?_
      refine x_iload_n (pc := 54) dX6_errorAtToken_54 rfl ?_
      obtain ⟨v11, M10, r9, hf⟩ := bd2_some hf
      refine x_cr (v := vI v11) (vs := [vR 167, vI a1]) (rest := []) (k := 2) rfl (by omega) (ax_caV (pc := 55) dX6_errorAtToken_55 kX6_errorAtNumber rfl rfl WM_X6_61 WI_X6_errorAtNumber WS_X6_errorAtNumber WN_X6 (ax_rcO (t := 4) (axEx hG rfl) rfl (by decide)) (Nat.le_of_ble_eq_true rfl)) kX6_errorAtNumber rfl True.intro (T_X6_errorAtNumber (by omega) hG r9) ?_
      cases hf
      exact x_retI (pc := 58) dX6_errorAtToken_58
  · replace hf := (if_pos h3).symm.trans hf
    refine x_aload_n (pc := 14) dX6_errorAtToken_14 rfl ?_
    refine x_dup (pc := 15) dX6_errorAtToken_15 rfl ?_
    refine x_getI (t := 4) (j := 4) (pc := 16) dX6_errorAtToken_16 (axEx hG rfl) rfl (by decide) (by decide) rfl WF_X6_29 ?_
    refine x_iconst (pc := 19) dX6_errorAtToken_19 ⟨by decide, by decide⟩ ?_
    refine x_iaddw (pc := 20) dX6_errorAtToken_20 ?_
    refine x_putI (t := 4) (j := 4) (pc := 21) dX6_errorAtToken_21 (axEx hG rfl) rfl (by decide) (by decide) rfl rfl WF_X6_29 ?_
    refine x_aload_n (pc := 24) dX6_errorAtToken_24 rfl ?_
    refine x_getI (t := 4) (j := 4) (pc := 25) dX6_errorAtToken_25 (axEx hG rfl) rfl (by decide) (by decide) rfl WF_X6_29 ?_
    refine x_bipush (pc := 28) dX6_errorAtToken_28 (by decide) ⟨by decide, by decide⟩ ?_
    refine ax_cmp (fun b5a b5b b5c b5e => ?_)
    refine x_icmple (tgt := 37) (pc := 30) dX6_errorAtToken_30 rfl (fun h4 => ?_) (fun h4 => ?_)
    · replace hf := (if_neg (Int.not_lt.mpr h4)).symm.trans hf
      refine x_iconst (pc := 37) dX6_errorAtToken_37 ⟨by decide, by decide⟩ ?_
      cases hf
      exact x_retI (pc := 38) dX6_errorAtToken_38
    · replace hf := (if_pos h4).symm.trans hf
      refine x_iconst (pc := 33) dX6_errorAtToken_33 ⟨by decide, by decide⟩ ?_
      refine x_goto (tgt := 38) (pc := 34) dX6_errorAtToken_34 rfl ?_
      cases hf
      exact x_retI (pc := 38) dX6_errorAtToken_38
/- HexPond$Meaning.firstError()I -/
def fX6_firstError_b27 (M : ax_M) (v1 : Int) : Option ((Int × ax_M) ⊕ ((Int × Int × ax_M) ⊕ ax_M)) :=
  (if v1 < (fX10_count M) then (bd2 (fX6_errorAtToken M v1) fun v5 M4 => (if v5 = 0 then (some (.inl ((v1 + 1), M4))) else (some (.inr (.inl (v1, v5, M4)))))) else (some (.inr (.inr M))))
def fX6_firstError (M : ax_M) : Option (Int × ax_M) :=
  (bdS (lp (fun s => fX6_firstError_b27 s.2 s.1) lpN (0, (mFi (mUI (mUI (mUI M 167 2 7) 167 3 7) 167 4 0) 168 81 0))) (fun t7 => (some (t7.2.1, (mUI t7.2.2 167 5 t7.1)))) (fun t9 => (some (0, (mUI t9 167 5 (-1))))))
theorem B_X6_firstError_27 {G : ax_G} {d : Nat} (hd : 4 ≤ d) (hG : axPs G 150 244) {M : ax_M} {v1 : Int} {o : Option ax_V ⊕ String} {M' : ax_M} {y : (Int × ax_M) ⊕ ((Int × Int × ax_M) ⊕ ax_M)} (hf : fX6_firstError_b27 M v1 = some y) (h1 : ∀ s', y = .inl s' → ax_Ex G tX6_firstError d 27 [some (vR 167), some (vI s'.1), none] [] s'.2 o M') (h2a : ∀ t, y = .inr (.inl t) → ax_Ex G tX6_firstError d 48 [some (vR 167), some (vI t.1), some (vI t.2.1)] [] t.2.2 o M') (h2b : ∀ t, y = .inr (.inr t) → ax_Ex G tX6_firstError d 61 [some (vR 167), none, none] [] t o M') : ax_Ex G tX6_firstError d 27 [some (vR 167), some (vI v1), none] [] M o M' := by
  unfold fX6_firstError_b27 at hf
  refine x_iload_n (pc := 27) dX6_firstError_27 rfl ?_
  refine x_aload_n (pc := 28) dX6_firstError_28 rfl ?_
  refine x_getF (t := 4) (j := 0) (r := 153) (pc := 29) dX6_firstError_29 (axH hG rfl) (axEx hG rfl) rfl (by decide) (by decide) rfl rfl WF_X6_15 ?_
  refine x_cr (v := vI (fX10_count M)) (vs := [vR 153]) (rest := [vI v1]) (k := 0) rfl (by omega) (ax_caV (pc := 32) dX6_firstError_32 kX10_count rfl rfl WM_X6_38 WI_X10_count WS_X10_count WN_X10 (ax_rcO (t := 8) (axEx hG rfl) rfl (by decide)) (Nat.le_of_ble_eq_true rfl)) kX10_count rfl True.intro (T_X10_count (by omega) hG rfl) ?_
  refine ax_cmp (fun b2a b2b b2c b2e => ?_)
  refine x_icmpge (tgt := 61) (pc := 35) dX6_firstError_35 rfl (fun h1 => ?_) (fun h1 => ?_)
  · replace hf := (if_neg (Int.not_lt.mpr h1)).symm.trans hf
    cases hf
    exact x_fgt (axS' (axN' (axN' axD))) (h2b _ rfl)
  · replace hf := (if_pos h1).symm.trans hf
    refine x_aload_n (pc := 38) dX6_firstError_38 rfl ?_
    refine x_iload_n (pc := 39) dX6_firstError_39 rfl ?_
    obtain ⟨v5, M4, r3, hf⟩ := bd2_some hf
    refine x_cr (v := vI v5) (vs := [vR 167, vI v1]) (rest := []) (k := 0) rfl (by omega) (ax_caV (pc := 40) dX6_firstError_40 kX6_errorAtToken rfl rfl WM_X6_44 WI_X6_errorAtToken WS_X6_errorAtToken WN_X6 (ax_rcO (t := 4) (axEx hG rfl) rfl (by decide)) (Nat.le_of_ble_eq_true rfl)) kX6_errorAtToken rfl True.intro (T_X6_errorAtToken (by omega) hG r3) ?_
    refine x_istore_n (ls' := [some (vR 167), some (vI v1), some (vI v5)]) (pc := 43) dX6_firstError_43 (Nat.le_of_ble_eq_true rfl) rfl rfl ?_
    refine x_iload_n (pc := 44) dX6_firstError_44 rfl ?_
    refine x_ifeq (tgt := 55) (pc := 45) dX6_firstError_45 rfl (fun h6 => ?_) (fun h6 => ?_)
    · replace hf := (if_pos h6).symm.trans hf
      refine x_iinc (z := (v1 + 1)) (ls' := [some (vR 167), some (vI (v1 + 1)), some (vI v5)]) (pc := 55) dX6_firstError_55 rfl (Nat.le_of_ble_eq_true rfl) rfl rfl (ax_i (by omega) (by omega)) rfl ?_
      refine x_goto (tgt := 27) (pc := 58) dX6_firstError_58 rfl ?_
      cases hf
      exact x_fgt (axS' (axS' (axN' axD))) (h1 _ rfl)
    · replace hf := (if_neg h6).symm.trans hf
      cases hf
      exact h2a _ rfl
theorem T_X6_firstError {G : ax_G} {d : Nat} (hd : 4 ≤ d) (hG : axPs G 150 244) {M : ax_M} {r : Int} {M1 : ax_M} (hf : fX6_firstError M = some (r, M1)) : ax_Ex G tX6_firstError d 0 (ax_args [vR 167] ++ List.replicate 2 none) [] M (.inl (some (vI r))) M1 := by
  show ax_Ex G tX6_firstError d 0 [some (vR 167), none, none] [] M _ _
  unfold fX6_firstError at hf
  refine x_aload_n (pc := 0) dX6_firstError_0 rfl ?_
  refine x_bipush (pc := 1) dX6_firstError_1 (by decide) ⟨by decide, by decide⟩ ?_
  refine x_putI (t := 4) (j := 2) (pc := 3) dX6_firstError_3 (axEx hG rfl) rfl (by decide) (by decide) rfl rfl WF_X6_19 ?_
  refine x_aload_n (pc := 6) dX6_firstError_6 rfl ?_
  refine x_bipush (pc := 7) dX6_firstError_7 (by decide) ⟨by decide, by decide⟩ ?_
  refine x_putI (t := 4) (j := 3) (pc := 9) dX6_firstError_9 (axEx hG rfl) rfl (by decide) (by decide) rfl rfl WF_X6_23 ?_
  refine x_aload_n (pc := 12) dX6_firstError_12 rfl ?_
  refine x_iconst (pc := 13) dX6_firstError_13 ⟨by decide, by decide⟩ ?_
  refine x_putI (t := 4) (j := 4) (pc := 14) dX6_firstError_14 (axEx hG rfl) rfl (by decide) (by decide) rfl rfl WF_X6_29 ?_
  refine x_aload_n (pc := 17) dX6_firstError_17 rfl ?_
  refine x_getF (t := 4) (j := 1) (r := 168) (pc := 18) dX6_firstError_18 (axH hG rfl) (axEx hG rfl) rfl (by decide) (by decide) rfl rfl WF_X6_9 ?_
  refine x_iconst (pc := 21) dX6_firstError_21 ⟨by decide, by decide⟩ ?_
  refine x_cv (vs := [vR 168, vI 0]) (rest := []) (k := 2) rfl (by omega) (ax_caS (pc := 22) dX6_firstError_22 kJ7_fill_53178 rfl rfl WM_X6_32 WT_J7_fill_53178 WN_J7 (Nat.le_of_ble_eq_true rfl)) kJ7_fill_53178 rfl True.intro (T_fill (n := 81) (axEx hG rfl) rfl (by decide)) ?_
  refine x_iconst (pc := 25) dX6_firstError_25 ⟨by decide, by decide⟩ ?_
  refine x_istore_n (ls' := [some (vR 167), some (vI 0), none]) (pc := 26) dX6_firstError_26 (Nat.le_of_ble_eq_true rfl) rfl rfl ?_
  rcases bdS_some hf with ⟨t7, t8, hf⟩ | ⟨t9, t10, hf⟩
  · refine lp_ex (P := (fun s => ax_Ex G tX6_firstError d 27 [some (vR 167), some (vI s.1), none] [] s.2 _ _)) (K := (fun r => (∀ t, r = .inl t → ax_Ex G tX6_firstError d 48 [some (vR 167), some (vI t.1), some (vI t.2.1)] [] t.2.2 _ _) ∧ (∀ t, r = .inr t → ax_Ex G tX6_firstError d 61 [some (vR 167), none, none] [] t _ _))) (fun s y hy h1 h2 => B_X6_firstError_27 (by omega) hG hy (fun s' e => h1 s' e) (fun t e => (h2 _ e).1 t rfl) (fun t e => (h2 _ e).2 t rfl)) _ _ _ t8 ?_
    refine ⟨fun t e => ?_, fun t e => (by cases e)⟩
    cases e
    refine x_aload_n (pc := 48) dX6_firstError_48 rfl ?_
    refine x_iload_n (pc := 49) dX6_firstError_49 rfl ?_
    refine x_putI (t := 4) (j := 5) (pc := 50) dX6_firstError_50 (axEx hG rfl) rfl (by decide) (by decide) rfl rfl WF_X6_26 ?_
    refine x_iload_n (pc := 53) dX6_firstError_53 rfl ?_
    cases hf
    exact x_retI (pc := 54) dX6_firstError_54
  · refine lp_ex (P := (fun s => ax_Ex G tX6_firstError d 27 [some (vR 167), some (vI s.1), none] [] s.2 _ _)) (K := (fun r => (∀ t, r = .inl t → ax_Ex G tX6_firstError d 48 [some (vR 167), some (vI t.1), some (vI t.2.1)] [] t.2.2 _ _) ∧ (∀ t, r = .inr t → ax_Ex G tX6_firstError d 61 [some (vR 167), none, none] [] t _ _))) (fun s y hy h1 h2 => B_X6_firstError_27 (by omega) hG hy (fun s' e => h1 s' e) (fun t e => (h2 _ e).1 t rfl) (fun t e => (h2 _ e).2 t rfl)) _ _ _ t10 ?_
    refine ⟨fun t e => (by cases e), fun t e => ?_⟩
    cases e
    refine x_aload_n (pc := 61) dX6_firstError_61 rfl ?_
    refine x_iconst (pc := 62) dX6_firstError_62 ⟨by decide, by decide⟩ ?_
    refine x_putI (t := 4) (j := 5) (pc := 63) dX6_firstError_63 (axEx hG rfl) rfl (by decide) (by decide) rfl rfl WF_X6_26 ?_
    refine x_iconst (pc := 66) dX6_firstError_66 ⟨by decide, by decide⟩ ?_
    cases hf
    exact x_retI (pc := 67) dX6_firstError_67
