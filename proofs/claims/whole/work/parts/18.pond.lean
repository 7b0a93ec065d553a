/-! walks: Pond, what only reads -/
/- HexPond$Pond.columns()I -/
def fX8_columns (M : ax_M) : Int :=
  ((mI M 169 0))
theorem T_X8_columns {G : ax_G} {d : Nat} (hd : 0 ≤ d) (hG : axPs G 169 176) {M : ax_M} {r : Int} (hf : fX8_columns M = r) : ax_Ex G tX8_columns d 0 (ax_args [vR 169] ++ List.replicate 0 none) [] M (.inl (some (vI r))) M := by
  show ax_Ex G tX8_columns d 0 [some (vR 169)] [] M _ _
  unfold fX8_columns at hf
  refine x_aload_n (pc := 0) dX8_columns_0 rfl ?_
  refine x_getI (t := 6) (j := 0) (pc := 1) dX8_columns_1 (axEx hG rfl) rfl (by decide) (by decide) rfl WF_X8_34 ?_
  subst hf
  exact x_retI (pc := 4) dX8_columns_4
/- HexPond$Pond.rows()I -/
def fX8_rows (M : ax_M) : Int :=
  ((mI M 169 1))
theorem T_X8_rows {G : ax_G} {d : Nat} (hd : 0 ≤ d) (hG : axPs G 169 176) {M : ax_M} {r : Int} (hf : fX8_rows M = r) : ax_Ex G tX8_rows d 0 (ax_args [vR 169] ++ List.replicate 0 none) [] M (.inl (some (vI r))) M := by
  show ax_Ex G tX8_rows d 0 [some (vR 169)] [] M _ _
  unfold fX8_rows at hf
  refine x_aload_n (pc := 0) dX8_rows_0 rfl ?_
  refine x_getI (t := 6) (j := 1) (pc := 1) dX8_rows_1 (axEx hG rfl) rfl (by decide) (by decide) rfl WF_X8_38 ?_
  subst hf
  exact x_retI (pc := 4) dX8_rows_4
/- HexPond$Pond.cells()I -/
def fX8_cells (M : ax_M) : Int :=
  ((wr ((mI M 169 0) * (mI M 169 1))))
theorem T_X8_cells {G : ax_G} {d : Nat} (hd : 0 ≤ d) (hG : axPs G 169 176) {M : ax_M} {r : Int} (hf : fX8_cells M = r) : ax_Ex G tX8_cells d 0 (ax_args [vR 169] ++ List.replicate 0 none) [] M (.inl (some (vI r))) M := by
  show ax_Ex G tX8_cells d 0 [some (vR 169)] [] M _ _
  unfold fX8_cells at hf
  refine x_aload_n (pc := 0) dX8_cells_0 rfl ?_
  refine x_getI (t := 6) (j := 0) (pc := 1) dX8_cells_1 (axEx hG rfl) rfl (by decide) (by decide) rfl WF_X8_34 ?_
  refine x_aload_n (pc := 4) dX8_cells_4 rfl ?_
  refine x_getI (t := 6) (j := 1) (pc := 5) dX8_cells_5 (axEx hG rfl) rfl (by decide) (by decide) rfl WF_X8_38 ?_
  refine x_imulw (pc := 8) dX8_cells_8 ?_
  subst hf
  exact x_retI (pc := 9) dX8_cells_9
/- HexPond$Pond.laidStones()I -/
def fX8_laidStones (M : ax_M) : Int :=
  ((mI M 169 8))
theorem T_X8_laidStones {G : ax_G} {d : Nat} (hd : 0 ≤ d) (hG : axPs G 169 176) {M : ax_M} {r : Int} (hf : fX8_laidStones M = r) : ax_Ex G tX8_laidStones d 0 (ax_args [vR 169] ++ List.replicate 0 none) [] M (.inl (some (vI r))) M := by
  show ax_Ex G tX8_laidStones d 0 [some (vR 169)] [] M _ _
  unfold fX8_laidStones at hf
  refine x_aload_n (pc := 0) dX8_laidStones_0 rfl ?_
  refine x_getI (t := 6) (j := 8) (pc := 1) dX8_laidStones_1 (axEx hG rfl) rfl (by decide) (by decide) rfl WF_X8_41 ?_
  subst hf
  exact x_retI (pc := 4) dX8_laidStones_4
/- HexPond$Pond.changes()I -/
def fX8_changes (M : ax_M) : Int :=
  ((mI M 169 9))
theorem T_X8_changes {G : ax_G} {d : Nat} (hd : 0 ≤ d) (hG : axPs G 169 176) {M : ax_M} {r : Int} (hf : fX8_changes M = r) : ax_Ex G tX8_changes d 0 (ax_args [vR 169] ++ List.replicate 0 none) [] M (.inl (some (vI r))) M := by
  show ax_Ex G tX8_changes d 0 [some (vR 169)] [] M _ _
  unfold fX8_changes at hf
  refine x_aload_n (pc := 0) dX8_changes_0 rfl ?_
  refine x_getI (t := 6) (j := 9) (pc := 1) dX8_changes_1 (axEx hG rfl) rfl (by decide) (by decide) rfl WF_X8_44 ?_
  subst hf
  exact x_retI (pc := 4) dX8_changes_4
/- HexPond$Pond.hasCell(I)Z -/
def fX8_hasCell (M : ax_M) (a1 : Int) : Int :=
  (if a1 < 0 then (0) else (if a1 < (wr ((mI M 169 0) * (mI M 169 1))) then (if a1 < 81 then (1) else (0)) else (0)))
theorem T_X8_hasCell {G : ax_G} {d : Nat} (hd : 0 ≤ d) (hG : axPs G 169 176) {M : ax_M} {a1 : Int} {r : Int} (hf : fX8_hasCell M a1 = r) : ax_Ex G tX8_hasCell d 0 (ax_args [vR 169, vI a1] ++ List.replicate 0 none) [] M (.inl (some (vI r))) M := by
  show ax_Ex G tX8_hasCell d 0 [some (vR 169), some (vI a1)] [] M _ _
  unfold fX8_hasCell at hf
  refine x_iload_n (pc := 0) dX8_hasCell_0 rfl ?_
  refine ax_cmp1 (fun b2a b2b => ?_)
  refine x_iflt (tgt := 27) (pc := 1) dX8_hasCell_1 rfl (fun h1 => ?_) (fun h1 => ?_)
  · replace hf := (if_pos h1).symm.trans hf
    refine x_iconst (pc := 27) dX8_hasCell_27 ⟨by decide, by decide⟩ ?_
    subst hf
    exact x_retI (pc := 28) dX8_hasCell_28
  · replace hf := (if_neg (Int.not_lt.mpr h1)).symm.trans hf
    refine x_iload_n (pc := 4) dX8_hasCell_4 rfl ?_
    refine x_aload_n (pc := 5) dX8_hasCell_5 rfl ?_
    refine x_getI (t := 6) (j := 0) (pc := 6) dX8_hasCell_6 (axEx hG rfl) rfl (by decide) (by decide) rfl WF_X8_34 ?_
    refine x_aload_n (pc := 9) dX8_hasCell_9 rfl ?_
    refine x_getI (t := 6) (j := 1) (pc := 10) dX8_hasCell_10 (axEx hG rfl) rfl (by decide) (by decide) rfl WF_X8_38 ?_
    refine x_imulw (pc := 13) dX8_hasCell_13 ?_
    refine ax_cmp (fun b4a b4b b4c b4e => ?_)
    refine x_icmpge (tgt := 27) (pc := 14) dX8_hasCell_14 rfl (fun h3 => ?_) (fun h3 => ?_)
    · replace hf := (if_neg (Int.not_lt.mpr h3)).symm.trans hf
      refine x_iconst (pc := 27) dX8_hasCell_27 ⟨by decide, by decide⟩ ?_
      subst hf
      exact x_retI (pc := 28) dX8_hasCell_28
    · replace hf := (if_pos h3).symm.trans hf
      refine x_iload_n (pc := 17) dX8_hasCell_17 rfl ?_
      refine x_bipush (pc := 18) dX8_hasCell_18 (by decide) ⟨by decide, by decide⟩ ?_
      refine ax_cmp (fun b6a b6b b6c b6e => ?_)
      refine x_icmpge (tgt := 27) (pc := 20) dX8_hasCell_20 rfl (fun h5 => ?_) (fun h5 => ?_)
      · replace hf := (if_neg (Int.not_lt.mpr h5)).symm.trans hf
        refine x_iconst (pc := 27) dX8_hasCell_27 ⟨by decide, by decide⟩ ?_
        subst hf
        exact x_retI (pc := 28) dX8_hasCell_28
      · replace hf := (if_pos h5).symm.trans hf
        refine x_iconst (pc := 23) dX8_hasCell_23 ⟨by decide, by decide⟩ ?_
        refine x_goto (tgt := 28) (pc := 24) dX8_hasCell_24 rfl ?_
        subst hf
        exact x_retI (pc := 28) dX8_hasCell_28
theorem Z_X8_hasCell {M : ax_M} {a1 : Int} {r : Int} (hf : fX8_hasCell M a1 = r) : r = 0 ∨ r = 1 := by
  unfold fX8_hasCell at hf
  by_cases h1 : a1 < 0
  · replace hf := (if_pos h1).symm.trans hf
    subst hf
    exact Or.inl rfl
  · replace hf := (if_neg h1).symm.trans hf
    by_cases h3 : a1 < (wr ((mI M 169 0) * (mI M 169 1)))
    · replace hf := (if_pos h3).symm.trans hf
      by_cases h5 : a1 < 81
      · replace hf := (if_pos h5).symm.trans hf
        subst hf
        exact Or.inr rfl
      · replace hf := (if_neg h5).symm.trans hf
        subst hf
        exact Or.inl rfl
    · replace hf := (if_neg h3).symm.trans hf
      subst hf
      exact Or.inl rfl
/- HexPond$Pond.cellAt(II)I -/
def fX8_cellAt (M : ax_M) (a1 : Int) (a2 : Int) : Int :=
  (if a1 < 0 then ((-1)) else (if a1 < (mI M 169 0) then (if a2 < 0 then ((-1)) else (if a2 < (mI M 169 1) then ((wr ((wr ((mI M 169 0) * a2)) + a1))) else ((-1)))) else ((-1))))
theorem T_X8_cellAt {G : ax_G} {d : Nat} (hd : 0 ≤ d) (hG : axPs G 169 176) {M : ax_M} {a1 : Int} {a2 : Int} {r : Int} (hf : fX8_cellAt M a1 a2 = r) : ax_Ex G tX8_cellAt d 0 (ax_args [vR 169, vI a1, vI a2] ++ List.replicate 1 none) [] M (.inl (some (vI r))) M := by
  show ax_Ex G tX8_cellAt d 0 [some (vR 169), some (vI a1), some (vI a2), none] [] M _ _
  unfold fX8_cellAt at hf
  refine x_iload_n (pc := 0) dX8_cellAt_0 rfl ?_
  refine ax_cmp1 (fun b2a b2b => ?_)
  refine x_iflt (tgt := 28) (pc := 1) dX8_cellAt_1 rfl (fun h1 => ?_) (fun h1 => ?_)
  · replace hf := (if_pos h1).symm.trans hf
    refine x_iconst (pc := 28) dX8_cellAt_28 ⟨by decide, by decide⟩ ?_
    refine x_istore_n (ls' := [some (vR 169), some (vI a1), some (vI a2), some (vI 0)]) (pc := 29) dX8_cellAt_29 (Nat.le_of_ble_eq_true rfl) rfl rfl ?_
    refine x_iload_n (pc := 30) dX8_cellAt_30 rfl ?_
    refine x_ifeq (tgt := 45) (pc := 31) dX8_cellAt_31 rfl (fun h3 => ?_) (fun h3 => absurd h3 (by omega))
    refine x_iconst (pc := 45) dX8_cellAt_45 ⟨by decide, by decide⟩ ?_
    subst hf
    exact x_retI (pc := 46) dX8_cellAt_46
  · replace hf := (if_neg (Int.not_lt.mpr h1)).symm.trans hf
    refine x_iload_n (pc := 4) dX8_cellAt_4 rfl ?_
    refine x_aload_n (pc := 5) dX8_cellAt_5 rfl ?_
    refine x_getI (t := 6) (j := 0) (pc := 6) dX8_cellAt_6 (axEx hG rfl) rfl (by decide) (by decide) rfl WF_X8_34 ?_
    refine ax_cmp (fun b5a b5b b5c b5e => ?_)
    refine x_icmpge (tgt := 28) (pc := 9) dX8_cellAt_9 rfl (fun h4 => ?_) (fun h4 => ?_)
    · replace hf := (if_neg (Int.not_lt.mpr h4)).symm.trans hf
      refine x_iconst (pc := 28) dX8_cellAt_28 ⟨by decide, by decide⟩ ?_
      refine x_istore_n (ls' := [some (vR 169), some (vI a1), some (vI a2), some (vI 0)]) (pc := 29) dX8_cellAt_29 (Nat.le_of_ble_eq_true rfl) rfl rfl ?_
      refine x_iload_n (pc := 30) dX8_cellAt_30 rfl ?_
      refine x_ifeq (tgt := 45) (pc := 31) dX8_cellAt_31 rfl (fun h13 => ?_) (fun h13 => absurd h13 (by omega))
      refine x_iconst (pc := 45) dX8_cellAt_45 ⟨by decide, by decide⟩ ?_
      subst hf
      exact x_retI (pc := 46) dX8_cellAt_46
    · replace hf := (if_pos h4).symm.trans hf
      refine x_iload_n (pc := 12) dX8_cellAt_12 rfl ?_
      refine ax_cmp1 (fun b7a b7b => ?_)
      refine x_iflt (tgt := 28) (pc := 13) dX8_cellAt_13 rfl (fun h6 => ?_) (fun h6 => ?_)
      · replace hf := (if_pos h6).symm.trans hf
        refine x_iconst (pc := 28) dX8_cellAt_28 ⟨by decide, by decide⟩ ?_
        refine x_istore_n (ls' := [some (vR 169), some (vI a1), some (vI a2), some (vI 0)]) (pc := 29) dX8_cellAt_29 (Nat.le_of_ble_eq_true rfl) rfl rfl ?_
        refine x_iload_n (pc := 30) dX8_cellAt_30 rfl ?_
        refine x_ifeq (tgt := 45) (pc := 31) dX8_cellAt_31 rfl (fun h8 => ?_) (fun h8 => absurd h8 (by omega))
        refine x_iconst (pc := 45) dX8_cellAt_45 ⟨by decide, by decide⟩ ?_
        subst hf
        exact x_retI (pc := 46) dX8_cellAt_46
      · replace hf := (if_neg (Int.not_lt.mpr h6)).symm.trans hf
        refine x_iload_n (pc := 16) dX8_cellAt_16 rfl ?_
        refine x_aload_n (pc := 17) dX8_cellAt_17 rfl ?_
        refine x_getI (t := 6) (j := 1) (pc := 18) dX8_cellAt_18 (axEx hG rfl) rfl (by decide) (by decide) rfl WF_X8_38 ?_
        refine ax_cmp (fun b10a b10b b10c b10e => ?_)
        refine x_icmpge (tgt := 28) (pc := 21) dX8_cellAt_21 rfl (fun h9 => ?_) (fun h9 => ?_)
        · replace hf := (if_neg (Int.not_lt.mpr h9)).symm.trans hf
          refine x_iconst (pc := 28) dX8_cellAt_28 ⟨by decide, by decide⟩ ?_
          refine x_istore_n (ls' := [some (vR 169), some (vI a1), some (vI a2), some (vI 0)]) (pc := 29) dX8_cellAt_29 (Nat.le_of_ble_eq_true rfl) rfl rfl ?_
          refine x_iload_n (pc := 30) dX8_cellAt_30 rfl ?_
          refine x_ifeq (tgt := 45) (pc := 31) dX8_cellAt_31 rfl (fun h12 => ?_) (fun h12 => absurd h12 (by omega))
          refine x_iconst (pc := 45) dX8_cellAt_45 ⟨by decide, by decide⟩ ?_
          subst hf
          exact x_retI (pc := 46) dX8_cellAt_46
        · replace hf := (if_pos h9).symm.trans hf
          refine x_iconst (pc := 24) dX8_cellAt_24 ⟨by decide, by decide⟩ ?_
          refine x_goto (tgt := 29) (pc := 25) dX8_cellAt_25 rfl ?_
          refine x_istore_n (ls' := [some (vR 169), some (vI a1), some (vI a2), some (vI 1)]) (pc := 29) dX8_cellAt_29 (Nat.le_of_ble_eq_true rfl) rfl rfl ?_
          refine x_iload_n (pc := 30) dX8_cellAt_30 rfl ?_
          refine x_ifeq (tgt := 45) (pc := 31) dX8_cellAt_31 rfl (fun h11 => absurd h11 (by omega)) (fun h11 => ?_)
          refine x_aload_n (pc := 34) dX8_cellAt_34 rfl ?_
          refine x_getI (t := 6) (j := 0) (pc := 35) dX8_cellAt_35 (axEx hG rfl) rfl (by decide) (by decide) rfl WF_X8_34 ?_
          refine x_iload_n (pc := 38) dX8_cellAt_38 rfl ?_
          refine x_imulw (pc := 39) dX8_cellAt_39 ?_
          refine x_iload_n (pc := 40) dX8_cellAt_40 rfl ?_
          refine x_iaddw (pc := 41) dX8_cellAt_41 ?_
          refine x_goto (tgt := 46) (pc := 42) dX8_cellAt_42 rfl ?_
          subst hf
          exact x_retI (pc := 46) dX8_cellAt_46
/- HexPond$Pond.ownerAt(I)I -/
def fX8_ownerAt (M : ax_M) (a1 : Int) : Int :=
  (if a1 < 0 then (0) else (if a1 < 81 then ((mI M 170 (Int.toNat a1))) else (0)))
theorem T_X8_ownerAt {G : ax_G} {d : Nat} (hd : 0 ≤ d) (hG : axPs G 169 176) {M : ax_M} {a1 : Int} {r : Int} (hf : fX8_ownerAt M a1 = r) : ax_Ex G tX8_ownerAt d 0 (ax_args [vR 169, vI a1] ++ List.replicate 0 none) [] M (.inl (some (vI r))) M := by
  show ax_Ex G tX8_ownerAt d 0 [some (vR 169), some (vI a1)] [] M _ _
  unfold fX8_ownerAt at hf
  refine x_iload_n (pc := 0) dX8_ownerAt_0 rfl ?_
  refine ax_cmp1 (fun b2a b2b => ?_)
  refine x_iflt (tgt := 22) (pc := 1) dX8_ownerAt_1 rfl (fun h1 => ?_) (fun h1 => ?_)
  · replace hf := (if_pos h1).symm.trans hf
    refine x_iconst (pc := 22) dX8_ownerAt_22 ⟨by decide, by decide⟩ ?_
    subst hf
    exact x_retI (pc := 23) dX8_ownerAt_23
  · replace hf := (if_neg (Int.not_lt.mpr h1)).symm.trans hf
    refine x_iload_n (pc := 4) dX8_ownerAt_4 rfl ?_
    refine x_aload_n (pc := 5) dX8_ownerAt_5 rfl ?_
    refine x_getF (t := 6) (j := 2) (r := 170) (pc := 6) dX8_ownerAt_6 (axH hG rfl) (axEx hG rfl) rfl (by decide) (by decide) rfl rfl WF_X8_9 ?_
    refine x_alen (t := 0) (n := 81) (pc := 9) dX8_ownerAt_9 (axEx hG rfl) rfl (by decide) (by decide) ?_
    refine ax_cmp (fun b4a b4b b4c b4e => ?_)
    refine x_icmpge (tgt := 22) (pc := 10) dX8_ownerAt_10 rfl (fun h3 => ?_) (fun h3 => ?_)
    · replace hf := (if_neg (Int.not_lt.mpr h3)).symm.trans hf
      refine x_iconst (pc := 22) dX8_ownerAt_22 ⟨by decide, by decide⟩ ?_
      subst hf
      exact x_retI (pc := 23) dX8_ownerAt_23
    · replace hf := (if_pos h3).symm.trans hf
      refine x_aload_n (pc := 13) dX8_ownerAt_13 rfl ?_
      refine x_getF (t := 6) (j := 2) (r := 170) (pc := 14) dX8_ownerAt_14 (axH hG rfl) (axEx hG rfl) rfl (by decide) (by decide) rfl rfl WF_X8_9 ?_
      refine x_iload_n (pc := 17) dX8_ownerAt_17 rfl ?_
      refine x_iald2 (n := 81) (pc := 18) dX8_ownerAt_18 (axEx hG rfl) rfl (by omega) (by omega) ?_
      refine x_goto (tgt := 23) (pc := 19) dX8_ownerAt_19 rfl ?_
      subst hf
      exact x_retI (pc := 23) dX8_ownerAt_23
/- HexPond$Pond.isAtShore(III)Z -/
def fX8_isAtShore (M : ax_M) (a1 : Int) (a2 : Int) (a3 : Int) : Int :=
  (if a3 < 0 then (0) else (if a3 < 81 then (if a1 = 0 then (if a2 = 0 then (if (mI M 172 (Int.toNat a3)) = 0 then (1) else (0)) else (if (mI M 172 (Int.toNat a3)) = (wr ((mI M 169 0) - 1)) then (1) else (0))) else (if a2 = 0 then (if (mI M 173 (Int.toNat a3)) = 0 then (1) else (0)) else (if (mI M 173 (Int.toNat a3)) = (wr ((mI M 169 1) - 1)) then (1) else (0)))) else (0)))
theorem T_X8_isAtShore {G : ax_G} {d : Nat} (hd : 0 ≤ d) (hG : axPs G 169 176) {M : ax_M} {a1 : Int} {a2 : Int} {a3 : Int} {r : Int} (hf : fX8_isAtShore M a1 a2 a3 = r) : ax_Ex G tX8_isAtShore d 0 (ax_args [vR 169, vI a1, vI a2, vI a3] ++ List.replicate 2 none) [] M (.inl (some (vI r))) M := by
  show ax_Ex G tX8_isAtShore d 0 [some (vR 169), some (vI a1), some (vI a2), some (vI a3), none, none] [] M _ _
  unfold fX8_isAtShore at hf
  refine x_iload_n (pc := 0) dX8_isAtShore_0 rfl ?_
  refine ax_cmp1 (fun b2a b2b => ?_)
  refine x_iflt (tgt := 10) (pc := 1) dX8_isAtShore_1 rfl (fun h1 => ?_) (fun h1 => ?_)
  · replace hf := (if_pos h1).symm.trans hf
    refine x_iconst (pc := 10) dX8_isAtShore_10 ⟨by decide, by decide⟩ ?_
    subst hf
    exact x_retI (pc := 11) dX8_isAtShore_11
  · replace hf := (if_neg (Int.not_lt.mpr h1)).symm.trans hf
    refine x_iload_n (pc := 4) dX8_isAtShore_4 rfl ?_
    refine x_bipush (pc := 5) dX8_isAtShore_5 (by decide) ⟨by decide, by decide⟩ ?_
    refine ax_cmp (fun b4a b4b b4c b4e => ?_)
    refine x_icmplt (tgt := 12) (pc := 7) dX8_isAtShore_7 rfl (fun h3 => ?_) (fun h3 => ?_)
    · replace hf := (if_pos h3).symm.trans hf
      refine x_iload_n (pc := 12) dX8_isAtShore_12 rfl ?_
      refine x_ifne (tgt := 25) (pc := 13) dX8_isAtShore_13 rfl (fun h5 => ?_) (fun h5 => ?_)
      · replace hf := (if_neg h5).symm.trans hf
        refine x_aload_n (pc := 25) dX8_isAtShore_25 rfl ?_
        refine x_getF (t := 6) (j := 5) (r := 173) (pc := 26) dX8_isAtShore_26 (axH hG rfl) (axEx hG rfl) rfl (by decide) (by decide) rfl rfl WF_X8_21 ?_
        refine x_iload_n (pc := 29) dX8_isAtShore_29 rfl ?_
        refine x_iald2 (n := 81) (pc := 30) dX8_isAtShore_30 (axEx hG rfl) rfl (by omega) (by omega) ?_
        refine x_istore (ls' := [some (vR 169), some (vI a1), some (vI a2), some (vI a3), some (vI (mI M 173 (Int.toNat a3))), none]) (pc := 31) dX8_isAtShore_31 (Nat.le_of_ble_eq_true rfl) rfl rfl ?_
        refine x_iload_n (pc := 33) dX8_isAtShore_33 rfl ?_
        refine x_ifne (tgt := 46) (pc := 34) dX8_isAtShore_34 rfl (fun h10 => ?_) (fun h10 => absurd h10 (by omega))
        refine x_aload_n (pc := 46) dX8_isAtShore_46 rfl ?_
        refine x_getI (t := 6) (j := 1) (pc := 47) dX8_isAtShore_47 (axEx hG rfl) rfl (by decide) (by decide) rfl WF_X8_38 ?_
        refine x_iconst (pc := 50) dX8_isAtShore_50 ⟨by decide, by decide⟩ ?_
        refine x_isubw (pc := 51) dX8_isAtShore_51 ?_
        refine x_istore (ls' := [some (vR 169), some (vI a1), some (vI a2), some (vI a3), some (vI (mI M 173 (Int.toNat a3))), some (vI (wr ((mI M 169 1) - 1)))]) (pc := 52) dX8_isAtShore_52 (Nat.le_of_ble_eq_true rfl) rfl rfl ?_
        refine x_iload (pc := 54) dX8_isAtShore_54 rfl ?_
        refine x_iload_n (pc := 56) dX8_isAtShore_56 rfl ?_
        refine x_ifne (tgt := 64) (pc := 57) dX8_isAtShore_57 rfl (fun h11 => ?_) (fun h11 => ?_)
        · replace hf := (if_neg h11).symm.trans hf
          refine x_iload (pc := 64) dX8_isAtShore_64 rfl ?_
          refine x_icmpne (tgt := 73) (pc := 66) dX8_isAtShore_66 rfl (fun h13 => ?_) (fun h13 => ?_)
          · replace hf := (if_neg h13).symm.trans hf
            refine x_iconst (pc := 73) dX8_isAtShore_73 ⟨by decide, by decide⟩ ?_
            subst hf
            exact x_retI (pc := 74) dX8_isAtShore_74
          · replace hf := (if_pos h13).symm.trans hf
            refine x_iconst (pc := 69) dX8_isAtShore_69 ⟨by decide, by decide⟩ ?_
            refine x_goto (tgt := 74) (pc := 70) dX8_isAtShore_70 rfl ?_
            subst hf
            exact x_retI (pc := 74) dX8_isAtShore_74
        · replace hf := (if_pos h11).symm.trans hf
          refine x_iconst (pc := 60) dX8_isAtShore_60 ⟨by decide, by decide⟩ ?_
          refine x_goto (tgt := 66) (pc := 61) dX8_isAtShore_61 rfl ?_
          refine x_icmpne (tgt := 73) (pc := 66) dX8_isAtShore_66 rfl (fun h12 => ?_) (fun h12 => ?_)
          · replace hf := (if_neg h12).symm.trans hf
            refine x_iconst (pc := 73) dX8_isAtShore_73 ⟨by decide, by decide⟩ ?_
            subst hf
            exact x_retI (pc := 74) dX8_isAtShore_74
          · replace hf := (if_pos h12).symm.trans hf
            refine x_iconst (pc := 69) dX8_isAtShore_69 ⟨by decide, by decide⟩ ?_
            refine x_goto (tgt := 74) (pc := 70) dX8_isAtShore_70 rfl ?_
            subst hf
            exact x_retI (pc := 74) dX8_isAtShore_74
      · replace hf := (if_pos h5).symm.trans hf
        refine x_aload_n (pc := 16) dX8_isAtShore_16 rfl ?_
        refine x_getF (t := 6) (j := 4) (r := 172) (pc := 17) dX8_isAtShore_17 (axH hG rfl) (axEx hG rfl) rfl (by decide) (by decide) rfl rfl WF_X8_18 ?_
        refine x_iload_n (pc := 20) dX8_isAtShore_20 rfl ?_
        refine x_iald2 (n := 81) (pc := 21) dX8_isAtShore_21 (axEx hG rfl) rfl (by omega) (by omega) ?_
        refine x_goto (tgt := 31) (pc := 22) dX8_isAtShore_22 rfl ?_
        refine x_istore (ls' := [some (vR 169), some (vI a1), some (vI a2), some (vI a3), some (vI (mI M 172 (Int.toNat a3))), none]) (pc := 31) dX8_isAtShore_31 (Nat.le_of_ble_eq_true rfl) rfl rfl ?_
        refine x_iload_n (pc := 33) dX8_isAtShore_33 rfl ?_
        refine x_ifne (tgt := 46) (pc := 34) dX8_isAtShore_34 rfl (fun h6 => absurd h6 (by omega)) (fun h6 => ?_)
        refine x_aload_n (pc := 37) dX8_isAtShore_37 rfl ?_
        refine x_getI (t := 6) (j := 0) (pc := 38) dX8_isAtShore_38 (axEx hG rfl) rfl (by decide) (by decide) rfl WF_X8_34 ?_
        refine x_iconst (pc := 41) dX8_isAtShore_41 ⟨by decide, by decide⟩ ?_
        refine x_isubw (pc := 42) dX8_isAtShore_42 ?_
        refine x_goto (tgt := 52) (pc := 43) dX8_isAtShore_43 rfl ?_
        refine x_istore (ls' := [some (vR 169), some (vI a1), some (vI a2), some (vI a3), some (vI (mI M 172 (Int.toNat a3))), some (vI (wr ((mI M 169 0) - 1)))]) (pc := 52) dX8_isAtShore_52 (Nat.le_of_ble_eq_true rfl) rfl rfl ?_
        refine x_iload (pc := 54) dX8_isAtShore_54 rfl ?_
        refine x_iload_n (pc := 56) dX8_isAtShore_56 rfl ?_
        refine x_ifne (tgt := 64) (pc := 57) dX8_isAtShore_57 rfl (fun h7 => ?_) (fun h7 => ?_)
        · replace hf := (if_neg h7).symm.trans hf
          refine x_iload (pc := 64) dX8_isAtShore_64 rfl ?_
          refine x_icmpne (tgt := 73) (pc := 66) dX8_isAtShore_66 rfl (fun h9 => ?_) (fun h9 => ?_)
          · replace hf := (if_neg h9).symm.trans hf
            refine x_iconst (pc := 73) dX8_isAtShore_73 ⟨by decide, by decide⟩ ?_
            subst hf
            exact x_retI (pc := 74) dX8_isAtShore_74
          · replace hf := (if_pos h9).symm.trans hf
            refine x_iconst (pc := 69) dX8_isAtShore_69 ⟨by decide, by decide⟩ ?_
            refine x_goto (tgt := 74) (pc := 70) dX8_isAtShore_70 rfl ?_
            subst hf
            exact x_retI (pc := 74) dX8_isAtShore_74
        · replace hf := (if_pos h7).symm.trans hf
          refine x_iconst (pc := 60) dX8_isAtShore_60 ⟨by decide, by decide⟩ ?_
          refine x_goto (tgt := 66) (pc := 61) dX8_isAtShore_61 rfl ?_
          refine x_icmpne (tgt := 73) (pc := 66) dX8_isAtShore_66 rfl (fun h8 => ?_) (fun h8 => ?_)
          · replace hf := (if_neg h8).symm.trans hf
            refine x_iconst (pc := 73) dX8_isAtShore_73 ⟨by decide, by decide⟩ ?_
            subst hf
            exact x_retI (pc := 74) dX8_isAtShore_74
          · replace hf := (if_pos h8).symm.trans hf
            refine x_iconst (pc := 69) dX8_isAtShore_69 ⟨by decide, by decide⟩ ?_
            refine x_goto (tgt := 74) (pc := 70) dX8_isAtShore_70 rfl ?_
            subst hf
            exact x_retI (pc := 74) dX8_isAtShore_74
    · replace hf := (if_neg (Int.not_lt.mpr h3)).symm.trans hf
      refine x_iconst (pc := 10) dX8_isAtShore_10 ⟨by decide, by decide⟩ ?_
      subst hf
      exact x_retI (pc := 11) dX8_isAtShore_11
theorem Z_X8_isAtShore {M : ax_M} {a1 : Int} {a2 : Int} {a3 : Int} {r : Int} (hf : fX8_isAtShore M a1 a2 a3 = r) : r = 0 ∨ r = 1 := by
  unfold fX8_isAtShore at hf
  by_cases h1 : a3 < 0
  · replace hf := (if_pos h1).symm.trans hf
    subst hf
    exact Or.inl rfl
  · replace hf := (if_neg h1).symm.trans hf
    by_cases h3 : a3 < 81
    · replace hf := (if_pos h3).symm.trans hf
      by_cases h5 : a1 = 0
      · replace hf := (if_pos h5).symm.trans hf
        by_cases h7 : a2 = 0
        · replace hf := (if_pos h7).symm.trans hf
          by_cases h8 : (mI M 172 (Int.toNat a3)) = 0
          · replace hf := (if_pos h8).symm.trans hf
            subst hf
            exact Or.inr rfl
          · replace hf := (if_neg h8).symm.trans hf
            subst hf
            exact Or.inl rfl
        · replace hf := (if_neg h7).symm.trans hf
          by_cases h9 : (mI M 172 (Int.toNat a3)) = (wr ((mI M 169 0) - 1))
          · replace hf := (if_pos h9).symm.trans hf
            subst hf
            exact Or.inr rfl
          · replace hf := (if_neg h9).symm.trans hf
            subst hf
            exact Or.inl rfl
      · replace hf := (if_neg h5).symm.trans hf
        by_cases h11 : a2 = 0
        · replace hf := (if_pos h11).symm.trans hf
          by_cases h12 : (mI M 173 (Int.toNat a3)) = 0
          · replace hf := (if_pos h12).symm.trans hf
            subst hf
            exact Or.inr rfl
          · replace hf := (if_neg h12).symm.trans hf
            subst hf
            exact Or.inl rfl
        · replace hf := (if_neg h11).symm.trans hf
          by_cases h13 : (mI M 173 (Int.toNat a3)) = (wr ((mI M 169 1) - 1))
          · replace hf := (if_pos h13).symm.trans hf
            subst hf
            exact Or.inr rfl
          · replace hf := (if_neg h13).symm.trans hf
            subst hf
            exact Or.inl rfl
    · replace hf := (if_neg h3).symm.trans hf
      subst hf
      exact Or.inl rfl
/- HexPond$Pond.stonesOf(I)I -/
def fX8_stonesOf (M : ax_M) (a1 : Int) : Int :=
  (if a1 < 0 then (0) else (if a1 < 2 then ((mI M 174 (Int.toNat a1))) else (0)))
theorem T_X8_stonesOf {G : ax_G} {d : Nat} (hd : 0 ≤ d) (hG : axPs G 169 176) {M : ax_M} {a1 : Int} {r : Int} (hf : fX8_stonesOf M a1 = r) : ax_Ex G tX8_stonesOf d 0 (ax_args [vR 169, vI a1] ++ List.replicate 0 none) [] M (.inl (some (vI r))) M := by
  show ax_Ex G tX8_stonesOf d 0 [some (vR 169), some (vI a1)] [] M _ _
  unfold fX8_stonesOf at hf
  refine x_iload_n (pc := 0) dX8_stonesOf_0 rfl ?_
  refine ax_cmp1 (fun b2a b2b => ?_)
  refine x_iflt (tgt := 22) (pc := 1) dX8_stonesOf_1 rfl (fun h1 => ?_) (fun h1 => ?_)
  · replace hf := (if_pos h1).symm.trans hf
    refine x_iconst (pc := 22) dX8_stonesOf_22 ⟨by decide, by decide⟩ ?_
    subst hf
    exact x_retI (pc := 23) dX8_stonesOf_23
  · replace hf := (if_neg (Int.not_lt.mpr h1)).symm.trans hf
    refine x_iload_n (pc := 4) dX8_stonesOf_4 rfl ?_
    refine x_aload_n (pc := 5) dX8_stonesOf_5 rfl ?_
    refine x_getF (t := 6) (j := 6) (r := 174) (pc := 6) dX8_stonesOf_6 (axH hG rfl) (axEx hG rfl) rfl (by decide) (by decide) rfl rfl WF_X8_24 ?_
    refine x_alen (t := 0) (n := 2) (pc := 9) dX8_stonesOf_9 (axEx hG rfl) rfl (by decide) (by decide) ?_
    refine ax_cmp (fun b4a b4b b4c b4e => ?_)
    refine x_icmpge (tgt := 22) (pc := 10) dX8_stonesOf_10 rfl (fun h3 => ?_) (fun h3 => ?_)
    · replace hf := (if_neg (Int.not_lt.mpr h3)).symm.trans hf
      refine x_iconst (pc := 22) dX8_stonesOf_22 ⟨by decide, by decide⟩ ?_
      subst hf
      exact x_retI (pc := 23) dX8_stonesOf_23
    · replace hf := (if_pos h3).symm.trans hf
      refine x_aload_n (pc := 13) dX8_stonesOf_13 rfl ?_
      refine x_getF (t := 6) (j := 6) (r := 174) (pc := 14) dX8_stonesOf_14 (axH hG rfl) (axEx hG rfl) rfl (by decide) (by decide) rfl rfl WF_X8_24 ?_
      refine x_iload_n (pc := 17) dX8_stonesOf_17 rfl ?_
      refine x_iald2 (n := 2) (pc := 18) dX8_stonesOf_18 (axEx hG rfl) rfl (by omega) (by omega) ?_
      refine x_goto (tgt := 23) (pc := 19) dX8_stonesOf_19 rfl ?_
      subst hf
      exact x_retI (pc := 23) dX8_stonesOf_23
/- HexPond$Pond.stones()I -/
def fX8_stones (M : ax_M) : Int :=
  ((wr ((mI M 174 0) + (mI M 174 1))))
theorem T_X8_stones {G : ax_G} {d : Nat} (hd : 0 ≤ d) (hG : axPs G 169 176) {M : ax_M} {r : Int} (hf : fX8_stones M = r) : ax_Ex G tX8_stones d 0 (ax_args [vR 169] ++ List.replicate 0 none) [] M (.inl (some (vI r))) M := by
  show ax_Ex G tX8_stones d 0 [some (vR 169)] [] M _ _
  unfold fX8_stones at hf
  refine x_aload_n (pc := 0) dX8_stones_0 rfl ?_
  refine x_getF (t := 6) (j := 6) (r := 174) (pc := 1) dX8_stones_1 (axH hG rfl) (axEx hG rfl) rfl (by decide) (by decide) rfl rfl WF_X8_24 ?_
  refine x_iconst (pc := 4) dX8_stones_4 ⟨by decide, by decide⟩ ?_
  refine x_iald (j := 0) (n := 2) (pc := 5) dX8_stones_5 (axEx hG rfl) rfl rfl (by decide) ?_
  refine x_aload_n (pc := 6) dX8_stones_6 rfl ?_
  refine x_getF (t := 6) (j := 6) (r := 174) (pc := 7) dX8_stones_7 (axH hG rfl) (axEx hG rfl) rfl (by decide) (by decide) rfl rfl WF_X8_24 ?_
  refine x_iconst (pc := 10) dX8_stones_10 ⟨by decide, by decide⟩ ?_
  refine x_iald (j := 1) (n := 2) (pc := 11) dX8_stones_11 (axEx hG rfl) rfl rfl (by decide) ?_
  refine x_iaddw (pc := 12) dX8_stones_12 ?_
  subst hf
  exact x_retI (pc := 13) dX8_stones_13
/- HexPond$Pond.freeCells()I -/
def fX8_freeCells (M : ax_M) : Int :=
  ((wr ((fX8_cells M) - (fX8_stones M))))
theorem T_X8_freeCells {G : ax_G} {d : Nat} (hd : 1 ≤ d) (hG : axPs G 169 176) {M : ax_M} {r : Int} (hf : fX8_freeCells M = r) : ax_Ex G tX8_freeCells d 0 (ax_args [vR 169] ++ List.replicate 0 none) [] M (.inl (some (vI r))) M := by
  show ax_Ex G tX8_freeCells d 0 [some (vR 169)] [] M _ _
  unfold fX8_freeCells at hf
  refine x_aload_n (pc := 0) dX8_freeCells_0 rfl ?_
  refine x_cr (v := vI (fX8_cells M)) (vs := [vR 169]) (rest := []) (k := 0) rfl (by omega) (ax_caV (pc := 1) dX8_freeCells_1 kX8_cells rfl rfl WM_X8_66 WI_X8_cells WS_X8_cells WN_X8 (ax_rcO (t := 6) (axEx hG rfl) rfl (by decide)) (Nat.le_of_ble_eq_true rfl)) kX8_cells rfl True.intro (T_X8_cells (by omega) hG rfl) ?_
  refine x_aload_n (pc := 4) dX8_freeCells_4 rfl ?_
  refine x_cr (v := vI (fX8_stones M)) (vs := [vR 169]) (rest := [vI (fX8_cells M)]) (k := 0) rfl (by omega) (ax_caV (pc := 5) dX8_freeCells_5 kX8_stones rfl rfl WM_X8_70 WI_X8_stones WS_X8_stones WN_X8 (ax_rcO (t := 6) (axEx hG rfl) rfl (by decide)) (Nat.le_of_ble_eq_true rfl)) kX8_stones rfl True.intro (T_X8_stones (by omega) hG rfl) ?_
  refine x_isubw (pc := 8) dX8_freeCells_8 ?_
  subst hf
  exact x_retI (pc := 9) dX8_freeCells_9
/- HexPond$Pond.turn()I -/
def fX8_turn (M : ax_M) : Int :=
  (if (fX8_stonesOf M 1) < (fX8_stonesOf M 0) then (1) else (0))
theorem T_X8_turn {G : ax_G} {d : Nat} (hd : 1 ≤ d) (hG : axPs G 169 176) {M : ax_M} {r : Int} (hf : fX8_turn M = r) : ax_Ex G tX8_turn d 0 (ax_args [vR 169] ++ List.replicate 0 none) [] M (.inl (some (vI r))) M := by
  show ax_Ex G tX8_turn d 0 [some (vR 169)] [] M _ _
  unfold fX8_turn at hf
  refine x_aload_n (pc := 0) dX8_turn_0 rfl ?_
  refine x_iconst (pc := 1) dX8_turn_1 ⟨by decide, by decide⟩ ?_
  refine x_cr (v := vI (fX8_stonesOf M 0)) (vs := [vR 169, vI 0]) (rest := []) (k := 0) rfl (by omega) (ax_caV (pc := 2) dX8_turn_2 kX8_stonesOf rfl rfl WM_X8_72 WI_X8_stonesOf WS_X8_stonesOf WN_X8 (ax_rcO (t := 6) (axEx hG rfl) rfl (by decide)) (Nat.le_of_ble_eq_true rfl)) kX8_stonesOf rfl True.intro (T_X8_stonesOf (by omega) hG rfl) ?_
  refine x_aload_n (pc := 5) dX8_turn_5 rfl ?_
  refine x_iconst (pc := 6) dX8_turn_6 ⟨by decide, by decide⟩ ?_
  refine x_cr (v := vI (fX8_stonesOf M 1)) (vs := [vR 169, vI 1]) (rest := [vI (fX8_stonesOf M 0)]) (k := 0) rfl (by omega) (ax_caV (pc := 7) dX8_turn_7 kX8_stonesOf rfl rfl WM_X8_72 WI_X8_stonesOf WS_X8_stonesOf WN_X8 (ax_rcO (t := 6) (axEx hG rfl) rfl (by decide)) (Nat.le_of_ble_eq_true rfl)) kX8_stonesOf rfl True.intro (T_X8_stonesOf (by omega) hG rfl) ?_
  refine ax_cmp (fun b2a b2b b2c b2e => ?_)
  refine x_icmpgt (tgt := 17) (pc := 10) dX8_turn_10 rfl (fun h1 => ?_) (fun h1 => ?_)
  · replace hf := (if_pos h1).symm.trans hf
    refine x_iconst (pc := 17) dX8_turn_17 ⟨by decide, by decide⟩ ?_
    subst hf
    exact x_retI (pc := 18) dX8_turn_18
  · replace hf := (if_neg (Int.not_lt.mpr h1)).symm.trans hf
    refine x_iconst (pc := 13) dX8_turn_13 ⟨by decide, by decide⟩ ?_
    refine x_goto (tgt := 18) (pc := 14) dX8_turn_14 rfl ?_
    subst hf
    exact x_retI (pc := 18) dX8_turn_18
/- HexPond$Pond.beside(II)I -/
def fX8_beside (M : ax_M) (a1 : Int) (a2 : Int) : Int :=
  (if a1 < 0 then ((-1)) else (if a1 < (wr ((mI M 169 0) * (mI M 169 1))) then (if a2 < 0 then ((-1)) else (if a2 < 6 then (if (wr ((wr (a1 * 6)) + a2)) < 0 then ((-1)) else (if (wr ((wr (a1 * 6)) + a2)) < 486 then ((mI M 171 (Int.toNat (wr ((wr (a1 * 6)) + a2))))) else ((-1)))) else ((-1)))) else ((-1))))
theorem T_X8_beside {G : ax_G} {d : Nat} (hd : 0 ≤ d) (hG : axPs G 169 176) {M : ax_M} {a1 : Int} {a2 : Int} {r : Int} (hf : fX8_beside M a1 a2 = r) : ax_Ex G tX8_beside d 0 (ax_args [vR 169, vI a1, vI a2] ++ List.replicate 2 none) [] M (.inl (some (vI r))) M := by
  show ax_Ex G tX8_beside d 0 [some (vR 169), some (vI a1), some (vI a2), none, none] [] M _ _
  unfold fX8_beside at hf
  refine x_iload_n (pc := 0) dX8_beside_0 rfl ?_
  refine ax_cmp1 (fun b2a b2b => ?_)
  refine x_iflt (tgt := 31) (pc := 1) dX8_beside_1 rfl (fun h1 => ?_) (fun h1 => ?_)
  · replace hf := (if_pos h1).symm.trans hf
    refine x_iconst (pc := 31) dX8_beside_31 ⟨by decide, by decide⟩ ?_
    refine x_istore_n (ls' := [some (vR 169), some (vI a1), some (vI a2), some (vI 0), none]) (pc := 32) dX8_beside_32 (Nat.le_of_ble_eq_true rfl) rfl rfl ?_
    refine x_iload_n (pc := 33) dX8_beside_33 rfl ?_
    refine x_ifeq (tgt := 46) (pc := 34) dX8_beside_34 rfl (fun h3 => ?_) (fun h3 => absurd h3 (by omega))
    refine x_iconst (pc := 46) dX8_beside_46 ⟨by decide, by decide⟩ ?_
    refine x_istore (ls' := [some (vR 169), some (vI a1), some (vI a2), some (vI 0), some (vI (-1))]) (pc := 47) dX8_beside_47 (Nat.le_of_ble_eq_true rfl) rfl rfl ?_
    refine x_iload (pc := 49) dX8_beside_49 rfl ?_
    refine x_iflt (tgt := 74) (pc := 51) dX8_beside_51 rfl (fun h4 => ?_) (fun h4 => absurd h4 (by omega))
    refine x_iconst (pc := 74) dX8_beside_74 ⟨by decide, by decide⟩ ?_
    subst hf
    exact x_retI (pc := 75) dX8_beside_75
  · replace hf := (if_neg (Int.not_lt.mpr h1)).symm.trans hf
    refine x_iload_n (pc := 4) dX8_beside_4 rfl ?_
    refine x_aload_n (pc := 5) dX8_beside_5 rfl ?_
    refine x_getI (t := 6) (j := 0) (pc := 6) dX8_beside_6 (axEx hG rfl) rfl (by decide) (by decide) rfl WF_X8_34 ?_
    refine x_aload_n (pc := 9) dX8_beside_9 rfl ?_
    refine x_getI (t := 6) (j := 1) (pc := 10) dX8_beside_10 (axEx hG rfl) rfl (by decide) (by decide) rfl WF_X8_38 ?_
    refine x_imulw (pc := 13) dX8_beside_13 ?_
    refine ax_cmp (fun b6a b6b b6c b6e => ?_)
    refine x_icmpge (tgt := 31) (pc := 14) dX8_beside_14 rfl (fun h5 => ?_) (fun h5 => ?_)
    · replace hf := (if_neg (Int.not_lt.mpr h5)).symm.trans hf
      refine x_iconst (pc := 31) dX8_beside_31 ⟨by decide, by decide⟩ ?_
      refine x_istore_n (ls' := [some (vR 169), some (vI a1), some (vI a2), some (vI 0), none]) (pc := 32) dX8_beside_32 (Nat.le_of_ble_eq_true rfl) rfl rfl ?_
      refine x_iload_n (pc := 33) dX8_beside_33 rfl ?_
      refine x_ifeq (tgt := 46) (pc := 34) dX8_beside_34 rfl (fun h20 => ?_) (fun h20 => absurd h20 (by omega))
      refine x_iconst (pc := 46) dX8_beside_46 ⟨by decide, by decide⟩ ?_
      refine x_istore (ls' := [some (vR 169), some (vI a1), some (vI a2), some (vI 0), some (vI (-1))]) (pc := 47) dX8_beside_47 (Nat.le_of_ble_eq_true rfl) rfl rfl ?_
      refine x_iload (pc := 49) dX8_beside_49 rfl ?_
      refine x_iflt (tgt := 74) (pc := 51) dX8_beside_51 rfl (fun h21 => ?_) (fun h21 => absurd h21 (by omega))
      refine x_iconst (pc := 74) dX8_beside_74 ⟨by decide, by decide⟩ ?_
      subst hf
      exact x_retI (pc := 75) dX8_beside_75
    · replace hf := (if_pos h5).symm.trans hf
      refine x_iload_n (pc := 17) dX8_beside_17 rfl ?_
      refine ax_cmp1 (fun b8a b8b => ?_)
      refine x_iflt (tgt := 31) (pc := 18) dX8_beside_18 rfl (fun h7 => ?_) (fun h7 => ?_)
      · replace hf := (if_pos h7).symm.trans hf
        refine x_iconst (pc := 31) dX8_beside_31 ⟨by decide, by decide⟩ ?_
        refine x_istore_n (ls' := [some (vR 169), some (vI a1), some (vI a2), some (vI 0), none]) (pc := 32) dX8_beside_32 (Nat.le_of_ble_eq_true rfl) rfl rfl ?_
        refine x_iload_n (pc := 33) dX8_beside_33 rfl ?_
        refine x_ifeq (tgt := 46) (pc := 34) dX8_beside_34 rfl (fun h9 => ?_) (fun h9 => absurd h9 (by omega))
        refine x_iconst (pc := 46) dX8_beside_46 ⟨by decide, by decide⟩ ?_
        refine x_istore (ls' := [some (vR 169), some (vI a1), some (vI a2), some (vI 0), some (vI (-1))]) (pc := 47) dX8_beside_47 (Nat.le_of_ble_eq_true rfl) rfl rfl ?_
        refine x_iload (pc := 49) dX8_beside_49 rfl ?_
        refine x_iflt (tgt := 74) (pc := 51) dX8_beside_51 rfl (fun h10 => ?_) (fun h10 => absurd h10 (by omega))
        refine x_iconst (pc := 74) dX8_beside_74 ⟨by decide, by decide⟩ ?_
        subst hf
        exact x_retI (pc := 75) dX8_beside_75
      · replace hf := (if_neg (Int.not_lt.mpr h7)).symm.trans hf
        refine x_iload_n (pc := 21) dX8_beside_21 rfl ?_
        refine x_bipush (pc := 22) dX8_beside_22 (by decide) ⟨by decide, by decide⟩ ?_
        refine ax_cmp (fun b12a b12b b12c b12e => ?_)
        refine x_icmpge (tgt := 31) (pc := 24) dX8_beside_24 rfl (fun h11 => ?_) (fun h11 => ?_)
        · replace hf := (if_neg (Int.not_lt.mpr h11)).symm.trans hf
          refine x_iconst (pc := 31) dX8_beside_31 ⟨by decide, by decide⟩ ?_
          refine x_istore_n (ls' := [some (vR 169), some (vI a1), some (vI a2), some (vI 0), none]) (pc := 32) dX8_beside_32 (Nat.le_of_ble_eq_true rfl) rfl rfl ?_
          refine x_iload_n (pc := 33) dX8_beside_33 rfl ?_
          refine x_ifeq (tgt := 46) (pc := 34) dX8_beside_34 rfl (fun h18 => ?_) (fun h18 => absurd h18 (by omega))
          refine x_iconst (pc := 46) dX8_beside_46 ⟨by decide, by decide⟩ ?_
          refine x_istore (ls' := [some (vR 169), some (vI a1), some (vI a2), some (vI 0), some (vI (-1))]) (pc := 47) dX8_beside_47 (Nat.le_of_ble_eq_true rfl) rfl rfl ?_
          refine x_iload (pc := 49) dX8_beside_49 rfl ?_
          refine x_iflt (tgt := 74) (pc := 51) dX8_beside_51 rfl (fun h19 => ?_) (fun h19 => absurd h19 (by omega))
          refine x_iconst (pc := 74) dX8_beside_74 ⟨by decide, by decide⟩ ?_
          subst hf
          exact x_retI (pc := 75) dX8_beside_75
        · replace hf := (if_pos h11).symm.trans hf
          refine x_iconst (pc := 27) dX8_beside_27 ⟨by decide, by decide⟩ ?_
          refine x_goto (tgt := 32) (pc := 28) dX8_beside_28 rfl ?_
          refine x_istore_n (ls' := [some (vR 169), some (vI a1), some (vI a2), some (vI 1), none]) (pc := 32) dX8_beside_32 (Nat.le_of_ble_eq_true rfl) rfl rfl ?_
          refine x_iload_n (pc := 33) dX8_beside_33 rfl ?_
          refine x_ifeq (tgt := 46) (pc := 34) dX8_beside_34 rfl (fun h13 => absurd h13 (by omega)) (fun h13 => ?_)
          refine x_iload_n (pc := 37) dX8_beside_37 rfl ?_
          refine x_bipush (pc := 38) dX8_beside_38 (by decide) ⟨by decide, by decide⟩ ?_
          refine x_imulw (pc := 40) dX8_beside_40 ?_
          refine x_iload_n (pc := 41) dX8_beside_41 rfl ?_
          refine x_iaddw (pc := 42) dX8_beside_42 ?_
          refine x_goto (tgt := 47) (pc := 43) dX8_beside_43 rfl ?_
          refine x_istore (ls' := [some (vR 169), some (vI a1), some (vI a2), some (vI 1), some (vI (wr ((wr (a1 * 6)) + a2)))]) (pc := 47) dX8_beside_47 (Nat.le_of_ble_eq_true rfl) rfl rfl ?_
          refine x_iload (pc := 49) dX8_beside_49 rfl ?_
          refine ax_cmp1 (fun b15a b15b => ?_)
          refine x_iflt (tgt := 74) (pc := 51) dX8_beside_51 rfl (fun h14 => ?_) (fun h14 => ?_)
          · replace hf := (if_pos h14).symm.trans hf
            refine x_iconst (pc := 74) dX8_beside_74 ⟨by decide, by decide⟩ ?_
            subst hf
            exact x_retI (pc := 75) dX8_beside_75
          · replace hf := (if_neg (Int.not_lt.mpr h14)).symm.trans hf
            refine x_iload (pc := 54) dX8_beside_54 rfl ?_
            refine x_aload_n (pc := 56) dX8_beside_56 rfl ?_
            refine x_getF (t := 6) (j := 3) (r := 171) (pc := 57) dX8_beside_57 (axH hG rfl) (axEx hG rfl) rfl (by decide) (by decide) rfl rfl WF_X8_15 ?_
            refine x_alen (t := 0) (n := 486) (pc := 60) dX8_beside_60 (axEx hG rfl) rfl (by decide) (by decide) ?_
            refine ax_cmp (fun b17a b17b b17c b17e => ?_)
            refine x_icmpge (tgt := 74) (pc := 61) dX8_beside_61 rfl (fun h16 => ?_) (fun h16 => ?_)
            · replace hf := (if_neg (Int.not_lt.mpr h16)).symm.trans hf
              refine x_iconst (pc := 74) dX8_beside_74 ⟨by decide, by decide⟩ ?_
              subst hf
              exact x_retI (pc := 75) dX8_beside_75
            · replace hf := (if_pos h16).symm.trans hf
              refine x_aload_n (pc := 64) dX8_beside_64 rfl ?_
              refine x_getF (t := 6) (j := 3) (r := 171) (pc := 65) dX8_beside_65 (axH hG rfl) (axEx hG rfl) rfl (by decide) (by decide) rfl rfl WF_X8_15 ?_
              refine x_iload (pc := 68) dX8_beside_68 rfl ?_
              refine x_iald2 (n := 486) (pc := 70) dX8_beside_70 (axEx hG rfl) rfl (by omega) (by omega) ?_
              refine x_goto (tgt := 75) (pc := 71) dX8_beside_71 rfl ?_
              subst hf
              exact x_retI (pc := 75) dX8_beside_75
