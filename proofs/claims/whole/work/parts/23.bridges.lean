/-! walks: Bridges -/
/- HexPond$Bridges.nextSide(I)I -/
def fX1_nextSide (M : ax_M) (a1 : Int) : Int :=
  (if (wr (a1 + 1)) < 6 then ((wr (a1 + 1))) else (0))
theorem T_X1_nextSide {G : ax_G} {d : Nat} (hd : 0 ≤ d) (hG : axPs G 150 244) {M : ax_M} {a1 : Int} {r : Int} (hf : fX1_nextSide M a1 = r) : ax_Ex G tX1_nextSide d 0 (ax_args [vI a1] ++ List.replicate 0 none) [] M (.inl (some (vI r))) M := by
  show ax_Ex G tX1_nextSide d 0 [some (vI a1)] [] M _ _
  unfold fX1_nextSide at hf
  refine x_iload_n (pc := 0) dX1_nextSide_0 rfl ?_
  refine x_iconst (pc := 1) dX1_nextSide_1 ⟨by decide, by decide⟩ ?_
  refine x_iaddw (pc := 2) dX1_nextSide_2 ?_
  refine x_bipush (pc := 3) dX1_nextSide_3 (by decide) ⟨by decide, by decide⟩ ?_
  refine ax_cmp (fun b2a b2b b2c b2e => ?_)
  refine x_icmpge (tgt := 14) (pc := 5) dX1_nextSide_5 rfl (fun h1 => ?_) (fun h1 => ?_)
  · replace hf := (if_neg (Int.not_lt.mpr h1)).symm.trans hf
    refine x_iconst (pc := 14) dX1_nextSide_14 ⟨by decide, by decide⟩ ?_
    subst hf
    exact x_retI (pc := 15) dX1_nextSide_15
  · replace hf := (if_pos h1).symm.trans hf
    refine x_iload_n (pc := 8) dX1_nextSide_8 rfl ?_
    refine x_iconst (pc := 9) dX1_nextSide_9 ⟨by decide, by decide⟩ ?_
    refine x_iaddw (pc := 10) dX1_nextSide_10 ?_
    refine x_goto (tgt := 15) (pc := 11) dX1_nextSide_11 rfl ?_
    subst hf
    exact x_retI (pc := 15) dX1_nextSide_15
/- HexPond$Bridges.farEnd(II)I -/
def fX1_farEnd (M : ax_M) (a1 : Int) (a2 : Int) : Int :=
  ((fX8_beside M (fX8_beside M a1 a2) (fX1_nextSide M a2)))
theorem T_X1_farEnd {G : ax_G} {d : Nat} (hd : 1 ≤ d) (hG : axPs G 150 244) {M : ax_M} {a1 : Int} {a2 : Int} {r : Int} (hf : fX1_farEnd M a1 a2 = r) : ax_Ex G tX1_farEnd d 0 (ax_args [vR 179, vI a1, vI a2] ++ List.replicate 0 none) [] M (.inl (some (vI r))) M := by
  show ax_Ex G tX1_farEnd d 0 [some (vR 179), some (vI a1), some (vI a2)] [] M _ _
  unfold fX1_farEnd at hf
  refine x_aload_n (pc := 0) dX1_farEnd_0 rfl ?_
  refine x_getF (t := 0) (j := 0) (r := 169) (pc := 1) dX1_farEnd_1 (axH hG rfl) (axEx hG rfl) rfl (by decide) (by decide) rfl rfl WF_X1_25 ?_
  refine x_aload_n (pc := 4) dX1_farEnd_4 rfl ?_
  refine x_getF (t := 0) (j := 0) (r := 169) (pc := 5) dX1_farEnd_5 (axH hG rfl) (axEx hG rfl) rfl (by decide) (by decide) rfl rfl WF_X1_25 ?_
  refine x_iload_n (pc := 8) dX1_farEnd_8 rfl ?_
  refine x_iload_n (pc := 9) dX1_farEnd_9 rfl ?_
  refine x_cr (v := vI (fX8_beside M a1 a2)) (vs := [vR 169, vI a1, vI a2]) (rest := [vR 169]) (k := 2) rfl (by omega) (ax_caV (pc := 10) dX1_farEnd_10 kX8_beside rfl rfl WM_X1_59 WI_X8_beside WS_X8_beside WN_X8 (ax_rcO (t := 6) (axEx hG rfl) rfl (by decide)) (Nat.le_of_ble_eq_true rfl)) kX8_beside rfl True.intro (T_X8_beside (by omega) (axPs.sub hG (Nat.le_of_ble_eq_true rfl) (Nat.le_of_ble_eq_true rfl)) rfl) ?_
  refine x_iload_n (pc := 13) dX1_farEnd_13 rfl ?_
  refine x_cr (v := vI (fX1_nextSide M a2)) (vs := [vI a2]) (rest := [vI (fX8_beside M a1 a2), vR 169]) (k := 0) rfl (by omega) (ax_caS (pc := 14) dX1_farEnd_14 kX1_nextSide rfl rfl WM_X1_62 WT_X1_nextSide WN_X1 (Nat.le_of_ble_eq_true rfl)) kX1_nextSide rfl True.intro (T_X1_nextSide (by omega) hG rfl) ?_
  refine x_cr (v := vI (fX8_beside M (fX8_beside M a1 a2) (fX1_nextSide M a2))) (vs := [vR 169, vI (fX8_beside M a1 a2), vI (fX1_nextSide M a2)]) (rest := []) (k := 2) rfl (by omega) (ax_caV (pc := 17) dX1_farEnd_17 kX8_beside rfl rfl WM_X1_59 WI_X8_beside WS_X8_beside WN_X8 (ax_rcO (t := 6) (axEx hG rfl) rfl (by decide)) (Nat.le_of_ble_eq_true rfl)) kX8_beside rfl True.intro (T_X8_beside (by omega) (axPs.sub hG (Nat.le_of_ble_eq_true rfl) (Nat.le_of_ble_eq_true rfl)) rfl) ?_
  subst hf
  exact x_retI (pc := 20) dX1_farEnd_20
/- HexPond$Bridges.stateAt(II)I -/
def fX1_stateAt (M : ax_M) (a1 : Int) (a2 : Int) : Int :=
  (if (fX8_ownerAt M a1) = 0 then (0) else (if (fX1_farEnd M a1 a2) = (-1) then (0) else (if (fX8_ownerAt M (fX1_farEnd M a1 a2)) = (fX8_ownerAt M a1) then (if (fX8_ownerAt M (fX8_beside M a1 a2)) = (fX8_ownerAt M a1) then (0) else (if (fX8_ownerAt M (fX8_beside M a1 (fX1_nextSide M a2))) = (fX8_ownerAt M a1) then (0) else (if (fX8_ownerAt M (fX8_beside M a1 a2)) = 0 then (if (fX8_ownerAt M (fX8_beside M a1 (fX1_nextSide M a2))) = 0 then (1) else (2)) else (if (fX8_ownerAt M (fX8_beside M a1 (fX1_nextSide M a2))) = 0 then (2) else (0))))) else (0))))
theorem T_X1_stateAt {G : ax_G} {d : Nat} (hd : 2 ≤ d) (hG : axPs G 150 244) {M : ax_M} {a1 : Int} {a2 : Int} {r : Int} (hf : fX1_stateAt M a1 a2 = r) : ax_Ex G tX1_stateAt d 0 (ax_args [vR 179, vI a1, vI a2] ++ List.replicate 4 none) [] M (.inl (some (vI r))) M := by
  show ax_Ex G tX1_stateAt d 0 [some (vR 179), some (vI a1), some (vI a2), none, none, none, none] [] M _ _
  unfold fX1_stateAt at hf
  refine x_aload_n (pc := 0) dX1_stateAt_0 rfl ?_
  refine x_getF (t := 0) (j := 0) (r := 169) (pc := 1) dX1_stateAt_1 (axH hG rfl) (axEx hG rfl) rfl (by decide) (by decide) rfl rfl WF_X1_25 ?_
  refine x_iload_n (pc := 4) dX1_stateAt_4 rfl ?_
  refine x_cr (v := vI (fX8_ownerAt M a1)) (vs := [vR 169, vI a1]) (rest := []) (k := 0) rfl (by omega) (ax_caV (pc := 5) dX1_stateAt_5 kX8_ownerAt rfl rfl WM_X1_55 WI_X8_ownerAt WS_X8_ownerAt WN_X8 (ax_rcO (t := 6) (axEx hG rfl) rfl (by decide)) (Nat.le_of_ble_eq_true rfl)) kX8_ownerAt rfl True.intro (T_X8_ownerAt (by omega) (axPs.sub hG (Nat.le_of_ble_eq_true rfl) (Nat.le_of_ble_eq_true rfl)) rfl) ?_
  refine x_istore_n (ls' := [some (vR 179), some (vI a1), some (vI a2), some (vI (fX8_ownerAt M a1)), none, none, none]) (pc := 8) dX1_stateAt_8 (Nat.le_of_ble_eq_true rfl) rfl rfl ?_
  refine x_aload_n (pc := 9) dX1_stateAt_9 rfl ?_
  refine x_iload_n (pc := 10) dX1_stateAt_10 rfl ?_
  refine x_iload_n (pc := 11) dX1_stateAt_11 rfl ?_
  refine x_cr (v := vI (fX1_farEnd M a1 a2)) (vs := [vR 179, vI a1, vI a2]) (rest := []) (k := 0) rfl (by omega) (ax_caV (pc := 12) dX1_stateAt_12 kX1_farEnd rfl rfl WM_X1_29 WI_X1_farEnd WS_X1_farEnd WN_X1 (ax_rcO (t := 0) (axEx hG rfl) rfl (by decide)) (Nat.le_of_ble_eq_true rfl)) kX1_farEnd rfl True.intro (T_X1_farEnd (by omega) hG rfl) ?_
  refine x_istore (ls' := [some (vR 179), some (vI a1), some (vI a2), some (vI (fX8_ownerAt M a1)), some (vI (fX1_farEnd M a1 a2)), none, none]) (pc := 15) dX1_stateAt_15 (Nat.le_of_ble_eq_true rfl) rfl rfl ?_
  refine x_iload_n (pc := 17) dX1_stateAt_17 rfl ?_
  refine x_ifeq (tgt := 40) (pc := 18) dX1_stateAt_18 rfl (fun h1 => ?_) (fun h1 => ?_)
  · replace hf := (if_pos h1).symm.trans hf
    refine x_iconst (pc := 40) dX1_stateAt_40 ⟨by decide, by decide⟩ ?_
    subst hf
    exact x_retI (pc := 41) dX1_stateAt_41
  · replace hf := (if_neg h1).symm.trans hf
    refine x_iload (pc := 21) dX1_stateAt_21 rfl ?_
    refine x_iconst (pc := 23) dX1_stateAt_23 ⟨by decide, by decide⟩ ?_
    refine x_icmpeq (tgt := 40) (pc := 24) dX1_stateAt_24 rfl (fun h2 => ?_) (fun h2 => ?_)
    · replace hf := (if_pos h2).symm.trans hf
      refine x_iconst (pc := 40) dX1_stateAt_40 ⟨by decide, by decide⟩ ?_
      subst hf
      exact x_retI (pc := 41) dX1_stateAt_41
    · replace hf := (if_neg h2).symm.trans hf
      refine x_aload_n (pc := 27) dX1_stateAt_27 rfl ?_
      refine x_getF (t := 0) (j := 0) (r := 169) (pc := 28) dX1_stateAt_28 (axH hG rfl) (axEx hG rfl) rfl (by decide) (by decide) rfl rfl WF_X1_25 ?_
      refine x_iload (pc := 31) dX1_stateAt_31 rfl ?_
      refine x_cr (v := vI (fX8_ownerAt M (fX1_farEnd M a1 a2))) (vs := [vR 169, vI (fX1_farEnd M a1 a2)]) (rest := []) (k := 0) rfl (by omega) (ax_caV (pc := 33) dX1_stateAt_33 kX8_ownerAt rfl rfl WM_X1_55 WI_X8_ownerAt WS_X8_ownerAt WN_X8 (ax_rcO (t := 6) (axEx hG rfl) rfl (by decide)) (Nat.le_of_ble_eq_true rfl)) kX8_ownerAt rfl True.intro (T_X8_ownerAt (by omega) (axPs.sub hG (Nat.le_of_ble_eq_true rfl) (Nat.le_of_ble_eq_true rfl)) rfl) ?_
      refine x_iload_n (pc := 36) dX1_stateAt_36 rfl ?_
      refine x_icmpeq (tgt := 42) (pc := 37) dX1_stateAt_37 rfl (fun h3 => ?_) (fun h3 => ?_)
      · replace hf := (if_pos h3).symm.trans hf
        refine x_aload_n (pc := 42) dX1_stateAt_42 rfl ?_
        refine x_getF (t := 0) (j := 0) (r := 169) (pc := 43) dX1_stateAt_43 (axH hG rfl) (axEx hG rfl) rfl (by decide) (by decide) rfl rfl WF_X1_25 ?_
        refine x_aload_n (pc := 46) dX1_stateAt_46 rfl ?_
        refine x_getF (t := 0) (j := 0) (r := 169) (pc := 47) dX1_stateAt_47 (axH hG rfl) (axEx hG rfl) rfl (by decide) (by decide) rfl rfl WF_X1_25 ?_
        refine x_iload_n (pc := 50) dX1_stateAt_50 rfl ?_
        refine x_iload_n (pc := 51) dX1_stateAt_51 rfl ?_
        refine x_cr (v := vI (fX8_beside M a1 a2)) (vs := [vR 169, vI a1, vI a2]) (rest := [vR 169]) (k := 2) rfl (by omega) (ax_caV (pc := 52) dX1_stateAt_52 kX8_beside rfl rfl WM_X1_59 WI_X8_beside WS_X8_beside WN_X8 (ax_rcO (t := 6) (axEx hG rfl) rfl (by decide)) (Nat.le_of_ble_eq_true rfl)) kX8_beside rfl True.intro (T_X8_beside (by omega) (axPs.sub hG (Nat.le_of_ble_eq_true rfl) (Nat.le_of_ble_eq_true rfl)) rfl) ?_
        refine x_cr (v := vI (fX8_ownerAt M (fX8_beside M a1 a2))) (vs := [vR 169, vI (fX8_beside M a1 a2)]) (rest := []) (k := 0) rfl (by omega) (ax_caV (pc := 55) dX1_stateAt_55 kX8_ownerAt rfl rfl WM_X1_55 WI_X8_ownerAt WS_X8_ownerAt WN_X8 (ax_rcO (t := 6) (axEx hG rfl) rfl (by decide)) (Nat.le_of_ble_eq_true rfl)) kX8_ownerAt rfl True.intro (T_X8_ownerAt (by omega) (axPs.sub hG (Nat.le_of_ble_eq_true rfl) (Nat.le_of_ble_eq_true rfl)) rfl) ?_
        refine x_istore (ls' := [some (vR 179), some (vI a1), some (vI a2), some (vI (fX8_ownerAt M a1)), some (vI (fX1_farEnd M a1 a2)), some (vI (fX8_ownerAt M (fX8_beside M a1 a2))), none]) (pc := 58) dX1_stateAt_58 (Nat.le_of_ble_eq_true rfl) rfl rfl ?_
        refine x_aload_n (pc := 60) dX1_stateAt_60 rfl ?_
        refine x_getF (t := 0) (j := 0) (r := 169) (pc := 61) dX1_stateAt_61 (axH hG rfl) (axEx hG rfl) rfl (by decide) (by decide) rfl rfl WF_X1_25 ?_
        refine x_aload_n (pc := 64) dX1_stateAt_64 rfl ?_
        refine x_getF (t := 0) (j := 0) (r := 169) (pc := 65) dX1_stateAt_65 (axH hG rfl) (axEx hG rfl) rfl (by decide) (by decide) rfl rfl WF_X1_25 ?_
        refine x_iload_n (pc := 68) dX1_stateAt_68 rfl ?_
        refine x_iload_n (pc := 69) dX1_stateAt_69 rfl ?_
        refine x_cr (v := vI (fX1_nextSide M a2)) (vs := [vI a2]) (rest := [vI a1, vR 169, vR 169]) (k := 0) rfl (by omega) (ax_caS (pc := 70) dX1_stateAt_70 kX1_nextSide rfl rfl WM_X1_62 WT_X1_nextSide WN_X1 (Nat.le_of_ble_eq_true rfl)) kX1_nextSide rfl True.intro (T_X1_nextSide (by omega) hG rfl) ?_
        refine x_cr (v := vI (fX8_beside M a1 (fX1_nextSide M a2))) (vs := [vR 169, vI a1, vI (fX1_nextSide M a2)]) (rest := [vR 169]) (k := 2) rfl (by omega) (ax_caV (pc := 73) dX1_stateAt_73 kX8_beside rfl rfl WM_X1_59 WI_X8_beside WS_X8_beside WN_X8 (ax_rcO (t := 6) (axEx hG rfl) rfl (by decide)) (Nat.le_of_ble_eq_true rfl)) kX8_beside rfl True.intro (T_X8_beside (by omega) (axPs.sub hG (Nat.le_of_ble_eq_true rfl) (Nat.le_of_ble_eq_true rfl)) rfl) ?_
        refine x_cr (v := vI (fX8_ownerAt M (fX8_beside M a1 (fX1_nextSide M a2)))) (vs := [vR 169, vI (fX8_beside M a1 (fX1_nextSide M a2))]) (rest := []) (k := 0) rfl (by omega) (ax_caV (pc := 76) dX1_stateAt_76 kX8_ownerAt rfl rfl WM_X1_55 WI_X8_ownerAt WS_X8_ownerAt WN_X8 (ax_rcO (t := 6) (axEx hG rfl) rfl (by decide)) (Nat.le_of_ble_eq_true rfl)) kX8_ownerAt rfl True.intro (T_X8_ownerAt (by omega) (axPs.sub hG (Nat.le_of_ble_eq_true rfl) (Nat.le_of_ble_eq_true rfl)) rfl) ?_
        refine x_istore (ls' := [some (vR 179), some (vI a1), some (vI a2), some (vI (fX8_ownerAt M a1)), some (vI (fX1_farEnd M a1 a2)), some (vI (fX8_ownerAt M (fX8_beside M a1 a2))), some (vI (fX8_ownerAt M (fX8_beside M a1 (fX1_nextSide M a2))))]) (pc := 79) dX1_stateAt_79 (Nat.le_of_ble_eq_true rfl) rfl rfl ?_
        refine x_iload (pc := 81) dX1_stateAt_81 rfl ?_
        refine x_iload_n (pc := 83) dX1_stateAt_83 rfl ?_
        refine x_icmpeq (tgt := 93) (pc := 84) dX1_stateAt_84 rfl (fun h4 => ?_) (fun h4 => ?_)
        · replace hf := (if_pos h4).symm.trans hf
          refine x_iconst (pc := 93) dX1_stateAt_93 ⟨by decide, by decide⟩ ?_
          subst hf
          exact x_retI (pc := 94) dX1_stateAt_94
        · replace hf := (if_neg h4).symm.trans hf
          refine x_iload (pc := 87) dX1_stateAt_87 rfl ?_
          refine x_iload_n (pc := 89) dX1_stateAt_89 rfl ?_
          refine x_icmpne (tgt := 95) (pc := 90) dX1_stateAt_90 rfl (fun h5 => ?_) (fun h5 => ?_)
          · replace hf := (if_neg h5).symm.trans hf
            refine x_iload (pc := 95) dX1_stateAt_95 rfl ?_
            refine x_ifne (tgt := 107) (pc := 97) dX1_stateAt_97 rfl (fun h6 => ?_) (fun h6 => ?_)
            · replace hf := (if_neg h6).symm.trans hf
              refine x_iload (pc := 107) dX1_stateAt_107 rfl ?_
              refine x_ifeq (tgt := 117) (pc := 109) dX1_stateAt_109 rfl (fun h9 => absurd h9 (by omega)) (fun h9 => ?_)
              refine x_iload (pc := 112) dX1_stateAt_112 rfl ?_
              refine x_ifne (tgt := 121) (pc := 114) dX1_stateAt_114 rfl (fun h10 => ?_) (fun h10 => ?_)
              · replace hf := (if_neg h10).symm.trans hf
                refine x_iconst (pc := 121) dX1_stateAt_121 ⟨by decide, by decide⟩ ?_
                subst hf
                exact x_retI (pc := 122) dX1_stateAt_122
              · replace hf := (if_pos h10).symm.trans hf
                refine x_iconst (pc := 117) dX1_stateAt_117 ⟨by decide, by decide⟩ ?_
                refine x_goto (tgt := 122) (pc := 118) dX1_stateAt_118 rfl ?_
                subst hf
                exact x_retI (pc := 122) dX1_stateAt_122
            · replace hf := (if_pos h6).symm.trans hf
              refine x_iload (pc := 100) dX1_stateAt_100 rfl ?_
              refine x_ifne (tgt := 107) (pc := 102) dX1_stateAt_102 rfl (fun h7 => ?_) (fun h7 => ?_)
              · replace hf := (if_neg h7).symm.trans hf
                refine x_iload (pc := 107) dX1_stateAt_107 rfl ?_
                refine x_ifeq (tgt := 117) (pc := 109) dX1_stateAt_109 rfl (fun h8 => ?_) (fun h8 => absurd h8 (by omega))
                refine x_iconst (pc := 117) dX1_stateAt_117 ⟨by decide, by decide⟩ ?_
                refine x_goto (tgt := 122) (pc := 118) dX1_stateAt_118 rfl ?_
                subst hf
                exact x_retI (pc := 122) dX1_stateAt_122
              · replace hf := (if_pos h7).symm.trans hf
                refine x_iconst (pc := 105) dX1_stateAt_105 ⟨by decide, by decide⟩ ?_
                subst hf
                exact x_retI (pc := 106) dX1_stateAt_106
          · replace hf := (if_pos h5).symm.trans hf
            refine x_iconst (pc := 93) dX1_stateAt_93 ⟨by decide, by decide⟩ ?_
            subst hf
            exact x_retI (pc := 94) dX1_stateAt_94
      · replace hf := (if_neg h3).symm.trans hf
        refine x_iconst (pc := 40) dX1_stateAt_40 ⟨by decide, by decide⟩ ?_
        subst hf
        exact x_retI (pc := 41) dX1_stateAt_41
/- HexPond$Bridges.isWhole(II)Z -/
def fX1_isWhole_b2 (M : ax_M) (x1 : Int) (x2 : Int) (v3 : Int) : Option (Int ⊕ (Int ⊕ Unit)) :=
  (if v3 < 6 then (if (fX1_farEnd M x1 v3) = x2 then (if x2 = (-1) then (some (.inl (v3 + 1))) else (some (.inr (.inl v3)))) else (some (.inl (v3 + 1)))) else (some (.inr (.inr ()))))
def fX1_isWhole (M : ax_M) (a1 : Int) (a2 : Int) : Option Int :=
  (bdS (lp (fun s => fX1_isWhole_b2 M a1 a2 s) lpN 0) (fun t5 => (if (fX1_stateAt M a1 t5) = 1 then (some 1) else (some 0))) (fun t8 => (some 0)))
theorem B_X1_isWhole_2 {G : ax_G} {d : Nat} (hd : 3 ≤ d) (hG : axPs G 150 244) {M : ax_M} {x1 : Int} {x2 : Int} {v3 : Int} {o : Option ax_V ⊕ String} {M' : ax_M} {y : Int ⊕ (Int ⊕ Unit)} (hf : fX1_isWhole_b2 M x1 x2 v3 = some y) (h1 : ∀ s', y = .inl s' → ax_Ex G tX1_isWhole d 2 [some (vR 179), some (vI x1), some (vI x2), some (vI s')] [] M o M') (h2a : ∀ t, y = .inr (.inl t) → ax_Ex G tX1_isWhole d 23 [some (vR 179), some (vI x1), some (vI x2), some (vI t)] [] M o M') (h2b : ∀ t, y = .inr (.inr t) → ax_Ex G tX1_isWhole d 45 [some (vR 179), some (vI x1), some (vI x2), none] [] M o M') : ax_Ex G tX1_isWhole d 2 [some (vR 179), some (vI x1), some (vI x2), some (vI v3)] [] M o M' := by
  unfold fX1_isWhole_b2 at hf
  refine x_iload_n (pc := 2) dX1_isWhole_2 rfl ?_
  refine x_bipush (pc := 3) dX1_isWhole_3 (by decide) ⟨by decide, by decide⟩ ?_
  refine ax_cmp (fun b2a b2b b2c b2e => ?_)
  refine x_icmpge (tgt := 45) (pc := 5) dX1_isWhole_5 rfl (fun h1 => ?_) (fun h1 => ?_)
  · replace hf := (if_neg (Int.not_lt.mpr h1)).symm.trans hf
    cases hf
    exact x_fgt (axS' (axS' (axS' (axN' axD)))) (h2b _ rfl)
  · replace hf := (if_pos h1).symm.trans hf
    refine x_aload_n (pc := 8) dX1_isWhole_8 rfl ?_
    refine x_iload_n (pc := 9) dX1_isWhole_9 rfl ?_
    refine x_iload_n (pc := 10) dX1_isWhole_10 rfl ?_
    refine x_cr (v := vI (fX1_farEnd M x1 v3)) (vs := [vR 179, vI x1, vI v3]) (rest := []) (k := 0) rfl (by omega) (ax_caV (pc := 11) dX1_isWhole_11 kX1_farEnd rfl rfl WM_X1_29 WI_X1_farEnd WS_X1_farEnd WN_X1 (ax_rcO (t := 0) (axEx hG rfl) rfl (by decide)) (Nat.le_of_ble_eq_true rfl)) kX1_farEnd rfl True.intro (T_X1_farEnd (by omega) hG rfl) ?_
    refine x_iload_n (pc := 14) dX1_isWhole_14 rfl ?_
    refine x_icmpne (tgt := 39) (pc := 15) dX1_isWhole_15 rfl (fun h3 => ?_) (fun h3 => ?_)
    · replace hf := (if_neg h3).symm.trans hf
      refine x_iinc (z := (v3 + 1)) (ls' := [some (vR 179), some (vI x1), some (vI x2), some (vI (v3 + 1))]) (pc := 39) dX1_isWhole_39 rfl (Nat.le_of_ble_eq_true rfl) rfl rfl (ax_i (by omega) (by omega)) rfl ?_
      refine x_goto (tgt := 2) (pc := 42) dX1_isWhole_42 rfl ?_
      cases hf
      exact h1 _ rfl
    · replace hf := (if_pos h3).symm.trans hf
      refine x_iload_n (pc := 18) dX1_isWhole_18 rfl ?_
      refine x_iconst (pc := 19) dX1_isWhole_19 ⟨by decide, by decide⟩ ?_
      refine x_icmpeq (tgt := 39) (pc := 20) dX1_isWhole_20 rfl (fun h4 => ?_) (fun h4 => ?_)
      · replace hf := (if_pos h4).symm.trans hf
        refine x_iinc (z := (v3 + 1)) (ls' := [some (vR 179), some (vI x1), some (vI x2), some (vI (v3 + 1))]) (pc := 39) dX1_isWhole_39 rfl (Nat.le_of_ble_eq_true rfl) rfl rfl (ax_i (by omega) (by omega)) rfl ?_
        refine x_goto (tgt := 2) (pc := 42) dX1_isWhole_42 rfl ?_
        cases hf
        exact h1 _ rfl
      · replace hf := (if_neg h4).symm.trans hf
        cases hf
        exact h2a _ rfl
theorem T_X1_isWhole {G : ax_G} {d : Nat} (hd : 3 ≤ d) (hG : axPs G 150 244) {M : ax_M} {a1 : Int} {a2 : Int} {r : Int} (hf : fX1_isWhole M a1 a2 = some r) : ax_Ex G tX1_isWhole d 0 (ax_args [vR 179, vI a1, vI a2] ++ List.replicate 1 none) [] M (.inl (some (vI r))) M := by
  show ax_Ex G tX1_isWhole d 0 [some (vR 179), some (vI a1), some (vI a2), none] [] M _ _
  unfold fX1_isWhole at hf
  refine x_iconst (pc := 0) dX1_isWhole_0 ⟨by decide, by decide⟩ ?_
  refine x_istore_n (ls' := [some (vR 179), some (vI a1), some (vI a2), some (vI 0)]) (pc := 1) dX1_isWhole_1 (Nat.le_of_ble_eq_true rfl) rfl rfl ?_
  rcases bdS_some hf with ⟨t5, t6, hf⟩ | ⟨t8, t9, hf⟩
  · refine lp_ex (P := (fun s => ax_Ex G tX1_isWhole d 2 [some (vR 179), some (vI a1), some (vI a2), some (vI s)] [] M _ _)) (K := (fun r => (∀ t, r = .inl t → ax_Ex G tX1_isWhole d 23 [some (vR 179), some (vI a1), some (vI a2), some (vI t)] [] M _ _) ∧ (∀ t, r = .inr t → ax_Ex G tX1_isWhole d 45 [some (vR 179), some (vI a1), some (vI a2), none] [] M _ _))) (fun s y hy h1 h2 => B_X1_isWhole_2 (by omega) hG hy (fun s' e => h1 s' e) (fun t e => (h2 _ e).1 t rfl) (fun t e => (h2 _ e).2 t rfl)) _ _ _ t6 ?_
    refine ⟨fun t e => ?_, fun t e => (by cases e)⟩
    cases e
    refine x_aload_n (pc := 23) dX1_isWhole_23 rfl ?_
    refine x_iload_n (pc := 24) dX1_isWhole_24 rfl ?_
    refine x_iload_n (pc := 25) dX1_isWhole_25 rfl ?_
    refine x_cr (v := vI (fX1_stateAt M a1 t5)) (vs := [vR 179, vI a1, vI t5]) (rest := []) (k := 4) rfl (by omega) (ax_caV (pc := 26) dX1_isWhole_26 kX1_stateAt rfl rfl WM_X1_33 WI_X1_stateAt WS_X1_stateAt WN_X1 (ax_rcO (t := 0) (axEx hG rfl) rfl (by decide)) (Nat.le_of_ble_eq_true rfl)) kX1_stateAt rfl True.intro (T_X1_stateAt (by omega) hG rfl) ?_
    refine x_iconst (pc := 29) dX1_isWhole_29 ⟨by decide, by decide⟩ ?_
    refine x_icmpne (tgt := 37) (pc := 30) dX1_isWhole_30 rfl (fun h7 => ?_) (fun h7 => ?_)
    · replace hf := (if_neg h7).symm.trans hf
      refine x_iconst (pc := 37) dX1_isWhole_37 ⟨by decide, by decide⟩ ?_
      cases hf
      exact x_retI (pc := 38) dX1_isWhole_38
    · replace hf := (if_pos h7).symm.trans hf
      refine x_iconst (pc := 33) dX1_isWhole_33 ⟨by decide, by decide⟩ ?_
      refine x_goto (tgt := 38) (pc := 34) dX1_isWhole_34 rfl ?_
      cases hf
      exact x_retI (pc := 38) dX1_isWhole_38
  · refine lp_ex (P := (fun s => ax_Ex G tX1_isWhole d 2 [some (vR 179), some (vI a1), some (vI a2), some (vI s)] [] M _ _)) (K := (fun r => (∀ t, r = .inl t → ax_Ex G tX1_isWhole d 23 [some (vR 179), some (vI a1), some (vI a2), some (vI t)] [] M _ _) ∧ (∀ t, r = .inr t → ax_Ex G tX1_isWhole d 45 [some (vR 179), some (vI a1), some (vI a2), none] [] M _ _))) (fun s y hy h1 h2 => B_X1_isWhole_2 (by omega) hG hy (fun s' e => h1 s' e) (fun t e => (h2 _ e).1 t rfl) (fun t e => (h2 _ e).2 t rfl)) _ _ _ t9 ?_
    refine ⟨fun t e => (by cases e), fun t e => ?_⟩
    cases e
    refine x_iconst (pc := 45) dX1_isWhole_45 ⟨by decide, by decide⟩ ?_
    cases hf
    exact x_retI (pc := 46) dX1_isWhole_46
theorem Z_X1_isWhole {M : ax_M} {a1 : Int} {a2 : Int} {r : Int} (hf : fX1_isWhole M a1 a2 = some r) : r = 0 ∨ r = 1 := by
  unfold fX1_isWhole at hf
  rcases bdS_some hf with ⟨t5, t6, hf⟩ | ⟨t8, t9, hf⟩
  · skip
    by_cases h7 : (fX1_stateAt M a1 t5) = 1
    · replace hf := (if_pos h7).symm.trans hf
      cases hf
      exact Or.inr rfl
    · replace hf := (if_neg h7).symm.trans hf
      cases hf
      exact Or.inl rfl
  · skip
    cases hf
    exact Or.inl rfl
/- HexPond$Bridges.note(III)V -/
def fX1_note (M : ax_M) (a1 : Int) (a2 : Int) (a3 : Int) : Option ax_M :=
  (if a3 = 0 then (some M) else (if (wr ((fX8_ownerAt M a1) - 1)) < 0 then (some M) else (if (wr ((fX8_ownerAt M a1) - 1)) < 2 then (if a3 = 1 then (some (mUI M 180 (Int.toNat (wr ((fX8_ownerAt M a1) - 1))) (wr ((mI M 180 (Int.toNat (wr ((fX8_ownerAt M a1) - 1)))) + 1)))) else (if (fX8_ownerAt (mUI M 181 (Int.toNat (wr ((fX8_ownerAt M a1) - 1))) (wr ((mI M 181 (Int.toNat (wr ((fX8_ownerAt M a1) - 1)))) + 1))) (fX8_beside (mUI M 181 (Int.toNat (wr ((fX8_ownerAt M a1) - 1))) (wr ((mI M 181 (Int.toNat (wr ((fX8_ownerAt M a1) - 1)))) + 1))) a1 a2)) = 0 then (if (mI (mUI M 181 (Int.toNat (wr ((fX8_ownerAt M a1) - 1))) (wr ((mI M 181 (Int.toNat (wr ((fX8_ownerAt M a1) - 1)))) + 1))) 182 (Int.toNat (wr ((fX8_ownerAt M a1) - 1)))) = (-1) then (some (mUI (mUI M 181 (Int.toNat (wr ((fX8_ownerAt M a1) - 1))) (wr ((mI M 181 (Int.toNat (wr ((fX8_ownerAt M a1) - 1)))) + 1))) 182 (Int.toNat (wr ((fX8_ownerAt M a1) - 1))) (fX8_beside (mUI M 181 (Int.toNat (wr ((fX8_ownerAt M a1) - 1))) (wr ((mI M 181 (Int.toNat (wr ((fX8_ownerAt M a1) - 1)))) + 1))) a1 a2))) else (if (fX8_beside (mUI M 181 (Int.toNat (wr ((fX8_ownerAt M a1) - 1))) (wr ((mI M 181 (Int.toNat (wr ((fX8_ownerAt M a1) - 1)))) + 1))) a1 a2) < (mI (mUI M 181 (Int.toNat (wr ((fX8_ownerAt M a1) - 1))) (wr ((mI M 181 (Int.toNat (wr ((fX8_ownerAt M a1) - 1)))) + 1))) 182 (Int.toNat (wr ((fX8_ownerAt M a1) - 1)))) then (some (mUI (mUI M 181 (Int.toNat (wr ((fX8_ownerAt M a1) - 1))) (wr ((mI M 181 (Int.toNat (wr ((fX8_ownerAt M a1) - 1)))) + 1))) 182 (Int.toNat (wr ((fX8_ownerAt M a1) - 1))) (fX8_beside (mUI M 181 (Int.toNat (wr ((fX8_ownerAt M a1) - 1))) (wr ((mI M 181 (Int.toNat (wr ((fX8_ownerAt M a1) - 1)))) + 1))) a1 a2))) else (some (mUI M 181 (Int.toNat (wr ((fX8_ownerAt M a1) - 1))) (wr ((mI M 181 (Int.toNat (wr ((fX8_ownerAt M a1) - 1)))) + 1)))))) else (if (mI (mUI M 181 (Int.toNat (wr ((fX8_ownerAt M a1) - 1))) (wr ((mI M 181 (Int.toNat (wr ((fX8_ownerAt M a1) - 1)))) + 1))) 182 (Int.toNat (wr ((fX8_ownerAt M a1) - 1)))) = (-1) then (some (mUI (mUI M 181 (Int.toNat (wr ((fX8_ownerAt M a1) - 1))) (wr ((mI M 181 (Int.toNat (wr ((fX8_ownerAt M a1) - 1)))) + 1))) 182 (Int.toNat (wr ((fX8_ownerAt M a1) - 1))) (fX8_beside (mUI M 181 (Int.toNat (wr ((fX8_ownerAt M a1) - 1))) (wr ((mI M 181 (Int.toNat (wr ((fX8_ownerAt M a1) - 1)))) + 1))) a1 (fX1_nextSide (mUI M 181 (Int.toNat (wr ((fX8_ownerAt M a1) - 1))) (wr ((mI M 181 (Int.toNat (wr ((fX8_ownerAt M a1) - 1)))) + 1))) a2)))) else (if (fX8_beside (mUI M 181 (Int.toNat (wr ((fX8_ownerAt M a1) - 1))) (wr ((mI M 181 (Int.toNat (wr ((fX8_ownerAt M a1) - 1)))) + 1))) a1 (fX1_nextSide (mUI M 181 (Int.toNat (wr ((fX8_ownerAt M a1) - 1))) (wr ((mI M 181 (Int.toNat (wr ((fX8_ownerAt M a1) - 1)))) + 1))) a2)) < (mI (mUI M 181 (Int.toNat (wr ((fX8_ownerAt M a1) - 1))) (wr ((mI M 181 (Int.toNat (wr ((fX8_ownerAt M a1) - 1)))) + 1))) 182 (Int.toNat (wr ((fX8_ownerAt M a1) - 1)))) then (some (mUI (mUI M 181 (Int.toNat (wr ((fX8_ownerAt M a1) - 1))) (wr ((mI M 181 (Int.toNat (wr ((fX8_ownerAt M a1) - 1)))) + 1))) 182 (Int.toNat (wr ((fX8_ownerAt M a1) - 1))) (fX8_beside (mUI M 181 (Int.toNat (wr ((fX8_ownerAt M a1) - 1))) (wr ((mI M 181 (Int.toNat (wr ((fX8_ownerAt M a1) - 1)))) + 1))) a1 (fX1_nextSide (mUI M 181 (Int.toNat (wr ((fX8_ownerAt M a1) - 1))) (wr ((mI M 181 (Int.toNat (wr ((fX8_ownerAt M a1) - 1)))) + 1))) a2)))) else (some (mUI M 181 (Int.toNat (wr ((fX8_ownerAt M a1) - 1))) (wr ((mI M 181 (Int.toNat (wr ((fX8_ownerAt M a1) - 1)))) + 1)))))))) else (some M))))
theorem T_X1_note {G : ax_G} {d : Nat} (hd : 1 ≤ d) (hG : axPs G 150 244) {M : ax_M} {a1 : Int} {a2 : Int} {a3 : Int} {M1 : ax_M} (hf : fX1_note M a1 a2 a3 = some M1) : ax_Ex G tX1_note d 0 (ax_args [vR 179, vI a1, vI a2, vI a3] ++ List.replicate 3 none) [] M (.inl none) M1 := by
  show ax_Ex G tX1_note d 0 [some (vR 179), some (vI a1), some (vI a2), some (vI a3), none, none, none] [] M _ _
  unfold fX1_note at hf
  refine x_aload_n (pc := 0) dX1_note_0 rfl ?_
  refine x_getF (t := 0) (j := 0) (r := 169) (pc := 1) dX1_note_1 (axH hG rfl) (axEx hG rfl) rfl (by decide) (by decide) rfl rfl WF_X1_25 ?_
  refine x_iload_n (pc := 4) dX1_note_4 rfl ?_
  refine x_cr (v := vI (fX8_ownerAt M a1)) (vs := [vR 169, vI a1]) (rest := []) (k := 0) rfl (by omega) (ax_caV (pc := 5) dX1_note_5 kX8_ownerAt rfl rfl WM_X1_55 WI_X8_ownerAt WS_X8_ownerAt WN_X8 (ax_rcO (t := 6) (axEx hG rfl) rfl (by decide)) (Nat.le_of_ble_eq_true rfl)) kX8_ownerAt rfl True.intro (T_X8_ownerAt (by omega) (axPs.sub hG (Nat.le_of_ble_eq_true rfl) (Nat.le_of_ble_eq_true rfl)) rfl) ?_
  refine x_iconst (pc := 8) dX1_note_8 ⟨by decide, by decide⟩ ?_
  refine x_isubw (pc := 9) dX1_note_9 ?_
  refine x_istore (ls' := [some (vR 179), some (vI a1), some (vI a2), some (vI a3), some (vI (wr ((fX8_ownerAt M a1) - 1))), none, none]) (pc := 10) dX1_note_10 (Nat.le_of_ble_eq_true rfl) rfl rfl ?_
  refine x_iload_n (pc := 12) dX1_note_12 rfl ?_
  refine x_ifeq (tgt := 27) (pc := 13) dX1_note_13 rfl (fun h1 => ?_) (fun h1 => ?_)
  · replace hf := (if_pos h1).symm.trans hf
    cases hf
    exact x_retV (pc := 27) dX1_note_27
  · replace hf := (if_neg h1).symm.trans hf
    refine x_iload (pc := 16) dX1_note_16 rfl ?_
    refine ax_cmp1 (fun b3a b3b => ?_)
    refine x_iflt (tgt := 27) (pc := 18) dX1_note_18 rfl (fun h2 => ?_) (fun h2 => ?_)
    · replace hf := (if_pos h2).symm.trans hf
      cases hf
      exact x_retV (pc := 27) dX1_note_27
    · replace hf := (if_neg (Int.not_lt.mpr h2)).symm.trans hf
      refine x_iload (pc := 21) dX1_note_21 rfl ?_
      refine x_iconst (pc := 23) dX1_note_23 ⟨by decide, by decide⟩ ?_
      refine ax_cmp (fun b5a b5b b5c b5e => ?_)
      refine x_icmplt (tgt := 28) (pc := 24) dX1_note_24 rfl (fun h4 => ?_) (fun h4 => ?_)
      · replace hf := (if_pos h4).symm.trans hf
        refine x_iload_n (pc := 28) dX1_note_28 rfl ?_
        refine x_iconst (pc := 29) dX1_note_29 ⟨by decide, by decide⟩ ?_
        refine x_icmpne (tgt := 45) (pc := 30) dX1_note_30 rfl (fun h6 => ?_) (fun h6 => ?_)
        · replace hf := (if_neg h6).symm.trans hf
          refine x_aload_n (pc := 45) dX1_note_45 rfl ?_
          refine x_getF (t := 0) (j := 2) (r := 181) (pc := 46) dX1_note_46 (axH hG rfl) (axEx hG rfl) rfl (by decide) (by decide) rfl rfl WF_X1_15 ?_
          refine x_iload (pc := 49) dX1_note_49 rfl ?_
          refine x_dup2 (pc := 51) dX1_note_51 rfl rfl ?_
          refine x_iald2 (n := 2) (pc := 52) dX1_note_52 (axEx hG rfl) rfl (by omega) (by omega) ?_
          refine x_iconst (pc := 53) dX1_note_53 ⟨by decide, by decide⟩ ?_
          refine x_iaddw (pc := 54) dX1_note_54 ?_
          refine x_iast2 (n := 2) (pc := 55) dX1_note_55 (axEx hG rfl) rfl (by omega) (by omega) ?_
          refine x_aload_n (pc := 56) dX1_note_56 rfl ?_
          refine x_getF (t := 0) (j := 0) (r := 169) (pc := 57) dX1_note_57 (axH hG rfl) (axEx hG rfl) rfl (by decide) (by decide) rfl rfl WF_X1_25 ?_
          refine x_iload_n (pc := 60) dX1_note_60 rfl ?_
          refine x_iload_n (pc := 61) dX1_note_61 rfl ?_
          refine x_cr (v := vI (fX8_beside (mUI M 181 (Int.toNat (wr ((fX8_ownerAt M a1) - 1))) (wr ((mI M 181 (Int.toNat (wr ((fX8_ownerAt M a1) - 1)))) + 1))) a1 a2)) (vs := [vR 169, vI a1, vI a2]) (rest := []) (k := 2) rfl (by omega) (ax_caV (pc := 62) dX1_note_62 kX8_beside rfl rfl WM_X1_59 WI_X8_beside WS_X8_beside WN_X8 (ax_rcO (t := 6) (axEx hG rfl) rfl (by decide)) (Nat.le_of_ble_eq_true rfl)) kX8_beside rfl True.intro (T_X8_beside (by omega) (axPs.sub hG (Nat.le_of_ble_eq_true rfl) (Nat.le_of_ble_eq_true rfl)) rfl) ?_
          refine x_istore (ls' := [some (vR 179), some (vI a1), some (vI a2), some (vI a3), some (vI (wr ((fX8_ownerAt M a1) - 1))), some (vI (fX8_beside (mUI M 181 (Int.toNat (wr ((fX8_ownerAt M a1) - 1))) (wr ((mI M 181 (Int.toNat (wr ((fX8_ownerAt M a1) - 1)))) + 1))) a1 a2)), none]) (pc := 65) dX1_note_65 (Nat.le_of_ble_eq_true rfl) rfl rfl ?_
          refine x_aload_n (pc := 67) dX1_note_67 rfl ?_
          refine x_getF (t := 0) (j := 0) (r := 169) (pc := 68) dX1_note_68 (axH hG rfl) (axEx hG rfl) rfl (by decide) (by decide) rfl rfl WF_X1_25 ?_
          refine x_iload (pc := 71) dX1_note_71 rfl ?_
          refine x_cr (v := vI (fX8_ownerAt (mUI M 181 (Int.toNat (wr ((fX8_ownerAt M a1) - 1))) (wr ((mI M 181 (Int.toNat (wr ((fX8_ownerAt M a1) - 1)))) + 1))) (fX8_beside (mUI M 181 (Int.toNat (wr ((fX8_ownerAt M a1) - 1))) (wr ((mI M 181 (Int.toNat (wr ((fX8_ownerAt M a1) - 1)))) + 1))) a1 a2))) (vs := [vR 169, vI (fX8_beside (mUI M 181 (Int.toNat (wr ((fX8_ownerAt M a1) - 1))) (wr ((mI M 181 (Int.toNat (wr ((fX8_ownerAt M a1) - 1)))) + 1))) a1 a2)]) (rest := []) (k := 0) rfl (by omega) (ax_caV (pc := 73) dX1_note_73 kX8_ownerAt rfl rfl WM_X1_55 WI_X8_ownerAt WS_X8_ownerAt WN_X8 (ax_rcO (t := 6) (axEx hG rfl) rfl (by decide)) (Nat.le_of_ble_eq_true rfl)) kX8_ownerAt rfl True.intro (T_X8_ownerAt (by omega) (axPs.sub hG (Nat.le_of_ble_eq_true rfl) (Nat.le_of_ble_eq_true rfl)) rfl) ?_
          refine x_ifne (tgt := 84) (pc := 76) dX1_note_76 rfl (fun h7 => ?_) (fun h7 => ?_)
          · replace hf := (if_neg h7).symm.trans hf
            refine x_aload_n (pc := 84) dX1_note_84 rfl ?_
            refine x_getF (t := 0) (j := 0) (r := 169) (pc := 85) dX1_note_85 (axH hG rfl) (axEx hG rfl) rfl (by decide) (by decide) rfl rfl WF_X1_25 ?_
            refine x_iload_n (pc := 88) dX1_note_88 rfl ?_
            refine x_iload_n (pc := 89) dX1_note_89 rfl ?_
            refine x_cr (v := vI (fX1_nextSide (mUI M 181 (Int.toNat (wr ((fX8_ownerAt M a1) - 1))) (wr ((mI M 181 (Int.toNat (wr ((fX8_ownerAt M a1) - 1)))) + 1))) a2)) (vs := [vI a2]) (rest := [vI a1, vR 169]) (k := 0) rfl (by omega) (ax_caS (pc := 90) dX1_note_90 kX1_nextSide rfl rfl WM_X1_62 WT_X1_nextSide WN_X1 (Nat.le_of_ble_eq_true rfl)) kX1_nextSide rfl True.intro (T_X1_nextSide (by omega) hG rfl) ?_
            refine x_cr (v := vI (fX8_beside (mUI M 181 (Int.toNat (wr ((fX8_ownerAt M a1) - 1))) (wr ((mI M 181 (Int.toNat (wr ((fX8_ownerAt M a1) - 1)))) + 1))) a1 (fX1_nextSide (mUI M 181 (Int.toNat (wr ((fX8_ownerAt M a1) - 1))) (wr ((mI M 181 (Int.toNat (wr ((fX8_ownerAt M a1) - 1)))) + 1))) a2))) (vs := [vR 169, vI a1, vI (fX1_nextSide (mUI M 181 (Int.toNat (wr ((fX8_ownerAt M a1) - 1))) (wr ((mI M 181 (Int.toNat (wr ((fX8_ownerAt M a1) - 1)))) + 1))) a2)]) (rest := []) (k := 2) rfl (by omega) (ax_caV (pc := 93) dX1_note_93 kX8_beside rfl rfl WM_X1_59 WI_X8_beside WS_X8_beside WN_X8 (ax_rcO (t := 6) (axEx hG rfl) rfl (by decide)) (Nat.le_of_ble_eq_true rfl)) kX8_beside rfl True.intro (T_X8_beside (by omega) (axPs.sub hG (Nat.le_of_ble_eq_true rfl) (Nat.le_of_ble_eq_true rfl)) rfl) ?_
            refine x_istore (ls' := [some (vR 179), some (vI a1), some (vI a2), some (vI a3), some (vI (wr ((fX8_ownerAt M a1) - 1))), some (vI (fX8_beside (mUI M 181 (Int.toNat (wr ((fX8_ownerAt M a1) - 1))) (wr ((mI M 181 (Int.toNat (wr ((fX8_ownerAt M a1) - 1)))) + 1))) a1 a2)), some (vI (fX8_beside (mUI M 181 (Int.toNat (wr ((fX8_ownerAt M a1) - 1))) (wr ((mI M 181 (Int.toNat (wr ((fX8_ownerAt M a1) - 1)))) + 1))) a1 (fX1_nextSide (mUI M 181 (Int.toNat (wr ((fX8_ownerAt M a1) - 1))) (wr ((mI M 181 (Int.toNat (wr ((fX8_ownerAt M a1) - 1)))) + 1))) a2)))]) (pc := 96) dX1_note_96 (Nat.le_of_ble_eq_true rfl) rfl rfl ?_
            refine x_aload_n (pc := 98) dX1_note_98 rfl ?_
            refine x_getF (t := 0) (j := 3) (r := 182) (pc := 99) dX1_note_99 (axH hG rfl) (axEx hG rfl) rfl (by decide) (by decide) rfl rfl WF_X1_18 ?_
            refine x_iload (pc := 102) dX1_note_102 rfl ?_
            refine x_iald2 (n := 2) (pc := 104) dX1_note_104 (axEx hG rfl) rfl (by omega) (by omega) ?_
            refine x_iconst (pc := 105) dX1_note_105 ⟨by decide, by decide⟩ ?_
            refine x_icmpeq (tgt := 121) (pc := 106) dX1_note_106 rfl (fun h11 => ?_) (fun h11 => ?_)
            · replace hf := (if_pos h11).symm.trans hf
              refine x_aload_n (pc := 121) dX1_note_121 rfl ?_
              refine x_getF (t := 0) (j := 3) (r := 182) (pc := 122) dX1_note_122 (axH hG rfl) (axEx hG rfl) rfl (by decide) (by decide) rfl rfl WF_X1_18 ?_
              refine x_iload (pc := 125) dX1_note_125 rfl ?_
              refine x_iload (pc := 127) dX1_note_127 rfl ?_
              refine x_iast2 (n := 2) (pc := 129) dX1_note_129 (axEx hG rfl) rfl (by omega) (by omega) ?_
              cases hf
              exact x_retV (pc := 130) dX1_note_130
            · replace hf := (if_neg h11).symm.trans hf
              refine x_iload (pc := 109) dX1_note_109 rfl ?_
              refine x_aload_n (pc := 111) dX1_note_111 rfl ?_
              refine x_getF (t := 0) (j := 3) (r := 182) (pc := 112) dX1_note_112 (axH hG rfl) (axEx hG rfl) rfl (by decide) (by decide) rfl rfl WF_X1_18 ?_
              refine x_iload (pc := 115) dX1_note_115 rfl ?_
              refine x_iald2 (n := 2) (pc := 117) dX1_note_117 (axEx hG rfl) rfl (by omega) (by omega) ?_
              refine ax_cmp (fun b13a b13b b13c b13e => ?_)
              refine x_icmpge (tgt := 130) (pc := 118) dX1_note_118 rfl (fun h12 => ?_) (fun h12 => ?_)
              · replace hf := (if_neg (Int.not_lt.mpr h12)).symm.trans hf
                cases hf
                exact x_retV (pc := 130) dX1_note_130
              · replace hf := (if_pos h12).symm.trans hf
                refine x_aload_n (pc := 121) dX1_note_121 rfl ?_
                refine x_getF (t := 0) (j := 3) (r := 182) (pc := 122) dX1_note_122 (axH hG rfl) (axEx hG rfl) rfl (by decide) (by decide) rfl rfl WF_X1_18 ?_
                refine x_iload (pc := 125) dX1_note_125 rfl ?_
                refine x_iload (pc := 127) dX1_note_127 rfl ?_
                refine x_iast2 (n := 2) (pc := 129) dX1_note_129 (axEx hG rfl) rfl (by omega) (by omega) ?_
                cases hf
                exact x_retV (pc := 130) dX1_note_130
          · replace hf := (if_pos h7).symm.trans hf
            refine x_iload (pc := 79) dX1_note_79 rfl ?_
            refine x_goto (tgt := 96) (pc := 81) dX1_note_81 rfl ?_
            refine x_istore (ls' := [some (vR 179), some (vI a1), some (vI a2), some (vI a3), some (vI (wr ((fX8_ownerAt M a1) - 1))), some (vI (fX8_beside (mUI M 181 (Int.toNat (wr ((fX8_ownerAt M a1) - 1))) (wr ((mI M 181 (Int.toNat (wr ((fX8_ownerAt M a1) - 1)))) + 1))) a1 a2)), some (vI (fX8_beside (mUI M 181 (Int.toNat (wr ((fX8_ownerAt M a1) - 1))) (wr ((mI M 181 (Int.toNat (wr ((fX8_ownerAt M a1) - 1)))) + 1))) a1 a2))]) (pc := 96) dX1_note_96 (Nat.le_of_ble_eq_true rfl) rfl rfl ?_
            refine x_aload_n (pc := 98) dX1_note_98 rfl ?_
            refine x_getF (t := 0) (j := 3) (r := 182) (pc := 99) dX1_note_99 (axH hG rfl) (axEx hG rfl) rfl (by decide) (by decide) rfl rfl WF_X1_18 ?_
            refine x_iload (pc := 102) dX1_note_102 rfl ?_
            refine x_iald2 (n := 2) (pc := 104) dX1_note_104 (axEx hG rfl) rfl (by omega) (by omega) ?_
            refine x_iconst (pc := 105) dX1_note_105 ⟨by decide, by decide⟩ ?_
            refine x_icmpeq (tgt := 121) (pc := 106) dX1_note_106 rfl (fun h8 => ?_) (fun h8 => ?_)
            · replace hf := (if_pos h8).symm.trans hf
              refine x_aload_n (pc := 121) dX1_note_121 rfl ?_
              refine x_getF (t := 0) (j := 3) (r := 182) (pc := 122) dX1_note_122 (axH hG rfl) (axEx hG rfl) rfl (by decide) (by decide) rfl rfl WF_X1_18 ?_
              refine x_iload (pc := 125) dX1_note_125 rfl ?_
              refine x_iload (pc := 127) dX1_note_127 rfl ?_
              refine x_iast2 (n := 2) (pc := 129) dX1_note_129 (axEx hG rfl) rfl (by omega) (by omega) ?_
              cases hf
              exact x_retV (pc := 130) dX1_note_130
            · replace hf := (if_neg h8).symm.trans hf
              refine x_iload (pc := 109) dX1_note_109 rfl ?_
              refine x_aload_n (pc := 111) dX1_note_111 rfl ?_
              refine x_getF (t := 0) (j := 3) (r := 182) (pc := 112) dX1_note_112 (axH hG rfl) (axEx hG rfl) rfl (by decide) (by decide) rfl rfl WF_X1_18 ?_
              refine x_iload (pc := 115) dX1_note_115 rfl ?_
              refine x_iald2 (n := 2) (pc := 117) dX1_note_117 (axEx hG rfl) rfl (by omega) (by omega) ?_
              refine ax_cmp (fun b10a b10b b10c b10e => ?_)
              refine x_icmpge (tgt := 130) (pc := 118) dX1_note_118 rfl (fun h9 => ?_) (fun h9 => ?_)
              · replace hf := (if_neg (Int.not_lt.mpr h9)).symm.trans hf
                cases hf
                exact x_retV (pc := 130) dX1_note_130
              · replace hf := (if_pos h9).symm.trans hf
                refine x_aload_n (pc := 121) dX1_note_121 rfl ?_
                refine x_getF (t := 0) (j := 3) (r := 182) (pc := 122) dX1_note_122 (axH hG rfl) (axEx hG rfl) rfl (by decide) (by decide) rfl rfl WF_X1_18 ?_
                refine x_iload (pc := 125) dX1_note_125 rfl ?_
                refine x_iload (pc := 127) dX1_note_127 rfl ?_
                refine x_iast2 (n := 2) (pc := 129) dX1_note_129 (axEx hG rfl) rfl (by omega) (by omega) ?_
                cases hf
                exact x_retV (pc := 130) dX1_note_130
        · replace hf := (if_pos h6).symm.trans hf
          refine x_aload_n (pc := 33) dX1_note_33 rfl ?_
          refine x_getF (t := 0) (j := 1) (r := 180) (pc := 34) dX1_note_34 (axH hG rfl) (axEx hG rfl) rfl (by decide) (by decide) rfl rfl WF_X1_9 ?_
          refine x_iload (pc := 37) dX1_note_37 rfl ?_
          refine x_dup2 (pc := 39) dX1_note_39 rfl rfl ?_
          refine x_iald2 (n := 2) (pc := 40) dX1_note_40 (axEx hG rfl) rfl (by omega) (by omega) ?_
          refine x_iconst (pc := 41) dX1_note_41 ⟨by decide, by decide⟩ ?_
          refine x_iaddw (pc := 42) dX1_note_42 ?_
          refine x_iast2 (n := 2) (pc := 43) dX1_note_43 (axEx hG rfl) rfl (by omega) (by omega) ?_
          cases hf
          exact x_retV (pc := 44) dX1_note_44
      · replace hf := (if_neg (Int.not_lt.mpr h4)).symm.trans hf
        cases hf
        exact x_retV (pc := 27) dX1_note_27
/- HexPond$Bridges.look()V -/
def fX1_look_b65 (M : ax_M) (x1 : Int) (v2 : Int) : Option ((Int × ax_M) ⊕ ax_M) :=
  (if v2 < 3 then (bd1 (fX1_note M x1 v2 (fX1_stateAt M x1 v2)) fun M7 => (some (.inl ((v2 + 1), M7)))) else (some (.inr M)))
def fX1_look_b52 (M : ax_M) (v1 : Int) : Option ((Int × ax_M) ⊕ ax_M) :=
  (if v1 < (fX8_cells M) then (bd1 (lp (fun s => fX1_look_b65 s.2 v1 s.1) lpN (0, M)) fun t8 => (some (.inl ((v1 + 1), t8)))) else (some (.inr M)))
def fX1_look (M : ax_M) : Option ax_M :=
  (if (mI M 179 4) = (fX8_changes M) then (some M) else (bd1 (lp (fun s => fX1_look_b52 s.2 s.1) lpN (0, (mFi (mFi (mFi (mUI M 179 4 (fX8_changes M)) 180 2 0) 181 2 0) 182 2 (-1)))) fun t10 => (some t10)))
theorem B_X1_look_65 {G : ax_G} {d : Nat} (hd : 3 ≤ d) (hG : axPs G 150 244) {M : ax_M} {x1 : Int} {v2 : Int} {o : Option ax_V ⊕ String} {M' : ax_M} {y : (Int × ax_M) ⊕ ax_M} (hf : fX1_look_b65 M x1 v2 = some y) (h1 : ∀ s', y = .inl s' → ax_Ex G tX1_look d 65 [some (vR 179), some (vI x1), some (vI s'.1)] [] s'.2 o M') (h2a : ∀ t, y = .inr t → ax_Ex G tX1_look d 88 [some (vR 179), some (vI x1), none] [] t o M') : ax_Ex G tX1_look d 65 [some (vR 179), some (vI x1), some (vI v2)] [] M o M' := by
  unfold fX1_look_b65 at hf
  refine x_iload_n (pc := 65) dX1_look_65 rfl ?_
  refine x_iconst (pc := 66) dX1_look_66 ⟨by decide, by decide⟩ ?_
  refine ax_cmp (fun b5a b5b b5c b5e => ?_)
  refine x_icmpge (tgt := 88) (pc := 67) dX1_look_67 rfl (fun h4 => ?_) (fun h4 => ?_)
  · replace hf := (if_neg (Int.not_lt.mpr h4)).symm.trans hf
    cases hf
    exact x_fgt (axS' (axS' (axN' axD))) (h2a _ rfl)
  · replace hf := (if_pos h4).symm.trans hf
    refine x_aload_n (pc := 70) dX1_look_70 rfl ?_
    refine x_iload_n (pc := 71) dX1_look_71 rfl ?_
    refine x_iload_n (pc := 72) dX1_look_72 rfl ?_
    refine x_aload_n (pc := 73) dX1_look_73 rfl ?_
    refine x_iload_n (pc := 74) dX1_look_74 rfl ?_
    refine x_iload_n (pc := 75) dX1_look_75 rfl ?_
    refine x_cr (v := vI (fX1_stateAt M x1 v2)) (vs := [vR 179, vI x1, vI v2]) (rest := [vI v2, vI x1, vR 179]) (k := 4) rfl (by omega) (ax_caV (pc := 76) dX1_look_76 kX1_stateAt rfl rfl WM_X1_33 WI_X1_stateAt WS_X1_stateAt WN_X1 (ax_rcO (t := 0) (axEx hG rfl) rfl (by decide)) (Nat.le_of_ble_eq_true rfl)) kX1_stateAt rfl True.intro (T_X1_stateAt (by omega) hG rfl) ?_
    obtain ⟨M7, r6, hf⟩ := bd1_some hf
    refine x_cv (vs := [vR 179, vI x1, vI v2, vI (fX1_stateAt M x1 v2)]) (rest := []) (k := 3) rfl (by omega) (ax_caV (pc := 79) dX1_look_79 kX1_note rfl rfl WM_X1_51 WI_X1_note WS_X1_note WN_X1 (ax_rcO (t := 0) (axEx hG rfl) rfl (by decide)) (Nat.le_of_ble_eq_true rfl)) kX1_note rfl True.intro (T_X1_note (by omega) hG r6) ?_
    refine x_iinc (z := (v2 + 1)) (ls' := [some (vR 179), some (vI x1), some (vI (v2 + 1))]) (pc := 82) dX1_look_82 rfl (Nat.le_of_ble_eq_true rfl) rfl rfl (ax_i (by omega) (by omega)) rfl ?_
    refine x_goto (tgt := 65) (pc := 85) dX1_look_85 rfl ?_
    cases hf
    exact h1 _ rfl
theorem B_X1_look_52 {G : ax_G} {d : Nat} (hd : 3 ≤ d) (hG : axPs G 150 244) {M : ax_M} {v1 : Int} {o : Option ax_V ⊕ String} {M' : ax_M} {y : (Int × ax_M) ⊕ ax_M} (hf : fX1_look_b52 M v1 = some y) (h1 : ∀ s', y = .inl s' → ax_Ex G tX1_look d 52 [some (vR 179), some (vI s'.1), none] [] s'.2 o M') (h2a : ∀ t, y = .inr t → ax_Ex G tX1_look d 94 [some (vR 179), none, none] [] t o M') : ax_Ex G tX1_look d 52 [some (vR 179), some (vI v1), none] [] M o M' := by
  unfold fX1_look_b52 at hf
  refine x_iload_n (pc := 52) dX1_look_52 rfl ?_
  refine x_aload_n (pc := 53) dX1_look_53 rfl ?_
  refine x_getF (t := 0) (j := 0) (r := 169) (pc := 54) dX1_look_54 (axH hG rfl) (axEx hG rfl) rfl (by decide) (by decide) rfl rfl WF_X1_25 ?_
  refine x_cr (v := vI (fX8_cells M)) (vs := [vR 169]) (rest := [vI v1]) (k := 0) rfl (by omega) (ax_caV (pc := 57) dX1_look_57 kX8_cells rfl rfl WM_X1_48 WI_X8_cells WS_X8_cells WN_X8 (ax_rcO (t := 6) (axEx hG rfl) rfl (by decide)) (Nat.le_of_ble_eq_true rfl)) kX8_cells rfl True.intro (T_X8_cells (by omega) (axPs.sub hG (Nat.le_of_ble_eq_true rfl) (Nat.le_of_ble_eq_true rfl)) rfl) ?_
  refine ax_cmp (fun b3a b3b b3c b3e => ?_)
  refine x_icmpge (tgt := 94) (pc := 60) dX1_look_60 rfl (fun h2 => ?_) (fun h2 => ?_)
  · replace hf := (if_neg (Int.not_lt.mpr h2)).symm.trans hf
    cases hf
    exact x_fgt (axS' (axN' (axN' axD))) (h2a _ rfl)
  · replace hf := (if_pos h2).symm.trans hf
    refine x_iconst (pc := 63) dX1_look_63 ⟨by decide, by decide⟩ ?_
    refine x_istore_n (ls' := [some (vR 179), some (vI v1), some (vI 0)]) (pc := 64) dX1_look_64 (Nat.le_of_ble_eq_true rfl) rfl rfl ?_
    obtain ⟨t8, t9, hf⟩ := bd1_some hf
    refine lp_ex (P := (fun s => ax_Ex G tX1_look d 65 [some (vR 179), some (vI v1), some (vI s.1)] [] s.2 _ _)) (K := (fun t => ax_Ex G tX1_look d 88 [some (vR 179), some (vI v1), none] [] t _ _)) (fun s y hy h1 h2 => B_X1_look_65 (by omega) hG hy (fun s' e => h1 s' e) (fun t e => h2 t e)) _ _ _ t9 ?_
    refine x_iinc (z := (v1 + 1)) (ls' := [some (vR 179), some (vI (v1 + 1)), none]) (pc := 88) dX1_look_88 rfl (Nat.le_of_ble_eq_true rfl) rfl rfl (ax_i (by omega) (by omega)) rfl ?_
    refine x_goto (tgt := 52) (pc := 91) dX1_look_91 rfl ?_
    cases hf
    exact h1 _ rfl
theorem T_X1_look {G : ax_G} {d : Nat} (hd : 3 ≤ d) (hG : axPs G 150 244) {M : ax_M} {M1 : ax_M} (hf : fX1_look M = some M1) : ax_Ex G tX1_look d 0 (ax_args [vR 179] ++ List.replicate 2 none) [] M (.inl none) M1 := by
  show ax_Ex G tX1_look d 0 [some (vR 179), none, none] [] M _ _
  unfold fX1_look at hf
  refine x_aload_n (pc := 0) dX1_look_0 rfl ?_
  refine x_getI (t := 0) (j := 4) (pc := 1) dX1_look_1 (axEx hG rfl) rfl (by decide) (by decide) rfl WF_X1_21 ?_
  refine x_aload_n (pc := 4) dX1_look_4 rfl ?_
  refine x_getF (t := 0) (j := 0) (r := 169) (pc := 5) dX1_look_5 (axH hG rfl) (axEx hG rfl) rfl (by decide) (by decide) rfl rfl WF_X1_25 ?_
  refine x_cr (v := vI (fX8_changes M)) (vs := [vR 169]) (rest := [vI (mI M 179 4)]) (k := 0) rfl (by omega) (ax_caV (pc := 8) dX1_look_8 kX8_changes rfl rfl WM_X1_36 WI_X8_changes WS_X8_changes WN_X8 (ax_rcO (t := 6) (axEx hG rfl) rfl (by decide)) (Nat.le_of_ble_eq_true rfl)) kX8_changes rfl True.intro (T_X8_changes (by omega) (axPs.sub hG (Nat.le_of_ble_eq_true rfl) (Nat.le_of_ble_eq_true rfl)) rfl) ?_
  refine x_icmpne (tgt := 15) (pc := 11) dX1_look_11 rfl (fun h1 => ?_) (fun h1 => ?_)
  · replace hf := (if_neg h1).symm.trans hf
    refine x_aload_n (pc := 15) dX1_look_15 rfl ?_
    refine x_aload_n (pc := 16) dX1_look_16 rfl ?_
    refine x_getF (t := 0) (j := 0) (r := 169) (pc := 17) dX1_look_17 (axH hG rfl) (axEx hG rfl) rfl (by decide) (by decide) rfl rfl WF_X1_25 ?_
    refine x_cr (v := vI (fX8_changes M)) (vs := [vR 169]) (rest := [vR 179]) (k := 0) rfl (by omega) (ax_caV (pc := 20) dX1_look_20 kX8_changes rfl rfl WM_X1_36 WI_X8_changes WS_X8_changes WN_X8 (ax_rcO (t := 6) (axEx hG rfl) rfl (by decide)) (Nat.le_of_ble_eq_true rfl)) kX8_changes rfl True.intro (T_X8_changes (by omega) (axPs.sub hG (Nat.le_of_ble_eq_true rfl) (Nat.le_of_ble_eq_true rfl)) rfl) ?_
    refine x_putI (t := 0) (j := 4) (pc := 23) dX1_look_23 (axEx hG rfl) rfl (by decide) (by decide) rfl rfl WF_X1_21 ?_
    refine x_aload_n (pc := 26) dX1_look_26 rfl ?_
    refine x_getF (t := 0) (j := 1) (r := 180) (pc := 27) dX1_look_27 (axH hG rfl) (axEx hG rfl) rfl (by decide) (by decide) rfl rfl WF_X1_9 ?_
    refine x_iconst (pc := 30) dX1_look_30 ⟨by decide, by decide⟩ ?_
    refine x_cv (vs := [vR 180, vI 0]) (rest := []) (k := 2) rfl (by omega) (ax_caS (pc := 31) dX1_look_31 kJ7_fill_53178 rfl rfl WM_X1_42 WT_J7_fill_53178 WN_J7 (Nat.le_of_ble_eq_true rfl)) kJ7_fill_53178 rfl True.intro (T_fill (n := 2) (axEx hG rfl) rfl (by decide)) ?_
    refine x_aload_n (pc := 34) dX1_look_34 rfl ?_
    refine x_getF (t := 0) (j := 2) (r := 181) (pc := 35) dX1_look_35 (axH hG rfl) (axEx hG rfl) rfl (by decide) (by decide) rfl rfl WF_X1_15 ?_
    refine x_iconst (pc := 38) dX1_look_38 ⟨by decide, by decide⟩ ?_
    refine x_cv (vs := [vR 181, vI 0]) (rest := []) (k := 2) rfl (by omega) (ax_caS (pc := 39) dX1_look_39 kJ7_fill_53178 rfl rfl WM_X1_42 WT_J7_fill_53178 WN_J7 (Nat.le_of_ble_eq_true rfl)) kJ7_fill_53178 rfl True.intro (T_fill (n := 2) (axEx hG rfl) rfl (by decide)) ?_
    refine x_aload_n (pc := 42) dX1_look_42 rfl ?_
    refine x_getF (t := 0) (j := 3) (r := 182) (pc := 43) dX1_look_43 (axH hG rfl) (axEx hG rfl) rfl (by decide) (by decide) rfl rfl WF_X1_18 ?_
    refine x_iconst (pc := 46) dX1_look_46 ⟨by decide, by decide⟩ ?_
    refine x_cv (vs := [vR 182, vI (-1)]) (rest := []) (k := 2) rfl (by omega) (ax_caS (pc := 47) dX1_look_47 kJ7_fill_53178 rfl rfl WM_X1_42 WT_J7_fill_53178 WN_J7 (Nat.le_of_ble_eq_true rfl)) kJ7_fill_53178 rfl True.intro (T_fill (n := 2) (axEx hG rfl) rfl (by decide)) ?_
    refine x_iconst (pc := 50) dX1_look_50 ⟨by decide, by decide⟩ ?_
    refine x_istore_n (ls' := [some (vR 179), some (vI 0), none]) (pc := 51) dX1_look_51 (Nat.le_of_ble_eq_true rfl) rfl rfl ?_
    obtain ⟨t10, t11, hf⟩ := bd1_some hf
    refine lp_ex (P := (fun s => ax_Ex G tX1_look d 52 [some (vR 179), some (vI s.1), none] [] s.2 _ _)) (K := (fun t => ax_Ex G tX1_look d 94 [some (vR 179), none, none] [] t _ _)) (fun s y hy h1 h2 => B_X1_look_52 (by omega) hG hy (fun s' e => h1 s' e) (fun t e => h2 t e)) _ _ _ t11 ?_
    cases hf
    exact x_retV (pc := 94) dX1_look_94
  · replace hf := (if_pos h1).symm.trans hf
    cases hf
    exact x_retV (pc := 14) dX1_look_14
/- HexPond$Bridges.whole(I)I -/
def fX1_whole (M : ax_M) (a1 : Int) : Int :=
  (if a1 < 0 then (0) else (if a1 < 2 then ((mI M 180 (Int.toNat a1))) else (0)))
theorem T_X1_whole {G : ax_G} {d : Nat} (hd : 0 ≤ d) (hG : axPs G 150 244) {M : ax_M} {a1 : Int} {r : Int} (hf : fX1_whole M a1 = r) : ax_Ex G tX1_whole d 0 (ax_args [vR 179, vI a1] ++ List.replicate 0 none) [] M (.inl (some (vI r))) M := by
  show ax_Ex G tX1_whole d 0 [some (vR 179), some (vI a1)] [] M _ _
  unfold fX1_whole at hf
  refine x_iload_n (pc := 0) dX1_whole_0 rfl ?_
  refine ax_cmp1 (fun b2a b2b => ?_)
  refine x_iflt (tgt := 22) (pc := 1) dX1_whole_1 rfl (fun h1 => ?_) (fun h1 => ?_)
  · replace hf := (if_pos h1).symm.trans hf
    refine x_iconst (pc := 22) dX1_whole_22 ⟨by decide, by decide⟩ ?_
    subst hf
    exact x_retI (pc := 23) dX1_whole_23
  · replace hf := (if_neg (Int.not_lt.mpr h1)).symm.trans hf
    refine x_iload_n (pc := 4) dX1_whole_4 rfl ?_
    refine x_aload_n (pc := 5) dX1_whole_5 rfl ?_
    refine x_getF (t := 0) (j := 1) (r := 180) (pc := 6) dX1_whole_6 (axH hG rfl) (axEx hG rfl) rfl (by decide) (by decide) rfl rfl WF_X1_9 ?_
    refine x_alen (t := 0) (n := 2) (pc := 9) dX1_whole_9 (axEx hG rfl) rfl (by decide) (by decide) ?_
    refine ax_cmp (fun b4a b4b b4c b4e => ?_)
    refine x_icmpge (tgt := 22) (pc := 10) dX1_whole_10 rfl (fun h3 => ?_) (fun h3 => ?_)
    · replace hf := (if_neg (Int.not_lt.mpr h3)).symm.trans hf
      refine x_iconst (pc := 22) dX1_whole_22 ⟨by decide, by decide⟩ ?_
      subst hf
      exact x_retI (pc := 23) dX1_whole_23
    · replace hf := (if_pos h3).symm.trans hf
      refine x_aload_n (pc := 13) dX1_whole_13 rfl ?_
      refine x_getF (t := 0) (j := 1) (r := 180) (pc := 14) dX1_whole_14 (axH hG rfl) (axEx hG rfl) rfl (by decide) (by decide) rfl rfl WF_X1_9 ?_
      refine x_iload_n (pc := 17) dX1_whole_17 rfl ?_
      refine x_iald2 (n := 2) (pc := 18) dX1_whole_18 (axEx hG rfl) rfl (by omega) (by omega) ?_
      refine x_goto (tgt := 23) (pc := 19) dX1_whole_19 rfl ?_
      subst hf
      exact x_retI (pc := 23) dX1_whole_23
/- HexPond$Bridges.broken(I)I -/
def fX1_broken (M : ax_M) (a1 : Int) : Int :=
  (if a1 < 0 then (0) else (if a1 < 2 then ((mI M 181 (Int.toNat a1))) else (0)))
theorem T_X1_broken {G : ax_G} {d : Nat} (hd : 0 ≤ d) (hG : axPs G 150 244) {M : ax_M} {a1 : Int} {r : Int} (hf : fX1_broken M a1 = r) : ax_Ex G tX1_broken d 0 (ax_args [vR 179, vI a1] ++ List.replicate 0 none) [] M (.inl (some (vI r))) M := by
  show ax_Ex G tX1_broken d 0 [some (vR 179), some (vI a1)] [] M _ _
  unfold fX1_broken at hf
  refine x_iload_n (pc := 0) dX1_broken_0 rfl ?_
  refine ax_cmp1 (fun b2a b2b => ?_)
  refine x_iflt (tgt := 22) (pc := 1) dX1_broken_1 rfl (fun h1 => ?_) (fun h1 => ?_)
  · replace hf := (if_pos h1).symm.trans hf
    refine x_iconst (pc := 22) dX1_broken_22 ⟨by decide, by decide⟩ ?_
    subst hf
    exact x_retI (pc := 23) dX1_broken_23
  · replace hf := (if_neg (Int.not_lt.mpr h1)).symm.trans hf
    refine x_iload_n (pc := 4) dX1_broken_4 rfl ?_
    refine x_aload_n (pc := 5) dX1_broken_5 rfl ?_
    refine x_getF (t := 0) (j := 2) (r := 181) (pc := 6) dX1_broken_6 (axH hG rfl) (axEx hG rfl) rfl (by decide) (by decide) rfl rfl WF_X1_15 ?_
    refine x_alen (t := 0) (n := 2) (pc := 9) dX1_broken_9 (axEx hG rfl) rfl (by decide) (by decide) ?_
    refine ax_cmp (fun b4a b4b b4c b4e => ?_)
    refine x_icmpge (tgt := 22) (pc := 10) dX1_broken_10 rfl (fun h3 => ?_) (fun h3 => ?_)
    · replace hf := (if_neg (Int.not_lt.mpr h3)).symm.trans hf
      refine x_iconst (pc := 22) dX1_broken_22 ⟨by decide, by decide⟩ ?_
      subst hf
      exact x_retI (pc := 23) dX1_broken_23
    · replace hf := (if_pos h3).symm.trans hf
      refine x_aload_n (pc := 13) dX1_broken_13 rfl ?_
      refine x_getF (t := 0) (j := 2) (r := 181) (pc := 14) dX1_broken_14 (axH hG rfl) (axEx hG rfl) rfl (by decide) (by decide) rfl rfl WF_X1_15 ?_
      refine x_iload_n (pc := 17) dX1_broken_17 rfl ?_
      refine x_iald2 (n := 2) (pc := 18) dX1_broken_18 (axEx hG rfl) rfl (by omega) (by omega) ?_
      refine x_goto (tgt := 23) (pc := 19) dX1_broken_19 rfl ?_
      subst hf
      exact x_retI (pc := 23) dX1_broken_23
/- HexPond$Bridges.saving(I)I -/
def fX1_saving (M : ax_M) (a1 : Int) : Int :=
  (if a1 < 0 then ((-1)) else (if a1 < 2 then ((mI M 182 (Int.toNat a1))) else ((-1))))
theorem T_X1_saving {G : ax_G} {d : Nat} (hd : 0 ≤ d) (hG : axPs G 150 244) {M : ax_M} {a1 : Int} {r : Int} (hf : fX1_saving M a1 = r) : ax_Ex G tX1_saving d 0 (ax_args [vR 179, vI a1] ++ List.replicate 0 none) [] M (.inl (some (vI r))) M := by
  show ax_Ex G tX1_saving d 0 [some (vR 179), some (vI a1)] [] M _ _
  unfold fX1_saving at hf
  refine x_iload_n (pc := 0) dX1_saving_0 rfl ?_
  refine ax_cmp1 (fun b2a b2b => ?_)
  refine x_iflt (tgt := 22) (pc := 1) dX1_saving_1 rfl (fun h1 => ?_) (fun h1 => ?_)
  · replace hf := (if_pos h1).symm.trans hf
    refine x_iconst (pc := 22) dX1_saving_22 ⟨by decide, by decide⟩ ?_
    subst hf
    exact x_retI (pc := 23) dX1_saving_23
  · replace hf := (if_neg (Int.not_lt.mpr h1)).symm.trans hf
    refine x_iload_n (pc := 4) dX1_saving_4 rfl ?_
    refine x_aload_n (pc := 5) dX1_saving_5 rfl ?_
    refine x_getF (t := 0) (j := 3) (r := 182) (pc := 6) dX1_saving_6 (axH hG rfl) (axEx hG rfl) rfl (by decide) (by decide) rfl rfl WF_X1_18 ?_
    refine x_alen (t := 0) (n := 2) (pc := 9) dX1_saving_9 (axEx hG rfl) rfl (by decide) (by decide) ?_
    refine ax_cmp (fun b4a b4b b4c b4e => ?_)
    refine x_icmpge (tgt := 22) (pc := 10) dX1_saving_10 rfl (fun h3 => ?_) (fun h3 => ?_)
    · replace hf := (if_neg (Int.not_lt.mpr h3)).symm.trans hf
      refine x_iconst (pc := 22) dX1_saving_22 ⟨by decide, by decide⟩ ?_
      subst hf
      exact x_retI (pc := 23) dX1_saving_23
    · replace hf := (if_pos h3).symm.trans hf
      refine x_aload_n (pc := 13) dX1_saving_13 rfl ?_
      refine x_getF (t := 0) (j := 3) (r := 182) (pc := 14) dX1_saving_14 (axH hG rfl) (axEx hG rfl) rfl (by decide) (by decide) rfl rfl WF_X1_18 ?_
      refine x_iload_n (pc := 17) dX1_saving_17 rfl ?_
      refine x_iald2 (n := 2) (pc := 18) dX1_saving_18 (axEx hG rfl) rfl (by omega) (by omega) ?_
      refine x_goto (tgt := 23) (pc := 19) dX1_saving_19 rfl ?_
      subst hf
      exact x_retI (pc := 23) dX1_saving_23
