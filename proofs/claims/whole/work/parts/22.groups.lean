/-! walks: Groups -/
/- HexPond$Groups.join(I)V -/
def fX4_join (M : ax_M) (a1 : Int) : Option ax_M :=
  (if a1 < 0 then (some M) else (if a1 < 81 then (if (mI M 177 (Int.toNat a1)) = 0 then (if (mI M 176 3) < 0 then (some M) else (if (mI M 176 3) < 81 then (if 0 ≤ (mI (mUI M 177 (Int.toNat a1) 1) 176 3) ∧ (mI (mUI M 177 (Int.toNat a1) 1) 176 3) < 81 then (some (mUI (mUI (mUI M 177 (Int.toNat a1) 1) 178 (Int.toNat (mI (mUI M 177 (Int.toNat a1) 1) 176 3)) a1) 176 3 (wr ((mI (mUI (mUI M 177 (Int.toNat a1) 1) 178 (Int.toNat (mI (mUI M 177 (Int.toNat a1) 1) 176 3)) a1) 176 3) + 1)))) else none) else (some M))) else (some M)) else (some M)))
theorem T_X4_join {G : ax_G} {d : Nat} (hd : 0 ≤ d) (hG : axPs G 150 244) {M : ax_M} {a1 : Int} {M1 : ax_M} (hf : fX4_join M a1 = some M1) : ax_Ex G tX4_join d 0 (ax_args [vR 176, vI a1] ++ List.replicate 1 none) [] M (.inl none) M1 := by
  show ax_Ex G tX4_join d 0 [some (vR 176), some (vI a1), none] [] M _ _
  unfold fX4_join at hf
  refine x_iload_n (pc := 0) dX4_join_0 rfl ?_
  refine ax_cmp1 (fun b2a b2b => ?_)
  refine x_iflt (tgt := 26) (pc := 1) dX4_join_1 rfl (fun h1 => ?_) (fun h1 => ?_)
  · replace hf := (if_pos h1).symm.trans hf
    refine x_iconst (pc := 26) dX4_join_26 ⟨by decide, by decide⟩ ?_
    refine x_istore_n (ls' := [some (vR 176), some (vI a1), some (vI 0)]) (pc := 27) dX4_join_27 (Nat.le_of_ble_eq_true rfl) rfl rfl ?_
    refine x_iload_n (pc := 28) dX4_join_28 rfl ?_
    refine x_ifeq (tgt := 78) (pc := 29) dX4_join_29 rfl (fun h3 => ?_) (fun h3 => absurd h3 (by omega))
    cases hf
    exact x_retV (pc := 78) dX4_join_78
  · replace hf := (if_neg (Int.not_lt.mpr h1)).symm.trans hf
    refine x_iload_n (pc := 4) dX4_join_4 rfl ?_
    refine x_aload_n (pc := 5) dX4_join_5 rfl ?_
    refine x_getF (t := 3) (j := 1) (r := 177) (pc := 6) dX4_join_6 (axH hG rfl) (axEx hG rfl) rfl (by decide) (by decide) rfl rfl WF_X4_9 ?_
    refine x_alen (t := 0) (n := 81) (pc := 9) dX4_join_9 (axEx hG rfl) rfl (by decide) (by decide) ?_
    refine ax_cmp (fun b5a b5b b5c b5e => ?_)
    refine x_icmpge (tgt := 26) (pc := 10) dX4_join_10 rfl (fun h4 => ?_) (fun h4 => ?_)
    · replace hf := (if_neg (Int.not_lt.mpr h4)).symm.trans hf
      refine x_iconst (pc := 26) dX4_join_26 ⟨by decide, by decide⟩ ?_
      refine x_istore_n (ls' := [some (vR 176), some (vI a1), some (vI 0)]) (pc := 27) dX4_join_27 (Nat.le_of_ble_eq_true rfl) rfl rfl ?_
      refine x_iload_n (pc := 28) dX4_join_28 rfl ?_
      refine x_ifeq (tgt := 78) (pc := 29) dX4_join_29 rfl (fun h14 => ?_) (fun h14 => absurd h14 (by omega))
      cases hf
      exact x_retV (pc := 78) dX4_join_78
    · replace hf := (if_pos h4).symm.trans hf
      refine x_aload_n (pc := 13) dX4_join_13 rfl ?_
      refine x_getF (t := 3) (j := 1) (r := 177) (pc := 14) dX4_join_14 (axH hG rfl) (axEx hG rfl) rfl (by decide) (by decide) rfl rfl WF_X4_9 ?_
      refine x_iload_n (pc := 17) dX4_join_17 rfl ?_
      refine x_iald2 (n := 81) (pc := 18) dX4_join_18 (axEx hG rfl) rfl (by omega) (by omega) ?_
      refine x_ifne (tgt := 26) (pc := 19) dX4_join_19 rfl (fun h6 => ?_) (fun h6 => ?_)
      · replace hf := (if_neg h6).symm.trans hf
        refine x_iconst (pc := 26) dX4_join_26 ⟨by decide, by decide⟩ ?_
        refine x_istore_n (ls' := [some (vR 176), some (vI a1), some (vI 0)]) (pc := 27) dX4_join_27 (Nat.le_of_ble_eq_true rfl) rfl rfl ?_
        refine x_iload_n (pc := 28) dX4_join_28 rfl ?_
        refine x_ifeq (tgt := 78) (pc := 29) dX4_join_29 rfl (fun h13 => ?_) (fun h13 => absurd h13 (by omega))
        cases hf
        exact x_retV (pc := 78) dX4_join_78
      · replace hf := (if_pos h6).symm.trans hf
        refine x_iconst (pc := 22) dX4_join_22 ⟨by decide, by decide⟩ ?_
        refine x_goto (tgt := 27) (pc := 23) dX4_join_23 rfl ?_
        refine x_istore_n (ls' := [some (vR 176), some (vI a1), some (vI 1)]) (pc := 27) dX4_join_27 (Nat.le_of_ble_eq_true rfl) rfl rfl ?_
        refine x_iload_n (pc := 28) dX4_join_28 rfl ?_
        refine x_ifeq (tgt := 78) (pc := 29) dX4_join_29 rfl (fun h7 => absurd h7 (by omega)) (fun h7 => ?_)
        refine x_aload_n (pc := 32) dX4_join_32 rfl ?_
        refine x_getI (t := 3) (j := 3) (pc := 33) dX4_join_33 (axEx hG rfl) rfl (by decide) (by decide) rfl WF_X4_32 ?_
        refine ax_cmp1 (fun b9a b9b => ?_)
        refine x_iflt (tgt := 78) (pc := 36) dX4_join_36 rfl (fun h8 => ?_) (fun h8 => ?_)
        · replace hf := (if_pos h8).symm.trans hf
          cases hf
          exact x_retV (pc := 78) dX4_join_78
        · replace hf := (if_neg (Int.not_lt.mpr h8)).symm.trans hf
          refine x_aload_n (pc := 39) dX4_join_39 rfl ?_
          refine x_getI (t := 3) (j := 3) (pc := 40) dX4_join_40 (axEx hG rfl) rfl (by decide) (by decide) rfl WF_X4_32 ?_
          refine x_aload_n (pc := 43) dX4_join_43 rfl ?_
          refine x_getF (t := 3) (j := 2) (r := 178) (pc := 44) dX4_join_44 (axH hG rfl) (axEx hG rfl) rfl (by decide) (by decide) rfl rfl WF_X4_15 ?_
          refine x_alen (t := 0) (n := 81) (pc := 47) dX4_join_47 (axEx hG rfl) rfl (by decide) (by decide) ?_
          refine ax_cmp (fun b11a b11b b11c b11e => ?_)
          refine x_icmpge (tgt := 78) (pc := 48) dX4_join_48 rfl (fun h10 => ?_) (fun h10 => ?_)
          · replace hf := (if_neg (Int.not_lt.mpr h10)).symm.trans hf
            cases hf
            exact x_retV (pc := 78) dX4_join_78
          · replace hf := (if_pos h10).symm.trans hf
            refine x_aload_n (pc := 51) dX4_join_51 rfl ?_
            refine x_getF (t := 3) (j := 1) (r := 177) (pc := 52) dX4_join_52 (axH hG rfl) (axEx hG rfl) rfl (by decide) (by decide) rfl rfl WF_X4_9 ?_
            refine x_iload_n (pc := 55) dX4_join_55 rfl ?_
            refine x_iconst (pc := 56) dX4_join_56 ⟨by decide, by decide⟩ ?_
            refine x_iast2 (n := 81) (pc := 57) dX4_join_57 (axEx hG rfl) rfl (by omega) (by omega) ?_
            refine x_aload_n (pc := 58) dX4_join_58 rfl ?_
            refine x_getF (t := 3) (j := 2) (r := 178) (pc := 59) dX4_join_59 (axH hG rfl) (axEx hG rfl) rfl (by decide) (by decide) rfl rfl WF_X4_15 ?_
            refine x_aload_n (pc := 62) dX4_join_62 rfl ?_
            refine x_getI (t := 3) (j := 3) (pc := 63) dX4_join_63 (axEx hG rfl) rfl (by decide) (by decide) rfl WF_X4_32 ?_
            refine x_iload_n (pc := 66) dX4_join_66 rfl ?_
            by_cases h12 : 0 ≤ (mI (mUI M 177 (Int.toNat a1) 1) 176 3) ∧ (mI (mUI M 177 (Int.toNat a1) 1) 176 3) < 81
            · replace hf := (if_pos h12).symm.trans hf
              refine x_iast2 (n := 81) (pc := 67) dX4_join_67 (axEx hG rfl) rfl h12.1 h12.2 ?_
              refine x_aload_n (pc := 68) dX4_join_68 rfl ?_
              refine x_dup (pc := 69) dX4_join_69 rfl ?_
              refine x_getI (t := 3) (j := 3) (pc := 70) dX4_join_70 (axEx hG rfl) rfl (by decide) (by decide) rfl WF_X4_32 ?_
              refine x_iconst (pc := 73) dX4_join_73 ⟨by decide, by decide⟩ ?_
              refine x_iaddw (pc := 74) dX4_join_74 ?_
              refine x_putI (t := 3) (j := 3) (pc := 75) dX4_join_75 (axEx hG rfl) rfl (by decide) (by decide) rfl rfl WF_X4_32 ?_
              cases hf
              exact x_retV (pc := 78) dX4_join_78
            · replace hf := (if_neg h12).symm.trans hf
              cases hf
/- HexPond$Groups.gather(I)V -/
def fX4_gather_b41 (M : ax_M) (x2 : Int) (x3 : Int) (v4 : Int) : Option ((Int × ax_M) ⊕ ax_M) :=
  (if v4 < 6 then (if 0 ≤ x3 ∧ x3 < 81 then (if (fX8_ownerAt M (fX8_beside M (mI M 178 (Int.toNat x3)) v4)) = x2 then (bd1 (fX4_join M (fX8_beside M (mI M 178 (Int.toNat x3)) v4)) fun M12 => (some (.inl ((v4 + 1), M12)))) else (some (.inl ((v4 + 1), M)))) else none) else (some (.inr M)))
def fX4_gather_b21 (M : ax_M) (x2 : Int) (v3 : Int) : Option ((Int × ax_M) ⊕ ax_M) :=
  (if v3 < (mI M 176 3) then (if v3 < 81 then (bd1 (lp (fun s => fX4_gather_b41 s.2 x2 v3 s.1) lpN (0, M)) fun t13 => (some (.inl ((v3 + 1), t13)))) else (some (.inr M))) else (some (.inr M)))
def fX4_gather (M : ax_M) (a1 : Int) : Option ax_M :=
  (bd1 (fX4_join (mUI M 176 3 0) a1) fun M2 => (bd1 (lp (fun s => fX4_gather_b21 s.2 (fX8_ownerAt M a1) s.1) lpN (0, M2)) fun t15 => (some t15)))
theorem B_X4_gather_41 {G : ax_G} {d : Nat} (hd : 1 ≤ d) (hG : axPs G 150 244) {M : ax_M} {x2 : Int} {x3 : Int} {v4 : Int} {o : Option ax_V ⊕ String} {M' : ax_M} {y : (Int × ax_M) ⊕ ax_M} (hf : fX4_gather_b41 M x2 x3 v4 = some y) (h1 : ∀ s', y = .inl s' → ax_Ex G tX4_gather d 41 [some (vR 176), none, some (vI x2), some (vI x3), some (vI s'.1), none] [] s'.2 o M') (h2a : ∀ t, y = .inr t → ax_Ex G tX4_gather d 90 [some (vR 176), none, some (vI x2), some (vI x3), none, none] [] t o M') : ax_Ex G tX4_gather d 41 [some (vR 176), none, some (vI x2), some (vI x3), some (vI v4), none] [] M o M' := by
  unfold fX4_gather_b41 at hf
  refine x_iload (pc := 41) dX4_gather_41 rfl ?_
  refine x_bipush (pc := 43) dX4_gather_43 (by decide) ⟨by decide, by decide⟩ ?_
  refine ax_cmp (fun b8a b8b b8c b8e => ?_)
  refine x_icmpge (tgt := 90) (pc := 45) dX4_gather_45 rfl (fun h7 => ?_) (fun h7 => ?_)
  · replace hf := (if_neg (Int.not_lt.mpr h7)).symm.trans hf
    cases hf
    exact x_fgt (axS' (axN' (axS' (axS' (axN' (axN' axD)))))) (h2a _ rfl)
  · replace hf := (if_pos h7).symm.trans hf
    refine x_aload_n (pc := 48) dX4_gather_48 rfl ?_
    refine x_getF (t := 3) (j := 0) (r := 169) (pc := 49) dX4_gather_49 (axH hG rfl) (axEx hG rfl) rfl (by decide) (by decide) rfl rfl WF_X4_18 ?_
    refine x_aload_n (pc := 52) dX4_gather_52 rfl ?_
    refine x_getF (t := 3) (j := 2) (r := 178) (pc := 53) dX4_gather_53 (axH hG rfl) (axEx hG rfl) rfl (by decide) (by decide) rfl rfl WF_X4_15 ?_
    refine x_iload_n (pc := 56) dX4_gather_56 rfl ?_
    by_cases h9 : 0 ≤ x3 ∧ x3 < 81
    · replace hf := (if_pos h9).symm.trans hf
      refine x_iald2 (n := 81) (pc := 57) dX4_gather_57 (axEx hG rfl) rfl h9.1 h9.2 ?_
      refine x_iload (pc := 58) dX4_gather_58 rfl ?_
      refine x_cr (v := vI (fX8_beside M (mI M 178 (Int.toNat x3)) v4)) (vs := [vR 169, vI (mI M 178 (Int.toNat x3)), vI v4]) (rest := []) (k := 2) rfl (by omega) (ax_caV (pc := 60) dX4_gather_60 kX8_beside rfl rfl WM_X4_69 WI_X8_beside WS_X8_beside WN_X8 (ax_rcO (t := 6) (axEx hG rfl) rfl (by decide)) (Nat.le_of_ble_eq_true rfl)) kX8_beside rfl True.intro (T_X8_beside (by omega) (axPs.sub hG (Nat.le_of_ble_eq_true rfl) (Nat.le_of_ble_eq_true rfl)) rfl) ?_
      refine x_istore (ls' := [some (vR 176), none, some (vI x2), some (vI x3), some (vI v4), some (vI (fX8_beside M (mI M 178 (Int.toNat x3)) v4))]) (pc := 63) dX4_gather_63 (Nat.le_of_ble_eq_true rfl) rfl rfl ?_
      refine x_aload_n (pc := 65) dX4_gather_65 rfl ?_
      refine x_getF (t := 3) (j := 0) (r := 169) (pc := 66) dX4_gather_66 (axH hG rfl) (axEx hG rfl) rfl (by decide) (by decide) rfl rfl WF_X4_18 ?_
      refine x_iload (pc := 69) dX4_gather_69 rfl ?_
      refine x_cr (v := vI (fX8_ownerAt M (fX8_beside M (mI M 178 (Int.toNat x3)) v4))) (vs := [vR 169, vI (fX8_beside M (mI M 178 (Int.toNat x3)) v4)]) (rest := []) (k := 0) rfl (by omega) (ax_caV (pc := 71) dX4_gather_71 kX8_ownerAt rfl rfl WM_X4_36 WI_X8_ownerAt WS_X8_ownerAt WN_X8 (ax_rcO (t := 6) (axEx hG rfl) rfl (by decide)) (Nat.le_of_ble_eq_true rfl)) kX8_ownerAt rfl True.intro (T_X8_ownerAt (by omega) (axPs.sub hG (Nat.le_of_ble_eq_true rfl) (Nat.le_of_ble_eq_true rfl)) rfl) ?_
      refine x_iload_n (pc := 74) dX4_gather_74 rfl ?_
      refine x_icmpne (tgt := 84) (pc := 75) dX4_gather_75 rfl (fun h10 => ?_) (fun h10 => ?_)
      · replace hf := (if_neg h10).symm.trans hf
        refine x_iinc (z := (v4 + 1)) (ls' := [some (vR 176), none, some (vI x2), some (vI x3), some (vI (v4 + 1)), some (vI (fX8_beside M (mI M 178 (Int.toNat x3)) v4))]) (pc := 84) dX4_gather_84 rfl (Nat.le_of_ble_eq_true rfl) rfl rfl (ax_i (by omega) (by omega)) rfl ?_
        refine x_goto (tgt := 41) (pc := 87) dX4_gather_87 rfl ?_
        cases hf
        exact x_fgt (axS' (axN' (axS' (axS' (axS' (axN' axD)))))) (h1 _ rfl)
      · replace hf := (if_pos h10).symm.trans hf
        refine x_aload_n (pc := 78) dX4_gather_78 rfl ?_
        refine x_iload (pc := 79) dX4_gather_79 rfl ?_
        obtain ⟨M12, r11, hf⟩ := bd1_some hf
        refine x_cv (vs := [vR 176, vI (fX8_beside M (mI M 178 (Int.toNat x3)) v4)]) (rest := []) (k := 1) rfl (by omega) (ax_caV (pc := 81) dX4_gather_81 kX4_join rfl rfl WM_X4_66 WI_X4_join WS_X4_join WN_X4 (ax_rcO (t := 3) (axEx hG rfl) rfl (by decide)) (Nat.le_of_ble_eq_true rfl)) kX4_join rfl True.intro (T_X4_join (by omega) hG r11) ?_
        refine x_iinc (z := (v4 + 1)) (ls' := [some (vR 176), none, some (vI x2), some (vI x3), some (vI (v4 + 1)), some (vI (fX8_beside M (mI M 178 (Int.toNat x3)) v4))]) (pc := 84) dX4_gather_84 rfl (Nat.le_of_ble_eq_true rfl) rfl rfl (ax_i (by omega) (by omega)) rfl ?_
        refine x_goto (tgt := 41) (pc := 87) dX4_gather_87 rfl ?_
        cases hf
        exact x_fgt (axS' (axN' (axS' (axS' (axS' (axN' axD)))))) (h1 _ rfl)
    · replace hf := (if_neg h9).symm.trans hf
      cases hf
theorem B_X4_gather_21 {G : ax_G} {d : Nat} (hd : 1 ≤ d) (hG : axPs G 150 244) {M : ax_M} {x2 : Int} {v3 : Int} {o : Option ax_V ⊕ String} {M' : ax_M} {y : (Int × ax_M) ⊕ ax_M} (hf : fX4_gather_b21 M x2 v3 = some y) (h1 : ∀ s', y = .inl s' → ax_Ex G tX4_gather d 21 [some (vR 176), none, some (vI x2), some (vI s'.1), none, none] [] s'.2 o M') (h2a : ∀ t, y = .inr t → ax_Ex G tX4_gather d 96 [some (vR 176), none, some (vI x2), none, none, none] [] t o M') : ax_Ex G tX4_gather d 21 [some (vR 176), none, some (vI x2), some (vI v3), none, none] [] M o M' := by
  unfold fX4_gather_b21 at hf
  refine x_iload_n (pc := 21) dX4_gather_21 rfl ?_
  refine x_aload_n (pc := 22) dX4_gather_22 rfl ?_
  refine x_getI (t := 3) (j := 3) (pc := 23) dX4_gather_23 (axEx hG rfl) rfl (by decide) (by decide) rfl WF_X4_32 ?_
  refine ax_cmp (fun b4a b4b b4c b4e => ?_)
  refine x_icmpge (tgt := 96) (pc := 26) dX4_gather_26 rfl (fun h3 => ?_) (fun h3 => ?_)
  · replace hf := (if_neg (Int.not_lt.mpr h3)).symm.trans hf
    cases hf
    exact x_fgt (axS' (axN' (axS' (axN' (axN' (axN' axD)))))) (h2a _ rfl)
  · replace hf := (if_pos h3).symm.trans hf
    refine x_iload_n (pc := 29) dX4_gather_29 rfl ?_
    refine x_aload_n (pc := 30) dX4_gather_30 rfl ?_
    refine x_getF (t := 3) (j := 2) (r := 178) (pc := 31) dX4_gather_31 (axH hG rfl) (axEx hG rfl) rfl (by decide) (by decide) rfl rfl WF_X4_15 ?_
    refine x_alen (t := 0) (n := 81) (pc := 34) dX4_gather_34 (axEx hG rfl) rfl (by decide) (by decide) ?_
    refine ax_cmp (fun b6a b6b b6c b6e => ?_)
    refine x_icmpge (tgt := 96) (pc := 35) dX4_gather_35 rfl (fun h5 => ?_) (fun h5 => ?_)
    · replace hf := (if_neg (Int.not_lt.mpr h5)).symm.trans hf
      cases hf
      exact x_fgt (axS' (axN' (axS' (axN' (axN' (axN' axD)))))) (h2a _ rfl)
    · replace hf := (if_pos h5).symm.trans hf
      refine x_iconst (pc := 38) dX4_gather_38 ⟨by decide, by decide⟩ ?_
      refine x_istore (ls' := [some (vR 176), none, some (vI x2), some (vI v3), some (vI 0), none]) (pc := 39) dX4_gather_39 (Nat.le_of_ble_eq_true rfl) rfl rfl ?_
      obtain ⟨t13, t14, hf⟩ := bd1_some hf
      refine lp_ex (P := (fun s => ax_Ex G tX4_gather d 41 [some (vR 176), none, some (vI x2), some (vI v3), some (vI s.1), none] [] s.2 _ _)) (K := (fun t => ax_Ex G tX4_gather d 90 [some (vR 176), none, some (vI x2), some (vI v3), none, none] [] t _ _)) (fun s y hy h1 h2 => B_X4_gather_41 (by omega) hG hy (fun s' e => h1 s' e) (fun t e => h2 t e)) _ _ _ t14 ?_
      refine x_iinc (z := (v3 + 1)) (ls' := [some (vR 176), none, some (vI x2), some (vI (v3 + 1)), none, none]) (pc := 90) dX4_gather_90 rfl (Nat.le_of_ble_eq_true rfl) rfl rfl (ax_i (by omega) (by omega)) rfl ?_
      refine x_goto (tgt := 21) (pc := 93) dX4_gather_93 rfl ?_
      cases hf
      exact h1 _ rfl
theorem T_X4_gather {G : ax_G} {d : Nat} (hd : 1 ≤ d) (hG : axPs G 150 244) {M : ax_M} {a1 : Int} {M1 : ax_M} (hf : fX4_gather M a1 = some M1) : ax_Ex G tX4_gather d 0 (ax_args [vR 176, vI a1] ++ List.replicate 4 none) [] M (.inl none) M1 := by
  show ax_Ex G tX4_gather d 0 [some (vR 176), some (vI a1), none, none, none, none] [] M _ _
  unfold fX4_gather at hf
  refine x_aload_n (pc := 0) dX4_gather_0 rfl ?_
  refine x_getF (t := 3) (j := 0) (r := 169) (pc := 1) dX4_gather_1 (axH hG rfl) (axEx hG rfl) rfl (by decide) (by decide) rfl rfl WF_X4_18 ?_
  refine x_iload_n (pc := 4) dX4_gather_4 rfl ?_
  refine x_cr (v := vI (fX8_ownerAt M a1)) (vs := [vR 169, vI a1]) (rest := []) (k := 0) rfl (by omega) (ax_caV (pc := 5) dX4_gather_5 kX8_ownerAt rfl rfl WM_X4_36 WI_X8_ownerAt WS_X8_ownerAt WN_X8 (ax_rcO (t := 6) (axEx hG rfl) rfl (by decide)) (Nat.le_of_ble_eq_true rfl)) kX8_ownerAt rfl True.intro (T_X8_ownerAt (by omega) (axPs.sub hG (Nat.le_of_ble_eq_true rfl) (Nat.le_of_ble_eq_true rfl)) rfl) ?_
  refine x_istore_n (ls' := [some (vR 176), some (vI a1), some (vI (fX8_ownerAt M a1)), none, none, none]) (pc := 8) dX4_gather_8 (Nat.le_of_ble_eq_true rfl) rfl rfl ?_
  refine x_aload_n (pc := 9) dX4_gather_9 rfl ?_
  refine x_iconst (pc := 10) dX4_gather_10 ⟨by decide, by decide⟩ ?_
  refine x_putI (t := 3) (j := 3) (pc := 11) dX4_gather_11 (axEx hG rfl) rfl (by decide) (by decide) rfl rfl WF_X4_32 ?_
  refine x_aload_n (pc := 14) dX4_gather_14 rfl ?_
  refine x_iload_n (pc := 15) dX4_gather_15 rfl ?_
  obtain ⟨M2, r1, hf⟩ := bd1_some hf
  refine x_cv (vs := [vR 176, vI a1]) (rest := []) (k := 1) rfl (by omega) (ax_caV (pc := 16) dX4_gather_16 kX4_join rfl rfl WM_X4_66 WI_X4_join WS_X4_join WN_X4 (ax_rcO (t := 3) (axEx hG rfl) rfl (by decide)) (Nat.le_of_ble_eq_true rfl)) kX4_join rfl True.intro (T_X4_join (by omega) hG r1) ?_
  refine x_iconst (pc := 19) dX4_gather_19 ⟨by decide, by decide⟩ ?_
  refine x_istore_n (ls' := [some (vR 176), some (vI a1), some (vI (fX8_ownerAt M a1)), some (vI 0), none, none]) (pc := 20) dX4_gather_20 (Nat.le_of_ble_eq_true rfl) rfl rfl ?_
  obtain ⟨t15, t16, hf⟩ := bd1_some hf
  refine x_fgt (axS' (axN' (axS' (axS' (axN' (axN' axD)))))) (lp_ex (P := (fun s => ax_Ex G tX4_gather d 21 [some (vR 176), none, some (vI (fX8_ownerAt M a1)), some (vI s.1), none, none] [] s.2 _ _)) (K := (fun t => ax_Ex G tX4_gather d 96 [some (vR 176), none, some (vI (fX8_ownerAt M a1)), none, none, none] [] t _ _)) (fun s y hy h1 h2 => B_X4_gather_21 (by omega) hG hy (fun s' e => h1 s' e) (fun t e => h2 t e)) _ _ _ t16 ?_)
  cases hf
  exact x_retV (pc := 96) dX4_gather_96
/- HexPond$Groups.sizeAt(I)I -/
def fX4_sizeAt (M : ax_M) (a1 : Int) : Option (Int × ax_M) :=
  (bd1 (fX4_gather (mFi M 177 81 0) a1) fun M2 => (some ((mI M2 176 3), M2)))
theorem T_X4_sizeAt {G : ax_G} {d : Nat} (hd : 2 ≤ d) (hG : axPs G 150 244) {M : ax_M} {a1 : Int} {r : Int} {M1 : ax_M} (hf : fX4_sizeAt M a1 = some (r, M1)) : ax_Ex G tX4_sizeAt d 0 (ax_args [vR 176, vI a1] ++ List.replicate 0 none) [] M (.inl (some (vI r))) M1 := by
  show ax_Ex G tX4_sizeAt d 0 [some (vR 176), some (vI a1)] [] M _ _
  unfold fX4_sizeAt at hf
  refine x_aload_n (pc := 0) dX4_sizeAt_0 rfl ?_
  refine x_getF (t := 3) (j := 1) (r := 177) (pc := 1) dX4_sizeAt_1 (axH hG rfl) (axEx hG rfl) rfl (by decide) (by decide) rfl rfl WF_X4_9 ?_
  refine x_iconst (pc := 4) dX4_sizeAt_4 ⟨by decide, by decide⟩ ?_
  refine x_cv (vs := [vR 177, vI 0]) (rest := []) (k := 2) rfl (by omega) (ax_caS (pc := 5) dX4_sizeAt_5 kJ7_fill_53178 rfl rfl WM_X4_22 WT_J7_fill_53178 WN_J7 (Nat.le_of_ble_eq_true rfl)) kJ7_fill_53178 rfl True.intro (T_fill (n := 81) (axEx hG rfl) rfl (by decide)) ?_
  refine x_aload_n (pc := 8) dX4_sizeAt_8 rfl ?_
  refine x_iload_n (pc := 9) dX4_sizeAt_9 rfl ?_
  obtain ⟨M2, r1, hf⟩ := bd1_some hf
  refine x_cv (vs := [vR 176, vI a1]) (rest := []) (k := 4) rfl (by omega) (ax_caV (pc := 10) dX4_sizeAt_10 kX4_gather rfl rfl WM_X4_28 WI_X4_gather WS_X4_gather WN_X4 (ax_rcO (t := 3) (axEx hG rfl) rfl (by decide)) (Nat.le_of_ble_eq_true rfl)) kX4_gather rfl True.intro (T_X4_gather (by omega) hG r1) ?_
  refine x_aload_n (pc := 13) dX4_sizeAt_13 rfl ?_
  refine x_getI (t := 3) (j := 3) (pc := 14) dX4_sizeAt_14 (axEx hG rfl) rfl (by decide) (by decide) rfl WF_X4_32 ?_
  cases hf
  exact x_retI (pc := 17) dX4_sizeAt_17
/- HexPond$Groups.hasGatheredAt(II)Z -/
def fX4_hasGatheredAt_b2 (M : ax_M) (x1 : Int) (x2 : Int) (v3 : Int) : Option (Int ⊕ (Unit ⊕ Unit)) :=
  (if v3 < (mI M 176 3) then (if v3 < 81 then (if 0 ≤ v3 ∧ v3 < 81 then (if (fX8_isAtShore M x1 x2 (mI M 178 (Int.toNat v3))) = 0 then (some (.inl (v3 + 1))) else (some (.inr (.inl ())))) else none) else (some (.inr (.inr ())))) else (some (.inr (.inr ()))))
def fX4_hasGatheredAt (M : ax_M) (a1 : Int) (a2 : Int) : Option Int :=
  (bdS (lp (fun s => fX4_hasGatheredAt_b2 M a1 a2 s) lpN 0) (fun t7 => (some 1)) (fun t9 => (some 0)))
theorem B_X4_hasGatheredAt_2 {G : ax_G} {d : Nat} (hd : 1 ≤ d) (hG : axPs G 150 244) {M : ax_M} {x1 : Int} {x2 : Int} {v3 : Int} {o : Option ax_V ⊕ String} {M' : ax_M} {y : Int ⊕ (Unit ⊕ Unit)} (hf : fX4_hasGatheredAt_b2 M x1 x2 v3 = some y) (h1 : ∀ s', y = .inl s' → ax_Ex G tX4_hasGatheredAt d 2 [some (vR 176), some (vI x1), some (vI x2), some (vI s')] [] M o M') (h2a : ∀ t, y = .inr (.inl t) → ax_Ex G tX4_hasGatheredAt d 37 [some (vR 176), some (vI x1), some (vI x2), none] [] M o M') (h2b : ∀ t, y = .inr (.inr t) → ax_Ex G tX4_hasGatheredAt d 45 [some (vR 176), some (vI x1), some (vI x2), none] [] M o M') : ax_Ex G tX4_hasGatheredAt d 2 [some (vR 176), some (vI x1), some (vI x2), some (vI v3)] [] M o M' := by
  unfold fX4_hasGatheredAt_b2 at hf
  refine x_iload_n (pc := 2) dX4_hasGatheredAt_2 rfl ?_
  refine x_aload_n (pc := 3) dX4_hasGatheredAt_3 rfl ?_
  refine x_getI (t := 3) (j := 3) (pc := 4) dX4_hasGatheredAt_4 (axEx hG rfl) rfl (by decide) (by decide) rfl WF_X4_32 ?_
  refine ax_cmp (fun b2a b2b b2c b2e => ?_)
  refine x_icmpge (tgt := 45) (pc := 7) dX4_hasGatheredAt_7 rfl (fun h1 => ?_) (fun h1 => ?_)
  · replace hf := (if_neg (Int.not_lt.mpr h1)).symm.trans hf
    cases hf
    exact x_fgt (axS' (axS' (axS' (axN' axD)))) (h2b _ rfl)
  · replace hf := (if_pos h1).symm.trans hf
    refine x_iload_n (pc := 10) dX4_hasGatheredAt_10 rfl ?_
    refine x_aload_n (pc := 11) dX4_hasGatheredAt_11 rfl ?_
    refine x_getF (t := 3) (j := 2) (r := 178) (pc := 12) dX4_hasGatheredAt_12 (axH hG rfl) (axEx hG rfl) rfl (by decide) (by decide) rfl rfl WF_X4_15 ?_
    refine x_alen (t := 0) (n := 81) (pc := 15) dX4_hasGatheredAt_15 (axEx hG rfl) rfl (by decide) (by decide) ?_
    refine ax_cmp (fun b4a b4b b4c b4e => ?_)
    refine x_icmpge (tgt := 45) (pc := 16) dX4_hasGatheredAt_16 rfl (fun h3 => ?_) (fun h3 => ?_)
    · replace hf := (if_neg (Int.not_lt.mpr h3)).symm.trans hf
      cases hf
      exact x_fgt (axS' (axS' (axS' (axN' axD)))) (h2b _ rfl)
    · replace hf := (if_pos h3).symm.trans hf
      refine x_aload_n (pc := 19) dX4_hasGatheredAt_19 rfl ?_
      refine x_getF (t := 3) (j := 0) (r := 169) (pc := 20) dX4_hasGatheredAt_20 (axH hG rfl) (axEx hG rfl) rfl (by decide) (by decide) rfl rfl WF_X4_18 ?_
      refine x_iload_n (pc := 23) dX4_hasGatheredAt_23 rfl ?_
      refine x_iload_n (pc := 24) dX4_hasGatheredAt_24 rfl ?_
      refine x_aload_n (pc := 25) dX4_hasGatheredAt_25 rfl ?_
      refine x_getF (t := 3) (j := 2) (r := 178) (pc := 26) dX4_hasGatheredAt_26 (axH hG rfl) (axEx hG rfl) rfl (by decide) (by decide) rfl rfl WF_X4_15 ?_
      refine x_iload_n (pc := 29) dX4_hasGatheredAt_29 rfl ?_
      by_cases h5 : 0 ≤ v3 ∧ v3 < 81
      · replace hf := (if_pos h5).symm.trans hf
        refine x_iald2 (n := 81) (pc := 30) dX4_hasGatheredAt_30 (axEx hG rfl) rfl h5.1 h5.2 ?_
        refine x_cr (v := vI (fX8_isAtShore M x1 x2 (mI M 178 (Int.toNat v3)))) (vs := [vR 169, vI x1, vI x2, vI (mI M 178 (Int.toNat v3))]) (rest := []) (k := 2) rfl (by omega) (ax_caV (pc := 31) dX4_hasGatheredAt_31 kX8_isAtShore rfl rfl WM_X4_46 WI_X8_isAtShore WS_X8_isAtShore WN_X8 (ax_rcO (t := 6) (axEx hG rfl) rfl (by decide)) (Nat.le_of_ble_eq_true rfl)) kX8_isAtShore rfl (Z_X8_isAtShore rfl) (T_X8_isAtShore (by omega) (axPs.sub hG (Nat.le_of_ble_eq_true rfl) (Nat.le_of_ble_eq_true rfl)) rfl) ?_
        refine x_ifeq (tgt := 39) (pc := 34) dX4_hasGatheredAt_34 rfl (fun h6 => ?_) (fun h6 => ?_)
        · replace hf := (if_pos h6).symm.trans hf
          refine x_iinc (z := (v3 + 1)) (ls' := [some (vR 176), some (vI x1), some (vI x2), some (vI (v3 + 1))]) (pc := 39) dX4_hasGatheredAt_39 rfl (Nat.le_of_ble_eq_true rfl) rfl rfl (ax_i (by omega) (by omega)) rfl ?_
          refine x_goto (tgt := 2) (pc := 42) dX4_hasGatheredAt_42 rfl ?_
          cases hf
          exact h1 _ rfl
        · replace hf := (if_neg h6).symm.trans hf
          cases hf
          exact x_fgt (axS' (axS' (axS' (axN' axD)))) (h2a _ rfl)
      · replace hf := (if_neg h5).symm.trans hf
        cases hf
theorem T_X4_hasGatheredAt {G : ax_G} {d : Nat} (hd : 1 ≤ d) (hG : axPs G 150 244) {M : ax_M} {a1 : Int} {a2 : Int} {r : Int} (hf : fX4_hasGatheredAt M a1 a2 = some r) : ax_Ex G tX4_hasGatheredAt d 0 (ax_args [vR 176, vI a1, vI a2] ++ List.replicate 1 none) [] M (.inl (some (vI r))) M := by
  show ax_Ex G tX4_hasGatheredAt d 0 [some (vR 176), some (vI a1), some (vI a2), none] [] M _ _
  unfold fX4_hasGatheredAt at hf
  refine x_iconst (pc := 0) dX4_hasGatheredAt_0 ⟨by decide, by decide⟩ ?_
  refine x_istore_n (ls' := [some (vR 176), some (vI a1), some (vI a2), some (vI 0)]) (pc := 1) dX4_hasGatheredAt_1 (Nat.le_of_ble_eq_true rfl) rfl rfl ?_
  rcases bdS_some hf with ⟨t7, t8, hf⟩ | ⟨t9, t10, hf⟩
  · refine lp_ex (P := (fun s => ax_Ex G tX4_hasGatheredAt d 2 [some (vR 176), some (vI a1), some (vI a2), some (vI s)] [] M _ _)) (K := (fun r => (∀ t, r = .inl t → ax_Ex G tX4_hasGatheredAt d 37 [some (vR 176), some (vI a1), some (vI a2), none] [] M _ _) ∧ (∀ t, r = .inr t → ax_Ex G tX4_hasGatheredAt d 45 [some (vR 176), some (vI a1), some (vI a2), none] [] M _ _))) (fun s y hy h1 h2 => B_X4_hasGatheredAt_2 (by omega) hG hy (fun s' e => h1 s' e) (fun t e => (h2 _ e).1 t rfl) (fun t e => (h2 _ e).2 t rfl)) _ _ _ t8 ?_
    refine ⟨fun t e => ?_, fun t e => (by cases e)⟩
    cases e
    refine x_iconst (pc := 37) dX4_hasGatheredAt_37 ⟨by decide, by decide⟩ ?_
    cases hf
    exact x_retI (pc := 38) dX4_hasGatheredAt_38
  · refine lp_ex (P := (fun s => ax_Ex G tX4_hasGatheredAt d 2 [some (vR 176), some (vI a1), some (vI a2), some (vI s)] [] M _ _)) (K := (fun r => (∀ t, r = .inl t → ax_Ex G tX4_hasGatheredAt d 37 [some (vR 176), some (vI a1), some (vI a2), none] [] M _ _) ∧ (∀ t, r = .inr t → ax_Ex G tX4_hasGatheredAt d 45 [some (vR 176), some (vI a1), some (vI a2), none] [] M _ _))) (fun s y hy h1 h2 => B_X4_hasGatheredAt_2 (by omega) hG hy (fun s' e => h1 s' e) (fun t e => (h2 _ e).1 t rfl) (fun t e => (h2 _ e).2 t rfl)) _ _ _ t10 ?_
    refine ⟨fun t e => (by cases e), fun t e => ?_⟩
    cases e
    refine x_iconst (pc := 45) dX4_hasGatheredAt_45 ⟨by decide, by decide⟩ ?_
    cases hf
    exact x_retI (pc := 46) dX4_hasGatheredAt_46
theorem Z_X4_hasGatheredAt {M : ax_M} {a1 : Int} {a2 : Int} {r : Int} (hf : fX4_hasGatheredAt M a1 a2 = some r) : r = 0 ∨ r = 1 := by
  unfold fX4_hasGatheredAt at hf
  rcases bdS_some hf with ⟨t7, t8, hf⟩ | ⟨t9, t10, hf⟩
  · skip
    cases hf
    exact Or.inr rfl
  · skip
    cases hf
    exact Or.inl rfl
/- HexPond$Groups.shoresAt(I)I -/
def fX4_shoresAt_b29 (M : ax_M) (x2 : Int) (v3 : Int) (v4 : Int) : Option ((Int × Int) ⊕ Int) :=
  (if v4 < 2 then (bd1 (fX4_hasGatheredAt M x2 v4) fun v6 => (if v6 = 0 then (some (.inl (v3, (v4 + 1)))) else (some (.inl ((wr (v3 + 1)), (v4 + 1)))))) else (some (.inr v3)))
def fX4_shoresAt (M : ax_M) (a1 : Int) : Option (Int × ax_M) :=
  (bd1 (fX4_gather (mFi M 177 81 0) a1) fun M2 => (bd1 (lp (fun s => fX4_shoresAt_b29 M2 (wr ((fX8_ownerAt M2 a1) - 1)) s.1 s.2) lpN (0, 0)) fun t8 => (some (t8, M2))))
theorem B_X4_shoresAt_29 {G : ax_G} {d : Nat} (hd : 2 ≤ d) (hG : axPs G 150 244) {M : ax_M} {x2 : Int} {v3 : Int} {v4 : Int} {o : Option ax_V ⊕ String} {M' : ax_M} {y : (Int × Int) ⊕ Int} (hf : fX4_shoresAt_b29 M x2 v3 v4 = some y) (h1 : ∀ s', y = .inl s' → ax_Ex G tX4_shoresAt d 29 [some (vR 176), none, some (vI x2), some (vI s'.1), some (vI s'.2)] [] M o M') (h2a : ∀ t, y = .inr t → ax_Ex G tX4_shoresAt d 54 [some (vR 176), none, some (vI x2), some (vI t), none] [] M o M') : ax_Ex G tX4_shoresAt d 29 [some (vR 176), none, some (vI x2), some (vI v3), some (vI v4)] [] M o M' := by
  unfold fX4_shoresAt_b29 at hf
  refine x_iload (pc := 29) dX4_shoresAt_29 rfl ?_
  refine x_iconst (pc := 31) dX4_shoresAt_31 ⟨by decide, by decide⟩ ?_
  refine ax_cmp (fun b4a b4b b4c b4e => ?_)
  refine x_icmpge (tgt := 54) (pc := 32) dX4_shoresAt_32 rfl (fun h3 => ?_) (fun h3 => ?_)
  · replace hf := (if_neg (Int.not_lt.mpr h3)).symm.trans hf
    cases hf
    exact x_fgt (axS' (axN' (axS' (axS' (axN' axD))))) (h2a _ rfl)
  · replace hf := (if_pos h3).symm.trans hf
    refine x_aload_n (pc := 35) dX4_shoresAt_35 rfl ?_
    refine x_iload_n (pc := 36) dX4_shoresAt_36 rfl ?_
    refine x_iload (pc := 37) dX4_shoresAt_37 rfl ?_
    obtain ⟨v6, r5, hf⟩ := bd1_some hf
    refine x_cr (v := vI v6) (vs := [vR 176, vI x2, vI v4]) (rest := []) (k := 1) rfl (by omega) (ax_caV (pc := 39) dX4_shoresAt_39 kX4_hasGatheredAt rfl rfl WM_X4_42 WI_X4_hasGatheredAt WS_X4_hasGatheredAt WN_X4 (ax_rcO (t := 3) (axEx hG rfl) rfl (by decide)) (Nat.le_of_ble_eq_true rfl)) kX4_hasGatheredAt rfl (Z_X4_hasGatheredAt r5) (T_X4_hasGatheredAt (by omega) hG r5) ?_
    refine x_ifeq (tgt := 48) (pc := 42) dX4_shoresAt_42 rfl (fun h7 => ?_) (fun h7 => ?_)
    · replace hf := (if_pos h7).symm.trans hf
      refine x_iinc (z := (v4 + 1)) (ls' := [some (vR 176), none, some (vI x2), some (vI v3), some (vI (v4 + 1))]) (pc := 48) dX4_shoresAt_48 rfl (Nat.le_of_ble_eq_true rfl) rfl rfl (ax_i (by omega) (by omega)) rfl ?_
      refine x_goto (tgt := 29) (pc := 51) dX4_shoresAt_51 rfl ?_
      cases hf
      exact h1 _ rfl
    · replace hf := (if_neg h7).symm.trans hf
      refine x_iincw (ls' := [some (vR 176), none, some (vI x2), some (vI (wr (v3 + 1))), some (vI v4)]) (pc := 45) dX4_shoresAt_45 rfl (Nat.le_of_ble_eq_true rfl) rfl rfl ?_
      refine x_iinc (z := (v4 + 1)) (ls' := [some (vR 176), none, some (vI x2), some (vI (wr (v3 + 1))), some (vI (v4 + 1))]) (pc := 48) dX4_shoresAt_48 rfl (Nat.le_of_ble_eq_true rfl) rfl rfl (ax_i (by omega) (by omega)) rfl ?_
      refine x_goto (tgt := 29) (pc := 51) dX4_shoresAt_51 rfl ?_
      cases hf
      exact h1 _ rfl
theorem T_X4_shoresAt {G : ax_G} {d : Nat} (hd : 2 ≤ d) (hG : axPs G 150 244) {M : ax_M} {a1 : Int} {r : Int} {M1 : ax_M} (hf : fX4_shoresAt M a1 = some (r, M1)) : ax_Ex G tX4_shoresAt d 0 (ax_args [vR 176, vI a1] ++ List.replicate 3 none) [] M (.inl (some (vI r))) M1 := by
  show ax_Ex G tX4_shoresAt d 0 [some (vR 176), some (vI a1), none, none, none] [] M _ _
  unfold fX4_shoresAt at hf
  refine x_aload_n (pc := 0) dX4_shoresAt_0 rfl ?_
  refine x_getF (t := 3) (j := 1) (r := 177) (pc := 1) dX4_shoresAt_1 (axH hG rfl) (axEx hG rfl) rfl (by decide) (by decide) rfl rfl WF_X4_9 ?_
  refine x_iconst (pc := 4) dX4_shoresAt_4 ⟨by decide, by decide⟩ ?_
  refine x_cv (vs := [vR 177, vI 0]) (rest := []) (k := 2) rfl (by omega) (ax_caS (pc := 5) dX4_shoresAt_5 kJ7_fill_53178 rfl rfl WM_X4_22 WT_J7_fill_53178 WN_J7 (Nat.le_of_ble_eq_true rfl)) kJ7_fill_53178 rfl True.intro (T_fill (n := 81) (axEx hG rfl) rfl (by decide)) ?_
  refine x_aload_n (pc := 8) dX4_shoresAt_8 rfl ?_
  refine x_iload_n (pc := 9) dX4_shoresAt_9 rfl ?_
  obtain ⟨M2, r1, hf⟩ := bd1_some hf
  refine x_cv (vs := [vR 176, vI a1]) (rest := []) (k := 4) rfl (by omega) (ax_caV (pc := 10) dX4_shoresAt_10 kX4_gather rfl rfl WM_X4_28 WI_X4_gather WS_X4_gather WN_X4 (ax_rcO (t := 3) (axEx hG rfl) rfl (by decide)) (Nat.le_of_ble_eq_true rfl)) kX4_gather rfl True.intro (T_X4_gather (by omega) hG r1) ?_
  refine x_aload_n (pc := 13) dX4_shoresAt_13 rfl ?_
  refine x_getF (t := 3) (j := 0) (r := 169) (pc := 14) dX4_shoresAt_14 (axH hG rfl) (axEx hG rfl) rfl (by decide) (by decide) rfl rfl WF_X4_18 ?_
  refine x_iload_n (pc := 17) dX4_shoresAt_17 rfl ?_
  refine x_cr (v := vI (fX8_ownerAt M2 a1)) (vs := [vR 169, vI a1]) (rest := []) (k := 0) rfl (by omega) (ax_caV (pc := 18) dX4_shoresAt_18 kX8_ownerAt rfl rfl WM_X4_36 WI_X8_ownerAt WS_X8_ownerAt WN_X8 (ax_rcO (t := 6) (axEx hG rfl) rfl (by decide)) (Nat.le_of_ble_eq_true rfl)) kX8_ownerAt rfl True.intro (T_X8_ownerAt (by omega) (axPs.sub hG (Nat.le_of_ble_eq_true rfl) (Nat.le_of_ble_eq_true rfl)) rfl) ?_
  refine x_iconst (pc := 21) dX4_shoresAt_21 ⟨by decide, by decide⟩ ?_
  refine x_isubw (pc := 22) dX4_shoresAt_22 ?_
  refine x_istore_n (ls' := [some (vR 176), some (vI a1), some (vI (wr ((fX8_ownerAt M2 a1) - 1))), none, none]) (pc := 23) dX4_shoresAt_23 (Nat.le_of_ble_eq_true rfl) rfl rfl ?_
  refine x_iconst (pc := 24) dX4_shoresAt_24 ⟨by decide, by decide⟩ ?_
  refine x_istore_n (ls' := [some (vR 176), some (vI a1), some (vI (wr ((fX8_ownerAt M2 a1) - 1))), some (vI 0), none]) (pc := 25) dX4_shoresAt_25 (Nat.le_of_ble_eq_true rfl) rfl rfl ?_
  refine x_iconst (pc := 26) dX4_shoresAt_26 ⟨by decide, by decide⟩ ?_
  refine x_istore (ls' := [some (vR 176), some (vI a1), some (vI (wr ((fX8_ownerAt M2 a1) - 1))), some (vI 0), some (vI 0)]) (pc := 27) dX4_shoresAt_27 (Nat.le_of_ble_eq_true rfl) rfl rfl ?_
  obtain ⟨t8, t9, hf⟩ := bd1_some hf
  refine x_fgt (axS' (axN' (axS' (axS' (axS' axD))))) (lp_ex (P := (fun s => ax_Ex G tX4_shoresAt d 29 [some (vR 176), none, some (vI (wr ((fX8_ownerAt M2 a1) - 1))), some (vI s.1), some (vI s.2)] [] M2 _ _)) (K := (fun t => ax_Ex G tX4_shoresAt d 54 [some (vR 176), none, some (vI (wr ((fX8_ownerAt M2 a1) - 1))), some (vI t), none] [] M2 _ _)) (fun s y hy h1 h2 => B_X4_shoresAt_29 (by omega) hG hy (fun s' e => h1 s' e) (fun t e => h2 t e)) _ _ _ t9 ?_)
  refine x_iload_n (pc := 54) dX4_shoresAt_54 rfl ?_
  cases hf
  exact x_retI (pc := 55) dX4_shoresAt_55
/- HexPond$Groups.look(I)V -/
def fX4_look_b20 (M : ax_M) (x1 : Int) (v2 : Int) : Option ((Int × ax_M) ⊕ ax_M) :=
  (if v2 < (fX8_cells M) then (if v2 < 81 then (if (fX8_ownerAt M v2) = (wr (x1 + 1)) then (if 0 ≤ v2 ∧ v2 < 81 then (if (mI M 177 (Int.toNat v2)) = 0 then (bd1 (fX4_gather M v2) fun M9 => (some (.inl ((v2 + 1), (mUI (mUI M9 176 4 (wr ((mI M9 176 4) + 1))) 176 5 (fJ9_max_7cf53 (mUI M9 176 4 (wr ((mI M9 176 4) + 1))) (mI (mUI M9 176 4 (wr ((mI M9 176 4) + 1))) 176 5) (mI (mUI M9 176 4 (wr ((mI M9 176 4) + 1))) 176 3))))))) else (some (.inl ((v2 + 1), M)))) else none) else (some (.inl ((v2 + 1), M)))) else (some (.inr M))) else (some (.inr M)))
def fX4_look (M : ax_M) (a1 : Int) : Option ax_M :=
  (bd1 (lp (fun s => fX4_look_b20 s.2 a1 s.1) lpN (0, (mUI (mUI (mFi M 177 81 0) 176 4 0) 176 5 0))) fun t10 => (some t10))
theorem B_X4_look_20 {G : ax_G} {d : Nat} (hd : 2 ≤ d) (hG : axPs G 150 244) {M : ax_M} {x1 : Int} {v2 : Int} {o : Option ax_V ⊕ String} {M' : ax_M} {y : (Int × ax_M) ⊕ ax_M} (hf : fX4_look_b20 M x1 v2 = some y) (h1 : ∀ s', y = .inl s' → ax_Ex G tX4_look d 20 [some (vR 176), some (vI x1), some (vI s'.1)] [] s'.2 o M') (h2a : ∀ t, y = .inr t → ax_Ex G tX4_look d 99 [some (vR 176), some (vI x1), none] [] t o M') : ax_Ex G tX4_look d 20 [some (vR 176), some (vI x1), some (vI v2)] [] M o M' := by
  unfold fX4_look_b20 at hf
  refine x_iload_n (pc := 20) dX4_look_20 rfl ?_
  refine x_aload_n (pc := 21) dX4_look_21 rfl ?_
  refine x_getF (t := 3) (j := 0) (r := 169) (pc := 22) dX4_look_22 (axH hG rfl) (axEx hG rfl) rfl (by decide) (by decide) rfl rfl WF_X4_18 ?_
  refine x_cr (v := vI (fX8_cells M)) (vs := [vR 169]) (rest := [vI v2]) (k := 0) rfl (by omega) (ax_caV (pc := 25) dX4_look_25 kX8_cells rfl rfl WM_X4_56 WI_X8_cells WS_X8_cells WN_X8 (ax_rcO (t := 6) (axEx hG rfl) rfl (by decide)) (Nat.le_of_ble_eq_true rfl)) kX8_cells rfl True.intro (T_X8_cells (by omega) (axPs.sub hG (Nat.le_of_ble_eq_true rfl) (Nat.le_of_ble_eq_true rfl)) rfl) ?_
  refine ax_cmp (fun b2a b2b b2c b2e => ?_)
  refine x_icmpge (tgt := 99) (pc := 28) dX4_look_28 rfl (fun h1 => ?_) (fun h1 => ?_)
  · replace hf := (if_neg (Int.not_lt.mpr h1)).symm.trans hf
    cases hf
    exact x_fgt (axS' (axS' (axN' axD))) (h2a _ rfl)
  · replace hf := (if_pos h1).symm.trans hf
    refine x_iload_n (pc := 31) dX4_look_31 rfl ?_
    refine x_aload_n (pc := 32) dX4_look_32 rfl ?_
    refine x_getF (t := 3) (j := 1) (r := 177) (pc := 33) dX4_look_33 (axH hG rfl) (axEx hG rfl) rfl (by decide) (by decide) rfl rfl WF_X4_9 ?_
    refine x_alen (t := 0) (n := 81) (pc := 36) dX4_look_36 (axEx hG rfl) rfl (by decide) (by decide) ?_
    refine ax_cmp (fun b4a b4b b4c b4e => ?_)
    refine x_icmpge (tgt := 99) (pc := 37) dX4_look_37 rfl (fun h3 => ?_) (fun h3 => ?_)
    · replace hf := (if_neg (Int.not_lt.mpr h3)).symm.trans hf
      cases hf
      exact x_fgt (axS' (axS' (axN' axD))) (h2a _ rfl)
    · replace hf := (if_pos h3).symm.trans hf
      refine x_aload_n (pc := 40) dX4_look_40 rfl ?_
      refine x_getF (t := 3) (j := 0) (r := 169) (pc := 41) dX4_look_41 (axH hG rfl) (axEx hG rfl) rfl (by decide) (by decide) rfl rfl WF_X4_18 ?_
      refine x_iload_n (pc := 44) dX4_look_44 rfl ?_
      refine x_cr (v := vI (fX8_ownerAt M v2)) (vs := [vR 169, vI v2]) (rest := []) (k := 0) rfl (by omega) (ax_caV (pc := 45) dX4_look_45 kX8_ownerAt rfl rfl WM_X4_36 WI_X8_ownerAt WS_X8_ownerAt WN_X8 (ax_rcO (t := 6) (axEx hG rfl) rfl (by decide)) (Nat.le_of_ble_eq_true rfl)) kX8_ownerAt rfl True.intro (T_X8_ownerAt (by omega) (axPs.sub hG (Nat.le_of_ble_eq_true rfl) (Nat.le_of_ble_eq_true rfl)) rfl) ?_
      refine x_iload_n (pc := 48) dX4_look_48 rfl ?_
      refine x_iconst (pc := 49) dX4_look_49 ⟨by decide, by decide⟩ ?_
      refine x_iaddw (pc := 50) dX4_look_50 ?_
      refine x_icmpne (tgt := 93) (pc := 51) dX4_look_51 rfl (fun h5 => ?_) (fun h5 => ?_)
      · replace hf := (if_neg h5).symm.trans hf
        refine x_iinc (z := (v2 + 1)) (ls' := [some (vR 176), some (vI x1), some (vI (v2 + 1))]) (pc := 93) dX4_look_93 rfl (Nat.le_of_ble_eq_true rfl) rfl rfl (ax_i (by omega) (by omega)) rfl ?_
        refine x_goto (tgt := 20) (pc := 96) dX4_look_96 rfl ?_
        cases hf
        exact h1 _ rfl
      · replace hf := (if_pos h5).symm.trans hf
        refine x_aload_n (pc := 54) dX4_look_54 rfl ?_
        refine x_getF (t := 3) (j := 1) (r := 177) (pc := 55) dX4_look_55 (axH hG rfl) (axEx hG rfl) rfl (by decide) (by decide) rfl rfl WF_X4_9 ?_
        refine x_iload_n (pc := 58) dX4_look_58 rfl ?_
        by_cases h6 : 0 ≤ v2 ∧ v2 < 81
        · replace hf := (if_pos h6).symm.trans hf
          refine x_iald2 (n := 81) (pc := 59) dX4_look_59 (axEx hG rfl) rfl h6.1 h6.2 ?_
          refine x_ifne (tgt := 93) (pc := 60) dX4_look_60 rfl (fun h7 => ?_) (fun h7 => ?_)
          · replace hf := (if_neg h7).symm.trans hf
            refine x_iinc (z := (v2 + 1)) (ls' := [some (vR 176), some (vI x1), some (vI (v2 + 1))]) (pc := 93) dX4_look_93 rfl (Nat.le_of_ble_eq_true rfl) rfl rfl (ax_i (by omega) (by omega)) rfl ?_
            refine x_goto (tgt := 20) (pc := 96) dX4_look_96 rfl ?_
            cases hf
            exact h1 _ rfl
          · replace hf := (if_pos h7).symm.trans hf
            refine x_aload_n (pc := 63) dX4_look_63 rfl ?_
            refine x_iload_n (pc := 64) dX4_look_64 rfl ?_
            obtain ⟨M9, r8, hf⟩ := bd1_some hf
            refine x_cv (vs := [vR 176, vI v2]) (rest := []) (k := 4) rfl (by omega) (ax_caV (pc := 65) dX4_look_65 kX4_gather rfl rfl WM_X4_28 WI_X4_gather WS_X4_gather WN_X4 (ax_rcO (t := 3) (axEx hG rfl) rfl (by decide)) (Nat.le_of_ble_eq_true rfl)) kX4_gather rfl True.intro (T_X4_gather (by omega) hG r8) ?_
            refine x_aload_n (pc := 68) dX4_look_68 rfl ?_
            refine x_dup (pc := 69) dX4_look_69 rfl ?_
            refine x_getI (t := 3) (j := 4) (pc := 70) dX4_look_70 (axEx hG rfl) rfl (by decide) (by decide) rfl WF_X4_50 ?_
            refine x_iconst (pc := 73) dX4_look_73 ⟨by decide, by decide⟩ ?_
            refine x_iaddw (pc := 74) dX4_look_74 ?_
            refine x_putI (t := 3) (j := 4) (pc := 75) dX4_look_75 (axEx hG rfl) rfl (by decide) (by decide) rfl rfl WF_X4_50 ?_
            refine x_aload_n (pc := 78) dX4_look_78 rfl ?_
            refine x_aload_n (pc := 79) dX4_look_79 rfl ?_
            refine x_getI (t := 3) (j := 5) (pc := 80) dX4_look_80 (axEx hG rfl) rfl (by decide) (by decide) rfl WF_X4_53 ?_
            refine x_aload_n (pc := 83) dX4_look_83 rfl ?_
            refine x_getI (t := 3) (j := 3) (pc := 84) dX4_look_84 (axEx hG rfl) rfl (by decide) (by decide) rfl WF_X4_32 ?_
            refine x_cr (v := vI (fJ9_max_7cf53 (mUI M9 176 4 (wr ((mI M9 176 4) + 1))) (mI (mUI M9 176 4 (wr ((mI M9 176 4) + 1))) 176 5) (mI (mUI M9 176 4 (wr ((mI M9 176 4) + 1))) 176 3))) (vs := [vI (mI (mUI M9 176 4 (wr ((mI M9 176 4) + 1))) 176 5), vI (mI (mUI M9 176 4 (wr ((mI M9 176 4) + 1))) 176 3)]) (rest := [vR 176]) (k := 0) rfl (by omega) (ax_caS (pc := 87) dX4_look_87 kJ9_max_7cf53 rfl rfl WM_X4_60 WT_J9_max_7cf53 WN_J9 (Nat.le_of_ble_eq_true rfl)) kJ9_max_7cf53 rfl True.intro (T_J9_max_7cf53 (by omega) rfl) ?_
            refine x_putI (t := 3) (j := 5) (pc := 90) dX4_look_90 (axEx hG rfl) rfl (by decide) (by decide) rfl rfl WF_X4_53 ?_
            refine x_iinc (z := (v2 + 1)) (ls' := [some (vR 176), some (vI x1), some (vI (v2 + 1))]) (pc := 93) dX4_look_93 rfl (Nat.le_of_ble_eq_true rfl) rfl rfl (ax_i (by omega) (by omega)) rfl ?_
            refine x_goto (tgt := 20) (pc := 96) dX4_look_96 rfl ?_
            cases hf
            exact h1 _ rfl
        · replace hf := (if_neg h6).symm.trans hf
          cases hf
theorem T_X4_look {G : ax_G} {d : Nat} (hd : 2 ≤ d) (hG : axPs G 150 244) {M : ax_M} {a1 : Int} {M1 : ax_M} (hf : fX4_look M a1 = some M1) : ax_Ex G tX4_look d 0 (ax_args [vR 176, vI a1] ++ List.replicate 1 none) [] M (.inl none) M1 := by
  show ax_Ex G tX4_look d 0 [some (vR 176), some (vI a1), none] [] M _ _
  unfold fX4_look at hf
  refine x_aload_n (pc := 0) dX4_look_0 rfl ?_
  refine x_getF (t := 3) (j := 1) (r := 177) (pc := 1) dX4_look_1 (axH hG rfl) (axEx hG rfl) rfl (by decide) (by decide) rfl rfl WF_X4_9 ?_
  refine x_iconst (pc := 4) dX4_look_4 ⟨by decide, by decide⟩ ?_
  refine x_cv (vs := [vR 177, vI 0]) (rest := []) (k := 2) rfl (by omega) (ax_caS (pc := 5) dX4_look_5 kJ7_fill_53178 rfl rfl WM_X4_22 WT_J7_fill_53178 WN_J7 (Nat.le_of_ble_eq_true rfl)) kJ7_fill_53178 rfl True.intro (T_fill (n := 81) (axEx hG rfl) rfl (by decide)) ?_
  refine x_aload_n (pc := 8) dX4_look_8 rfl ?_
  refine x_iconst (pc := 9) dX4_look_9 ⟨by decide, by decide⟩ ?_
  refine x_putI (t := 3) (j := 4) (pc := 10) dX4_look_10 (axEx hG rfl) rfl (by decide) (by decide) rfl rfl WF_X4_50 ?_
  refine x_aload_n (pc := 13) dX4_look_13 rfl ?_
  refine x_iconst (pc := 14) dX4_look_14 ⟨by decide, by decide⟩ ?_
  refine x_putI (t := 3) (j := 5) (pc := 15) dX4_look_15 (axEx hG rfl) rfl (by decide) (by decide) rfl rfl WF_X4_53 ?_
  refine x_iconst (pc := 18) dX4_look_18 ⟨by decide, by decide⟩ ?_
  refine x_istore_n (ls' := [some (vR 176), some (vI a1), some (vI 0)]) (pc := 19) dX4_look_19 (Nat.le_of_ble_eq_true rfl) rfl rfl ?_
  obtain ⟨t10, t11, hf⟩ := bd1_some hf
  refine lp_ex (P := (fun s => ax_Ex G tX4_look d 20 [some (vR 176), some (vI a1), some (vI s.1)] [] s.2 _ _)) (K := (fun t => ax_Ex G tX4_look d 99 [some (vR 176), some (vI a1), none] [] t _ _)) (fun s y hy h1 h2 => B_X4_look_20 (by omega) hG hy (fun s' e => h1 s' e) (fun t e => h2 t e)) _ _ _ t11 ?_
  cases hf
  exact x_retV (pc := 99) dX4_look_99
/- HexPond$Groups.count()I -/
def fX4_count (M : ax_M) : Int :=
  ((mI M 176 4))
theorem T_X4_count {G : ax_G} {d : Nat} (hd : 0 ≤ d) (hG : axPs G 150 244) {M : ax_M} {r : Int} (hf : fX4_count M = r) : ax_Ex G tX4_count d 0 (ax_args [vR 176] ++ List.replicate 0 none) [] M (.inl (some (vI r))) M := by
  show ax_Ex G tX4_count d 0 [some (vR 176)] [] M _ _
  unfold fX4_count at hf
  refine x_aload_n (pc := 0) dX4_count_0 rfl ?_
  refine x_getI (t := 3) (j := 4) (pc := 1) dX4_count_1 (axEx hG rfl) rfl (by decide) (by decide) rfl WF_X4_50 ?_
  subst hf
  exact x_retI (pc := 4) dX4_count_4
/- HexPond$Groups.greatest()I -/
def fX4_greatest (M : ax_M) : Int :=
  ((mI M 176 5))
theorem T_X4_greatest {G : ax_G} {d : Nat} (hd : 0 ≤ d) (hG : axPs G 150 244) {M : ax_M} {r : Int} (hf : fX4_greatest M = r) : ax_Ex G tX4_greatest d 0 (ax_args [vR 176] ++ List.replicate 0 none) [] M (.inl (some (vI r))) M := by
  show ax_Ex G tX4_greatest d 0 [some (vR 176)] [] M _ _
  unfold fX4_greatest at hf
  refine x_aload_n (pc := 0) dX4_greatest_0 rfl ?_
  refine x_getI (t := 3) (j := 5) (pc := 1) dX4_greatest_1 (axEx hG rfl) rfl (by decide) (by decide) rfl WF_X4_53 ?_
  subst hf
  exact x_retI (pc := 4) dX4_greatest_4
