/-! walks: Pond, the rest -/
/- HexPond$Pond.placeCell(II)V -/
def fX8_placeCell_b37 (M : ax_M) (x1 : Int) (x2 : Int) (x3 : Int) (v4 : Int) : Option ((Int × ax_M) ⊕ ax_M) :=
  (if v4 < 6 then (if 0 ≤ v4 ∧ v4 < 6 then (if 0 ≤ (wr ((wr (x3 * 6)) + v4)) ∧ (wr ((wr (x3 * 6)) + v4)) < 486 then (some (.inl ((v4 + 1), (mUI M 171 (Int.toNat (wr ((wr (x3 * 6)) + v4))) (fX8_cellAt M (wr (x1 + (cA1.getD (Int.toNat v4) 0))) (wr (x2 + (cA2.getD (Int.toNat v4) 0)))))))) else none) else none) else (some (.inr M)))
def fX8_placeCell (M : ax_M) (a1 : Int) (a2 : Int) : Option ax_M :=
  (if (wr ((wr ((mI M 169 0) * a2)) + a1)) < 0 then (some M) else (if (wr ((wr ((mI M 169 0) * a2)) + a1)) < 81 then (bd1 (lp (fun s => fX8_placeCell_b37 s.2 a1 a2 (wr ((wr ((mI M 169 0) * a2)) + a1)) s.1) lpN (0, (mUI (mUI M 172 (Int.toNat (wr ((wr ((mI M 169 0) * a2)) + a1))) a1) 173 (Int.toNat (wr ((wr ((mI M 169 0) * a2)) + a1))) a2))) fun t9 => (some t9)) else (some M)))
theorem B_X8_placeCell_37 {G : ax_G} {d : Nat} (hd : 1 ≤ d) (hG : axPs G 169 176) {M : ax_M} {x1 : Int} {x2 : Int} {x3 : Int} {v4 : Int} {o : Option ax_V ⊕ String} {M' : ax_M} {y : (Int × ax_M) ⊕ ax_M} (hf : fX8_placeCell_b37 M x1 x2 x3 v4 = some y) (h1 : ∀ s', y = .inl s' → ax_Ex G tX8_placeCell d 37 [some (vR 169), some (vI x1), some (vI x2), some (vI x3), some (vI s'.1)] [] s'.2 o M') (h2a : ∀ t, y = .inr t → ax_Ex G tX8_placeCell d 82 [some (vR 169), some (vI x1), some (vI x2), some (vI x3), none] [] t o M') : ax_Ex G tX8_placeCell d 37 [some (vR 169), some (vI x1), some (vI x2), some (vI x3), some (vI v4)] [] M o M' := by
  unfold fX8_placeCell_b37 at hf
  refine x_iload (pc := 37) dX8_placeCell_37 rfl ?_
  refine x_bipush (pc := 39) dX8_placeCell_39 (by decide) ⟨by decide, by decide⟩ ?_
  refine ax_cmp (fun b6a b6b b6c b6e => ?_)
  refine x_icmpge (tgt := 82) (pc := 41) dX8_placeCell_41 rfl (fun h5 => ?_) (fun h5 => ?_)
  · replace hf := (if_neg (Int.not_lt.mpr h5)).symm.trans hf
    cases hf
    exact x_fgt (axS' (axS' (axS' (axS' (axN' axD))))) (h2a _ rfl)
  · replace hf := (if_pos h5).symm.trans hf
    refine x_aload_n (pc := 44) dX8_placeCell_44 rfl ?_
    refine x_getF (t := 6) (j := 3) (r := 171) (pc := 45) dX8_placeCell_45 (axH hG rfl) (axEx hG rfl) rfl (by decide) (by decide) rfl rfl WF_X8_15 ?_
    refine x_iload_n (pc := 48) dX8_placeCell_48 rfl ?_
    refine x_bipush (pc := 49) dX8_placeCell_49 (by decide) ⟨by decide, by decide⟩ ?_
    refine x_imulw (pc := 51) dX8_placeCell_51 ?_
    refine x_iload (pc := 52) dX8_placeCell_52 rfl ?_
    refine x_iaddw (pc := 54) dX8_placeCell_54 ?_
    refine x_aload_n (pc := 55) dX8_placeCell_55 rfl ?_
    refine x_iload_n (pc := 56) dX8_placeCell_56 rfl ?_
    refine x_getsN (v := vR 1) _ (pc := 57) dX8_placeCell_57 (axS_mem (n := 0) rfl) rfl trivial NF_X8_56 ?_
    refine x_iload (pc := 60) dX8_placeCell_60 rfl ?_
    by_cases h7 : 0 ≤ v4 ∧ v4 < 6
    · replace hf := (if_pos h7).symm.trans hf
      refine x_cald2 cA1 (pc := 62) dX8_placeCell_62 cA1_K cA1_in h7.1 (by have e9 : (cA1.length : Int) = 6 := rfl; have := h7.2; omega) ?_
      refine x_iaddw (pc := 63) dX8_placeCell_63 ?_
      refine x_iload_n (pc := 64) dX8_placeCell_64 rfl ?_
      refine x_getsN (v := vR 2) _ (pc := 65) dX8_placeCell_65 (axS_mem (n := 1) rfl) rfl trivial NF_X8_59 ?_
      refine x_iload (pc := 68) dX8_placeCell_68 rfl ?_
      refine x_cald2 cA2 (pc := 70) dX8_placeCell_70 cA2_K cA2_in (by omega) (by have e9 : (cA2.length : Int) = 6 := rfl; omega) ?_
      refine x_iaddw (pc := 71) dX8_placeCell_71 ?_
      refine x_cr (v := vI (fX8_cellAt M (wr (x1 + (cA1.getD (Int.toNat v4) 0))) (wr (x2 + (cA2.getD (Int.toNat v4) 0))))) (vs := [vR 169, vI (wr (x1 + (cA1.getD (Int.toNat v4) 0))), vI (wr (x2 + (cA2.getD (Int.toNat v4) 0)))]) (rest := [vI (wr ((wr (x3 * 6)) + v4)), vR 171]) (k := 1) rfl (by omega) (ax_caV (pc := 72) dX8_placeCell_72 kX8_cellAt rfl rfl WM_X8_62 WI_X8_cellAt WS_X8_cellAt WN_X8 (ax_rcO (t := 6) (axEx hG rfl) rfl (by decide)) (Nat.le_of_ble_eq_true rfl)) kX8_cellAt rfl True.intro (T_X8_cellAt (by omega) hG rfl) ?_
      by_cases h8 : 0 ≤ (wr ((wr (x3 * 6)) + v4)) ∧ (wr ((wr (x3 * 6)) + v4)) < 486
      · replace hf := (if_pos h8).symm.trans hf
        refine x_iast2 (n := 486) (pc := 75) dX8_placeCell_75 (axEx hG rfl) rfl h8.1 h8.2 ?_
        refine x_iinc (z := (v4 + 1)) (ls' := [some (vR 169), some (vI x1), some (vI x2), some (vI x3), some (vI (v4 + 1))]) (pc := 76) dX8_placeCell_76 rfl (Nat.le_of_ble_eq_true rfl) rfl rfl (ax_i (by omega) (by omega)) rfl ?_
        refine x_goto (tgt := 37) (pc := 79) dX8_placeCell_79 rfl ?_
        cases hf
        exact h1 _ rfl
      · replace hf := (if_neg h8).symm.trans hf
        cases hf
    · replace hf := (if_neg h7).symm.trans hf
      cases hf
theorem T_X8_placeCell {G : ax_G} {d : Nat} (hd : 1 ≤ d) (hG : axPs G 169 176) {M : ax_M} {a1 : Int} {a2 : Int} {M1 : ax_M} (hf : fX8_placeCell M a1 a2 = some M1) : ax_Ex G tX8_placeCell d 0 (ax_args [vR 169, vI a1, vI a2] ++ List.replicate 2 none) [] M (.inl none) M1 := by
  show ax_Ex G tX8_placeCell d 0 [some (vR 169), some (vI a1), some (vI a2), none, none] [] M _ _
  unfold fX8_placeCell at hf
  refine x_aload_n (pc := 0) dX8_placeCell_0 rfl ?_
  refine x_getI (t := 6) (j := 0) (pc := 1) dX8_placeCell_1 (axEx hG rfl) rfl (by decide) (by decide) rfl WF_X8_34 ?_
  refine x_iload_n (pc := 4) dX8_placeCell_4 rfl ?_
  refine x_imulw (pc := 5) dX8_placeCell_5 ?_
  refine x_iload_n (pc := 6) dX8_placeCell_6 rfl ?_
  refine x_iaddw (pc := 7) dX8_placeCell_7 ?_
  refine x_istore_n (ls' := [some (vR 169), some (vI a1), some (vI a2), some (vI (wr ((wr ((mI M 169 0) * a2)) + a1))), none]) (pc := 8) dX8_placeCell_8 (Nat.le_of_ble_eq_true rfl) rfl rfl ?_
  refine x_iload_n (pc := 9) dX8_placeCell_9 rfl ?_
  refine ax_cmp1 (fun b2a b2b => ?_)
  refine x_iflt (tgt := 19) (pc := 10) dX8_placeCell_10 rfl (fun h1 => ?_) (fun h1 => ?_)
  · replace hf := (if_pos h1).symm.trans hf
    cases hf
    exact x_retV (pc := 19) dX8_placeCell_19
  · replace hf := (if_neg (Int.not_lt.mpr h1)).symm.trans hf
    refine x_iload_n (pc := 13) dX8_placeCell_13 rfl ?_
    refine x_bipush (pc := 14) dX8_placeCell_14 (by decide) ⟨by decide, by decide⟩ ?_
    refine ax_cmp (fun b4a b4b b4c b4e => ?_)
    refine x_icmplt (tgt := 20) (pc := 16) dX8_placeCell_16 rfl (fun h3 => ?_) (fun h3 => ?_)
    · replace hf := (if_pos h3).symm.trans hf
      refine x_aload_n (pc := 20) dX8_placeCell_20 rfl ?_
      refine x_getF (t := 6) (j := 4) (r := 172) (pc := 21) dX8_placeCell_21 (axH hG rfl) (axEx hG rfl) rfl (by decide) (by decide) rfl rfl WF_X8_18 ?_
      refine x_iload_n (pc := 24) dX8_placeCell_24 rfl ?_
      refine x_iload_n (pc := 25) dX8_placeCell_25 rfl ?_
      refine x_iast2 (n := 81) (pc := 26) dX8_placeCell_26 (axEx hG rfl) rfl (by omega) (by omega) ?_
      refine x_aload_n (pc := 27) dX8_placeCell_27 rfl ?_
      refine x_getF (t := 6) (j := 5) (r := 173) (pc := 28) dX8_placeCell_28 (axH hG rfl) (axEx hG rfl) rfl (by decide) (by decide) rfl rfl WF_X8_21 ?_
      refine x_iload_n (pc := 31) dX8_placeCell_31 rfl ?_
      refine x_iload_n (pc := 32) dX8_placeCell_32 rfl ?_
      refine x_iast2 (n := 81) (pc := 33) dX8_placeCell_33 (axEx hG rfl) rfl (by omega) (by omega) ?_
      refine x_iconst (pc := 34) dX8_placeCell_34 ⟨by decide, by decide⟩ ?_
      refine x_istore (ls' := [some (vR 169), some (vI a1), some (vI a2), some (vI (wr ((wr ((mI M 169 0) * a2)) + a1))), some (vI 0)]) (pc := 35) dX8_placeCell_35 (Nat.le_of_ble_eq_true rfl) rfl rfl ?_
      obtain ⟨t9, t10, hf⟩ := bd1_some hf
      refine lp_ex (P := (fun s => ax_Ex G tX8_placeCell d 37 [some (vR 169), some (vI a1), some (vI a2), some (vI (wr ((wr ((mI M 169 0) * a2)) + a1))), some (vI s.1)] [] s.2 _ _)) (K := (fun t => ax_Ex G tX8_placeCell d 82 [some (vR 169), some (vI a1), some (vI a2), some (vI (wr ((wr ((mI M 169 0) * a2)) + a1))), none] [] t _ _)) (fun s y hy h1 h2 => B_X8_placeCell_37 (by omega) hG hy (fun s' e => h1 s' e) (fun t e => h2 t e)) _ _ _ t10 ?_
      cases hf
      exact x_retV (pc := 82) dX8_placeCell_82
    · replace hf := (if_neg (Int.not_lt.mpr h3)).symm.trans hf
      cases hf
      exact x_retV (pc := 19) dX8_placeCell_19
/- HexPond$Pond.begin(II)V -/
def fX8_begin_b54 (M : ax_M) (x3 : Int) (v4 : Int) : Option ((Int × ax_M) ⊕ ax_M) :=
  (if v4 < (mI M 169 0) then (bd1 (fX8_placeCell M v4 x3) fun M6 => (some (.inl ((v4 + 1), M6)))) else (some (.inr M)))
def fX8_begin_b43 (M : ax_M) (v3 : Int) : Option ((Int × ax_M) ⊕ ax_M) :=
  (if v3 < (mI M 169 1) then (bd1 (lp (fun s => fX8_begin_b54 s.2 v3 s.1) lpN (0, M)) fun t7 => (some (.inl ((v3 + 1), t7)))) else (some (.inr M)))
def fX8_begin (M : ax_M) (a1 : Int) (a2 : Int) : Option ax_M :=
  (bd1 (lp (fun s => fX8_begin_b43 s.2 s.1) lpN (0, (mFi (mFi (mUI (mUI (mUI (mUI M 169 0 a1) 169 1 a2) 169 8 0) 169 9 (wr ((mI (mUI (mUI (mUI M 169 0 a1) 169 1 a2) 169 8 0) 169 9) + 1))) 170 81 0) 174 2 0))) fun t9 => (some t9))
theorem B_X8_begin_54 {G : ax_G} {d : Nat} (hd : 2 ≤ d) (hG : axPs G 169 176) {M : ax_M} {x3 : Int} {v4 : Int} {o : Option ax_V ⊕ String} {M' : ax_M} {y : (Int × ax_M) ⊕ ax_M} (hf : fX8_begin_b54 M x3 v4 = some y) (h1 : ∀ s', y = .inl s' → ax_Ex G tX8_begin d 54 [some (vR 169), none, none, some (vI x3), some (vI s'.1)] [] s'.2 o M') (h2a : ∀ t, y = .inr t → ax_Ex G tX8_begin d 76 [some (vR 169), none, none, some (vI x3), none] [] t o M') : ax_Ex G tX8_begin d 54 [some (vR 169), none, none, some (vI x3), some (vI v4)] [] M o M' := by
  unfold fX8_begin_b54 at hf
  refine x_iload (pc := 54) dX8_begin_54 rfl ?_
  refine x_aload_n (pc := 56) dX8_begin_56 rfl ?_
  refine x_getI (t := 6) (j := 0) (pc := 57) dX8_begin_57 (axEx hG rfl) rfl (by decide) (by decide) rfl WF_X8_34 ?_
  refine ax_cmp (fun b4a b4b b4c b4e => ?_)
  refine x_icmpge (tgt := 76) (pc := 60) dX8_begin_60 rfl (fun h3 => ?_) (fun h3 => ?_)
  · replace hf := (if_neg (Int.not_lt.mpr h3)).symm.trans hf
    cases hf
    exact x_fgt (axS' (axN' (axN' (axS' (axN' axD))))) (h2a _ rfl)
  · replace hf := (if_pos h3).symm.trans hf
    refine x_aload_n (pc := 63) dX8_begin_63 rfl ?_
    refine x_iload (pc := 64) dX8_begin_64 rfl ?_
    refine x_iload_n (pc := 66) dX8_begin_66 rfl ?_
    obtain ⟨M6, r5, hf⟩ := bd1_some hf
    refine x_cv (vs := [vR 169, vI v4, vI x3]) (rest := []) (k := 2) rfl (by omega) (ax_caV (pc := 67) dX8_begin_67 kX8_placeCell rfl rfl WM_X8_53 WI_X8_placeCell WS_X8_placeCell WN_X8 (ax_rcO (t := 6) (axEx hG rfl) rfl (by decide)) (Nat.le_of_ble_eq_true rfl)) kX8_placeCell rfl True.intro (T_X8_placeCell (by omega) hG r5) ?_
    refine x_iinc (z := (v4 + 1)) (ls' := [some (vR 169), none, none, some (vI x3), some (vI (v4 + 1))]) (pc := 70) dX8_begin_70 rfl (Nat.le_of_ble_eq_true rfl) rfl rfl (ax_i (by omega) (by omega)) rfl ?_
    refine x_goto (tgt := 54) (pc := 73) dX8_begin_73 rfl ?_
    cases hf
    exact h1 _ rfl
theorem B_X8_begin_43 {G : ax_G} {d : Nat} (hd : 2 ≤ d) (hG : axPs G 169 176) {M : ax_M} {v3 : Int} {o : Option ax_V ⊕ String} {M' : ax_M} {y : (Int × ax_M) ⊕ ax_M} (hf : fX8_begin_b43 M v3 = some y) (h1 : ∀ s', y = .inl s' → ax_Ex G tX8_begin d 43 [some (vR 169), none, none, some (vI s'.1), none] [] s'.2 o M') (h2a : ∀ t, y = .inr t → ax_Ex G tX8_begin d 82 [some (vR 169), none, none, none, none] [] t o M') : ax_Ex G tX8_begin d 43 [some (vR 169), none, none, some (vI v3), none] [] M o M' := by
  unfold fX8_begin_b43 at hf
  refine x_iload_n (pc := 43) dX8_begin_43 rfl ?_
  refine x_aload_n (pc := 44) dX8_begin_44 rfl ?_
  refine x_getI (t := 6) (j := 1) (pc := 45) dX8_begin_45 (axEx hG rfl) rfl (by decide) (by decide) rfl WF_X8_38 ?_
  refine ax_cmp (fun b2a b2b b2c b2e => ?_)
  refine x_icmpge (tgt := 82) (pc := 48) dX8_begin_48 rfl (fun h1 => ?_) (fun h1 => ?_)
  · replace hf := (if_neg (Int.not_lt.mpr h1)).symm.trans hf
    cases hf
    exact x_fgt (axS' (axN' (axN' (axN' (axN' axD))))) (h2a _ rfl)
  · replace hf := (if_pos h1).symm.trans hf
    refine x_iconst (pc := 51) dX8_begin_51 ⟨by decide, by decide⟩ ?_
    refine x_istore (ls' := [some (vR 169), none, none, some (vI v3), some (vI 0)]) (pc := 52) dX8_begin_52 (Nat.le_of_ble_eq_true rfl) rfl rfl ?_
    obtain ⟨t7, t8, hf⟩ := bd1_some hf
    refine lp_ex (P := (fun s => ax_Ex G tX8_begin d 54 [some (vR 169), none, none, some (vI v3), some (vI s.1)] [] s.2 _ _)) (K := (fun t => ax_Ex G tX8_begin d 76 [some (vR 169), none, none, some (vI v3), none] [] t _ _)) (fun s y hy h1 h2 => B_X8_begin_54 (by omega) hG hy (fun s' e => h1 s' e) (fun t e => h2 t e)) _ _ _ t8 ?_
    refine x_iinc (z := (v3 + 1)) (ls' := [some (vR 169), none, none, some (vI (v3 + 1)), none]) (pc := 76) dX8_begin_76 rfl (Nat.le_of_ble_eq_true rfl) rfl rfl (ax_i (by omega) (by omega)) rfl ?_
    refine x_goto (tgt := 43) (pc := 79) dX8_begin_79 rfl ?_
    cases hf
    exact h1 _ rfl
theorem T_X8_begin {G : ax_G} {d : Nat} (hd : 2 ≤ d) (hG : axPs G 169 176) {M : ax_M} {a1 : Int} {a2 : Int} {M1 : ax_M} (hf : fX8_begin M a1 a2 = some M1) : ax_Ex G tX8_begin d 0 (ax_args [vR 169, vI a1, vI a2] ++ List.replicate 2 none) [] M (.inl none) M1 := by
  show ax_Ex G tX8_begin d 0 [some (vR 169), some (vI a1), some (vI a2), none, none] [] M _ _
  unfold fX8_begin at hf
  refine x_aload_n (pc := 0) dX8_begin_0 rfl ?_
  refine x_iload_n (pc := 1) dX8_begin_1 rfl ?_
  refine x_putI (t := 6) (j := 0) (pc := 2) dX8_begin_2 (axEx hG rfl) rfl (by decide) (by decide) rfl rfl WF_X8_34 ?_
  refine x_aload_n (pc := 5) dX8_begin_5 rfl ?_
  refine x_iload_n (pc := 6) dX8_begin_6 rfl ?_
  refine x_putI (t := 6) (j := 1) (pc := 7) dX8_begin_7 (axEx hG rfl) rfl (by decide) (by decide) rfl rfl WF_X8_38 ?_
  refine x_aload_n (pc := 10) dX8_begin_10 rfl ?_
  refine x_iconst (pc := 11) dX8_begin_11 ⟨by decide, by decide⟩ ?_
  refine x_putI (t := 6) (j := 8) (pc := 12) dX8_begin_12 (axEx hG rfl) rfl (by decide) (by decide) rfl rfl WF_X8_41 ?_
  refine x_aload_n (pc := 15) dX8_begin_15 rfl ?_
  refine x_dup (pc := 16) dX8_begin_16 rfl ?_
  refine x_getI (t := 6) (j := 9) (pc := 17) dX8_begin_17 (axEx hG rfl) rfl (by decide) (by decide) rfl WF_X8_44 ?_
  refine x_iconst (pc := 20) dX8_begin_20 ⟨by decide, by decide⟩ ?_
  refine x_iaddw (pc := 21) dX8_begin_21 ?_
  refine x_putI (t := 6) (j := 9) (pc := 22) dX8_begin_22 (axEx hG rfl) rfl (by decide) (by decide) rfl rfl WF_X8_44 ?_
  refine x_aload_n (pc := 25) dX8_begin_25 rfl ?_
  refine x_getF (t := 6) (j := 2) (r := 170) (pc := 26) dX8_begin_26 (axH hG rfl) (axEx hG rfl) rfl (by decide) (by decide) rfl rfl WF_X8_9 ?_
  refine x_iconst (pc := 29) dX8_begin_29 ⟨by decide, by decide⟩ ?_
  refine x_cv (vs := [vR 170, vI 0]) (rest := []) (k := 2) rfl (by omega) (ax_caS (pc := 30) dX8_begin_30 kJ7_fill_53178 rfl rfl WM_X8_47 WT_J7_fill_53178 WN_J7 (Nat.le_of_ble_eq_true rfl)) kJ7_fill_53178 rfl True.intro (T_fill (n := 81) (axEx hG rfl) rfl (by decide)) ?_
  refine x_aload_n (pc := 33) dX8_begin_33 rfl ?_
  refine x_getF (t := 6) (j := 6) (r := 174) (pc := 34) dX8_begin_34 (axH hG rfl) (axEx hG rfl) rfl (by decide) (by decide) rfl rfl WF_X8_24 ?_
  refine x_iconst (pc := 37) dX8_begin_37 ⟨by decide, by decide⟩ ?_
  refine x_cv (vs := [vR 174, vI 0]) (rest := []) (k := 2) rfl (by omega) (ax_caS (pc := 38) dX8_begin_38 kJ7_fill_53178 rfl rfl WM_X8_47 WT_J7_fill_53178 WN_J7 (Nat.le_of_ble_eq_true rfl)) kJ7_fill_53178 rfl True.intro (T_fill (n := 2) (axEx hG rfl) rfl (by decide)) ?_
  refine x_iconst (pc := 41) dX8_begin_41 ⟨by decide, by decide⟩ ?_
  refine x_istore_n (ls' := [some (vR 169), some (vI a1), some (vI a2), some (vI 0), none]) (pc := 42) dX8_begin_42 (Nat.le_of_ble_eq_true rfl) rfl rfl ?_
  obtain ⟨t9, t10, hf⟩ := bd1_some hf
  refine x_fgt (axS' (axN' (axN' (axS' (axN' axD))))) (lp_ex (P := (fun s => ax_Ex G tX8_begin d 43 [some (vR 169), none, none, some (vI s.1), none] [] s.2 _ _)) (K := (fun t => ax_Ex G tX8_begin d 82 [some (vR 169), none, none, none, none] [] t _ _)) (fun s y hy h1 h2 => B_X8_begin_43 (by omega) hG hy (fun s' e => h1 s' e) (fun t e => h2 t e)) _ _ _ t10 ?_)
  cases hf
  exact x_retV (pc := 82) dX8_begin_82
/- HexPond$Pond.countStone(II)V -/
def fX8_countStone (M : ax_M) (a1 : Int) (a2 : Int) : Option ax_M :=
  (if (wr (a1 - 1)) < 0 then (some M) else (if (wr (a1 - 1)) < 2 then (some (mUI M 174 (Int.toNat (wr (a1 - 1))) (wr ((mI M 174 (Int.toNat (wr (a1 - 1)))) + a2)))) else (some M)))
theorem T_X8_countStone {G : ax_G} {d : Nat} (hd : 0 ≤ d) (hG : axPs G 169 176) {M : ax_M} {a1 : Int} {a2 : Int} {M1 : ax_M} (hf : fX8_countStone M a1 a2 = some M1) : ax_Ex G tX8_countStone d 0 (ax_args [vR 169, vI a1, vI a2] ++ List.replicate 1 none) [] M (.inl none) M1 := by
  show ax_Ex G tX8_countStone d 0 [some (vR 169), some (vI a1), some (vI a2), none] [] M _ _
  unfold fX8_countStone at hf
  refine x_iload_n (pc := 0) dX8_countStone_0 rfl ?_
  refine x_iconst (pc := 1) dX8_countStone_1 ⟨by decide, by decide⟩ ?_
  refine x_isubw (pc := 2) dX8_countStone_2 ?_
  refine x_istore_n (ls' := [some (vR 169), some (vI a1), some (vI a2), some (vI (wr (a1 - 1)))]) (pc := 3) dX8_countStone_3 (Nat.le_of_ble_eq_true rfl) rfl rfl ?_
  refine x_iload_n (pc := 4) dX8_countStone_4 rfl ?_
  refine ax_cmp1 (fun b2a b2b => ?_)
  refine x_iflt (tgt := 27) (pc := 5) dX8_countStone_5 rfl (fun h1 => ?_) (fun h1 => ?_)
  · replace hf := (if_pos h1).symm.trans hf
    cases hf
    exact x_retV (pc := 27) dX8_countStone_27
  · replace hf := (if_neg (Int.not_lt.mpr h1)).symm.trans hf
    refine x_iload_n (pc := 8) dX8_countStone_8 rfl ?_
    refine x_aload_n (pc := 9) dX8_countStone_9 rfl ?_
    refine x_getF (t := 6) (j := 6) (r := 174) (pc := 10) dX8_countStone_10 (axH hG rfl) (axEx hG rfl) rfl (by decide) (by decide) rfl rfl WF_X8_24 ?_
    refine x_alen (t := 0) (n := 2) (pc := 13) dX8_countStone_13 (axEx hG rfl) rfl (by decide) (by decide) ?_
    refine ax_cmp (fun b4a b4b b4c b4e => ?_)
    refine x_icmpge (tgt := 27) (pc := 14) dX8_countStone_14 rfl (fun h3 => ?_) (fun h3 => ?_)
    · replace hf := (if_neg (Int.not_lt.mpr h3)).symm.trans hf
      cases hf
      exact x_retV (pc := 27) dX8_countStone_27
    · replace hf := (if_pos h3).symm.trans hf
      refine x_aload_n (pc := 17) dX8_countStone_17 rfl ?_
      refine x_getF (t := 6) (j := 6) (r := 174) (pc := 18) dX8_countStone_18 (axH hG rfl) (axEx hG rfl) rfl (by decide) (by decide) rfl rfl WF_X8_24 ?_
      refine x_iload_n (pc := 21) dX8_countStone_21 rfl ?_
      refine x_dup2 (pc := 22) dX8_countStone_22 rfl rfl ?_
      refine x_iald2 (n := 2) (pc := 23) dX8_countStone_23 (axEx hG rfl) rfl (by omega) (by omega) ?_
      refine x_iload_n (pc := 24) dX8_countStone_24 rfl ?_
      refine x_iaddw (pc := 25) dX8_countStone_25 ?_
      refine x_iast2 (n := 2) (pc := 26) dX8_countStone_26 (axEx hG rfl) rfl (by omega) (by omega) ?_
      cases hf
      exact x_retV (pc := 27) dX8_countStone_27
/- HexPond$Pond.put(II)V -/
def fX8_put (M : ax_M) (a1 : Int) (a2 : Int) : Option ax_M :=
  (if (fX8_hasCell M a1) = 0 then (some M) else (if 0 ≤ a1 ∧ a1 < 81 then (bd1 (fX8_countStone M (mI M 170 (Int.toNat a1)) (-1)) fun M4 => (bd1 (fX8_countStone M4 a2 1) fun M6 => (some (mUI (mUI M6 170 (Int.toNat a1) a2) 169 9 (wr ((mI (mUI M6 170 (Int.toNat a1) a2) 169 9) + 1)))))) else none))
theorem T_X8_put {G : ax_G} {d : Nat} (hd : 1 ≤ d) (hG : axPs G 169 176) {M : ax_M} {a1 : Int} {a2 : Int} {M1 : ax_M} (hf : fX8_put M a1 a2 = some M1) : ax_Ex G tX8_put d 0 (ax_args [vR 169, vI a1, vI a2] ++ List.replicate 0 none) [] M (.inl none) M1 := by
  show ax_Ex G tX8_put d 0 [some (vR 169), some (vI a1), some (vI a2)] [] M _ _
  unfold fX8_put at hf
  refine x_aload_n (pc := 0) dX8_put_0 rfl ?_
  refine x_iload_n (pc := 1) dX8_put_1 rfl ?_
  refine x_cr (v := vI (fX8_hasCell M a1)) (vs := [vR 169, vI a1]) (rest := []) (k := 0) rfl (by omega) (ax_caV (pc := 2) dX8_put_2 kX8_hasCell rfl rfl WM_X8_76 WI_X8_hasCell WS_X8_hasCell WN_X8 (ax_rcO (t := 6) (axEx hG rfl) rfl (by decide)) (Nat.le_of_ble_eq_true rfl)) kX8_hasCell rfl (Z_X8_hasCell rfl) (T_X8_hasCell (by omega) hG rfl) ?_
  refine x_ifeq (tgt := 42) (pc := 5) dX8_put_5 rfl (fun h1 => ?_) (fun h1 => ?_)
  · replace hf := (if_pos h1).symm.trans hf
    cases hf
    exact x_retV (pc := 42) dX8_put_42
  · replace hf := (if_neg h1).symm.trans hf
    refine x_aload_n (pc := 8) dX8_put_8 rfl ?_
    refine x_aload_n (pc := 9) dX8_put_9 rfl ?_
    refine x_getF (t := 6) (j := 2) (r := 170) (pc := 10) dX8_put_10 (axH hG rfl) (axEx hG rfl) rfl (by decide) (by decide) rfl rfl WF_X8_9 ?_
    refine x_iload_n (pc := 13) dX8_put_13 rfl ?_
    by_cases h2 : 0 ≤ a1 ∧ a1 < 81
    · replace hf := (if_pos h2).symm.trans hf
      refine x_iald2 (n := 81) (pc := 14) dX8_put_14 (axEx hG rfl) rfl h2.1 h2.2 ?_
      refine x_iconst (pc := 15) dX8_put_15 ⟨by decide, by decide⟩ ?_
      obtain ⟨M4, r3, hf⟩ := bd1_some hf
      refine x_cv (vs := [vR 169, vI (mI M 170 (Int.toNat a1)), vI (-1)]) (rest := []) (k := 1) rfl (by omega) (ax_caV (pc := 16) dX8_put_16 kX8_countStone rfl rfl WM_X8_80 WI_X8_countStone WS_X8_countStone WN_X8 (ax_rcO (t := 6) (axEx hG rfl) rfl (by decide)) (Nat.le_of_ble_eq_true rfl)) kX8_countStone rfl True.intro (T_X8_countStone (by omega) hG r3) ?_
      refine x_aload_n (pc := 19) dX8_put_19 rfl ?_
      refine x_iload_n (pc := 20) dX8_put_20 rfl ?_
      refine x_iconst (pc := 21) dX8_put_21 ⟨by decide, by decide⟩ ?_
      obtain ⟨M6, r5, hf⟩ := bd1_some hf
      refine x_cv (vs := [vR 169, vI a2, vI 1]) (rest := []) (k := 1) rfl (by omega) (ax_caV (pc := 22) dX8_put_22 kX8_countStone rfl rfl WM_X8_80 WI_X8_countStone WS_X8_countStone WN_X8 (ax_rcO (t := 6) (axEx hG rfl) rfl (by decide)) (Nat.le_of_ble_eq_true rfl)) kX8_countStone rfl True.intro (T_X8_countStone (by omega) hG r5) ?_
      refine x_aload_n (pc := 25) dX8_put_25 rfl ?_
      refine x_getF (t := 6) (j := 2) (r := 170) (pc := 26) dX8_put_26 (axH hG rfl) (axEx hG rfl) rfl (by decide) (by decide) rfl rfl WF_X8_9 ?_
      refine x_iload_n (pc := 29) dX8_put_29 rfl ?_
      refine x_iload_n (pc := 30) dX8_put_30 rfl ?_
      refine x_iast2 (n := 81) (pc := 31) dX8_put_31 (axEx hG rfl) rfl (by omega) (by omega) ?_
      refine x_aload_n (pc := 32) dX8_put_32 rfl ?_
      refine x_dup (pc := 33) dX8_put_33 rfl ?_
      refine x_getI (t := 6) (j := 9) (pc := 34) dX8_put_34 (axEx hG rfl) rfl (by decide) (by decide) rfl WF_X8_44 ?_
      refine x_iconst (pc := 37) dX8_put_37 ⟨by decide, by decide⟩ ?_
      refine x_iaddw (pc := 38) dX8_put_38 ?_
      refine x_putI (t := 6) (j := 9) (pc := 39) dX8_put_39 (axEx hG rfl) rfl (by decide) (by decide) rfl rfl WF_X8_44 ?_
      cases hf
      exact x_retV (pc := 42) dX8_put_42
    · replace hf := (if_neg h2).symm.trans hf
      cases hf
/- HexPond$Pond.lay(II)V -/
def fX8_lay (M : ax_M) (a1 : Int) (a2 : Int) : Option ax_M :=
  (if (fX8_hasCell M a1) = 0 then (some M) else (if (mI M 169 8) < 0 then (some M) else (if (mI M 169 8) < 81 then (bd1 (fX8_put M a1 (wr (a2 + 1))) fun M7 => (if 0 ≤ (mI M7 169 8) ∧ (mI M7 169 8) < 81 then (some (mUI (mUI M7 175 (Int.toNat (mI M7 169 8)) a1) 169 8 (wr ((mI (mUI M7 175 (Int.toNat (mI M7 169 8)) a1) 169 8) + 1)))) else none)) else (some M))))
theorem T_X8_lay {G : ax_G} {d : Nat} (hd : 2 ≤ d) (hG : axPs G 169 176) {M : ax_M} {a1 : Int} {a2 : Int} {M1 : ax_M} (hf : fX8_lay M a1 a2 = some M1) : ax_Ex G tX8_lay d 0 (ax_args [vR 169, vI a1, vI a2] ++ List.replicate 0 none) [] M (.inl none) M1 := by
  show ax_Ex G tX8_lay d 0 [some (vR 169), some (vI a1), some (vI a2)] [] M _ _
  unfold fX8_lay at hf
  refine x_aload_n (pc := 0) dX8_lay_0 rfl ?_
  refine x_iload_n (pc := 1) dX8_lay_1 rfl ?_
  refine x_cr (v := vI (fX8_hasCell M a1)) (vs := [vR 169, vI a1]) (rest := []) (k := 0) rfl (by omega) (ax_caV (pc := 2) dX8_lay_2 kX8_hasCell rfl rfl WM_X8_76 WI_X8_hasCell WS_X8_hasCell WN_X8 (ax_rcO (t := 6) (axEx hG rfl) rfl (by decide)) (Nat.le_of_ble_eq_true rfl)) kX8_hasCell rfl (Z_X8_hasCell rfl) (T_X8_hasCell (by omega) hG rfl) ?_
  refine x_ifeq (tgt := 55) (pc := 5) dX8_lay_5 rfl (fun h1 => ?_) (fun h1 => ?_)
  · replace hf := (if_pos h1).symm.trans hf
    cases hf
    exact x_retV (pc := 55) dX8_lay_55
  · replace hf := (if_neg h1).symm.trans hf
    refine x_aload_n (pc := 8) dX8_lay_8 rfl ?_
    refine x_getI (t := 6) (j := 8) (pc := 9) dX8_lay_9 (axEx hG rfl) rfl (by decide) (by decide) rfl WF_X8_41 ?_
    refine ax_cmp1 (fun b3a b3b => ?_)
    refine x_iflt (tgt := 55) (pc := 12) dX8_lay_12 rfl (fun h2 => ?_) (fun h2 => ?_)
    · replace hf := (if_pos h2).symm.trans hf
      cases hf
      exact x_retV (pc := 55) dX8_lay_55
    · replace hf := (if_neg (Int.not_lt.mpr h2)).symm.trans hf
      refine x_aload_n (pc := 15) dX8_lay_15 rfl ?_
      refine x_getI (t := 6) (j := 8) (pc := 16) dX8_lay_16 (axEx hG rfl) rfl (by decide) (by decide) rfl WF_X8_41 ?_
      refine x_aload_n (pc := 19) dX8_lay_19 rfl ?_
      refine x_getF (t := 6) (j := 7) (r := 175) (pc := 20) dX8_lay_20 (axH hG rfl) (axEx hG rfl) rfl (by decide) (by decide) rfl rfl WF_X8_27 ?_
      refine x_alen (t := 0) (n := 81) (pc := 23) dX8_lay_23 (axEx hG rfl) rfl (by decide) (by decide) ?_
      refine ax_cmp (fun b5a b5b b5c b5e => ?_)
      refine x_icmpge (tgt := 55) (pc := 24) dX8_lay_24 rfl (fun h4 => ?_) (fun h4 => ?_)
      · replace hf := (if_neg (Int.not_lt.mpr h4)).symm.trans hf
        cases hf
        exact x_retV (pc := 55) dX8_lay_55
      · replace hf := (if_pos h4).symm.trans hf
        refine x_aload_n (pc := 27) dX8_lay_27 rfl ?_
        refine x_iload_n (pc := 28) dX8_lay_28 rfl ?_
        refine x_iload_n (pc := 29) dX8_lay_29 rfl ?_
        refine x_iconst (pc := 30) dX8_lay_30 ⟨by decide, by decide⟩ ?_
        refine x_iaddw (pc := 31) dX8_lay_31 ?_
        obtain ⟨M7, r6, hf⟩ := bd1_some hf
        refine x_cv (vs := [vR 169, vI a1, vI (wr (a2 + 1))]) (rest := []) (k := 0) rfl (by omega) (ax_caV (pc := 32) dX8_lay_32 kX8_put rfl rfl WM_X8_83 WI_X8_put WS_X8_put WN_X8 (ax_rcO (t := 6) (axEx hG rfl) rfl (by decide)) (Nat.le_of_ble_eq_true rfl)) kX8_put rfl True.intro (T_X8_put (by omega) hG r6) ?_
        refine x_aload_n (pc := 35) dX8_lay_35 rfl ?_
        refine x_getF (t := 6) (j := 7) (r := 175) (pc := 36) dX8_lay_36 (axH hG rfl) (axEx hG rfl) rfl (by decide) (by decide) rfl rfl WF_X8_27 ?_
        refine x_aload_n (pc := 39) dX8_lay_39 rfl ?_
        refine x_getI (t := 6) (j := 8) (pc := 40) dX8_lay_40 (axEx hG rfl) rfl (by decide) (by decide) rfl WF_X8_41 ?_
        refine x_iload_n (pc := 43) dX8_lay_43 rfl ?_
        by_cases h8 : 0 ≤ (mI M7 169 8) ∧ (mI M7 169 8) < 81
        · replace hf := (if_pos h8).symm.trans hf
          refine x_iast2 (n := 81) (pc := 44) dX8_lay_44 (axEx hG rfl) rfl h8.1 h8.2 ?_
          refine x_aload_n (pc := 45) dX8_lay_45 rfl ?_
          refine x_dup (pc := 46) dX8_lay_46 rfl ?_
          refine x_getI (t := 6) (j := 8) (pc := 47) dX8_lay_47 (axEx hG rfl) rfl (by decide) (by decide) rfl WF_X8_41 ?_
          refine x_iconst (pc := 50) dX8_lay_50 ⟨by decide, by decide⟩ ?_
          refine x_iaddw (pc := 51) dX8_lay_51 ?_
          refine x_putI (t := 6) (j := 8) (pc := 52) dX8_lay_52 (axEx hG rfl) rfl (by decide) (by decide) rfl rfl WF_X8_41 ?_
          cases hf
          exact x_retV (pc := 55) dX8_lay_55
        · replace hf := (if_neg h8).symm.trans hf
          cases hf
/- HexPond$Pond.liftLatest()I -/
def fX8_liftLatest (M : ax_M) : Option (Int × ax_M) :=
  (if 0 < (mI M 169 8) then (if 81 < (mI M 169 8) then (some ((-1), M)) else (if 0 ≤ (mI (mUI M 169 8 ((mI M 169 8) - 1)) 169 8) ∧ (mI (mUI M 169 8 ((mI M 169 8) - 1)) 169 8) < 81 then (bd1 (fX8_put (mUI M 169 8 ((mI M 169 8) - 1)) (mI (mUI M 169 8 ((mI M 169 8) - 1)) 175 (Int.toNat (mI (mUI M 169 8 ((mI M 169 8) - 1)) 169 8))) 0) fun M7 => (some ((mI (mUI M 169 8 ((mI M 169 8) - 1)) 175 (Int.toNat (mI (mUI M 169 8 ((mI M 169 8) - 1)) 169 8))), M7))) else none)) else (some ((-1), M)))
theorem T_X8_liftLatest {G : ax_G} {d : Nat} (hd : 2 ≤ d) (hG : axPs G 169 176) {M : ax_M} {r : Int} {M1 : ax_M} (hf : fX8_liftLatest M = some (r, M1)) : ax_Ex G tX8_liftLatest d 0 (ax_args [vR 169] ++ List.replicate 1 none) [] M (.inl (some (vI r))) M1 := by
  show ax_Ex G tX8_liftLatest d 0 [some (vR 169), none] [] M _ _
  unfold fX8_liftLatest at hf
  refine x_aload_n (pc := 0) dX8_liftLatest_0 rfl ?_
  refine x_getI (t := 6) (j := 8) (pc := 1) dX8_liftLatest_1 (axEx hG rfl) rfl (by decide) (by decide) rfl WF_X8_41 ?_
  refine ax_cmp1 (fun b2a b2b => ?_)
  refine x_ifle (tgt := 19) (pc := 4) dX8_liftLatest_4 rfl (fun h1 => ?_) (fun h1 => ?_)
  · replace hf := (if_neg (Int.not_lt.mpr h1)).symm.trans hf
    refine x_iconst (pc := 19) dX8_liftLatest_19 ⟨by decide, by decide⟩ ?_
    cases hf
    exact x_retI (pc := 20) dX8_liftLatest_20
  · replace hf := (if_pos h1).symm.trans hf
    refine x_aload_n (pc := 7) dX8_liftLatest_7 rfl ?_
    refine x_getI (t := 6) (j := 8) (pc := 8) dX8_liftLatest_8 (axEx hG rfl) rfl (by decide) (by decide) rfl WF_X8_41 ?_
    refine x_aload_n (pc := 11) dX8_liftLatest_11 rfl ?_
    refine x_getF (t := 6) (j := 7) (r := 175) (pc := 12) dX8_liftLatest_12 (axH hG rfl) (axEx hG rfl) rfl (by decide) (by decide) rfl rfl WF_X8_27 ?_
    refine x_alen (t := 0) (n := 81) (pc := 15) dX8_liftLatest_15 (axEx hG rfl) rfl (by decide) (by decide) ?_
    refine ax_cmp (fun b4a b4b b4c b4e => ?_)
    refine x_icmple (tgt := 21) (pc := 16) dX8_liftLatest_16 rfl (fun h3 => ?_) (fun h3 => ?_)
    · replace hf := (if_neg (Int.not_lt.mpr h3)).symm.trans hf
      refine x_aload_n (pc := 21) dX8_liftLatest_21 rfl ?_
      refine x_dup (pc := 22) dX8_liftLatest_22 rfl ?_
      refine x_getI (t := 6) (j := 8) (pc := 23) dX8_liftLatest_23 (axEx hG rfl) rfl (by decide) (by decide) rfl WF_X8_41 ?_
      refine x_iconst (pc := 26) dX8_liftLatest_26 ⟨by decide, by decide⟩ ?_
      refine x_isub (z := ((mI M 169 8) - 1)) (pc := 27) dX8_liftLatest_27 rfl (ax_i (by omega) (by omega)) ?_
      refine x_putI (t := 6) (j := 8) (pc := 28) dX8_liftLatest_28 (axEx hG rfl) rfl (by decide) (by decide) rfl rfl WF_X8_41 ?_
      refine x_aload_n (pc := 31) dX8_liftLatest_31 rfl ?_
      refine x_getF (t := 6) (j := 7) (r := 175) (pc := 32) dX8_liftLatest_32 (axH hG rfl) (axEx hG rfl) rfl (by decide) (by decide) rfl rfl WF_X8_27 ?_
      refine x_aload_n (pc := 35) dX8_liftLatest_35 rfl ?_
      refine x_getI (t := 6) (j := 8) (pc := 36) dX8_liftLatest_36 (axEx hG rfl) rfl (by decide) (by decide) rfl WF_X8_41 ?_
      by_cases h5 : 0 ≤ (mI (mUI M 169 8 ((mI M 169 8) - 1)) 169 8) ∧ (mI (mUI M 169 8 ((mI M 169 8) - 1)) 169 8) < 81
      · replace hf := (if_pos h5).symm.trans hf
        refine x_iald2 (n := 81) (pc := 39) dX8_liftLatest_39 (axEx hG rfl) rfl h5.1 h5.2 ?_
        refine x_istore_n (ls' := [some (vR 169), some (vI (mI (mUI M 169 8 ((mI M 169 8) - 1)) 175 (Int.toNat (mI (mUI M 169 8 ((mI M 169 8) - 1)) 169 8))))]) (pc := 40) dX8_liftLatest_40 (Nat.le_of_ble_eq_true rfl) rfl rfl ?_
        refine x_aload_n (pc := 41) dX8_liftLatest_41 rfl ?_
        refine x_iload_n (pc := 42) dX8_liftLatest_42 rfl ?_
        refine x_iconst (pc := 43) dX8_liftLatest_43 ⟨by decide, by decide⟩ ?_
        obtain ⟨M7, r6, hf⟩ := bd1_some hf
        refine x_cv (vs := [vR 169, vI (mI (mUI M 169 8 ((mI M 169 8) - 1)) 175 (Int.toNat (mI (mUI M 169 8 ((mI M 169 8) - 1)) 169 8))), vI 0]) (rest := []) (k := 0) rfl (by omega) (ax_caV (pc := 44) dX8_liftLatest_44 kX8_put rfl rfl WM_X8_83 WI_X8_put WS_X8_put WN_X8 (ax_rcO (t := 6) (axEx hG rfl) rfl (by decide)) (Nat.le_of_ble_eq_true rfl)) kX8_put rfl True.intro (T_X8_put (by omega) hG r6) ?_
        refine x_iload_n (pc := 47) dX8_liftLatest_47 rfl ?_
        cases hf
        exact x_retI (pc := 48) dX8_liftLatest_48
      · replace hf := (if_neg h5).symm.trans hf
        cases hf
    · replace hf := (if_pos h3).symm.trans hf
      refine x_iconst (pc := 19) dX8_liftLatest_19 ⟨by decide, by decide⟩ ?_
      cases hf
      exact x_retI (pc := 20) dX8_liftLatest_20
/- HexPond$Pond.ownerAround(III)I -/
def fX8_ownerAround (M : ax_M) (a1 : Int) (a2 : Int) (a3 : Int) : Int :=
  (if a3 < 0 then (0) else (if a3 < 6 then (if (wr (a1 + (cA1.getD (Int.toNat a3) 0))) < 0 then (if (wr (a2 + (cA2.getD (Int.toNat a3) 0))) < 0 then (0) else (if (wr (a2 + (cA2.getD (Int.toNat a3) 0))) < (mI M 169 1) then (1) else (0))) else (if (wr (a1 + (cA1.getD (Int.toNat a3) 0))) < (mI M 169 0) then (if (wr (a2 + (cA2.getD (Int.toNat a3) 0))) < 0 then (2) else (if (wr (a2 + (cA2.getD (Int.toNat a3) 0))) < (mI M 169 1) then ((fX8_ownerAt M (fX8_cellAt M (wr (a1 + (cA1.getD (Int.toNat a3) 0))) (wr (a2 + (cA2.getD (Int.toNat a3) 0)))))) else (2))) else (if (wr (a2 + (cA2.getD (Int.toNat a3) 0))) < 0 then (0) else (if (wr (a2 + (cA2.getD (Int.toNat a3) 0))) < (mI M 169 1) then (1) else (0))))) else (0)))
theorem T_X8_ownerAround {G : ax_G} {d : Nat} (hd : 1 ≤ d) (hG : axPs G 169 176) {M : ax_M} {a1 : Int} {a2 : Int} {a3 : Int} {r : Int} (hf : fX8_ownerAround M a1 a2 a3 = r) : ax_Ex G tX8_ownerAround d 0 (ax_args [vR 169, vI a1, vI a2, vI a3] ++ List.replicate 4 none) [] M (.inl (some (vI r))) M := by
  show ax_Ex G tX8_ownerAround d 0 [some (vR 169), some (vI a1), some (vI a2), some (vI a3), none, none, none, none] [] M _ _
  unfold fX8_ownerAround at hf
  refine x_iload_n (pc := 0) dX8_ownerAround_0 rfl ?_
  refine ax_cmp1 (fun b2a b2b => ?_)
  refine x_iflt (tgt := 10) (pc := 1) dX8_ownerAround_1 rfl (fun h1 => ?_) (fun h1 => ?_)
  · replace hf := (if_pos h1).symm.trans hf
    refine x_iconst (pc := 10) dX8_ownerAround_10 ⟨by decide, by decide⟩ ?_
    subst hf
    exact x_retI (pc := 11) dX8_ownerAround_11
  · replace hf := (if_neg (Int.not_lt.mpr h1)).symm.trans hf
    refine x_iload_n (pc := 4) dX8_ownerAround_4 rfl ?_
    refine x_bipush (pc := 5) dX8_ownerAround_5 (by decide) ⟨by decide, by decide⟩ ?_
    refine ax_cmp (fun b4a b4b b4c b4e => ?_)
    refine x_icmplt (tgt := 12) (pc := 7) dX8_ownerAround_7 rfl (fun h3 => ?_) (fun h3 => ?_)
    · replace hf := (if_pos h3).symm.trans hf
      refine x_iload_n (pc := 12) dX8_ownerAround_12 rfl ?_
      refine x_getsN (v := vR 1) _ (pc := 13) dX8_ownerAround_13 (axS_mem (n := 0) rfl) rfl trivial NF_X8_56 ?_
      refine x_iload_n (pc := 16) dX8_ownerAround_16 rfl ?_
      refine x_cald2 cA1 (pc := 17) dX8_ownerAround_17 cA1_K cA1_in (by omega) (by have e9 : (cA1.length : Int) = 6 := rfl; omega) ?_
      refine x_iaddw (pc := 18) dX8_ownerAround_18 ?_
      refine x_istore (ls' := [some (vR 169), some (vI a1), some (vI a2), some (vI a3), some (vI (wr (a1 + (cA1.getD (Int.toNat a3) 0)))), none, none, none]) (pc := 19) dX8_ownerAround_19 (Nat.le_of_ble_eq_true rfl) rfl rfl ?_
      refine x_iload_n (pc := 21) dX8_ownerAround_21 rfl ?_
      refine x_getsN (v := vR 2) _ (pc := 22) dX8_ownerAround_22 (axS_mem (n := 1) rfl) rfl trivial NF_X8_59 ?_
      refine x_iload_n (pc := 25) dX8_ownerAround_25 rfl ?_
      refine x_cald2 cA2 (pc := 26) dX8_ownerAround_26 cA2_K cA2_in (by omega) (by have e9 : (cA2.length : Int) = 6 := rfl; omega) ?_
      refine x_iaddw (pc := 27) dX8_ownerAround_27 ?_
      refine x_istore (ls' := [some (vR 169), some (vI a1), some (vI a2), some (vI a3), some (vI (wr (a1 + (cA1.getD (Int.toNat a3) 0)))), some (vI (wr (a2 + (cA2.getD (Int.toNat a3) 0)))), none, none]) (pc := 28) dX8_ownerAround_28 (Nat.le_of_ble_eq_true rfl) rfl rfl ?_
      refine x_iload (pc := 30) dX8_ownerAround_30 rfl ?_
      refine ax_cmp1 (fun b6a b6b => ?_)
      refine x_iflt (tgt := 44) (pc := 32) dX8_ownerAround_32 rfl (fun h5 => ?_) (fun h5 => ?_)
      · replace hf := (if_pos h5).symm.trans hf
        refine x_iconst (pc := 44) dX8_ownerAround_44 ⟨by decide, by decide⟩ ?_
        refine x_goto (tgt := 49) (pc := 45) dX8_ownerAround_45 rfl ?_
        refine x_istore (ls' := [some (vR 169), some (vI a1), some (vI a2), some (vI a3), some (vI (wr (a1 + (cA1.getD (Int.toNat a3) 0)))), some (vI (wr (a2 + (cA2.getD (Int.toNat a3) 0)))), some (vI 1), none]) (pc := 49) dX8_ownerAround_49 (Nat.le_of_ble_eq_true rfl) rfl rfl ?_
        refine x_iload (pc := 51) dX8_ownerAround_51 rfl ?_
        refine ax_cmp1 (fun b8a b8b => ?_)
        refine x_iflt (tgt := 65) (pc := 53) dX8_ownerAround_53 rfl (fun h7 => ?_) (fun h7 => ?_)
        · replace hf := (if_pos h7).symm.trans hf
          refine x_iconst (pc := 65) dX8_ownerAround_65 ⟨by decide, by decide⟩ ?_
          refine x_goto (tgt := 70) (pc := 66) dX8_ownerAround_66 rfl ?_
          refine x_istore (ls' := [some (vR 169), some (vI a1), some (vI a2), some (vI a3), some (vI (wr (a1 + (cA1.getD (Int.toNat a3) 0)))), some (vI (wr (a2 + (cA2.getD (Int.toNat a3) 0)))), some (vI 1), some (vI 1)]) (pc := 70) dX8_ownerAround_70 (Nat.le_of_ble_eq_true rfl) rfl rfl ?_
          refine x_iload (pc := 72) dX8_ownerAround_72 rfl ?_
          refine x_ifeq (tgt := 84) (pc := 74) dX8_ownerAround_74 rfl (fun h9 => absurd h9 (by omega)) (fun h9 => ?_)
          refine x_iload (pc := 77) dX8_ownerAround_77 rfl ?_
          refine x_ifeq (tgt := 84) (pc := 79) dX8_ownerAround_79 rfl (fun h10 => absurd h10 (by omega)) (fun h10 => ?_)
          refine x_iconst (pc := 82) dX8_ownerAround_82 ⟨by decide, by decide⟩ ?_
          subst hf
          exact x_retI (pc := 83) dX8_ownerAround_83
        · replace hf := (if_neg (Int.not_lt.mpr h7)).symm.trans hf
          refine x_iload (pc := 56) dX8_ownerAround_56 rfl ?_
          refine x_aload_n (pc := 58) dX8_ownerAround_58 rfl ?_
          refine x_getI (t := 6) (j := 1) (pc := 59) dX8_ownerAround_59 (axEx hG rfl) rfl (by decide) (by decide) rfl WF_X8_38 ?_
          refine ax_cmp (fun b12a b12b b12c b12e => ?_)
          refine x_icmplt (tgt := 69) (pc := 62) dX8_ownerAround_62 rfl (fun h11 => ?_) (fun h11 => ?_)
          · replace hf := (if_pos h11).symm.trans hf
            refine x_iconst (pc := 69) dX8_ownerAround_69 ⟨by decide, by decide⟩ ?_
            refine x_istore (ls' := [some (vR 169), some (vI a1), some (vI a2), some (vI a3), some (vI (wr (a1 + (cA1.getD (Int.toNat a3) 0)))), some (vI (wr (a2 + (cA2.getD (Int.toNat a3) 0)))), some (vI 1), some (vI 0)]) (pc := 70) dX8_ownerAround_70 (Nat.le_of_ble_eq_true rfl) rfl rfl ?_
            refine x_iload (pc := 72) dX8_ownerAround_72 rfl ?_
            refine x_ifeq (tgt := 84) (pc := 74) dX8_ownerAround_74 rfl (fun h13 => absurd h13 (by omega)) (fun h13 => ?_)
            refine x_iload (pc := 77) dX8_ownerAround_77 rfl ?_
            refine x_ifeq (tgt := 84) (pc := 79) dX8_ownerAround_79 rfl (fun h14 => ?_) (fun h14 => absurd h14 (by omega))
            refine x_iload (pc := 84) dX8_ownerAround_84 rfl ?_
            refine x_ifeq (tgt := 91) (pc := 86) dX8_ownerAround_86 rfl (fun h15 => absurd h15 (by omega)) (fun h15 => ?_)
            refine x_iconst (pc := 89) dX8_ownerAround_89 ⟨by decide, by decide⟩ ?_
            subst hf
            exact x_retI (pc := 90) dX8_ownerAround_90
          · replace hf := (if_neg (Int.not_lt.mpr h11)).symm.trans hf
            refine x_iconst (pc := 65) dX8_ownerAround_65 ⟨by decide, by decide⟩ ?_
            refine x_goto (tgt := 70) (pc := 66) dX8_ownerAround_66 rfl ?_
            refine x_istore (ls' := [some (vR 169), some (vI a1), some (vI a2), some (vI a3), some (vI (wr (a1 + (cA1.getD (Int.toNat a3) 0)))), some (vI (wr (a2 + (cA2.getD (Int.toNat a3) 0)))), some (vI 1), some (vI 1)]) (pc := 70) dX8_ownerAround_70 (Nat.le_of_ble_eq_true rfl) rfl rfl ?_
            refine x_iload (pc := 72) dX8_ownerAround_72 rfl ?_
            refine x_ifeq (tgt := 84) (pc := 74) dX8_ownerAround_74 rfl (fun h16 => absurd h16 (by omega)) (fun h16 => ?_)
            refine x_iload (pc := 77) dX8_ownerAround_77 rfl ?_
            refine x_ifeq (tgt := 84) (pc := 79) dX8_ownerAround_79 rfl (fun h17 => absurd h17 (by omega)) (fun h17 => ?_)
            refine x_iconst (pc := 82) dX8_ownerAround_82 ⟨by decide, by decide⟩ ?_
            subst hf
            exact x_retI (pc := 83) dX8_ownerAround_83
      · replace hf := (if_neg (Int.not_lt.mpr h5)).symm.trans hf
        refine x_iload (pc := 35) dX8_ownerAround_35 rfl ?_
        refine x_aload_n (pc := 37) dX8_ownerAround_37 rfl ?_
        refine x_getI (t := 6) (j := 0) (pc := 38) dX8_ownerAround_38 (axEx hG rfl) rfl (by decide) (by decide) rfl WF_X8_34 ?_
        refine ax_cmp (fun b19a b19b b19c b19e => ?_)
        refine x_icmplt (tgt := 48) (pc := 41) dX8_ownerAround_41 rfl (fun h18 => ?_) (fun h18 => ?_)
        · replace hf := (if_pos h18).symm.trans hf
          refine x_iconst (pc := 48) dX8_ownerAround_48 ⟨by decide, by decide⟩ ?_
          refine x_istore (ls' := [some (vR 169), some (vI a1), some (vI a2), some (vI a3), some (vI (wr (a1 + (cA1.getD (Int.toNat a3) 0)))), some (vI (wr (a2 + (cA2.getD (Int.toNat a3) 0)))), some (vI 0), none]) (pc := 49) dX8_ownerAround_49 (Nat.le_of_ble_eq_true rfl) rfl rfl ?_
          refine x_iload (pc := 51) dX8_ownerAround_51 rfl ?_
          refine ax_cmp1 (fun b21a b21b => ?_)
          refine x_iflt (tgt := 65) (pc := 53) dX8_ownerAround_53 rfl (fun h20 => ?_) (fun h20 => ?_)
          · replace hf := (if_pos h20).symm.trans hf
            refine x_iconst (pc := 65) dX8_ownerAround_65 ⟨by decide, by decide⟩ ?_
            refine x_goto (tgt := 70) (pc := 66) dX8_ownerAround_66 rfl ?_
            refine x_istore (ls' := [some (vR 169), some (vI a1), some (vI a2), some (vI a3), some (vI (wr (a1 + (cA1.getD (Int.toNat a3) 0)))), some (vI (wr (a2 + (cA2.getD (Int.toNat a3) 0)))), some (vI 0), some (vI 1)]) (pc := 70) dX8_ownerAround_70 (Nat.le_of_ble_eq_true rfl) rfl rfl ?_
            refine x_iload (pc := 72) dX8_ownerAround_72 rfl ?_
            refine x_ifeq (tgt := 84) (pc := 74) dX8_ownerAround_74 rfl (fun h22 => ?_) (fun h22 => absurd h22 (by omega))
            refine x_iload (pc := 84) dX8_ownerAround_84 rfl ?_
            refine x_ifeq (tgt := 91) (pc := 86) dX8_ownerAround_86 rfl (fun h23 => ?_) (fun h23 => absurd h23 (by omega))
            refine x_iload (pc := 91) dX8_ownerAround_91 rfl ?_
            refine x_ifeq (tgt := 100) (pc := 93) dX8_ownerAround_93 rfl (fun h24 => absurd h24 (by omega)) (fun h24 => ?_)
            refine x_iconst (pc := 96) dX8_ownerAround_96 ⟨by decide, by decide⟩ ?_
            refine x_goto (tgt := 112) (pc := 97) dX8_ownerAround_97 rfl ?_
            subst hf
            exact x_retI (pc := 112) dX8_ownerAround_112
          · replace hf := (if_neg (Int.not_lt.mpr h20)).symm.trans hf
            refine x_iload (pc := 56) dX8_ownerAround_56 rfl ?_
            refine x_aload_n (pc := 58) dX8_ownerAround_58 rfl ?_
            refine x_getI (t := 6) (j := 1) (pc := 59) dX8_ownerAround_59 (axEx hG rfl) rfl (by decide) (by decide) rfl WF_X8_38 ?_
            refine ax_cmp (fun b26a b26b b26c b26e => ?_)
            refine x_icmplt (tgt := 69) (pc := 62) dX8_ownerAround_62 rfl (fun h25 => ?_) (fun h25 => ?_)
            · replace hf := (if_pos h25).symm.trans hf
              refine x_iconst (pc := 69) dX8_ownerAround_69 ⟨by decide, by decide⟩ ?_
              refine x_istore (ls' := [some (vR 169), some (vI a1), some (vI a2), some (vI a3), some (vI (wr (a1 + (cA1.getD (Int.toNat a3) 0)))), some (vI (wr (a2 + (cA2.getD (Int.toNat a3) 0)))), some (vI 0), some (vI 0)]) (pc := 70) dX8_ownerAround_70 (Nat.le_of_ble_eq_true rfl) rfl rfl ?_
              refine x_iload (pc := 72) dX8_ownerAround_72 rfl ?_
              refine x_ifeq (tgt := 84) (pc := 74) dX8_ownerAround_74 rfl (fun h27 => ?_) (fun h27 => absurd h27 (by omega))
              refine x_iload (pc := 84) dX8_ownerAround_84 rfl ?_
              refine x_ifeq (tgt := 91) (pc := 86) dX8_ownerAround_86 rfl (fun h28 => ?_) (fun h28 => absurd h28 (by omega))
              refine x_iload (pc := 91) dX8_ownerAround_91 rfl ?_
              refine x_ifeq (tgt := 100) (pc := 93) dX8_ownerAround_93 rfl (fun h29 => ?_) (fun h29 => absurd h29 (by omega))
              refine x_aload_n (pc := 100) dX8_ownerAround_100 rfl ?_
              refine x_aload_n (pc := 101) dX8_ownerAround_101 rfl ?_
              refine x_iload (pc := 102) dX8_ownerAround_102 rfl ?_
              refine x_iload (pc := 104) dX8_ownerAround_104 rfl ?_
              refine x_cr (v := vI (fX8_cellAt M (wr (a1 + (cA1.getD (Int.toNat a3) 0))) (wr (a2 + (cA2.getD (Int.toNat a3) 0))))) (vs := [vR 169, vI (wr (a1 + (cA1.getD (Int.toNat a3) 0))), vI (wr (a2 + (cA2.getD (Int.toNat a3) 0)))]) (rest := [vR 169]) (k := 1) rfl (by omega) (ax_caV (pc := 106) dX8_ownerAround_106 kX8_cellAt rfl rfl WM_X8_62 WI_X8_cellAt WS_X8_cellAt WN_X8 (ax_rcO (t := 6) (axEx hG rfl) rfl (by decide)) (Nat.le_of_ble_eq_true rfl)) kX8_cellAt rfl True.intro (T_X8_cellAt (by omega) hG rfl) ?_
              refine x_cr (v := vI (fX8_ownerAt M (fX8_cellAt M (wr (a1 + (cA1.getD (Int.toNat a3) 0))) (wr (a2 + (cA2.getD (Int.toNat a3) 0)))))) (vs := [vR 169, vI (fX8_cellAt M (wr (a1 + (cA1.getD (Int.toNat a3) 0))) (wr (a2 + (cA2.getD (Int.toNat a3) 0))))]) (rest := []) (k := 0) rfl (by omega) (ax_caV (pc := 109) dX8_ownerAround_109 kX8_ownerAt rfl rfl WM_X8_90 WI_X8_ownerAt WS_X8_ownerAt WN_X8 (ax_rcO (t := 6) (axEx hG rfl) rfl (by decide)) (Nat.le_of_ble_eq_true rfl)) kX8_ownerAt rfl True.intro (T_X8_ownerAt (by omega) hG rfl) ?_
              subst hf
              exact x_retI (pc := 112) dX8_ownerAround_112
            · replace hf := (if_neg (Int.not_lt.mpr h25)).symm.trans hf
              refine x_iconst (pc := 65) dX8_ownerAround_65 ⟨by decide, by decide⟩ ?_
              refine x_goto (tgt := 70) (pc := 66) dX8_ownerAround_66 rfl ?_
              refine x_istore (ls' := [some (vR 169), some (vI a1), some (vI a2), some (vI a3), some (vI (wr (a1 + (cA1.getD (Int.toNat a3) 0)))), some (vI (wr (a2 + (cA2.getD (Int.toNat a3) 0)))), some (vI 0), some (vI 1)]) (pc := 70) dX8_ownerAround_70 (Nat.le_of_ble_eq_true rfl) rfl rfl ?_
              refine x_iload (pc := 72) dX8_ownerAround_72 rfl ?_
              refine x_ifeq (tgt := 84) (pc := 74) dX8_ownerAround_74 rfl (fun h30 => ?_) (fun h30 => absurd h30 (by omega))
              refine x_iload (pc := 84) dX8_ownerAround_84 rfl ?_
              refine x_ifeq (tgt := 91) (pc := 86) dX8_ownerAround_86 rfl (fun h31 => ?_) (fun h31 => absurd h31 (by omega))
              refine x_iload (pc := 91) dX8_ownerAround_91 rfl ?_
              refine x_ifeq (tgt := 100) (pc := 93) dX8_ownerAround_93 rfl (fun h32 => absurd h32 (by omega)) (fun h32 => ?_)
              refine x_iconst (pc := 96) dX8_ownerAround_96 ⟨by decide, by decide⟩ ?_
              refine x_goto (tgt := 112) (pc := 97) dX8_ownerAround_97 rfl ?_
              subst hf
              exact x_retI (pc := 112) dX8_ownerAround_112
        · replace hf := (if_neg (Int.not_lt.mpr h18)).symm.trans hf
          refine x_iconst (pc := 44) dX8_ownerAround_44 ⟨by decide, by decide⟩ ?_
          refine x_goto (tgt := 49) (pc := 45) dX8_ownerAround_45 rfl ?_
          refine x_istore (ls' := [some (vR 169), some (vI a1), some (vI a2), some (vI a3), some (vI (wr (a1 + (cA1.getD (Int.toNat a3) 0)))), some (vI (wr (a2 + (cA2.getD (Int.toNat a3) 0)))), some (vI 1), none]) (pc := 49) dX8_ownerAround_49 (Nat.le_of_ble_eq_true rfl) rfl rfl ?_
          refine x_iload (pc := 51) dX8_ownerAround_51 rfl ?_
          refine ax_cmp1 (fun b34a b34b => ?_)
          refine x_iflt (tgt := 65) (pc := 53) dX8_ownerAround_53 rfl (fun h33 => ?_) (fun h33 => ?_)
          · replace hf := (if_pos h33).symm.trans hf
            refine x_iconst (pc := 65) dX8_ownerAround_65 ⟨by decide, by decide⟩ ?_
            refine x_goto (tgt := 70) (pc := 66) dX8_ownerAround_66 rfl ?_
            refine x_istore (ls' := [some (vR 169), some (vI a1), some (vI a2), some (vI a3), some (vI (wr (a1 + (cA1.getD (Int.toNat a3) 0)))), some (vI (wr (a2 + (cA2.getD (Int.toNat a3) 0)))), some (vI 1), some (vI 1)]) (pc := 70) dX8_ownerAround_70 (Nat.le_of_ble_eq_true rfl) rfl rfl ?_
            refine x_iload (pc := 72) dX8_ownerAround_72 rfl ?_
            refine x_ifeq (tgt := 84) (pc := 74) dX8_ownerAround_74 rfl (fun h35 => absurd h35 (by omega)) (fun h35 => ?_)
            refine x_iload (pc := 77) dX8_ownerAround_77 rfl ?_
            refine x_ifeq (tgt := 84) (pc := 79) dX8_ownerAround_79 rfl (fun h36 => absurd h36 (by omega)) (fun h36 => ?_)
            refine x_iconst (pc := 82) dX8_ownerAround_82 ⟨by decide, by decide⟩ ?_
            subst hf
            exact x_retI (pc := 83) dX8_ownerAround_83
          · replace hf := (if_neg (Int.not_lt.mpr h33)).symm.trans hf
            refine x_iload (pc := 56) dX8_ownerAround_56 rfl ?_
            refine x_aload_n (pc := 58) dX8_ownerAround_58 rfl ?_
            refine x_getI (t := 6) (j := 1) (pc := 59) dX8_ownerAround_59 (axEx hG rfl) rfl (by decide) (by decide) rfl WF_X8_38 ?_
            refine ax_cmp (fun b38a b38b b38c b38e => ?_)
            refine x_icmplt (tgt := 69) (pc := 62) dX8_ownerAround_62 rfl (fun h37 => ?_) (fun h37 => ?_)
            · replace hf := (if_pos h37).symm.trans hf
              refine x_iconst (pc := 69) dX8_ownerAround_69 ⟨by decide, by decide⟩ ?_
              refine x_istore (ls' := [some (vR 169), some (vI a1), some (vI a2), some (vI a3), some (vI (wr (a1 + (cA1.getD (Int.toNat a3) 0)))), some (vI (wr (a2 + (cA2.getD (Int.toNat a3) 0)))), some (vI 1), some (vI 0)]) (pc := 70) dX8_ownerAround_70 (Nat.le_of_ble_eq_true rfl) rfl rfl ?_
              refine x_iload (pc := 72) dX8_ownerAround_72 rfl ?_
              refine x_ifeq (tgt := 84) (pc := 74) dX8_ownerAround_74 rfl (fun h39 => absurd h39 (by omega)) (fun h39 => ?_)
              refine x_iload (pc := 77) dX8_ownerAround_77 rfl ?_
              refine x_ifeq (tgt := 84) (pc := 79) dX8_ownerAround_79 rfl (fun h40 => ?_) (fun h40 => absurd h40 (by omega))
              refine x_iload (pc := 84) dX8_ownerAround_84 rfl ?_
              refine x_ifeq (tgt := 91) (pc := 86) dX8_ownerAround_86 rfl (fun h41 => absurd h41 (by omega)) (fun h41 => ?_)
              refine x_iconst (pc := 89) dX8_ownerAround_89 ⟨by decide, by decide⟩ ?_
              subst hf
              exact x_retI (pc := 90) dX8_ownerAround_90
            · replace hf := (if_neg (Int.not_lt.mpr h37)).symm.trans hf
              refine x_iconst (pc := 65) dX8_ownerAround_65 ⟨by decide, by decide⟩ ?_
              refine x_goto (tgt := 70) (pc := 66) dX8_ownerAround_66 rfl ?_
              refine x_istore (ls' := [some (vR 169), some (vI a1), some (vI a2), some (vI a3), some (vI (wr (a1 + (cA1.getD (Int.toNat a3) 0)))), some (vI (wr (a2 + (cA2.getD (Int.toNat a3) 0)))), some (vI 1), some (vI 1)]) (pc := 70) dX8_ownerAround_70 (Nat.le_of_ble_eq_true rfl) rfl rfl ?_
              refine x_iload (pc := 72) dX8_ownerAround_72 rfl ?_
              refine x_ifeq (tgt := 84) (pc := 74) dX8_ownerAround_74 rfl (fun h42 => absurd h42 (by omega)) (fun h42 => ?_)
              refine x_iload (pc := 77) dX8_ownerAround_77 rfl ?_
              refine x_ifeq (tgt := 84) (pc := 79) dX8_ownerAround_79 rfl (fun h43 => absurd h43 (by omega)) (fun h43 => ?_)
              refine x_iconst (pc := 82) dX8_ownerAround_82 ⟨by decide, by decide⟩ ?_
              subst hf
              exact x_retI (pc := 83) dX8_ownerAround_83
    · replace hf := (if_neg (Int.not_lt.mpr h3)).symm.trans hf
      refine x_iconst (pc := 10) dX8_ownerAround_10 ⟨by decide, by decide⟩ ?_
      subst hf
      exact x_retI (pc := 11) dX8_ownerAround_11
/- HexPond$Pond.isIced(I)Z -/
def fX8_isIced_b26 (M : ax_M) (x1 : Int) (v2 : Int) (v3 : Int) (v4 : Int) : Option ((Int × Int × Int) ⊕ (Unit ⊕ Unit)) :=
  (if v4 < 9 then (if 0 ≤ x1 ∧ x1 < 81 then (if (fX8_ownerAround M (mI M 172 (Int.toNat x1)) (mI M 173 (Int.toNat x1)) (Int.tmod v4 6)) = v3 then (if (fX8_ownerAround M (mI M 172 (Int.toNat x1)) (mI M 173 (Int.toNat x1)) (Int.tmod v4 6)) = 0 then (some (.inl ((wr (v2 + 1)), (fX8_ownerAround M (mI M 172 (Int.toNat x1)) (mI M 173 (Int.toNat x1)) (Int.tmod v4 6)), (v4 + 1)))) else (if (wr (v2 + 1)) < 4 then (some (.inl ((wr (v2 + 1)), (fX8_ownerAround M (mI M 172 (Int.toNat x1)) (mI M 173 (Int.toNat x1)) (Int.tmod v4 6)), (v4 + 1)))) else (some (.inr (.inl ()))))) else (if (fX8_ownerAround M (mI M 172 (Int.toNat x1)) (mI M 173 (Int.toNat x1)) (Int.tmod v4 6)) = 0 then (some (.inl (1, (fX8_ownerAround M (mI M 172 (Int.toNat x1)) (mI M 173 (Int.toNat x1)) (Int.tmod v4 6)), (v4 + 1)))) else (some (.inl (1, (fX8_ownerAround M (mI M 172 (Int.toNat x1)) (mI M 173 (Int.toNat x1)) (Int.tmod v4 6)), (v4 + 1)))))) else none) else (some (.inr (.inr ()))))
def fX8_isIced (M : ax_M) (a1 : Int) : Option Int :=
  (if (fX8_hasCell M a1) = 0 then (some 0) else (if 0 ≤ a1 ∧ a1 < 81 then (if (mI M 170 (Int.toNat a1)) = 0 then (bdS (lp (fun s => fX8_isIced_b26 M a1 s.1 s.2.1 s.2.2) lpN (0, 0, 0)) (fun t13 => (some 1)) (fun t15 => (some 0))) else (some 0)) else none))
theorem B_X8_isIced_26 {G : ax_G} {d : Nat} (hd : 2 ≤ d) (hG : axPs G 169 176) {M : ax_M} {x1 : Int} {v2 : Int} {v3 : Int} {v4 : Int} {o : Option ax_V ⊕ String} {M' : ax_M} {y : (Int × Int × Int) ⊕ (Unit ⊕ Unit)} (hf : fX8_isIced_b26 M x1 v2 v3 v4 = some y) (h1 : ∀ s', y = .inl s' → ax_Ex G tX8_isIced d 26 [some (vR 169), some (vI x1), some (vI s'.1), some (vI s'.2.1), some (vI s'.2.2), none] [] M o M') (h2a : ∀ t, y = .inr (.inl t) → ax_Ex G tX8_isIced d 83 [some (vR 169), some (vI x1), none, none, none, none] [] M o M') (h2b : ∀ t, y = .inr (.inr t) → ax_Ex G tX8_isIced d 91 [some (vR 169), some (vI x1), none, none, none, none] [] M o M') : ax_Ex G tX8_isIced d 26 [some (vR 169), some (vI x1), some (vI v2), some (vI v3), some (vI v4), none] [] M o M' := by
  unfold fX8_isIced_b26 at hf
  refine x_iload (pc := 26) dX8_isIced_26 rfl ?_
  refine x_bipush (pc := 28) dX8_isIced_28 (by decide) ⟨by decide, by decide⟩ ?_
  refine ax_cmp (fun b5a b5b b5c b5e => ?_)
  refine x_icmpge (tgt := 91) (pc := 30) dX8_isIced_30 rfl (fun h4 => ?_) (fun h4 => ?_)
  · replace hf := (if_neg (Int.not_lt.mpr h4)).symm.trans hf
    cases hf
    exact x_fgt (axS' (axS' (axN' (axN' (axN' (axN' axD)))))) (h2b _ rfl)
  · replace hf := (if_pos h4).symm.trans hf
    refine x_aload_n (pc := 33) dX8_isIced_33 rfl ?_
    refine x_aload_n (pc := 34) dX8_isIced_34 rfl ?_
    refine x_getF (t := 6) (j := 4) (r := 172) (pc := 35) dX8_isIced_35 (axH hG rfl) (axEx hG rfl) rfl (by decide) (by decide) rfl rfl WF_X8_18 ?_
    refine x_iload_n (pc := 38) dX8_isIced_38 rfl ?_
    by_cases h6 : 0 ≤ x1 ∧ x1 < 81
    · replace hf := (if_pos h6).symm.trans hf
      refine x_iald2 (n := 81) (pc := 39) dX8_isIced_39 (axEx hG rfl) rfl h6.1 h6.2 ?_
      refine x_aload_n (pc := 40) dX8_isIced_40 rfl ?_
      refine x_getF (t := 6) (j := 5) (r := 173) (pc := 41) dX8_isIced_41 (axH hG rfl) (axEx hG rfl) rfl (by decide) (by decide) rfl rfl WF_X8_21 ?_
      refine x_iload_n (pc := 44) dX8_isIced_44 rfl ?_
      refine x_iald2 (n := 81) (pc := 45) dX8_isIced_45 (axEx hG rfl) rfl (by omega) (by omega) ?_
      refine x_iload (pc := 46) dX8_isIced_46 rfl ?_
      refine x_bipush (pc := 48) dX8_isIced_48 (by decide) ⟨by decide, by decide⟩ ?_
      refine x_iremT (pc := 50) dX8_isIced_50 (by omega) ?_
      refine x_cr (v := vI (fX8_ownerAround M (mI M 172 (Int.toNat x1)) (mI M 173 (Int.toNat x1)) (Int.tmod v4 6))) (vs := [vR 169, vI (mI M 172 (Int.toNat x1)), vI (mI M 173 (Int.toNat x1)), vI (Int.tmod v4 6)]) (rest := []) (k := 4) rfl (by omega) (ax_caV (pc := 51) dX8_isIced_51 kX8_ownerAround rfl rfl WM_X8_86 WI_X8_ownerAround WS_X8_ownerAround WN_X8 (ax_rcO (t := 6) (axEx hG rfl) rfl (by decide)) (Nat.le_of_ble_eq_true rfl)) kX8_ownerAround rfl True.intro (T_X8_ownerAround (by omega) hG rfl) ?_
      refine x_istore (ls' := [some (vR 169), some (vI x1), some (vI v2), some (vI v3), some (vI v4), some (vI (fX8_ownerAround M (mI M 172 (Int.toNat x1)) (mI M 173 (Int.toNat x1)) (Int.tmod v4 6)))]) (pc := 54) dX8_isIced_54 (Nat.le_of_ble_eq_true rfl) rfl rfl ?_
      refine x_iload (pc := 56) dX8_isIced_56 rfl ?_
      refine x_iload_n (pc := 58) dX8_isIced_58 rfl ?_
      refine x_icmpne (tgt := 68) (pc := 59) dX8_isIced_59 rfl (fun h7 => ?_) (fun h7 => ?_)
      · replace hf := (if_neg h7).symm.trans hf
        refine x_iconst (pc := 68) dX8_isIced_68 ⟨by decide, by decide⟩ ?_
        refine x_istore_n (ls' := [some (vR 169), some (vI x1), some (vI 1), some (vI v3), some (vI v4), some (vI (fX8_ownerAround M (mI M 172 (Int.toNat x1)) (mI M 173 (Int.toNat x1)) (Int.tmod v4 6)))]) (pc := 69) dX8_isIced_69 (Nat.le_of_ble_eq_true rfl) rfl rfl ?_
        refine x_iload (pc := 70) dX8_isIced_70 rfl ?_
        refine x_istore_n (ls' := [some (vR 169), some (vI x1), some (vI 1), some (vI (fX8_ownerAround M (mI M 172 (Int.toNat x1)) (mI M 173 (Int.toNat x1)) (Int.tmod v4 6))), some (vI v4), some (vI (fX8_ownerAround M (mI M 172 (Int.toNat x1)) (mI M 173 (Int.toNat x1)) (Int.tmod v4 6)))]) (pc := 72) dX8_isIced_72 (Nat.le_of_ble_eq_true rfl) rfl rfl ?_
        refine x_iload (pc := 73) dX8_isIced_73 rfl ?_
        refine x_ifeq (tgt := 85) (pc := 75) dX8_isIced_75 rfl (fun h11 => ?_) (fun h11 => ?_)
        · replace hf := (if_pos h11).symm.trans hf
          refine x_iinc (z := (v4 + 1)) (ls' := [some (vR 169), some (vI x1), some (vI 1), some (vI (fX8_ownerAround M (mI M 172 (Int.toNat x1)) (mI M 173 (Int.toNat x1)) (Int.tmod v4 6))), some (vI (v4 + 1)), some (vI (fX8_ownerAround M (mI M 172 (Int.toNat x1)) (mI M 173 (Int.toNat x1)) (Int.tmod v4 6)))]) (pc := 85) dX8_isIced_85 rfl (Nat.le_of_ble_eq_true rfl) rfl rfl (ax_i (by omega) (by omega)) rfl ?_
          refine x_goto (tgt := 26) (pc := 88) dX8_isIced_88 rfl ?_
          cases hf
          exact x_fgt (axS' (axS' (axS' (axS' (axS' (axN' axD)))))) (h1 _ rfl)
        · replace hf := (if_neg h11).symm.trans hf
          refine x_iload_n (pc := 78) dX8_isIced_78 rfl ?_
          refine x_iconst (pc := 79) dX8_isIced_79 ⟨by decide, by decide⟩ ?_
          refine x_icmplt (tgt := 85) (pc := 80) dX8_isIced_80 rfl (fun h12 => ?_) (fun h12 => absurd h12 (by omega))
          refine x_iinc (z := (v4 + 1)) (ls' := [some (vR 169), some (vI x1), some (vI 1), some (vI (fX8_ownerAround M (mI M 172 (Int.toNat x1)) (mI M 173 (Int.toNat x1)) (Int.tmod v4 6))), some (vI (v4 + 1)), some (vI (fX8_ownerAround M (mI M 172 (Int.toNat x1)) (mI M 173 (Int.toNat x1)) (Int.tmod v4 6)))]) (pc := 85) dX8_isIced_85 rfl (Nat.le_of_ble_eq_true rfl) rfl rfl (ax_i (by omega) (by omega)) rfl ?_
          refine x_goto (tgt := 26) (pc := 88) dX8_isIced_88 rfl ?_
          cases hf
          exact x_fgt (axS' (axS' (axS' (axS' (axS' (axN' axD)))))) (h1 _ rfl)
      · replace hf := (if_pos h7).symm.trans hf
        refine x_iload_n (pc := 62) dX8_isIced_62 rfl ?_
        refine x_iconst (pc := 63) dX8_isIced_63 ⟨by decide, by decide⟩ ?_
        refine x_iaddw (pc := 64) dX8_isIced_64 ?_
        refine x_goto (tgt := 69) (pc := 65) dX8_isIced_65 rfl ?_
        refine x_istore_n (ls' := [some (vR 169), some (vI x1), some (vI (wr (v2 + 1))), some (vI v3), some (vI v4), some (vI (fX8_ownerAround M (mI M 172 (Int.toNat x1)) (mI M 173 (Int.toNat x1)) (Int.tmod v4 6)))]) (pc := 69) dX8_isIced_69 (Nat.le_of_ble_eq_true rfl) rfl rfl ?_
        refine x_iload (pc := 70) dX8_isIced_70 rfl ?_
        refine x_istore_n (ls' := [some (vR 169), some (vI x1), some (vI (wr (v2 + 1))), some (vI (fX8_ownerAround M (mI M 172 (Int.toNat x1)) (mI M 173 (Int.toNat x1)) (Int.tmod v4 6))), some (vI v4), some (vI (fX8_ownerAround M (mI M 172 (Int.toNat x1)) (mI M 173 (Int.toNat x1)) (Int.tmod v4 6)))]) (pc := 72) dX8_isIced_72 (Nat.le_of_ble_eq_true rfl) rfl rfl ?_
        refine x_iload (pc := 73) dX8_isIced_73 rfl ?_
        refine x_ifeq (tgt := 85) (pc := 75) dX8_isIced_75 rfl (fun h8 => ?_) (fun h8 => ?_)
        · replace hf := (if_pos h8).symm.trans hf
          refine x_iinc (z := (v4 + 1)) (ls' := [some (vR 169), some (vI x1), some (vI (wr (v2 + 1))), some (vI (fX8_ownerAround M (mI M 172 (Int.toNat x1)) (mI M 173 (Int.toNat x1)) (Int.tmod v4 6))), some (vI (v4 + 1)), some (vI (fX8_ownerAround M (mI M 172 (Int.toNat x1)) (mI M 173 (Int.toNat x1)) (Int.tmod v4 6)))]) (pc := 85) dX8_isIced_85 rfl (Nat.le_of_ble_eq_true rfl) rfl rfl (ax_i (by omega) (by omega)) rfl ?_
          refine x_goto (tgt := 26) (pc := 88) dX8_isIced_88 rfl ?_
          cases hf
          exact x_fgt (axS' (axS' (axS' (axS' (axS' (axN' axD)))))) (h1 _ rfl)
        · replace hf := (if_neg h8).symm.trans hf
          refine x_iload_n (pc := 78) dX8_isIced_78 rfl ?_
          refine x_iconst (pc := 79) dX8_isIced_79 ⟨by decide, by decide⟩ ?_
          refine ax_cmp (fun b10a b10b b10c b10e => ?_)
          refine x_icmplt (tgt := 85) (pc := 80) dX8_isIced_80 rfl (fun h9 => ?_) (fun h9 => ?_)
          · replace hf := (if_pos h9).symm.trans hf
            refine x_iinc (z := (v4 + 1)) (ls' := [some (vR 169), some (vI x1), some (vI (wr (v2 + 1))), some (vI (fX8_ownerAround M (mI M 172 (Int.toNat x1)) (mI M 173 (Int.toNat x1)) (Int.tmod v4 6))), some (vI (v4 + 1)), some (vI (fX8_ownerAround M (mI M 172 (Int.toNat x1)) (mI M 173 (Int.toNat x1)) (Int.tmod v4 6)))]) (pc := 85) dX8_isIced_85 rfl (Nat.le_of_ble_eq_true rfl) rfl rfl (ax_i (by omega) (by omega)) rfl ?_
            refine x_goto (tgt := 26) (pc := 88) dX8_isIced_88 rfl ?_
            cases hf
            exact x_fgt (axS' (axS' (axS' (axS' (axS' (axN' axD)))))) (h1 _ rfl)
          · replace hf := (if_neg (Int.not_lt.mpr h9)).symm.trans hf
            cases hf
            exact x_fgt (axS' (axS' (axN' (axN' (axN' (axN' axD)))))) (h2a _ rfl)
    · replace hf := (if_neg h6).symm.trans hf
      cases hf
theorem T_X8_isIced {G : ax_G} {d : Nat} (hd : 2 ≤ d) (hG : axPs G 169 176) {M : ax_M} {a1 : Int} {r : Int} (hf : fX8_isIced M a1 = some r) : ax_Ex G tX8_isIced d 0 (ax_args [vR 169, vI a1] ++ List.replicate 4 none) [] M (.inl (some (vI r))) M := by
  show ax_Ex G tX8_isIced d 0 [some (vR 169), some (vI a1), none, none, none, none] [] M _ _
  unfold fX8_isIced at hf
  refine x_aload_n (pc := 0) dX8_isIced_0 rfl ?_
  refine x_iload_n (pc := 1) dX8_isIced_1 rfl ?_
  refine x_cr (v := vI (fX8_hasCell M a1)) (vs := [vR 169, vI a1]) (rest := []) (k := 0) rfl (by omega) (ax_caV (pc := 2) dX8_isIced_2 kX8_hasCell rfl rfl WM_X8_76 WI_X8_hasCell WS_X8_hasCell WN_X8 (ax_rcO (t := 6) (axEx hG rfl) rfl (by decide)) (Nat.le_of_ble_eq_true rfl)) kX8_hasCell rfl (Z_X8_hasCell rfl) (T_X8_hasCell (by omega) hG rfl) ?_
  refine x_ifeq (tgt := 17) (pc := 5) dX8_isIced_5 rfl (fun h1 => ?_) (fun h1 => ?_)
  · replace hf := (if_pos h1).symm.trans hf
    refine x_iconst (pc := 17) dX8_isIced_17 ⟨by decide, by decide⟩ ?_
    cases hf
    exact x_retI (pc := 18) dX8_isIced_18
  · replace hf := (if_neg h1).symm.trans hf
    refine x_aload_n (pc := 8) dX8_isIced_8 rfl ?_
    refine x_getF (t := 6) (j := 2) (r := 170) (pc := 9) dX8_isIced_9 (axH hG rfl) (axEx hG rfl) rfl (by decide) (by decide) rfl rfl WF_X8_9 ?_
    refine x_iload_n (pc := 12) dX8_isIced_12 rfl ?_
    by_cases h2 : 0 ≤ a1 ∧ a1 < 81
    · replace hf := (if_pos h2).symm.trans hf
      refine x_iald2 (n := 81) (pc := 13) dX8_isIced_13 (axEx hG rfl) rfl h2.1 h2.2 ?_
      refine x_ifeq (tgt := 19) (pc := 14) dX8_isIced_14 rfl (fun h3 => ?_) (fun h3 => ?_)
      · replace hf := (if_pos h3).symm.trans hf
        refine x_iconst (pc := 19) dX8_isIced_19 ⟨by decide, by decide⟩ ?_
        refine x_istore_n (ls' := [some (vR 169), some (vI a1), some (vI 0), none, none, none]) (pc := 20) dX8_isIced_20 (Nat.le_of_ble_eq_true rfl) rfl rfl ?_
        refine x_iconst (pc := 21) dX8_isIced_21 ⟨by decide, by decide⟩ ?_
        refine x_istore_n (ls' := [some (vR 169), some (vI a1), some (vI 0), some (vI 0), none, none]) (pc := 22) dX8_isIced_22 (Nat.le_of_ble_eq_true rfl) rfl rfl ?_
        refine x_iconst (pc := 23) dX8_isIced_23 ⟨by decide, by decide⟩ ?_
        refine x_istore (ls' := [some (vR 169), some (vI a1), some (vI 0), some (vI 0), some (vI 0), none]) (pc := 24) dX8_isIced_24 (Nat.le_of_ble_eq_true rfl) rfl rfl ?_
        rcases bdS_some hf with ⟨t13, t14, hf⟩ | ⟨t15, t16, hf⟩
        · refine lp_ex (P := (fun s => ax_Ex G tX8_isIced d 26 [some (vR 169), some (vI a1), some (vI s.1), some (vI s.2.1), some (vI s.2.2), none] [] M _ _)) (K := (fun r => (∀ t, r = .inl t → ax_Ex G tX8_isIced d 83 [some (vR 169), some (vI a1), none, none, none, none] [] M _ _) ∧ (∀ t, r = .inr t → ax_Ex G tX8_isIced d 91 [some (vR 169), some (vI a1), none, none, none, none] [] M _ _))) (fun s y hy h1 h2 => B_X8_isIced_26 (by omega) hG hy (fun s' e => h1 s' e) (fun t e => (h2 _ e).1 t rfl) (fun t e => (h2 _ e).2 t rfl)) _ _ _ t14 ?_
          refine ⟨fun t e => ?_, fun t e => (by cases e)⟩
          cases e
          refine x_iconst (pc := 83) dX8_isIced_83 ⟨by decide, by decide⟩ ?_
          cases hf
          exact x_retI (pc := 84) dX8_isIced_84
        · refine lp_ex (P := (fun s => ax_Ex G tX8_isIced d 26 [some (vR 169), some (vI a1), some (vI s.1), some (vI s.2.1), some (vI s.2.2), none] [] M _ _)) (K := (fun r => (∀ t, r = .inl t → ax_Ex G tX8_isIced d 83 [some (vR 169), some (vI a1), none, none, none, none] [] M _ _) ∧ (∀ t, r = .inr t → ax_Ex G tX8_isIced d 91 [some (vR 169), some (vI a1), none, none, none, none] [] M _ _))) (fun s y hy h1 h2 => B_X8_isIced_26 (by omega) hG hy (fun s' e => h1 s' e) (fun t e => (h2 _ e).1 t rfl) (fun t e => (h2 _ e).2 t rfl)) _ _ _ t16 ?_
          refine ⟨fun t e => (by cases e), fun t e => ?_⟩
          cases e
          refine x_iconst (pc := 91) dX8_isIced_91 ⟨by decide, by decide⟩ ?_
          cases hf
          exact x_retI (pc := 92) dX8_isIced_92
      · replace hf := (if_neg h3).symm.trans hf
        refine x_iconst (pc := 17) dX8_isIced_17 ⟨by decide, by decide⟩ ?_
        cases hf
        exact x_retI (pc := 18) dX8_isIced_18
    · replace hf := (if_neg h2).symm.trans hf
      cases hf
theorem Z_X8_isIced {M : ax_M} {a1 : Int} {r : Int} (hf : fX8_isIced M a1 = some r) : r = 0 ∨ r = 1 := by
  unfold fX8_isIced at hf
  by_cases h1 : (fX8_hasCell M a1) = 0
  · replace hf := (if_pos h1).symm.trans hf
    cases hf
    exact Or.inl rfl
  · replace hf := (if_neg h1).symm.trans hf
    by_cases h2 : 0 ≤ a1 ∧ a1 < 81
    · replace hf := (if_pos h2).symm.trans hf
      by_cases h3 : (mI M 170 (Int.toNat a1)) = 0
      · replace hf := (if_pos h3).symm.trans hf
        rcases bdS_some hf with ⟨t13, t14, hf⟩ | ⟨t15, t16, hf⟩
        · skip
          cases hf
          exact Or.inr rfl
        · skip
          cases hf
          exact Or.inl rfl
      · replace hf := (if_neg h3).symm.trans hf
        cases hf
        exact Or.inl rfl
    · replace hf := (if_neg h2).symm.trans hf
      cases hf
