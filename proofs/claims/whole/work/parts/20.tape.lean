/-! walks: Tape, Kind, Tokens -/
/- HexPond$Tape.length()I -/
def fX9_length (M : ax_M) : Int :=
  ((mI M 151 1))
theorem T_X9_length {G : ax_G} {d : Nat} (hd : 0 ≤ d) (hG : axPs G 150 244) {M : ax_M} {r : Int} (hf : fX9_length M = r) : ax_Ex G tX9_length d 0 (ax_args [vR 151] ++ List.replicate 0 none) [] M (.inl (some (vI r))) M := by
  show ax_Ex G tX9_length d 0 [some (vR 151)] [] M _ _
  unfold fX9_length at hf
  refine x_aload_n (pc := 0) dX9_length_0 rfl ?_
  refine x_getI (t := 7) (j := 1) (pc := 1) dX9_length_1 (axEx hG rfl) rfl (by decide) (by decide) rfl WF_X9_15 ?_
  subst hf
  exact x_retI (pc := 4) dX9_length_4
/- HexPond$Tape.byteAt(I)I -/
def fX9_byteAt (M : ax_M) (a1 : Int) : Int :=
  (if a1 < 0 then ((-1)) else (if a1 < (mI M 151 1) then (if a1 < 2000 then ((iand (mI M 152 (Int.toNat a1)) 255)) else ((-1))) else ((-1))))
theorem T_X9_byteAt {G : ax_G} {d : Nat} (hd : 0 ≤ d) (hG : axPs G 150 244) {M : ax_M} {a1 : Int} {r : Int} (hf : fX9_byteAt M a1 = r) : ax_Ex G tX9_byteAt d 0 (ax_args [vR 151, vI a1] ++ List.replicate 0 none) [] M (.inl (some (vI r))) M := by
  show ax_Ex G tX9_byteAt d 0 [some (vR 151), some (vI a1)] [] M _ _
  unfold fX9_byteAt at hf
  refine x_iload_n (pc := 0) dX9_byteAt_0 rfl ?_
  refine ax_cmp1 (fun b2a b2b => ?_)
  refine x_iflt (tgt := 34) (pc := 1) dX9_byteAt_1 rfl (fun h1 => ?_) (fun h1 => ?_)
  · replace hf := (if_pos h1).symm.trans hf
    refine x_iconst (pc := 34) dX9_byteAt_34 ⟨by decide, by decide⟩ ?_
    subst hf
    exact x_retI (pc := 35) dX9_byteAt_35
  · replace hf := (if_neg (Int.not_lt.mpr h1)).symm.trans hf
    refine x_iload_n (pc := 4) dX9_byteAt_4 rfl ?_
    refine x_aload_n (pc := 5) dX9_byteAt_5 rfl ?_
    refine x_getI (t := 7) (j := 1) (pc := 6) dX9_byteAt_6 (axEx hG rfl) rfl (by decide) (by decide) rfl WF_X9_15 ?_
    refine ax_cmp (fun b4a b4b b4c b4e => ?_)
    refine x_icmpge (tgt := 34) (pc := 9) dX9_byteAt_9 rfl (fun h3 => ?_) (fun h3 => ?_)
    · replace hf := (if_neg (Int.not_lt.mpr h3)).symm.trans hf
      refine x_iconst (pc := 34) dX9_byteAt_34 ⟨by decide, by decide⟩ ?_
      subst hf
      exact x_retI (pc := 35) dX9_byteAt_35
    · replace hf := (if_pos h3).symm.trans hf
      refine x_iload_n (pc := 12) dX9_byteAt_12 rfl ?_
      refine x_aload_n (pc := 13) dX9_byteAt_13 rfl ?_
      refine x_getF (t := 7) (j := 0) (r := 152) (pc := 14) dX9_byteAt_14 (axH hG rfl) (axEx hG rfl) rfl (by decide) (by decide) rfl rfl WF_X9_9 ?_
      refine x_alen (t := 1) (n := 2000) (pc := 17) dX9_byteAt_17 (axEx hG rfl) rfl (by decide) (by decide) ?_
      refine ax_cmp (fun b6a b6b b6c b6e => ?_)
      refine x_icmpge (tgt := 34) (pc := 18) dX9_byteAt_18 rfl (fun h5 => ?_) (fun h5 => ?_)
      · replace hf := (if_neg (Int.not_lt.mpr h5)).symm.trans hf
        refine x_iconst (pc := 34) dX9_byteAt_34 ⟨by decide, by decide⟩ ?_
        subst hf
        exact x_retI (pc := 35) dX9_byteAt_35
      · replace hf := (if_pos h5).symm.trans hf
        refine x_aload_n (pc := 21) dX9_byteAt_21 rfl ?_
        refine x_getF (t := 7) (j := 0) (r := 152) (pc := 22) dX9_byteAt_22 (axH hG rfl) (axEx hG rfl) rfl (by decide) (by decide) rfl rfl WF_X9_9 ?_
        refine x_iload_n (pc := 25) dX9_byteAt_25 rfl ?_
        refine x_bald2 (n := 2000) (pc := 26) dX9_byteAt_26 (axEx hG rfl) rfl (by omega) (by omega) ?_
        refine x_sipush (pc := 27) dX9_byteAt_27 (by decide) ⟨by decide, by decide⟩ ?_
        refine x_iand (z := (iand (mI M 152 (Int.toNat a1)) 255)) (pc := 30) dX9_byteAt_30 rfl ?_
        refine x_goto (tgt := 35) (pc := 31) dX9_byteAt_31 rfl ?_
        subst hf
        exact x_retI (pc := 35) dX9_byteAt_35
/- HexPond$Tape.append(I)V -/
def fX9_append_b3 (M : ax_M) (x1 : Int) (v2 : Int) : Option ((Int × ax_M) ⊕ ax_M) :=
  (if v2 < 0 then (some (.inr M)) else (if (mI M 151 1) < 0 then (some (.inl ((v2 + (-8)), M))) else (if (mI M 151 1) < 2000 then (some (.inl ((v2 + (-8)), (mUI (mUI M 152 (Int.toNat (mI M 151 1)) (ibyte (iushr x1 v2))) 151 1 (wr ((mI (mUI M 152 (Int.toNat (mI M 151 1)) (ibyte (iushr x1 v2))) 151 1) + 1)))))) else (some (.inl ((v2 + (-8)), M))))))
def fX9_append (M : ax_M) (a1 : Int) : Option ax_M :=
  (bd1 (lp (fun s => fX9_append_b3 s.2 a1 s.1) lpN (24, M)) fun t7 => (some t7))
theorem B_X9_append_3 {G : ax_G} {d : Nat} (hd : 0 ≤ d) (hG : axPs G 150 244) {M : ax_M} {x1 : Int} {v2 : Int} {o : Option ax_V ⊕ String} {M' : ax_M} {y : (Int × ax_M) ⊕ ax_M} (hf : fX9_append_b3 M x1 v2 = some y) (h1 : ∀ s', y = .inl s' → ax_Ex G tX9_append d 3 [some (vR 151), some (vI x1), some (vI s'.1)] [] s'.2 o M') (h2a : ∀ t, y = .inr t → ax_Ex G tX9_append d 55 [some (vR 151), some (vI x1), none] [] t o M') : ax_Ex G tX9_append d 3 [some (vR 151), some (vI x1), some (vI v2)] [] M o M' := by
  unfold fX9_append_b3 at hf
  refine x_iload_n (pc := 3) dX9_append_3 rfl ?_
  refine ax_cmp1 (fun b2a b2b => ?_)
  refine x_iflt (tgt := 55) (pc := 4) dX9_append_4 rfl (fun h1 => ?_) (fun h1 => ?_)
  · replace hf := (if_pos h1).symm.trans hf
    cases hf
    exact x_fgt (axS' (axS' (axN' axD))) (h2a _ rfl)
  · replace hf := (if_neg (Int.not_lt.mpr h1)).symm.trans hf
    refine x_aload_n (pc := 7) dX9_append_7 rfl ?_
    refine x_getI (t := 7) (j := 1) (pc := 8) dX9_append_8 (axEx hG rfl) rfl (by decide) (by decide) rfl WF_X9_15 ?_
    refine ax_cmp1 (fun b4a b4b => ?_)
    refine x_iflt (tgt := 49) (pc := 11) dX9_append_11 rfl (fun h3 => ?_) (fun h3 => ?_)
    · replace hf := (if_pos h3).symm.trans hf
      refine x_iinc (z := (v2 + (-8))) (ls' := [some (vR 151), some (vI x1), some (vI (v2 + (-8)))]) (pc := 49) dX9_append_49 rfl (Nat.le_of_ble_eq_true rfl) rfl rfl (ax_i (by omega) (by omega)) rfl ?_
      refine x_goto (tgt := 3) (pc := 52) dX9_append_52 rfl ?_
      cases hf
      exact h1 _ rfl
    · replace hf := (if_neg (Int.not_lt.mpr h3)).symm.trans hf
      refine x_aload_n (pc := 14) dX9_append_14 rfl ?_
      refine x_getI (t := 7) (j := 1) (pc := 15) dX9_append_15 (axEx hG rfl) rfl (by decide) (by decide) rfl WF_X9_15 ?_
      refine x_aload_n (pc := 18) dX9_append_18 rfl ?_
      refine x_getF (t := 7) (j := 0) (r := 152) (pc := 19) dX9_append_19 (axH hG rfl) (axEx hG rfl) rfl (by decide) (by decide) rfl rfl WF_X9_9 ?_
      refine x_alen (t := 1) (n := 2000) (pc := 22) dX9_append_22 (axEx hG rfl) rfl (by decide) (by decide) ?_
      refine ax_cmp (fun b6a b6b b6c b6e => ?_)
      refine x_icmpge (tgt := 49) (pc := 23) dX9_append_23 rfl (fun h5 => ?_) (fun h5 => ?_)
      · replace hf := (if_neg (Int.not_lt.mpr h5)).symm.trans hf
        refine x_iinc (z := (v2 + (-8))) (ls' := [some (vR 151), some (vI x1), some (vI (v2 + (-8)))]) (pc := 49) dX9_append_49 rfl (Nat.le_of_ble_eq_true rfl) rfl rfl (ax_i (by omega) (by omega)) rfl ?_
        refine x_goto (tgt := 3) (pc := 52) dX9_append_52 rfl ?_
        cases hf
        exact h1 _ rfl
      · replace hf := (if_pos h5).symm.trans hf
        refine x_aload_n (pc := 26) dX9_append_26 rfl ?_
        refine x_getF (t := 7) (j := 0) (r := 152) (pc := 27) dX9_append_27 (axH hG rfl) (axEx hG rfl) rfl (by decide) (by decide) rfl rfl WF_X9_9 ?_
        refine x_aload_n (pc := 30) dX9_append_30 rfl ?_
        refine x_getI (t := 7) (j := 1) (pc := 31) dX9_append_31 (axEx hG rfl) rfl (by decide) (by decide) rfl WF_X9_15 ?_
        refine x_iload_n (pc := 34) dX9_append_34 rfl ?_
        refine x_iload_n (pc := 35) dX9_append_35 rfl ?_
        refine x_iushr (z := (iushr x1 v2)) (pc := 36) dX9_append_36 rfl ?_
        refine x_i2b (z := (ibyte (iushr x1 v2))) (pc := 37) dX9_append_37 rfl ?_
        refine x_bast2 (n := 2000) (pc := 38) dX9_append_38 (axEx hG rfl) rfl (by omega) (by omega) (ibyte_in _) ?_
        refine x_aload_n (pc := 39) dX9_append_39 rfl ?_
        refine x_dup (pc := 40) dX9_append_40 rfl ?_
        refine x_getI (t := 7) (j := 1) (pc := 41) dX9_append_41 (axEx hG rfl) rfl (by decide) (by decide) rfl WF_X9_15 ?_
        refine x_iconst (pc := 44) dX9_append_44 ⟨by decide, by decide⟩ ?_
        refine x_iaddw (pc := 45) dX9_append_45 ?_
        refine x_putI (t := 7) (j := 1) (pc := 46) dX9_append_46 (axEx hG rfl) rfl (by decide) (by decide) rfl rfl WF_X9_15 ?_
        refine x_iinc (z := (v2 + (-8))) (ls' := [some (vR 151), some (vI x1), some (vI (v2 + (-8)))]) (pc := 49) dX9_append_49 rfl (Nat.le_of_ble_eq_true rfl) rfl rfl (ax_i (by omega) (by omega)) rfl ?_
        refine x_goto (tgt := 3) (pc := 52) dX9_append_52 rfl ?_
        cases hf
        exact h1 _ rfl
theorem T_X9_append {G : ax_G} {d : Nat} (hd : 0 ≤ d) (hG : axPs G 150 244) {M : ax_M} {a1 : Int} {M1 : ax_M} (hf : fX9_append M a1 = some M1) : ax_Ex G tX9_append d 0 (ax_args [vR 151, vI a1] ++ List.replicate 1 none) [] M (.inl none) M1 := by
  show ax_Ex G tX9_append d 0 [some (vR 151), some (vI a1), none] [] M _ _
  unfold fX9_append at hf
  refine x_bipush (pc := 0) dX9_append_0 (by decide) ⟨by decide, by decide⟩ ?_
  refine x_istore_n (ls' := [some (vR 151), some (vI a1), some (vI 24)]) (pc := 2) dX9_append_2 (Nat.le_of_ble_eq_true rfl) rfl rfl ?_
  obtain ⟨t7, t8, hf⟩ := bd1_some hf
  refine lp_ex (P := (fun s => ax_Ex G tX9_append d 3 [some (vR 151), some (vI a1), some (vI s.1)] [] s.2 _ _)) (K := (fun t => ax_Ex G tX9_append d 55 [some (vR 151), some (vI a1), none] [] t _ _)) (fun s y hy h1 h2 => B_X9_append_3 (by omega) hG hy (fun s' e => h1 s' e) (fun t e => h2 t e)) _ _ _ t8 ?_
  cases hf
  exact x_retV (pc := 55) dX9_append_55
/- HexPond$Tape.shorten(I)V -/
def fX9_shorten (M : ax_M) (a1 : Int) : Option ax_M :=
  (some (mUI M 151 1 a1))
theorem T_X9_shorten {G : ax_G} {d : Nat} (hd : 0 ≤ d) (hG : axPs G 150 244) {M : ax_M} {a1 : Int} {M1 : ax_M} (hf : fX9_shorten M a1 = some M1) : ax_Ex G tX9_shorten d 0 (ax_args [vR 151, vI a1] ++ List.replicate 0 none) [] M (.inl none) M1 := by
  show ax_Ex G tX9_shorten d 0 [some (vR 151), some (vI a1)] [] M _ _
  unfold fX9_shorten at hf
  refine x_aload_n (pc := 0) dX9_shorten_0 rfl ?_
  refine x_iload_n (pc := 1) dX9_shorten_1 rfl ?_
  refine x_putI (t := 7) (j := 1) (pc := 2) dX9_shorten_2 (axEx hG rfl) rfl (by decide) (by decide) rfl rfl WF_X9_15 ?_
  cases hf
  exact x_retV (pc := 5) dX9_shorten_5
/- HexPond$Kind.isWrittenAt(LHexPond$Tape;II)Z -/
def fX5_isWrittenAt_b18 (M : ax_M) (x0 : Nat) (x2 : Int) (v4 : Int) : Option (Int ⊕ (Unit ⊕ Unit)) :=
  (if v4 < ((cTb ((x0 + 50) + 42)).length : Int) then (if 0 ≤ v4 ∧ v4 < ((cTb ((x0 + 50) + 42)).length : Int) then (if ((cTb ((x0 + 50) + 42)).getD (Int.toNat v4) 0) = (fX9_byteAt M (wr (x2 + v4))) then (some (.inl (v4 + 1))) else (some (.inr (.inl ())))) else none) else (some (.inr (.inr ()))))
def fX5_isWrittenAt (M : ax_M) (this : Nat) (a2 : Int) (a3 : Int) : Option Int :=
  (if ((cTb ((this + 50) + 42)).length : Int) = (wr (a3 - a2)) then (bdS (lp (fun s => fX5_isWrittenAt_b18 M this a2 s) lpN 0) (fun t6 => (some 0)) (fun t8 => (some 1))) else (some 0))
theorem B_X5_isWrittenAt_18 {G : ax_G} {d : Nat} (hd : 5 ≤ d) (hG : axPs G 150 244) {M : ax_M} {x0 : Nat} {x2 : Int} {v4 : Int} (hy0 : 10 ≤ x0 ∧ x0 < 52) {o : Option ax_V ⊕ String} {M' : ax_M} {y : Int ⊕ (Unit ⊕ Unit)} (hf : fX5_isWrittenAt_b18 M x0 x2 v4 = some y) (h1 : ∀ s', y = .inl s' → ax_Ex G tX5_isWrittenAt d 18 [some (vR x0), some (vR 151), some (vI x2), none, some (vI s')] [] M o M') (h2a : ∀ t, y = .inr (.inl t) → ax_Ex G tX5_isWrittenAt d 50 [some (vR x0), some (vR 151), some (vI x2), none, none] [] M o M') (h2b : ∀ t, y = .inr (.inr t) → ax_Ex G tX5_isWrittenAt d 58 [some (vR x0), some (vR 151), some (vI x2), none, none] [] M o M') : ax_Ex G tX5_isWrittenAt d 18 [some (vR x0), some (vR 151), some (vI x2), none, some (vI v4)] [] M o M' := by
  unfold fX5_isWrittenAt_b18 at hf
  refine x_iload (pc := 18) dX5_isWrittenAt_18 rfl ?_
  refine x_aload_n (pc := 20) dX5_isWrittenAt_20 rfl ?_
  refine x_getc (pc := 21) dX5_isWrittenAt_21 (axKf_text hy0) trivial WF_X5_149 ?_
  refine x_cr (v := vI ((cTb ((x0 + 50) + 42)).length : Int)) (vs := [vR (x0 + 50)]) (rest := [vI v4]) (k := 0) rfl (by omega) (ax_caV (pc := 24) dX5_isWrittenAt_24 kJ0_length_8abf5 rfl rfl WM_X5_153 WI_J0_length_8abf5 WS_J0_length_8abf5 WN_J0 (ax_rcK (axKc_str (by have := hy0; omega))) (Nat.le_of_ble_eq_true rfl)) kJ0_length_8abf5 rfl True.intro (T_slen (by omega) (by have := hy0; omega)) ?_
  refine ax_cmp (fun b3a b3b b3c b3e => ?_)
  refine x_icmpge (tgt := 58) (pc := 27) dX5_isWrittenAt_27 rfl (fun h2 => ?_) (fun h2 => ?_)
  · replace hf := (if_neg (Int.not_lt.mpr h2)).symm.trans hf
    cases hf
    exact x_fgt (axS' (axS' (axS' (axN' (axN' axD))))) (h2b _ rfl)
  · replace hf := (if_pos h2).symm.trans hf
    refine x_aload_n (pc := 30) dX5_isWrittenAt_30 rfl ?_
    refine x_getc (pc := 31) dX5_isWrittenAt_31 (axKf_text hy0) trivial WF_X5_149 ?_
    refine x_iload (pc := 34) dX5_isWrittenAt_34 rfl ?_
    by_cases h4 : 0 ≤ v4 ∧ v4 < ((cTb ((x0 + 50) + 42)).length : Int)
    · replace hf := (if_pos h4).symm.trans hf
      refine x_cr (v := vI ((cTb ((x0 + 50) + 42)).getD (Int.toNat v4) 0)) (vs := [vR (x0 + 50), vI v4]) (rest := []) (k := 0) rfl (by omega) (ax_caV (pc := 36) dX5_isWrittenAt_36 kJ0_charAt_5068e rfl rfl WM_X5_159 WI_J0_charAt_5068e WS_J0_charAt_5068e WN_J0 (ax_rcK (axKc_str (by have := hy0; omega))) (Nat.le_of_ble_eq_true rfl)) kJ0_charAt_5068e rfl (cTb_char _) (T_schar (by omega) (by have := hy0; omega) h4.1 h4.2) ?_
      refine x_aload_n (pc := 39) dX5_isWrittenAt_39 rfl ?_
      refine x_iload_n (pc := 40) dX5_isWrittenAt_40 rfl ?_
      refine x_iload (pc := 41) dX5_isWrittenAt_41 rfl ?_
      refine x_iaddw (pc := 43) dX5_isWrittenAt_43 ?_
      refine x_cr (v := vI (fX9_byteAt M (wr (x2 + v4)))) (vs := [vR 151, vI (wr (x2 + v4))]) (rest := [vI ((cTb ((x0 + 50) + 42)).getD (Int.toNat v4) 0)]) (k := 0) rfl (by omega) (ax_caV (pc := 44) dX5_isWrittenAt_44 kX9_byteAt rfl rfl WM_X5_163 WI_X9_byteAt WS_X9_byteAt WN_X9 (ax_rcO (t := 7) (axEx hG rfl) rfl (by decide)) (Nat.le_of_ble_eq_true rfl)) kX9_byteAt rfl True.intro (T_X9_byteAt (by omega) hG rfl) ?_
      refine x_icmpeq (tgt := 52) (pc := 47) dX5_isWrittenAt_47 rfl (fun h5 => ?_) (fun h5 => ?_)
      · replace hf := (if_pos h5).symm.trans hf
        refine x_iinc (z := (v4 + 1)) (ls' := [some (vR x0), some (vR 151), some (vI x2), none, some (vI (v4 + 1))]) (pc := 52) dX5_isWrittenAt_52 rfl (Nat.le_of_ble_eq_true rfl) rfl rfl (ax_i (by omega) (by omega)) rfl ?_
        refine x_goto (tgt := 18) (pc := 55) dX5_isWrittenAt_55 rfl ?_
        cases hf
        exact h1 _ rfl
      · replace hf := (if_neg h5).symm.trans hf
        cases hf
        exact x_fgt (axS' (axS' (axS' (axN' (axN' axD))))) (h2a _ rfl)
    · replace hf := (if_neg h4).symm.trans hf
      cases hf
theorem T_X5_isWrittenAt {G : ax_G} {d : Nat} (hd : 5 ≤ d) (hG : axPs G 150 244) {M : ax_M} {this : Nat} {a2 : Int} {a3 : Int} (y_this : 10 ≤ this ∧ this < 52) {r : Int} (hf : fX5_isWrittenAt M this a2 a3 = some r) : ax_Ex G tX5_isWrittenAt d 0 (ax_args [vR this, vR 151, vI a2, vI a3] ++ List.replicate 1 none) [] M (.inl (some (vI r))) M := by
  show ax_Ex G tX5_isWrittenAt d 0 [some (vR this), some (vR 151), some (vI a2), some (vI a3), none] [] M _ _
  unfold fX5_isWrittenAt at hf
  refine x_aload_n (pc := 0) dX5_isWrittenAt_0 rfl ?_
  refine x_getc (pc := 1) dX5_isWrittenAt_1 (axKf_text y_this) trivial WF_X5_149 ?_
  refine x_cr (v := vI ((cTb ((this + 50) + 42)).length : Int)) (vs := [vR (this + 50)]) (rest := []) (k := 0) rfl (by omega) (ax_caV (pc := 4) dX5_isWrittenAt_4 kJ0_length_8abf5 rfl rfl WM_X5_153 WI_J0_length_8abf5 WS_J0_length_8abf5 WN_J0 (ax_rcK (axKc_str (by have := y_this; omega))) (Nat.le_of_ble_eq_true rfl)) kJ0_length_8abf5 rfl True.intro (T_slen (by omega) (by have := y_this; omega)) ?_
  refine x_iload_n (pc := 7) dX5_isWrittenAt_7 rfl ?_
  refine x_iload_n (pc := 8) dX5_isWrittenAt_8 rfl ?_
  refine x_isubw (pc := 9) dX5_isWrittenAt_9 ?_
  refine x_icmpeq (tgt := 15) (pc := 10) dX5_isWrittenAt_10 rfl (fun h1 => ?_) (fun h1 => ?_)
  · replace hf := (if_pos h1).symm.trans hf
    refine x_iconst (pc := 15) dX5_isWrittenAt_15 ⟨by decide, by decide⟩ ?_
    refine x_istore (ls' := [some (vR this), some (vR 151), some (vI a2), some (vI a3), some (vI 0)]) (pc := 16) dX5_isWrittenAt_16 (Nat.le_of_ble_eq_true rfl) rfl rfl ?_
    rcases bdS_some hf with ⟨t6, t7, hf⟩ | ⟨t8, t9, hf⟩
    · refine x_fgt (axS' (axS' (axS' (axN' (axS' axD))))) (lp_ex (P := (fun s => ax_Ex G tX5_isWrittenAt d 18 [some (vR this), some (vR 151), some (vI a2), none, some (vI s)] [] M _ _)) (K := (fun r => (∀ t, r = .inl t → ax_Ex G tX5_isWrittenAt d 50 [some (vR this), some (vR 151), some (vI a2), none, none] [] M _ _) ∧ (∀ t, r = .inr t → ax_Ex G tX5_isWrittenAt d 58 [some (vR this), some (vR 151), some (vI a2), none, none] [] M _ _))) (fun s y hy h1 h2 => B_X5_isWrittenAt_18 (by omega) hG y_this hy (fun s' e => h1 s' e) (fun t e => (h2 _ e).1 t rfl) (fun t e => (h2 _ e).2 t rfl)) _ _ _ t7 ?_)
      refine ⟨fun t e => ?_, fun t e => (by cases e)⟩
      cases e
      refine x_iconst (pc := 50) dX5_isWrittenAt_50 ⟨by decide, by decide⟩ ?_
      cases hf
      exact x_retI (pc := 51) dX5_isWrittenAt_51
    · refine x_fgt (axS' (axS' (axS' (axN' (axS' axD))))) (lp_ex (P := (fun s => ax_Ex G tX5_isWrittenAt d 18 [some (vR this), some (vR 151), some (vI a2), none, some (vI s)] [] M _ _)) (K := (fun r => (∀ t, r = .inl t → ax_Ex G tX5_isWrittenAt d 50 [some (vR this), some (vR 151), some (vI a2), none, none] [] M _ _) ∧ (∀ t, r = .inr t → ax_Ex G tX5_isWrittenAt d 58 [some (vR this), some (vR 151), some (vI a2), none, none] [] M _ _))) (fun s y hy h1 h2 => B_X5_isWrittenAt_18 (by omega) hG y_this hy (fun s' e => h1 s' e) (fun t e => (h2 _ e).1 t rfl) (fun t e => (h2 _ e).2 t rfl)) _ _ _ t9 ?_)
      refine ⟨fun t e => (by cases e), fun t e => ?_⟩
      cases e
      refine x_iconst (pc := 58) dX5_isWrittenAt_58 ⟨by decide, by decide⟩ ?_
      cases hf
      exact x_retI (pc := 59) dX5_isWrittenAt_59
  · replace hf := (if_neg h1).symm.trans hf
    refine x_iconst (pc := 13) dX5_isWrittenAt_13 ⟨by decide, by decide⟩ ?_
    cases hf
    exact x_retI (pc := 14) dX5_isWrittenAt_14
theorem Z_X5_isWrittenAt {M : ax_M} {this : Nat} {a2 : Int} {a3 : Int} {r : Int} (hf : fX5_isWrittenAt M this a2 a3 = some r) : r = 0 ∨ r = 1 := by
  unfold fX5_isWrittenAt at hf
  by_cases h1 : ((cTb ((this + 50) + 42)).length : Int) = (wr (a3 - a2))
  · replace hf := (if_pos h1).symm.trans hf
    rcases bdS_some hf with ⟨t6, t7, hf⟩ | ⟨t8, t9, hf⟩
    · skip
      cases hf
      exact Or.inl rfl
    · skip
      cases hf
      exact Or.inr rfl
  · replace hf := (if_neg h1).symm.trans hf
    cases hf
    exact Or.inl rfl
/- HexPond$Tokens.count()I -/
def fX10_count (M : ax_M) : Int :=
  ((mI M 153 3))
theorem T_X10_count {G : ax_G} {d : Nat} (hd : 0 ≤ d) (hG : axPs G 150 244) {M : ax_M} {r : Int} (hf : fX10_count M = r) : ax_Ex G tX10_count d 0 (ax_args [vR 153] ++ List.replicate 0 none) [] M (.inl (some (vI r))) M := by
  show ax_Ex G tX10_count d 0 [some (vR 153)] [] M _ _
  unfold fX10_count at hf
  refine x_aload_n (pc := 0) dX10_count_0 rfl ?_
  refine x_getI (t := 8) (j := 3) (pc := 1) dX10_count_1 (axEx hG rfl) rfl (by decide) (by decide) rfl WF_X10_24 ?_
  subst hf
  exact x_retI (pc := 4) dX10_count_4
/- HexPond$Tokens.kindOf(I)LHexPond$Kind; -/
def fX10_kindOf (M : ax_M) (a1 : Int) : Nat :=
  (if a1 < 0 then (49) else (if a1 < (mI M 153 3) then (if a1 < 401 then (oq (mR M 154 (Int.toNat a1)) (49) fun k8 => (k8)) else (49)) else (49)))
theorem T_X10_kindOf {G : ax_G} {d : Nat} (hd : 0 ≤ d) (hG : axPs G 150 244) {M : ax_M} {a1 : Int} {r : Nat} (hf : fX10_kindOf M a1 = r) : ax_Ex G tX10_kindOf d 0 (ax_args [vR 153, vI a1] ++ List.replicate 1 none) [] M (.inl (some (vR r))) M := by
  show ax_Ex G tX10_kindOf d 0 [some (vR 153), some (vI a1), none] [] M _ _
  unfold fX10_kindOf at hf
  refine x_iload_n (pc := 0) dX10_kindOf_0 rfl ?_
  refine ax_cmp1 (fun b2a b2b => ?_)
  refine x_iflt (tgt := 21) (pc := 1) dX10_kindOf_1 rfl (fun h1 => ?_) (fun h1 => ?_)
  · replace hf := (if_pos h1).symm.trans hf
    refine x_gets (v := vR 49) _ (pc := 21) dX10_kindOf_21 (axS_mem (n := 47) rfl) rfl trivial WF_X10_28 ?_
    subst hf
    exact x_retR (pc := 24) dX10_kindOf_24
  · replace hf := (if_neg (Int.not_lt.mpr h1)).symm.trans hf
    refine x_iload_n (pc := 4) dX10_kindOf_4 rfl ?_
    refine x_aload_n (pc := 5) dX10_kindOf_5 rfl ?_
    refine x_getI (t := 8) (j := 3) (pc := 6) dX10_kindOf_6 (axEx hG rfl) rfl (by decide) (by decide) rfl WF_X10_24 ?_
    refine ax_cmp (fun b4a b4b b4c b4e => ?_)
    refine x_icmpge (tgt := 21) (pc := 9) dX10_kindOf_9 rfl (fun h3 => ?_) (fun h3 => ?_)
    · replace hf := (if_neg (Int.not_lt.mpr h3)).symm.trans hf
      refine x_gets (v := vR 49) _ (pc := 21) dX10_kindOf_21 (axS_mem (n := 47) rfl) rfl trivial WF_X10_28 ?_
      subst hf
      exact x_retR (pc := 24) dX10_kindOf_24
    · replace hf := (if_pos h3).symm.trans hf
      refine x_iload_n (pc := 12) dX10_kindOf_12 rfl ?_
      refine x_aload_n (pc := 13) dX10_kindOf_13 rfl ?_
      refine x_getF (t := 8) (j := 0) (r := 154) (pc := 14) dX10_kindOf_14 (axH hG rfl) (axEx hG rfl) rfl (by decide) (by decide) rfl rfl WF_X10_11 ?_
      refine x_alen (t := 4) (n := 401) (pc := 17) dX10_kindOf_17 (axEx hG rfl) rfl (by decide) (by decide) ?_
      refine ax_cmp (fun b6a b6b b6c b6e => ?_)
      refine x_icmplt (tgt := 25) (pc := 18) dX10_kindOf_18 rfl (fun h5 => ?_) (fun h5 => ?_)
      · replace hf := (if_pos h5).symm.trans hf
        refine x_aload_n (pc := 25) dX10_kindOf_25 rfl ?_
        refine x_getF (t := 8) (j := 0) (r := 154) (pc := 26) dX10_kindOf_26 (axH hG rfl) (axEx hG rfl) rfl (by decide) (by decide) rfl rfl WF_X10_11 ?_
        refine x_iload_n (pc := 29) dX10_kindOf_29 rfl ?_
        rcases h7 : (mR M 154 (Int.toNat a1)) with _ | k8
        · replace hf := (oq_none h7).symm.trans hf
          refine x_aaldN (n := 401) (pc := 30) dX10_kindOf_30 (axEx hG rfl) rfl (by omega) (by omega) h7 ?_
          refine x_astore_nN (ls' := [some (vR 153), some (vI a1), some (vN)]) (pc := 31) dX10_kindOf_31 (Nat.le_of_ble_eq_true rfl) rfl rfl ?_
          refine x_aload_nN (pc := 32) dX10_kindOf_32 rfl ?_
          refine x_ifnonnullN (pc := 33) dX10_kindOf_33 ?_
          refine x_gets (v := vR 49) _ (pc := 36) dX10_kindOf_36 (axS_mem (n := 47) rfl) rfl trivial WF_X10_28 ?_
          refine x_goto (tgt := 43) (pc := 39) dX10_kindOf_39 rfl ?_
          subst hf
          exact x_retR (pc := 43) dX10_kindOf_43
        · replace hf := (oq_some h7).symm.trans hf
          refine x_aaldS (n := 401) (pc := 30) dX10_kindOf_30 (axEx hG rfl) rfl (by omega) (by omega) h7 rfl (fun g9 => ?_)
          refine x_astore_n (ls' := [some (vR 153), some (vI a1), some (vR k8)]) (pc := 31) dX10_kindOf_31 (Nat.le_of_ble_eq_true rfl) rfl rfl ?_
          refine x_aload_n (pc := 32) dX10_kindOf_32 rfl ?_
          refine x_ifnonnull (tgt := 42) (pc := 33) dX10_kindOf_33 rfl ?_
          refine x_aload_n (pc := 42) dX10_kindOf_42 rfl ?_
          subst hf
          exact x_retR (pc := 43) dX10_kindOf_43
      · replace hf := (if_neg (Int.not_lt.mpr h5)).symm.trans hf
        refine x_gets (v := vR 49) _ (pc := 21) dX10_kindOf_21 (axS_mem (n := 47) rfl) rfl trivial WF_X10_28 ?_
        subst hf
        exact x_retR (pc := 24) dX10_kindOf_24
theorem R_X10_kindOf {M : ax_M} (g : ax_g M) {a1 : Int} {r : Nat} (hf : fX10_kindOf M a1 = r) : 10 ≤ r ∧ r < 52 := by
  unfold fX10_kindOf at hf
  by_cases h1 : a1 < 0
  · replace hf := (if_pos h1).symm.trans hf
    subst hf
    exact (by decide)
  · replace hf := (if_neg h1).symm.trans hf
    by_cases h3 : a1 < (mI M 153 3)
    · replace hf := (if_pos h3).symm.trans hf
      by_cases h5 : a1 < 401
      · replace hf := (if_pos h5).symm.trans hf
        rcases h7 : (mR M 154 (Int.toNat a1)) with _ | k8
        · replace hf := (oq_none h7).symm.trans hf
          subst hf
          exact (by decide)
        · replace hf := (oq_some h7).symm.trans hf
          have g9 := g.2 154 rfl _ _ h7
          subst hf
          exact g9
      · replace hf := (if_neg h5).symm.trans hf
        subst hf
        exact (by decide)
    · replace hf := (if_neg h3).symm.trans hf
      subst hf
      exact (by decide)
/- HexPond$Tokens.startOf(I)I -/
def fX10_startOf (M : ax_M) (a1 : Int) : Int :=
  (if a1 < 0 then ((-1)) else (if a1 < 401 then ((mI M 155 (Int.toNat a1))) else ((-1))))
theorem T_X10_startOf {G : ax_G} {d : Nat} (hd : 0 ≤ d) (hG : axPs G 150 244) {M : ax_M} {a1 : Int} {r : Int} (hf : fX10_startOf M a1 = r) : ax_Ex G tX10_startOf d 0 (ax_args [vR 153, vI a1] ++ List.replicate 0 none) [] M (.inl (some (vI r))) M := by
  show ax_Ex G tX10_startOf d 0 [some (vR 153), some (vI a1)] [] M _ _
  unfold fX10_startOf at hf
  refine x_iload_n (pc := 0) dX10_startOf_0 rfl ?_
  refine ax_cmp1 (fun b2a b2b => ?_)
  refine x_iflt (tgt := 22) (pc := 1) dX10_startOf_1 rfl (fun h1 => ?_) (fun h1 => ?_)
  · replace hf := (if_pos h1).symm.trans hf
    refine x_iconst (pc := 22) dX10_startOf_22 ⟨by decide, by decide⟩ ?_
    subst hf
    exact x_retI (pc := 23) dX10_startOf_23
  · replace hf := (if_neg (Int.not_lt.mpr h1)).symm.trans hf
    refine x_iload_n (pc := 4) dX10_startOf_4 rfl ?_
    refine x_aload_n (pc := 5) dX10_startOf_5 rfl ?_
    refine x_getF (t := 8) (j := 1) (r := 155) (pc := 6) dX10_startOf_6 (axH hG rfl) (axEx hG rfl) rfl (by decide) (by decide) rfl rfl WF_X10_17 ?_
    refine x_alen (t := 0) (n := 401) (pc := 9) dX10_startOf_9 (axEx hG rfl) rfl (by decide) (by decide) ?_
    refine ax_cmp (fun b4a b4b b4c b4e => ?_)
    refine x_icmpge (tgt := 22) (pc := 10) dX10_startOf_10 rfl (fun h3 => ?_) (fun h3 => ?_)
    · replace hf := (if_neg (Int.not_lt.mpr h3)).symm.trans hf
      refine x_iconst (pc := 22) dX10_startOf_22 ⟨by decide, by decide⟩ ?_
      subst hf
      exact x_retI (pc := 23) dX10_startOf_23
    · replace hf := (if_pos h3).symm.trans hf
      refine x_aload_n (pc := 13) dX10_startOf_13 rfl ?_
      refine x_getF (t := 8) (j := 1) (r := 155) (pc := 14) dX10_startOf_14 (axH hG rfl) (axEx hG rfl) rfl (by decide) (by decide) rfl rfl WF_X10_17 ?_
      refine x_iload_n (pc := 17) dX10_startOf_17 rfl ?_
      refine x_iald2 (n := 401) (pc := 18) dX10_startOf_18 (axEx hG rfl) rfl (by omega) (by omega) ?_
      refine x_goto (tgt := 23) (pc := 19) dX10_startOf_19 rfl ?_
      subst hf
      exact x_retI (pc := 23) dX10_startOf_23
/- HexPond$Tokens.valueOf(I)I -/
def fX10_valueOf (M : ax_M) (a1 : Int) : Int :=
  (if a1 < 0 then (0) else (if a1 < 401 then ((mI M 156 (Int.toNat a1))) else (0)))
theorem T_X10_valueOf {G : ax_G} {d : Nat} (hd : 0 ≤ d) (hG : axPs G 150 244) {M : ax_M} {a1 : Int} {r : Int} (hf : fX10_valueOf M a1 = r) : ax_Ex G tX10_valueOf d 0 (ax_args [vR 153, vI a1] ++ List.replicate 0 none) [] M (.inl (some (vI r))) M := by
  show ax_Ex G tX10_valueOf d 0 [some (vR 153), some (vI a1)] [] M _ _
  unfold fX10_valueOf at hf
  refine x_iload_n (pc := 0) dX10_valueOf_0 rfl ?_
  refine ax_cmp1 (fun b2a b2b => ?_)
  refine x_iflt (tgt := 22) (pc := 1) dX10_valueOf_1 rfl (fun h1 => ?_) (fun h1 => ?_)
  · replace hf := (if_pos h1).symm.trans hf
    refine x_iconst (pc := 22) dX10_valueOf_22 ⟨by decide, by decide⟩ ?_
    subst hf
    exact x_retI (pc := 23) dX10_valueOf_23
  · replace hf := (if_neg (Int.not_lt.mpr h1)).symm.trans hf
    refine x_iload_n (pc := 4) dX10_valueOf_4 rfl ?_
    refine x_aload_n (pc := 5) dX10_valueOf_5 rfl ?_
    refine x_getF (t := 8) (j := 2) (r := 156) (pc := 6) dX10_valueOf_6 (axH hG rfl) (axEx hG rfl) rfl (by decide) (by decide) rfl rfl WF_X10_21 ?_
    refine x_alen (t := 0) (n := 401) (pc := 9) dX10_valueOf_9 (axEx hG rfl) rfl (by decide) (by decide) ?_
    refine ax_cmp (fun b4a b4b b4c b4e => ?_)
    refine x_icmpge (tgt := 22) (pc := 10) dX10_valueOf_10 rfl (fun h3 => ?_) (fun h3 => ?_)
    · replace hf := (if_neg (Int.not_lt.mpr h3)).symm.trans hf
      refine x_iconst (pc := 22) dX10_valueOf_22 ⟨by decide, by decide⟩ ?_
      subst hf
      exact x_retI (pc := 23) dX10_valueOf_23
    · replace hf := (if_pos h3).symm.trans hf
      refine x_aload_n (pc := 13) dX10_valueOf_13 rfl ?_
      refine x_getF (t := 8) (j := 2) (r := 156) (pc := 14) dX10_valueOf_14 (axH hG rfl) (axEx hG rfl) rfl (by decide) (by decide) rfl rfl WF_X10_21 ?_
      refine x_iload_n (pc := 17) dX10_valueOf_17 rfl ?_
      refine x_iald2 (n := 401) (pc := 18) dX10_valueOf_18 (axEx hG rfl) rfl (by omega) (by omega) ?_
      refine x_goto (tgt := 23) (pc := 19) dX10_valueOf_19 rfl ?_
      subst hf
      exact x_retI (pc := 23) dX10_valueOf_23
/- HexPond$Tokens.isBlank(I)Z -/
def fX10_isBlank (M : ax_M) (a1 : Int) : Int :=
  (if a1 = 32 then (1) else (if a1 = 10 then (1) else (0)))
theorem T_X10_isBlank {G : ax_G} {d : Nat} (hd : 0 ≤ d) (hG : axPs G 150 244) {M : ax_M} {a1 : Int} {r : Int} (hf : fX10_isBlank M a1 = r) : ax_Ex G tX10_isBlank d 0 (ax_args [vI a1] ++ List.replicate 0 none) [] M (.inl (some (vI r))) M := by
  show ax_Ex G tX10_isBlank d 0 [some (vI a1)] [] M _ _
  unfold fX10_isBlank at hf
  refine x_iload_n (pc := 0) dX10_isBlank_0 rfl ?_
  refine x_bipush (pc := 1) dX10_isBlank_1 (by decide) ⟨by decide, by decide⟩ ?_
  refine x_icmpeq (tgt := 12) (pc := 3) dX10_isBlank_3 rfl (fun h1 => ?_) (fun h1 => ?_)
  · replace hf := (if_pos h1).symm.trans hf
    refine x_iconst (pc := 12) dX10_isBlank_12 ⟨by decide, by decide⟩ ?_
    refine x_goto (tgt := 17) (pc := 13) dX10_isBlank_13 rfl ?_
    subst hf
    exact x_retI (pc := 17) dX10_isBlank_17
  · replace hf := (if_neg h1).symm.trans hf
    refine x_iload_n (pc := 6) dX10_isBlank_6 rfl ?_
    refine x_bipush (pc := 7) dX10_isBlank_7 (by decide) ⟨by decide, by decide⟩ ?_
    refine x_icmpne (tgt := 16) (pc := 9) dX10_isBlank_9 rfl (fun h2 => ?_) (fun h2 => ?_)
    · replace hf := (if_neg h2).symm.trans hf
      refine x_iconst (pc := 16) dX10_isBlank_16 ⟨by decide, by decide⟩ ?_
      subst hf
      exact x_retI (pc := 17) dX10_isBlank_17
    · replace hf := (if_pos h2).symm.trans hf
      refine x_iconst (pc := 12) dX10_isBlank_12 ⟨by decide, by decide⟩ ?_
      refine x_goto (tgt := 17) (pc := 13) dX10_isBlank_13 rfl ?_
      subst hf
      exact x_retI (pc := 17) dX10_isBlank_17
theorem Z_X10_isBlank {M : ax_M} {a1 : Int} {r : Int} (hf : fX10_isBlank M a1 = r) : r = 0 ∨ r = 1 := by
  unfold fX10_isBlank at hf
  by_cases h1 : a1 = 32
  · replace hf := (if_pos h1).symm.trans hf
    subst hf
    exact Or.inr rfl
  · replace hf := (if_neg h1).symm.trans hf
    by_cases h2 : a1 = 10
    · replace hf := (if_pos h2).symm.trans hf
      subst hf
      exact Or.inr rfl
    · replace hf := (if_neg h2).symm.trans hf
      subst hf
      exact Or.inl rfl
/- HexPond$Tokens.isLetter(I)Z -/
def fX10_isLetter (M : ax_M) (a1 : Int) : Int :=
  (if a1 < 97 then (0) else (if 122 < a1 then (0) else (1)))
theorem T_X10_isLetter {G : ax_G} {d : Nat} (hd : 0 ≤ d) (hG : axPs G 150 244) {M : ax_M} {a1 : Int} {r : Int} (hf : fX10_isLetter M a1 = r) : ax_Ex G tX10_isLetter d 0 (ax_args [vI a1] ++ List.replicate 0 none) [] M (.inl (some (vI r))) M := by
  show ax_Ex G tX10_isLetter d 0 [some (vI a1)] [] M _ _
  unfold fX10_isLetter at hf
  refine x_iload_n (pc := 0) dX10_isLetter_0 rfl ?_
  refine x_bipush (pc := 1) dX10_isLetter_1 (by decide) ⟨by decide, by decide⟩ ?_
  refine ax_cmp (fun b2a b2b b2c b2e => ?_)
  refine x_icmplt (tgt := 16) (pc := 3) dX10_isLetter_3 rfl (fun h1 => ?_) (fun h1 => ?_)
  · replace hf := (if_pos h1).symm.trans hf
    refine x_iconst (pc := 16) dX10_isLetter_16 ⟨by decide, by decide⟩ ?_
    subst hf
    exact x_retI (pc := 17) dX10_isLetter_17
  · replace hf := (if_neg (Int.not_lt.mpr h1)).symm.trans hf
    refine x_iload_n (pc := 6) dX10_isLetter_6 rfl ?_
    refine x_bipush (pc := 7) dX10_isLetter_7 (by decide) ⟨by decide, by decide⟩ ?_
    refine ax_cmp (fun b4a b4b b4c b4e => ?_)
    refine x_icmpgt (tgt := 16) (pc := 9) dX10_isLetter_9 rfl (fun h3 => ?_) (fun h3 => ?_)
    · replace hf := (if_pos h3).symm.trans hf
      refine x_iconst (pc := 16) dX10_isLetter_16 ⟨by decide, by decide⟩ ?_
      subst hf
      exact x_retI (pc := 17) dX10_isLetter_17
    · replace hf := (if_neg (Int.not_lt.mpr h3)).symm.trans hf
      refine x_iconst (pc := 12) dX10_isLetter_12 ⟨by decide, by decide⟩ ?_
      refine x_goto (tgt := 17) (pc := 13) dX10_isLetter_13 rfl ?_
      subst hf
      exact x_retI (pc := 17) dX10_isLetter_17
theorem Z_X10_isLetter {M : ax_M} {a1 : Int} {r : Int} (hf : fX10_isLetter M a1 = r) : r = 0 ∨ r = 1 := by
  unfold fX10_isLetter at hf
  by_cases h1 : a1 < 97
  · replace hf := (if_pos h1).symm.trans hf
    subst hf
    exact Or.inl rfl
  · replace hf := (if_neg h1).symm.trans hf
    by_cases h3 : 122 < a1
    · replace hf := (if_pos h3).symm.trans hf
      subst hf
      exact Or.inl rfl
    · replace hf := (if_neg h3).symm.trans hf
      subst hf
      exact Or.inr rfl
/- HexPond$Tokens.isDigit(I)Z -/
def fX10_isDigit (M : ax_M) (a1 : Int) : Int :=
  (if a1 < 48 then (0) else (if 57 < a1 then (0) else (1)))
theorem T_X10_isDigit {G : ax_G} {d : Nat} (hd : 0 ≤ d) (hG : axPs G 150 244) {M : ax_M} {a1 : Int} {r : Int} (hf : fX10_isDigit M a1 = r) : ax_Ex G tX10_isDigit d 0 (ax_args [vI a1] ++ List.replicate 0 none) [] M (.inl (some (vI r))) M := by
  show ax_Ex G tX10_isDigit d 0 [some (vI a1)] [] M _ _
  unfold fX10_isDigit at hf
  refine x_iload_n (pc := 0) dX10_isDigit_0 rfl ?_
  refine x_bipush (pc := 1) dX10_isDigit_1 (by decide) ⟨by decide, by decide⟩ ?_
  refine ax_cmp (fun b2a b2b b2c b2e => ?_)
  refine x_icmplt (tgt := 16) (pc := 3) dX10_isDigit_3 rfl (fun h1 => ?_) (fun h1 => ?_)
  · replace hf := (if_pos h1).symm.trans hf
    refine x_iconst (pc := 16) dX10_isDigit_16 ⟨by decide, by decide⟩ ?_
    subst hf
    exact x_retI (pc := 17) dX10_isDigit_17
  · replace hf := (if_neg (Int.not_lt.mpr h1)).symm.trans hf
    refine x_iload_n (pc := 6) dX10_isDigit_6 rfl ?_
    refine x_bipush (pc := 7) dX10_isDigit_7 (by decide) ⟨by decide, by decide⟩ ?_
    refine ax_cmp (fun b4a b4b b4c b4e => ?_)
    refine x_icmpgt (tgt := 16) (pc := 9) dX10_isDigit_9 rfl (fun h3 => ?_) (fun h3 => ?_)
    · replace hf := (if_pos h3).symm.trans hf
      refine x_iconst (pc := 16) dX10_isDigit_16 ⟨by decide, by decide⟩ ?_
      subst hf
      exact x_retI (pc := 17) dX10_isDigit_17
    · replace hf := (if_neg (Int.not_lt.mpr h3)).symm.trans hf
      refine x_iconst (pc := 12) dX10_isDigit_12 ⟨by decide, by decide⟩ ?_
      refine x_goto (tgt := 17) (pc := 13) dX10_isDigit_13 rfl ?_
      subst hf
      exact x_retI (pc := 17) dX10_isDigit_17
theorem Z_X10_isDigit {M : ax_M} {a1 : Int} {r : Int} (hf : fX10_isDigit M a1 = r) : r = 0 ∨ r = 1 := by
  unfold fX10_isDigit at hf
  by_cases h1 : a1 < 48
  · replace hf := (if_pos h1).symm.trans hf
    subst hf
    exact Or.inl rfl
  · replace hf := (if_neg h1).symm.trans hf
    by_cases h3 : 57 < a1
    · replace hf := (if_pos h3).symm.trans hf
      subst hf
      exact Or.inl rfl
    · replace hf := (if_neg h3).symm.trans hf
      subst hf
      exact Or.inr rfl
/- HexPond$Tokens.behindBlanks(LHexPond$Tape;I)I -/
def fX10_behindBlanks_b2 (M : ax_M) (v2 : Int) : Option (Int ⊕ Int) :=
  (if v2 < (fX9_length M) then (if (fX10_isBlank M (fX9_byteAt M v2)) = 0 then (some (.inr v2)) else (some (.inl (v2 + 1)))) else (some (.inr v2)))
def fX10_behindBlanks (M : ax_M) (a2 : Int) : Option Int :=
  (bd1 (lp (fun s => fX10_behindBlanks_b2 M s) lpN a2) fun t4 => (some t4))
theorem B_X10_behindBlanks_2 {G : ax_G} {d : Nat} (hd : 1 ≤ d) (hG : axPs G 150 244) {M : ax_M} {v2 : Int} {o : Option ax_V ⊕ String} {M' : ax_M} {y : Int ⊕ Int} (hf : fX10_behindBlanks_b2 M v2 = some y) (h1 : ∀ s', y = .inl s' → ax_Ex G tX10_behindBlanks d 2 [some (vR 151), none, some (vI s')] [] M o M') (h2a : ∀ t, y = .inr t → ax_Ex G tX10_behindBlanks d 27 [some (vR 151), none, some (vI t)] [] M o M') : ax_Ex G tX10_behindBlanks d 2 [some (vR 151), none, some (vI v2)] [] M o M' := by
  unfold fX10_behindBlanks_b2 at hf
  refine x_iload_n (pc := 2) dX10_behindBlanks_2 rfl ?_
  refine x_aload_n (pc := 3) dX10_behindBlanks_3 rfl ?_
  refine x_cr (v := vI (fX9_length M)) (vs := [vR 151]) (rest := [vI v2]) (k := 0) rfl (by omega) (ax_caV (pc := 4) dX10_behindBlanks_4 kX9_length rfl rfl WM_X10_57 WI_X9_length WS_X9_length WN_X9 (ax_rcO (t := 7) (axEx hG rfl) rfl (by decide)) (Nat.le_of_ble_eq_true rfl)) kX9_length rfl True.intro (T_X9_length (by omega) hG rfl) ?_
  refine ax_cmp (fun b2a b2b b2c b2e => ?_)
  refine x_icmpge (tgt := 27) (pc := 7) dX10_behindBlanks_7 rfl (fun h1 => ?_) (fun h1 => ?_)
  · replace hf := (if_neg (Int.not_lt.mpr h1)).symm.trans hf
    cases hf
    exact h2a _ rfl
  · replace hf := (if_pos h1).symm.trans hf
    refine x_aload_n (pc := 10) dX10_behindBlanks_10 rfl ?_
    refine x_iload_n (pc := 11) dX10_behindBlanks_11 rfl ?_
    refine x_cr (v := vI (fX9_byteAt M v2)) (vs := [vR 151, vI v2]) (rest := []) (k := 0) rfl (by omega) (ax_caV (pc := 12) dX10_behindBlanks_12 kX9_byteAt rfl rfl WM_X10_63 WI_X9_byteAt WS_X9_byteAt WN_X9 (ax_rcO (t := 7) (axEx hG rfl) rfl (by decide)) (Nat.le_of_ble_eq_true rfl)) kX9_byteAt rfl True.intro (T_X9_byteAt (by omega) hG rfl) ?_
    refine x_cr (v := vI (fX10_isBlank M (fX9_byteAt M v2))) (vs := [vI (fX9_byteAt M v2)]) (rest := []) (k := 0) rfl (by omega) (ax_caS (pc := 15) dX10_behindBlanks_15 kX10_isBlank rfl rfl WM_X10_67 WT_X10_isBlank WN_X10 (Nat.le_of_ble_eq_true rfl)) kX10_isBlank rfl (Z_X10_isBlank rfl) (T_X10_isBlank (by omega) hG rfl) ?_
    refine x_ifeq (tgt := 27) (pc := 18) dX10_behindBlanks_18 rfl (fun h3 => ?_) (fun h3 => ?_)
    · replace hf := (if_pos h3).symm.trans hf
      cases hf
      exact h2a _ rfl
    · replace hf := (if_neg h3).symm.trans hf
      refine x_iinc (z := (v2 + 1)) (ls' := [some (vR 151), none, some (vI (v2 + 1))]) (pc := 21) dX10_behindBlanks_21 rfl (Nat.le_of_ble_eq_true rfl) rfl rfl (ax_i (by omega) (by omega)) rfl ?_
      refine x_goto (tgt := 2) (pc := 24) dX10_behindBlanks_24 rfl ?_
      cases hf
      exact h1 _ rfl
theorem T_X10_behindBlanks {G : ax_G} {d : Nat} (hd : 1 ≤ d) (hG : axPs G 150 244) {M : ax_M} {a2 : Int} {r : Int} (hf : fX10_behindBlanks M a2 = some r) : ax_Ex G tX10_behindBlanks d 0 (ax_args [vR 151, vI a2] ++ List.replicate 1 none) [] M (.inl (some (vI r))) M := by
  show ax_Ex G tX10_behindBlanks d 0 [some (vR 151), some (vI a2), none] [] M _ _
  unfold fX10_behindBlanks at hf
  refine x_iload_n (pc := 0) dX10_behindBlanks_0 rfl ?_
  refine x_istore_n (ls' := [some (vR 151), some (vI a2), some (vI a2)]) (pc := 1) dX10_behindBlanks_1 (Nat.le_of_ble_eq_true rfl) rfl rfl ?_
  obtain ⟨t4, t5, hf⟩ := bd1_some hf
  refine x_fgt (axS' (axN' (axS' axD))) (lp_ex (P := (fun s => ax_Ex G tX10_behindBlanks d 2 [some (vR 151), none, some (vI s)] [] M _ _)) (K := (fun t => ax_Ex G tX10_behindBlanks d 27 [some (vR 151), none, some (vI t)] [] M _ _)) (fun s y hy h1 h2 => B_X10_behindBlanks_2 (by omega) hG hy (fun s' e => h1 s' e) (fun t e => h2 t e)) _ _ _ t5 ?_)
  refine x_iload_n (pc := 27) dX10_behindBlanks_27 rfl ?_
  cases hf
  exact x_retI (pc := 28) dX10_behindBlanks_28
/- HexPond$Tokens.behindToken(LHexPond$Tape;I)I -/
def fX10_behindToken_b60 (M : ax_M) (v3 : Int) : Option (Int ⊕ Int) :=
  (if v3 < (fX9_length M) then (if (fX10_isDigit M (fX9_byteAt M v3)) = 0 then (some (.inr v3)) else (some (.inl (v3 + 1)))) else (some (.inr v3)))
def fX10_behindToken_b17 (M : ax_M) (v3 : Int) : Option (Int ⊕ Int) :=
  (if v3 < (fX9_length M) then (if (fX10_isLetter M (fX9_byteAt M v3)) = 0 then (if (fX10_isDigit M (fX9_byteAt M v3)) = 0 then (some (.inr v3)) else (some (.inl (v3 + 1)))) else (some (.inl (v3 + 1)))) else (some (.inr v3)))
def fX10_behindToken (M : ax_M) (a2 : Int) : Option Int :=
  (if (fX10_isLetter M (fX9_byteAt M a2)) = 0 then (if (fX10_isDigit M (fX9_byteAt M a2)) = 0 then (if (fX9_byteAt M a2) = 60 then (if (fX9_byteAt M (wr (a2 + 1))) = 61 then (some (wr ((wr (a2 + 1)) + 1))) else (some (wr (a2 + 1)))) else (if (fX9_byteAt M a2) = 62 then (if (fX9_byteAt M (wr (a2 + 1))) = 61 then (some (wr ((wr (a2 + 1)) + 1))) else (some (wr (a2 + 1)))) else (some (wr (a2 + 1))))) else (bd1 (lp (fun s => fX10_behindToken_b60 M s) lpN (wr (a2 + 1))) fun t10 => (some t10))) else (bd1 (lp (fun s => fX10_behindToken_b17 M s) lpN (wr (a2 + 1))) fun t16 => (some t16)))
theorem B_X10_behindToken_60 {G : ax_G} {d : Nat} (hd : 1 ≤ d) (hG : axPs G 150 244) {M : ax_M} {v3 : Int} {o : Option ax_V ⊕ String} {M' : ax_M} {y : Int ⊕ Int} (hf : fX10_behindToken_b60 M v3 = some y) (h1 : ∀ s', y = .inl s' → ax_Ex G tX10_behindToken d 60 [some (vR 151), none, none, some (vI s')] [] M o M') (h2a : ∀ t, y = .inr t → ax_Ex G tX10_behindToken d 110 [some (vR 151), none, none, some (vI t)] [] M o M') : ax_Ex G tX10_behindToken d 60 [some (vR 151), none, none, some (vI v3)] [] M o M' := by
  unfold fX10_behindToken_b60 at hf
  refine x_iload_n (pc := 60) dX10_behindToken_60 rfl ?_
  refine x_aload_n (pc := 61) dX10_behindToken_61 rfl ?_
  refine x_cr (v := vI (fX9_length M)) (vs := [vR 151]) (rest := [vI v3]) (k := 0) rfl (by omega) (ax_caV (pc := 62) dX10_behindToken_62 kX9_length rfl rfl WM_X10_57 WI_X9_length WS_X9_length WN_X9 (ax_rcO (t := 7) (axEx hG rfl) rfl (by decide)) (Nat.le_of_ble_eq_true rfl)) kX9_length rfl True.intro (T_X9_length (by omega) hG rfl) ?_
  refine ax_cmp (fun b8a b8b b8c b8e => ?_)
  refine x_icmpge (tgt := 110) (pc := 65) dX10_behindToken_65 rfl (fun h7 => ?_) (fun h7 => ?_)
  · replace hf := (if_neg (Int.not_lt.mpr h7)).symm.trans hf
    cases hf
    exact h2a _ rfl
  · replace hf := (if_pos h7).symm.trans hf
    refine x_aload_n (pc := 68) dX10_behindToken_68 rfl ?_
    refine x_iload_n (pc := 69) dX10_behindToken_69 rfl ?_
    refine x_cr (v := vI (fX9_byteAt M v3)) (vs := [vR 151, vI v3]) (rest := []) (k := 0) rfl (by omega) (ax_caV (pc := 70) dX10_behindToken_70 kX9_byteAt rfl rfl WM_X10_63 WI_X9_byteAt WS_X9_byteAt WN_X9 (ax_rcO (t := 7) (axEx hG rfl) rfl (by decide)) (Nat.le_of_ble_eq_true rfl)) kX9_byteAt rfl True.intro (T_X9_byteAt (by omega) hG rfl) ?_
    refine x_cr (v := vI (fX10_isDigit M (fX9_byteAt M v3))) (vs := [vI (fX9_byteAt M v3)]) (rest := []) (k := 0) rfl (by omega) (ax_caS (pc := 73) dX10_behindToken_73 kX10_isDigit rfl rfl WM_X10_74 WT_X10_isDigit WN_X10 (Nat.le_of_ble_eq_true rfl)) kX10_isDigit rfl (Z_X10_isDigit rfl) (T_X10_isDigit (by omega) hG rfl) ?_
    refine x_ifeq (tgt := 110) (pc := 76) dX10_behindToken_76 rfl (fun h9 => ?_) (fun h9 => ?_)
    · replace hf := (if_pos h9).symm.trans hf
      cases hf
      exact h2a _ rfl
    · replace hf := (if_neg h9).symm.trans hf
      refine x_iinc (z := (v3 + 1)) (ls' := [some (vR 151), none, none, some (vI (v3 + 1))]) (pc := 79) dX10_behindToken_79 rfl (Nat.le_of_ble_eq_true rfl) rfl rfl (ax_i (by omega) (by omega)) rfl ?_
      refine x_goto (tgt := 60) (pc := 82) dX10_behindToken_82 rfl ?_
      cases hf
      exact h1 _ rfl
theorem B_X10_behindToken_17 {G : ax_G} {d : Nat} (hd : 1 ≤ d) (hG : axPs G 150 244) {M : ax_M} {v3 : Int} {o : Option ax_V ⊕ String} {M' : ax_M} {y : Int ⊕ Int} (hf : fX10_behindToken_b17 M v3 = some y) (h1 : ∀ s', y = .inl s' → ax_Ex G tX10_behindToken d 17 [some (vR 151), none, none, some (vI s')] [] M o M') (h2a : ∀ t, y = .inr t → ax_Ex G tX10_behindToken d 110 [some (vR 151), none, none, some (vI t)] [] M o M') : ax_Ex G tX10_behindToken d 17 [some (vR 151), none, none, some (vI v3)] [] M o M' := by
  unfold fX10_behindToken_b17 at hf
  refine x_iload_n (pc := 17) dX10_behindToken_17 rfl ?_
  refine x_aload_n (pc := 18) dX10_behindToken_18 rfl ?_
  refine x_cr (v := vI (fX9_length M)) (vs := [vR 151]) (rest := [vI v3]) (k := 0) rfl (by omega) (ax_caV (pc := 19) dX10_behindToken_19 kX9_length rfl rfl WM_X10_57 WI_X9_length WS_X9_length WN_X9 (ax_rcO (t := 7) (axEx hG rfl) rfl (by decide)) (Nat.le_of_ble_eq_true rfl)) kX9_length rfl True.intro (T_X9_length (by omega) hG rfl) ?_
  refine ax_cmp (fun b13a b13b b13c b13e => ?_)
  refine x_icmpge (tgt := 110) (pc := 22) dX10_behindToken_22 rfl (fun h12 => ?_) (fun h12 => ?_)
  · replace hf := (if_neg (Int.not_lt.mpr h12)).symm.trans hf
    cases hf
    exact h2a _ rfl
  · replace hf := (if_pos h12).symm.trans hf
    refine x_aload_n (pc := 25) dX10_behindToken_25 rfl ?_
    refine x_iload_n (pc := 26) dX10_behindToken_26 rfl ?_
    refine x_cr (v := vI (fX9_byteAt M v3)) (vs := [vR 151, vI v3]) (rest := []) (k := 0) rfl (by omega) (ax_caV (pc := 27) dX10_behindToken_27 kX9_byteAt rfl rfl WM_X10_63 WI_X9_byteAt WS_X9_byteAt WN_X9 (ax_rcO (t := 7) (axEx hG rfl) rfl (by decide)) (Nat.le_of_ble_eq_true rfl)) kX9_byteAt rfl True.intro (T_X9_byteAt (by omega) hG rfl) ?_
    refine x_cr (v := vI (fX10_isLetter M (fX9_byteAt M v3))) (vs := [vI (fX9_byteAt M v3)]) (rest := []) (k := 0) rfl (by omega) (ax_caS (pc := 30) dX10_behindToken_30 kX10_isLetter rfl rfl WM_X10_71 WT_X10_isLetter WN_X10 (Nat.le_of_ble_eq_true rfl)) kX10_isLetter rfl (Z_X10_isLetter rfl) (T_X10_isLetter (by omega) hG rfl) ?_
    refine x_ifne (tgt := 47) (pc := 33) dX10_behindToken_33 rfl (fun h14 => ?_) (fun h14 => ?_)
    · replace hf := (if_neg h14).symm.trans hf
      refine x_iinc (z := (v3 + 1)) (ls' := [some (vR 151), none, none, some (vI (v3 + 1))]) (pc := 47) dX10_behindToken_47 rfl (Nat.le_of_ble_eq_true rfl) rfl rfl (ax_i (by omega) (by omega)) rfl ?_
      refine x_goto (tgt := 17) (pc := 50) dX10_behindToken_50 rfl ?_
      cases hf
      exact h1 _ rfl
    · replace hf := (if_pos h14).symm.trans hf
      refine x_aload_n (pc := 36) dX10_behindToken_36 rfl ?_
      refine x_iload_n (pc := 37) dX10_behindToken_37 rfl ?_
      refine x_cr (v := vI (fX9_byteAt M v3)) (vs := [vR 151, vI v3]) (rest := []) (k := 0) rfl (by omega) (ax_caV (pc := 38) dX10_behindToken_38 kX9_byteAt rfl rfl WM_X10_63 WI_X9_byteAt WS_X9_byteAt WN_X9 (ax_rcO (t := 7) (axEx hG rfl) rfl (by decide)) (Nat.le_of_ble_eq_true rfl)) kX9_byteAt rfl True.intro (T_X9_byteAt (by omega) hG rfl) ?_
      refine x_cr (v := vI (fX10_isDigit M (fX9_byteAt M v3))) (vs := [vI (fX9_byteAt M v3)]) (rest := []) (k := 0) rfl (by omega) (ax_caS (pc := 41) dX10_behindToken_41 kX10_isDigit rfl rfl WM_X10_74 WT_X10_isDigit WN_X10 (Nat.le_of_ble_eq_true rfl)) kX10_isDigit rfl (Z_X10_isDigit rfl) (T_X10_isDigit (by omega) hG rfl) ?_
      refine x_ifeq (tgt := 110) (pc := 44) dX10_behindToken_44 rfl (fun h15 => ?_) (fun h15 => ?_)
      · replace hf := (if_pos h15).symm.trans hf
        cases hf
        exact h2a _ rfl
      · replace hf := (if_neg h15).symm.trans hf
        refine x_iinc (z := (v3 + 1)) (ls' := [some (vR 151), none, none, some (vI (v3 + 1))]) (pc := 47) dX10_behindToken_47 rfl (Nat.le_of_ble_eq_true rfl) rfl rfl (ax_i (by omega) (by omega)) rfl ?_
        refine x_goto (tgt := 17) (pc := 50) dX10_behindToken_50 rfl ?_
        cases hf
        exact h1 _ rfl
theorem T_X10_behindToken {G : ax_G} {d : Nat} (hd : 1 ≤ d) (hG : axPs G 150 244) {M : ax_M} {a2 : Int} {r : Int} (hf : fX10_behindToken M a2 = some r) : ax_Ex G tX10_behindToken d 0 (ax_args [vR 151, vI a2] ++ List.replicate 2 none) [] M (.inl (some (vI r))) M := by
  show ax_Ex G tX10_behindToken d 0 [some (vR 151), some (vI a2), none, none] [] M _ _
  unfold fX10_behindToken at hf
  refine x_aload_n (pc := 0) dX10_behindToken_0 rfl ?_
  refine x_iload_n (pc := 1) dX10_behindToken_1 rfl ?_
  refine x_cr (v := vI (fX9_byteAt M a2)) (vs := [vR 151, vI a2]) (rest := []) (k := 0) rfl (by omega) (ax_caV (pc := 2) dX10_behindToken_2 kX9_byteAt rfl rfl WM_X10_63 WI_X9_byteAt WS_X9_byteAt WN_X9 (ax_rcO (t := 7) (axEx hG rfl) rfl (by decide)) (Nat.le_of_ble_eq_true rfl)) kX9_byteAt rfl True.intro (T_X9_byteAt (by omega) hG rfl) ?_
  refine x_istore_n (ls' := [some (vR 151), some (vI a2), some (vI (fX9_byteAt M a2)), none]) (pc := 5) dX10_behindToken_5 (Nat.le_of_ble_eq_true rfl) rfl rfl ?_
  refine x_iload_n (pc := 6) dX10_behindToken_6 rfl ?_
  refine x_iconst (pc := 7) dX10_behindToken_7 ⟨by decide, by decide⟩ ?_
  refine x_iaddw (pc := 8) dX10_behindToken_8 ?_
  refine x_istore_n (ls' := [some (vR 151), some (vI a2), some (vI (fX9_byteAt M a2)), some (vI (wr (a2 + 1)))]) (pc := 9) dX10_behindToken_9 (Nat.le_of_ble_eq_true rfl) rfl rfl ?_
  refine x_iload_n (pc := 10) dX10_behindToken_10 rfl ?_
  refine x_cr (v := vI (fX10_isLetter M (fX9_byteAt M a2))) (vs := [vI (fX9_byteAt M a2)]) (rest := []) (k := 0) rfl (by omega) (ax_caS (pc := 11) dX10_behindToken_11 kX10_isLetter rfl rfl WM_X10_71 WT_X10_isLetter WN_X10 (Nat.le_of_ble_eq_true rfl)) kX10_isLetter rfl (Z_X10_isLetter rfl) (T_X10_isLetter (by omega) hG rfl) ?_
  refine x_ifeq (tgt := 53) (pc := 14) dX10_behindToken_14 rfl (fun h1 => ?_) (fun h1 => ?_)
  · replace hf := (if_pos h1).symm.trans hf
    refine x_iload_n (pc := 53) dX10_behindToken_53 rfl ?_
    refine x_cr (v := vI (fX10_isDigit M (fX9_byteAt M a2))) (vs := [vI (fX9_byteAt M a2)]) (rest := []) (k := 0) rfl (by omega) (ax_caS (pc := 54) dX10_behindToken_54 kX10_isDigit rfl rfl WM_X10_74 WT_X10_isDigit WN_X10 (Nat.le_of_ble_eq_true rfl)) kX10_isDigit rfl (Z_X10_isDigit rfl) (T_X10_isDigit (by omega) hG rfl) ?_
    refine x_ifeq (tgt := 85) (pc := 57) dX10_behindToken_57 rfl (fun h2 => ?_) (fun h2 => ?_)
    · replace hf := (if_pos h2).symm.trans hf
      refine x_iload_n (pc := 85) dX10_behindToken_85 rfl ?_
      refine x_bipush (pc := 86) dX10_behindToken_86 (by decide) ⟨by decide, by decide⟩ ?_
      refine x_icmpeq (tgt := 97) (pc := 88) dX10_behindToken_88 rfl (fun h3 => ?_) (fun h3 => ?_)
      · replace hf := (if_pos h3).symm.trans hf
        refine x_aload_n (pc := 97) dX10_behindToken_97 rfl ?_
        refine x_iload_n (pc := 98) dX10_behindToken_98 rfl ?_
        refine x_cr (v := vI (fX9_byteAt M (wr (a2 + 1)))) (vs := [vR 151, vI (wr (a2 + 1))]) (rest := []) (k := 0) rfl (by omega) (ax_caV (pc := 99) dX10_behindToken_99 kX9_byteAt rfl rfl WM_X10_63 WI_X9_byteAt WS_X9_byteAt WN_X9 (ax_rcO (t := 7) (axEx hG rfl) rfl (by decide)) (Nat.le_of_ble_eq_true rfl)) kX9_byteAt rfl True.intro (T_X9_byteAt (by omega) hG rfl) ?_
        refine x_bipush (pc := 102) dX10_behindToken_102 (by decide) ⟨by decide, by decide⟩ ?_
        refine x_icmpne (tgt := 110) (pc := 104) dX10_behindToken_104 rfl (fun h4 => ?_) (fun h4 => ?_)
        · replace hf := (if_neg h4).symm.trans hf
          refine x_iload_n (pc := 110) dX10_behindToken_110 rfl ?_
          cases hf
          exact x_retI (pc := 111) dX10_behindToken_111
        · replace hf := (if_pos h4).symm.trans hf
          refine x_iincw (ls' := [some (vR 151), some (vI a2), some (vI (fX9_byteAt M a2)), some (vI (wr ((wr (a2 + 1)) + 1)))]) (pc := 107) dX10_behindToken_107 rfl (Nat.le_of_ble_eq_true rfl) rfl rfl ?_
          refine x_iload_n (pc := 110) dX10_behindToken_110 rfl ?_
          cases hf
          exact x_retI (pc := 111) dX10_behindToken_111
      · replace hf := (if_neg h3).symm.trans hf
        refine x_iload_n (pc := 91) dX10_behindToken_91 rfl ?_
        refine x_bipush (pc := 92) dX10_behindToken_92 (by decide) ⟨by decide, by decide⟩ ?_
        refine x_icmpne (tgt := 110) (pc := 94) dX10_behindToken_94 rfl (fun h5 => ?_) (fun h5 => ?_)
        · replace hf := (if_neg h5).symm.trans hf
          refine x_iload_n (pc := 110) dX10_behindToken_110 rfl ?_
          cases hf
          exact x_retI (pc := 111) dX10_behindToken_111
        · replace hf := (if_pos h5).symm.trans hf
          refine x_aload_n (pc := 97) dX10_behindToken_97 rfl ?_
          refine x_iload_n (pc := 98) dX10_behindToken_98 rfl ?_
          refine x_cr (v := vI (fX9_byteAt M (wr (a2 + 1)))) (vs := [vR 151, vI (wr (a2 + 1))]) (rest := []) (k := 0) rfl (by omega) (ax_caV (pc := 99) dX10_behindToken_99 kX9_byteAt rfl rfl WM_X10_63 WI_X9_byteAt WS_X9_byteAt WN_X9 (ax_rcO (t := 7) (axEx hG rfl) rfl (by decide)) (Nat.le_of_ble_eq_true rfl)) kX9_byteAt rfl True.intro (T_X9_byteAt (by omega) hG rfl) ?_
          refine x_bipush (pc := 102) dX10_behindToken_102 (by decide) ⟨by decide, by decide⟩ ?_
          refine x_icmpne (tgt := 110) (pc := 104) dX10_behindToken_104 rfl (fun h6 => ?_) (fun h6 => ?_)
          · replace hf := (if_neg h6).symm.trans hf
            refine x_iload_n (pc := 110) dX10_behindToken_110 rfl ?_
            cases hf
            exact x_retI (pc := 111) dX10_behindToken_111
          · replace hf := (if_pos h6).symm.trans hf
            refine x_iincw (ls' := [some (vR 151), some (vI a2), some (vI (fX9_byteAt M a2)), some (vI (wr ((wr (a2 + 1)) + 1)))]) (pc := 107) dX10_behindToken_107 rfl (Nat.le_of_ble_eq_true rfl) rfl rfl ?_
            refine x_iload_n (pc := 110) dX10_behindToken_110 rfl ?_
            cases hf
            exact x_retI (pc := 111) dX10_behindToken_111
    · replace hf := (if_neg h2).symm.trans hf
      obtain ⟨t10, t11, hf⟩ := bd1_some hf
      refine x_fgt (axS' (axN' (axN' (axS' axD)))) (lp_ex (P := (fun s => ax_Ex G tX10_behindToken d 60 [some (vR 151), none, none, some (vI s)] [] M _ _)) (K := (fun t => ax_Ex G tX10_behindToken d 110 [some (vR 151), none, none, some (vI t)] [] M _ _)) (fun s y hy h1 h2 => B_X10_behindToken_60 (by omega) hG hy (fun s' e => h1 s' e) (fun t e => h2 t e)) _ _ _ t11 ?_)
      refine x_iload_n (pc := 110) dX10_behindToken_110 rfl ?_
      cases hf
      exact x_retI (pc := 111) dX10_behindToken_111
  · replace hf := (if_neg h1).symm.trans hf
    obtain ⟨t16, t17, hf⟩ := bd1_some hf
    refine x_fgt (axS' (axN' (axN' (axS' axD)))) (lp_ex (P := (fun s => ax_Ex G tX10_behindToken d 17 [some (vR 151), none, none, some (vI s)] [] M _ _)) (K := (fun t => ax_Ex G tX10_behindToken d 110 [some (vR 151), none, none, some (vI t)] [] M _ _)) (fun s y hy h1 h2 => B_X10_behindToken_17 (by omega) hG hy (fun s' e => h1 s' e) (fun t e => h2 t e)) _ _ _ t17 ?_)
    refine x_iload_n (pc := 110) dX10_behindToken_110 rfl ?_
    cases hf
    exact x_retI (pc := 111) dX10_behindToken_111
/- HexPond$Tokens.kindBetween(LHexPond$Tape;II)LHexPond$Kind; -/
def fX10_kindBetween_b52 (M : ax_M) (x1 : Int) (x2 : Int) (x4 : Int) (v5 : Int) : Option (Int ⊕ (Nat ⊕ Unit)) :=
  (if v5 < x4 then (if 0 ≤ v5 ∧ v5 < 42 then (bd1 (fX5_isWrittenAt M (10 + (Int.toNat v5)) x1 x2) fun v8 => (if v8 = 0 then (some (.inl (v5 + 1))) else (some (.inr (.inl (10 + (Int.toNat v5))))))) else none) else (some (.inr (.inr ()))))
def fX10_kindBetween (M : ax_M) (a2 : Int) (a3 : Int) : Option Nat :=
  (if a2 < (fX9_length M) then (if (fX10_isDigit M (fX9_byteAt M a2)) = 0 then (bdS (lp (fun s => fX10_kindBetween_b52 M a2 a3 42 s) lpN 0) (fun t10 => (some t10)) (fun t12 => (some 50))) else (if 6 < (wr (a3 - a2)) then (some 50) else (some 48))) else (some 49))
theorem B_X10_kindBetween_52 {G : ax_G} {d : Nat} (hd : 6 ≤ d) (hG : axPs G 150 244) {M : ax_M} {x1 : Int} {x2 : Int} {x4 : Int} {v5 : Int} {o : Option ax_V ⊕ String} {M' : ax_M} {y : Int ⊕ (Nat ⊕ Unit)} (hf : fX10_kindBetween_b52 M x1 x2 x4 v5 = some y) (h1 : ∀ s', y = .inl s' → ax_Ex G tX10_kindBetween d 52 [some (vR 151), some (vI x1), some (vI x2), some (vR 6), some (vI x4), some (vI s'), none] [] M o M') (h2a : ∀ t, y = .inr (.inl t) → ax_Ex G tX10_kindBetween d 76 [some (vR 151), some (vI x1), some (vI x2), some (vR 6), some (vI x4), none, some (vR t)] [] M o M') (h2b : ∀ t, y = .inr (.inr t) → ax_Ex G tX10_kindBetween d 85 [some (vR 151), some (vI x1), some (vI x2), some (vR 6), some (vI x4), none, none] [] M o M') : ax_Ex G tX10_kindBetween d 52 [some (vR 151), some (vI x1), some (vI x2), some (vR 6), some (vI x4), some (vI v5), none] [] M o M' := by
  unfold fX10_kindBetween_b52 at hf
  refine x_iload (pc := 52) dX10_kindBetween_52 rfl ?_
  refine x_iload (pc := 54) dX10_kindBetween_54 rfl ?_
  refine ax_cmp (fun b5a b5b b5c b5e => ?_)
  refine x_icmpge (tgt := 85) (pc := 56) dX10_kindBetween_56 rfl (fun h4 => ?_) (fun h4 => ?_)
  · replace hf := (if_neg (Int.not_lt.mpr h4)).symm.trans hf
    cases hf
    exact x_fgt (axS' (axS' (axS' (axS' (axS' (axN' (axN' axD))))))) (h2b _ rfl)
  · replace hf := (if_pos h4).symm.trans hf
    refine x_aload_n (pc := 59) dX10_kindBetween_59 rfl ?_
    refine x_iload (pc := 60) dX10_kindBetween_60 rfl ?_
    by_cases h6 : 0 ≤ v5 ∧ v5 < 42
    · replace hf := (if_pos h6).symm.trans hf
      refine x_kinds (pc := 62) dX10_kindBetween_62 h6.1 h6.2 ?_
      refine x_astore (ls' := [some (vR 151), some (vI x1), some (vI x2), some (vR 6), some (vI x4), some (vI v5), some (vR (10 + (Int.toNat v5)))]) (pc := 63) dX10_kindBetween_63 (Nat.le_of_ble_eq_true rfl) rfl rfl ?_
      refine x_aload (pc := 65) dX10_kindBetween_65 rfl ?_
      refine x_aload_n (pc := 67) dX10_kindBetween_67 rfl ?_
      refine x_iload_n (pc := 68) dX10_kindBetween_68 rfl ?_
      refine x_iload_n (pc := 69) dX10_kindBetween_69 rfl ?_
      obtain ⟨v8, r7, hf⟩ := bd1_some hf
      refine x_cr (v := vI v8) (vs := [vR (10 + (Int.toNat v5)), vR 151, vI x1, vI x2]) (rest := []) (k := 1) rfl (by omega) (ax_caV (pc := 70) dX10_kindBetween_70 kX5_isWrittenAt rfl rfl WM_X10_80 WI_X5_isWrittenAt WS_X5_isWrittenAt WN_X5 (ax_rcK (axKc_kind (by omega))) (Nat.le_of_ble_eq_true rfl)) kX5_isWrittenAt rfl (Z_X5_isWrittenAt r7) (T_X5_isWrittenAt (by omega) hG (by omega) r7) ?_
      refine x_ifeq (tgt := 79) (pc := 73) dX10_kindBetween_73 rfl (fun h9 => ?_) (fun h9 => ?_)
      · replace hf := (if_pos h9).symm.trans hf
        refine x_iinc (z := (v5 + 1)) (ls' := [some (vR 151), some (vI x1), some (vI x2), some (vR 6), some (vI x4), some (vI (v5 + 1)), some (vR (10 + (Int.toNat v5)))]) (pc := 79) dX10_kindBetween_79 rfl (Nat.le_of_ble_eq_true rfl) rfl rfl (ax_i (by omega) (by omega)) rfl ?_
        refine x_goto (tgt := 52) (pc := 82) dX10_kindBetween_82 rfl ?_
        cases hf
        exact x_fgt (axS' (axS' (axS' (axS' (axS' (axS' (axN' axD))))))) (h1 _ rfl)
      · replace hf := (if_neg h9).symm.trans hf
        cases hf
        exact x_fgt (axS' (axS' (axS' (axS' (axS' (axN' (axS' axD))))))) (h2a _ rfl)
    · replace hf := (if_neg h6).symm.trans hf
      cases hf
theorem T_X10_kindBetween {G : ax_G} {d : Nat} (hd : 6 ≤ d) (hG : axPs G 150 244) {M : ax_M} {a2 : Int} {a3 : Int} {r : Nat} (hf : fX10_kindBetween M a2 a3 = some r) : ax_Ex G tX10_kindBetween d 0 (ax_args [vR 151, vI a2, vI a3] ++ List.replicate 4 none) [] M (.inl (some (vR r))) M := by
  show ax_Ex G tX10_kindBetween d 0 [some (vR 151), some (vI a2), some (vI a3), none, none, none, none] [] M _ _
  unfold fX10_kindBetween at hf
  refine x_iload_n (pc := 0) dX10_kindBetween_0 rfl ?_
  refine x_aload_n (pc := 1) dX10_kindBetween_1 rfl ?_
  refine x_cr (v := vI (fX9_length M)) (vs := [vR 151]) (rest := [vI a2]) (k := 0) rfl (by omega) (ax_caV (pc := 2) dX10_kindBetween_2 kX9_length rfl rfl WM_X10_57 WI_X9_length WS_X9_length WN_X9 (ax_rcO (t := 7) (axEx hG rfl) rfl (by decide)) (Nat.le_of_ble_eq_true rfl)) kX9_length rfl True.intro (T_X9_length (by omega) hG rfl) ?_
  refine ax_cmp (fun b2a b2b b2c b2e => ?_)
  refine x_icmplt (tgt := 12) (pc := 5) dX10_kindBetween_5 rfl (fun h1 => ?_) (fun h1 => ?_)
  · replace hf := (if_pos h1).symm.trans hf
    refine x_aload_n (pc := 12) dX10_kindBetween_12 rfl ?_
    refine x_iload_n (pc := 13) dX10_kindBetween_13 rfl ?_
    refine x_cr (v := vI (fX9_byteAt M a2)) (vs := [vR 151, vI a2]) (rest := []) (k := 0) rfl (by omega) (ax_caV (pc := 14) dX10_kindBetween_14 kX9_byteAt rfl rfl WM_X10_63 WI_X9_byteAt WS_X9_byteAt WN_X9 (ax_rcO (t := 7) (axEx hG rfl) rfl (by decide)) (Nat.le_of_ble_eq_true rfl)) kX9_byteAt rfl True.intro (T_X9_byteAt (by omega) hG rfl) ?_
    refine x_cr (v := vI (fX10_isDigit M (fX9_byteAt M a2))) (vs := [vI (fX9_byteAt M a2)]) (rest := []) (k := 0) rfl (by omega) (ax_caS (pc := 17) dX10_kindBetween_17 kX10_isDigit rfl rfl WM_X10_74 WT_X10_isDigit WN_X10 (Nat.le_of_ble_eq_true rfl)) kX10_isDigit rfl (Z_X10_isDigit rfl) (T_X10_isDigit (by omega) hG rfl) ?_
    refine x_ifeq (tgt := 41) (pc := 20) dX10_kindBetween_20 rfl (fun h3 => ?_) (fun h3 => ?_)
    · replace hf := (if_pos h3).symm.trans hf
      refine x_getsN (v := vR 6) _ (pc := 41) dX10_kindBetween_41 (axS_mem (n := 5) rfl) rfl trivial NF_X10_77 ?_
      refine x_astore_n (ls' := [some (vR 151), some (vI a2), some (vI a3), some (vR 6), none, none, none]) (pc := 44) dX10_kindBetween_44 (Nat.le_of_ble_eq_true rfl) rfl rfl ?_
      refine x_aload_n (pc := 45) dX10_kindBetween_45 rfl ?_
      refine x_clen (n := 42) (pc := 46) dX10_kindBetween_46 (axKa_mem (n := 5) rfl) rfl (by decide) ?_
      refine x_istore (ls' := [some (vR 151), some (vI a2), some (vI a3), some (vR 6), some (vI 42), none, none]) (pc := 47) dX10_kindBetween_47 (Nat.le_of_ble_eq_true rfl) rfl rfl ?_
      refine x_iconst (pc := 49) dX10_kindBetween_49 ⟨by decide, by decide⟩ ?_
      refine x_istore (ls' := [some (vR 151), some (vI a2), some (vI a3), some (vR 6), some (vI 42), some (vI 0), none]) (pc := 50) dX10_kindBetween_50 (Nat.le_of_ble_eq_true rfl) rfl rfl ?_
      rcases bdS_some hf with ⟨t10, t11, hf⟩ | ⟨t12, t13, hf⟩
      · refine lp_ex (P := (fun s => ax_Ex G tX10_kindBetween d 52 [some (vR 151), some (vI a2), some (vI a3), some (vR 6), some (vI 42), some (vI s), none] [] M _ _)) (K := (fun r => (∀ t, r = .inl t → ax_Ex G tX10_kindBetween d 76 [some (vR 151), some (vI a2), some (vI a3), some (vR 6), some (vI 42), none, some (vR t)] [] M _ _) ∧ (∀ t, r = .inr t → ax_Ex G tX10_kindBetween d 85 [some (vR 151), some (vI a2), some (vI a3), some (vR 6), some (vI 42), none, none] [] M _ _))) (fun s y hy h1 h2 => B_X10_kindBetween_52 (by omega) hG hy (fun s' e => h1 s' e) (fun t e => (h2 _ e).1 t rfl) (fun t e => (h2 _ e).2 t rfl)) _ _ _ t11 ?_
        refine ⟨fun t e => ?_, fun t e => (by cases e)⟩
        cases e
        refine x_aload (pc := 76) dX10_kindBetween_76 rfl ?_
        cases hf
        exact x_retR (pc := 78) dX10_kindBetween_78
      · refine lp_ex (P := (fun s => ax_Ex G tX10_kindBetween d 52 [some (vR 151), some (vI a2), some (vI a3), some (vR 6), some (vI 42), some (vI s), none] [] M _ _)) (K := (fun r => (∀ t, r = .inl t → ax_Ex G tX10_kindBetween d 76 [some (vR 151), some (vI a2), some (vI a3), some (vR 6), some (vI 42), none, some (vR t)] [] M _ _) ∧ (∀ t, r = .inr t → ax_Ex G tX10_kindBetween d 85 [some (vR 151), some (vI a2), some (vI a3), some (vR 6), some (vI 42), none, none] [] M _ _))) (fun s y hy h1 h2 => B_X10_kindBetween_52 (by omega) hG hy (fun s' e => h1 s' e) (fun t e => (h2 _ e).1 t rfl) (fun t e => (h2 _ e).2 t rfl)) _ _ _ t13 ?_
        refine ⟨fun t e => (by cases e), fun t e => ?_⟩
        cases e
        refine x_gets (v := vR 50) _ (pc := 85) dX10_kindBetween_85 (axS_mem (n := 48) rfl) rfl trivial WF_X10_43 ?_
        cases hf
        exact x_retR (pc := 88) dX10_kindBetween_88
    · replace hf := (if_neg h3).symm.trans hf
      refine x_iload_n (pc := 23) dX10_kindBetween_23 rfl ?_
      refine x_iload_n (pc := 24) dX10_kindBetween_24 rfl ?_
      refine x_isubw (pc := 25) dX10_kindBetween_25 ?_
      refine x_bipush (pc := 26) dX10_kindBetween_26 (by decide) ⟨by decide, by decide⟩ ?_
      refine ax_cmp (fun b15a b15b b15c b15e => ?_)
      refine x_icmpgt (tgt := 37) (pc := 28) dX10_kindBetween_28 rfl (fun h14 => ?_) (fun h14 => ?_)
      · replace hf := (if_pos h14).symm.trans hf
        refine x_gets (v := vR 50) _ (pc := 37) dX10_kindBetween_37 (axS_mem (n := 48) rfl) rfl trivial WF_X10_43 ?_
        cases hf
        exact x_retR (pc := 40) dX10_kindBetween_40
      · replace hf := (if_neg (Int.not_lt.mpr h14)).symm.trans hf
        refine x_gets (v := vR 48) _ (pc := 31) dX10_kindBetween_31 (axS_mem (n := 46) rfl) rfl trivial WF_X10_46 ?_
        refine x_goto (tgt := 40) (pc := 34) dX10_kindBetween_34 rfl ?_
        cases hf
        exact x_retR (pc := 40) dX10_kindBetween_40
  · replace hf := (if_neg (Int.not_lt.mpr h1)).symm.trans hf
    refine x_gets (v := vR 49) _ (pc := 8) dX10_kindBetween_8 (axS_mem (n := 47) rfl) rfl trivial WF_X10_28 ?_
    cases hf
    exact x_retR (pc := 11) dX10_kindBetween_11
theorem lp_post {σ ρ : Type} {b : σ → Option (σ ⊕ ρ)} {I : σ → Prop} {Q : ρ → Prop} (hb : ∀ s y, I s → b s = some y → (∀ s', y = .inl s' → I s') ∧ (∀ r, y = .inr r → Q r)) : ∀ (n : Nat) (s : σ) (r : ρ), I s → lp b n s = some r → Q r
  | 0, _, _, _, h => by cases h
  | n + 1, s, r, hi, h => by
    simp only [lp] at h
    cases e : b s with
    | none => rw [e] at h; cases h
    | some y =>
      rw [e] at h
      rcases y with s' | r'
      · exact lp_post hb n s' r ((hb s _ hi e).1 s' rfl) h
      · cases h
        exact (hb s _ hi e).2 r rfl
theorem R_X10_kindBetween {M : ax_M} (g : ax_g M) {a2 a3 : Int} {r : Nat} (hf : fX10_kindBetween M a2 a3 = some r) : 10 ≤ r ∧ r < 52 := by
  have L : ∀ r', lp (fun s => fX10_kindBetween_b52 M a2 a3 42 s) lpN 0 = some r' → (∀ t, r' = .inl t → 10 ≤ t ∧ t < 52) := by
    intro r' h
    refine lp_post (I := fun _ => True) (Q := fun r' => ∀ t, r' = .inl t → 10 ≤ t ∧ t < 52) ?_ lpN 0 r' trivial h
    intro s y _ hy
    refine ⟨fun _ _ => trivial, fun q e t e2 => ?_⟩
    subst e; subst e2
    unfold fX10_kindBetween_b52 at hy
    split at hy
    · split at hy
      · rename_i h1 h2
        obtain ⟨v, hv, hy⟩ := bd1_some hy
        split at hy
        · cases hy
        · cases hy; omega
      · cases hy
    · cases hy
  unfold fX10_kindBetween at hf
  split at hf
  · split at hf
    · rcases bdS_some hf with ⟨t, ht, hf⟩ | ⟨t, ht, hf⟩
      · cases hf; exact L _ ht _ rfl
      · cases hf; decide
    · split at hf <;> cases hf <;> decide
  · cases hf; decide
/- HexPond$Tokens.numberBetween(LHexPond$Tape;II)I -/
def fX10_numberBetween_b5 (M : ax_M) (x2 : Int) (v3 : Int) (v4 : Int) : Option ((Int × Int) ⊕ Int) :=
  (if v4 < x2 then (some (.inl ((wr ((wr (v3 * 10)) + (wr ((fX9_byteAt M v4) - 48)))), (v4 + 1)))) else (some (.inr v3)))
def fX10_numberBetween (M : ax_M) (a2 : Int) (a3 : Int) : Option Int :=
  (bd1 (lp (fun s => fX10_numberBetween_b5 M a3 s.1 s.2) lpN (0, a2)) fun t3 => (some t3))
theorem B_X10_numberBetween_5 {G : ax_G} {d : Nat} (hd : 1 ≤ d) (hG : axPs G 150 244) {M : ax_M} {x2 : Int} {v3 : Int} {v4 : Int} {o : Option ax_V ⊕ String} {M' : ax_M} {y : (Int × Int) ⊕ Int} (hf : fX10_numberBetween_b5 M x2 v3 v4 = some y) (h1 : ∀ s', y = .inl s' → ax_Ex G tX10_numberBetween d 5 [some (vR 151), none, some (vI x2), some (vI s'.1), some (vI s'.2)] [] M o M') (h2a : ∀ t, y = .inr t → ax_Ex G tX10_numberBetween d 32 [some (vR 151), none, some (vI x2), some (vI t), none] [] M o M') : ax_Ex G tX10_numberBetween d 5 [some (vR 151), none, some (vI x2), some (vI v3), some (vI v4)] [] M o M' := by
  unfold fX10_numberBetween_b5 at hf
  refine x_iload (pc := 5) dX10_numberBetween_5 rfl ?_
  refine x_iload_n (pc := 7) dX10_numberBetween_7 rfl ?_
  refine ax_cmp (fun b2a b2b b2c b2e => ?_)
  refine x_icmpge (tgt := 32) (pc := 8) dX10_numberBetween_8 rfl (fun h1 => ?_) (fun h1 => ?_)
  · replace hf := (if_neg (Int.not_lt.mpr h1)).symm.trans hf
    cases hf
    exact x_fgt (axS' (axN' (axS' (axS' (axN' axD))))) (h2a _ rfl)
  · replace hf := (if_pos h1).symm.trans hf
    refine x_iload_n (pc := 11) dX10_numberBetween_11 rfl ?_
    refine x_bipush (pc := 12) dX10_numberBetween_12 (by decide) ⟨by decide, by decide⟩ ?_
    refine x_imulw (pc := 14) dX10_numberBetween_14 ?_
    refine x_aload_n (pc := 15) dX10_numberBetween_15 rfl ?_
    refine x_iload (pc := 16) dX10_numberBetween_16 rfl ?_
    refine x_cr (v := vI (fX9_byteAt M v4)) (vs := [vR 151, vI v4]) (rest := [vI (wr (v3 * 10))]) (k := 0) rfl (by omega) (ax_caV (pc := 18) dX10_numberBetween_18 kX9_byteAt rfl rfl WM_X10_63 WI_X9_byteAt WS_X9_byteAt WN_X9 (ax_rcO (t := 7) (axEx hG rfl) rfl (by decide)) (Nat.le_of_ble_eq_true rfl)) kX9_byteAt rfl True.intro (T_X9_byteAt (by omega) hG rfl) ?_
    refine x_bipush (pc := 21) dX10_numberBetween_21 (by decide) ⟨by decide, by decide⟩ ?_
    refine x_isubw (pc := 23) dX10_numberBetween_23 ?_
    refine x_iaddw (pc := 24) dX10_numberBetween_24 ?_
    refine x_istore_n (ls' := [some (vR 151), none, some (vI x2), some (vI (wr ((wr (v3 * 10)) + (wr ((fX9_byteAt M v4) - 48))))), some (vI v4)]) (pc := 25) dX10_numberBetween_25 (Nat.le_of_ble_eq_true rfl) rfl rfl ?_
    refine x_iinc (z := (v4 + 1)) (ls' := [some (vR 151), none, some (vI x2), some (vI (wr ((wr (v3 * 10)) + (wr ((fX9_byteAt M v4) - 48))))), some (vI (v4 + 1))]) (pc := 26) dX10_numberBetween_26 rfl (Nat.le_of_ble_eq_true rfl) rfl rfl (ax_i (by omega) (by omega)) rfl ?_
    refine x_goto (tgt := 5) (pc := 29) dX10_numberBetween_29 rfl ?_
    cases hf
    exact h1 _ rfl
theorem T_X10_numberBetween {G : ax_G} {d : Nat} (hd : 1 ≤ d) (hG : axPs G 150 244) {M : ax_M} {a2 : Int} {a3 : Int} {r : Int} (hf : fX10_numberBetween M a2 a3 = some r) : ax_Ex G tX10_numberBetween d 0 (ax_args [vR 151, vI a2, vI a3] ++ List.replicate 2 none) [] M (.inl (some (vI r))) M := by
  show ax_Ex G tX10_numberBetween d 0 [some (vR 151), some (vI a2), some (vI a3), none, none] [] M _ _
  unfold fX10_numberBetween at hf
  refine x_iconst (pc := 0) dX10_numberBetween_0 ⟨by decide, by decide⟩ ?_
  refine x_istore_n (ls' := [some (vR 151), some (vI a2), some (vI a3), some (vI 0), none]) (pc := 1) dX10_numberBetween_1 (Nat.le_of_ble_eq_true rfl) rfl rfl ?_
  refine x_iload_n (pc := 2) dX10_numberBetween_2 rfl ?_
  refine x_istore (ls' := [some (vR 151), some (vI a2), some (vI a3), some (vI 0), some (vI a2)]) (pc := 3) dX10_numberBetween_3 (Nat.le_of_ble_eq_true rfl) rfl rfl ?_
  obtain ⟨t3, t4, hf⟩ := bd1_some hf
  refine x_fgt (axS' (axN' (axS' (axS' (axS' axD))))) (lp_ex (P := (fun s => ax_Ex G tX10_numberBetween d 5 [some (vR 151), none, some (vI a3), some (vI s.1), some (vI s.2)] [] M _ _)) (K := (fun t => ax_Ex G tX10_numberBetween d 32 [some (vR 151), none, some (vI a3), some (vI t), none] [] M _ _)) (fun s y hy h1 h2 => B_X10_numberBetween_5 (by omega) hG hy (fun s' e => h1 s' e) (fun t e => h2 t e)) _ _ _ t4 ?_)
  refine x_iload_n (pc := 32) dX10_numberBetween_32 rfl ?_
  cases hf
  exact x_retI (pc := 33) dX10_numberBetween_33
/- HexPond$Tokens.keep(LHexPond$Kind;II)V -/
def fX10_keep (M : ax_M) (a1 : Nat) (a2 : Int) (a3 : Int) : Option ax_M :=
  (if (mI M 153 3) < 0 then (some M) else (if (mI M 153 3) < 401 then (if 0 ≤ (mI (mUR M 154 (Int.toNat (mI M 153 3)) (some a1)) 153 3) ∧ (mI (mUR M 154 (Int.toNat (mI M 153 3)) (some a1)) 153 3) < 401 then (if 0 ≤ (mI (mUI (mUR M 154 (Int.toNat (mI M 153 3)) (some a1)) 155 (Int.toNat (mI (mUR M 154 (Int.toNat (mI M 153 3)) (some a1)) 153 3)) a2) 153 3) ∧ (mI (mUI (mUR M 154 (Int.toNat (mI M 153 3)) (some a1)) 155 (Int.toNat (mI (mUR M 154 (Int.toNat (mI M 153 3)) (some a1)) 153 3)) a2) 153 3) < 401 then (some (mUI (mUI (mUI (mUR M 154 (Int.toNat (mI M 153 3)) (some a1)) 155 (Int.toNat (mI (mUR M 154 (Int.toNat (mI M 153 3)) (some a1)) 153 3)) a2) 156 (Int.toNat (mI (mUI (mUR M 154 (Int.toNat (mI M 153 3)) (some a1)) 155 (Int.toNat (mI (mUR M 154 (Int.toNat (mI M 153 3)) (some a1)) 153 3)) a2) 153 3)) a3) 153 3 (wr ((mI (mUI (mUI (mUR M 154 (Int.toNat (mI M 153 3)) (some a1)) 155 (Int.toNat (mI (mUR M 154 (Int.toNat (mI M 153 3)) (some a1)) 153 3)) a2) 156 (Int.toNat (mI (mUI (mUR M 154 (Int.toNat (mI M 153 3)) (some a1)) 155 (Int.toNat (mI (mUR M 154 (Int.toNat (mI M 153 3)) (some a1)) 153 3)) a2) 153 3)) a3) 153 3) + 1)))) else none) else none) else (some M)))
theorem T_X10_keep {G : ax_G} {d : Nat} (hd : 0 ≤ d) (hG : axPs G 150 244) {M : ax_M} {a1 : Nat} {a2 : Int} {a3 : Int} (y_a1 : 10 ≤ a1 ∧ a1 < 52) {M1 : ax_M} (hf : fX10_keep M a1 a2 a3 = some M1) : ax_Ex G tX10_keep d 0 (ax_args [vR 153, vR a1, vI a2, vI a3] ++ List.replicate 0 none) [] M (.inl none) M1 := by
  show ax_Ex G tX10_keep d 0 [some (vR 153), some (vR a1), some (vI a2), some (vI a3)] [] M _ _
  unfold fX10_keep at hf
  refine x_aload_n (pc := 0) dX10_keep_0 rfl ?_
  refine x_getI (t := 8) (j := 3) (pc := 1) dX10_keep_1 (axEx hG rfl) rfl (by decide) (by decide) rfl WF_X10_24 ?_
  refine ax_cmp1 (fun b2a b2b => ?_)
  refine x_iflt (tgt := 59) (pc := 4) dX10_keep_4 rfl (fun h1 => ?_) (fun h1 => ?_)
  · replace hf := (if_pos h1).symm.trans hf
    cases hf
    exact x_retV (pc := 59) dX10_keep_59
  · replace hf := (if_neg (Int.not_lt.mpr h1)).symm.trans hf
    refine x_aload_n (pc := 7) dX10_keep_7 rfl ?_
    refine x_getI (t := 8) (j := 3) (pc := 8) dX10_keep_8 (axEx hG rfl) rfl (by decide) (by decide) rfl WF_X10_24 ?_
    refine x_aload_n (pc := 11) dX10_keep_11 rfl ?_
    refine x_getF (t := 8) (j := 0) (r := 154) (pc := 12) dX10_keep_12 (axH hG rfl) (axEx hG rfl) rfl (by decide) (by decide) rfl rfl WF_X10_11 ?_
    refine x_alen (t := 4) (n := 401) (pc := 15) dX10_keep_15 (axEx hG rfl) rfl (by decide) (by decide) ?_
    refine ax_cmp (fun b4a b4b b4c b4e => ?_)
    refine x_icmpge (tgt := 59) (pc := 16) dX10_keep_16 rfl (fun h3 => ?_) (fun h3 => ?_)
    · replace hf := (if_neg (Int.not_lt.mpr h3)).symm.trans hf
      cases hf
      exact x_retV (pc := 59) dX10_keep_59
    · replace hf := (if_pos h3).symm.trans hf
      refine x_aload_n (pc := 19) dX10_keep_19 rfl ?_
      refine x_getF (t := 8) (j := 0) (r := 154) (pc := 20) dX10_keep_20 (axH hG rfl) (axEx hG rfl) rfl (by decide) (by decide) rfl rfl WF_X10_11 ?_
      refine x_aload_n (pc := 23) dX10_keep_23 rfl ?_
      refine x_getI (t := 8) (j := 3) (pc := 24) dX10_keep_24 (axEx hG rfl) rfl (by decide) (by decide) rfl WF_X10_24 ?_
      refine x_aload_n (pc := 27) dX10_keep_27 rfl ?_
      refine x_aast2 (n := 401) (pc := 28) dX10_keep_28 (axEx hG rfl) rfl (by omega) (by omega) y_a1 (by intro j; rfl) ?_
      refine x_aload_n (pc := 29) dX10_keep_29 rfl ?_
      refine x_getF (t := 8) (j := 1) (r := 155) (pc := 30) dX10_keep_30 (axH hG rfl) (axEx hG rfl) rfl (by decide) (by decide) rfl rfl WF_X10_17 ?_
      refine x_aload_n (pc := 33) dX10_keep_33 rfl ?_
      refine x_getI (t := 8) (j := 3) (pc := 34) dX10_keep_34 (axEx hG rfl) rfl (by decide) (by decide) rfl WF_X10_24 ?_
      refine x_iload_n (pc := 37) dX10_keep_37 rfl ?_
      by_cases h5 : 0 ≤ (mI (mUR M 154 (Int.toNat (mI M 153 3)) (some a1)) 153 3) ∧ (mI (mUR M 154 (Int.toNat (mI M 153 3)) (some a1)) 153 3) < 401
      · replace hf := (if_pos h5).symm.trans hf
        refine x_iast2 (n := 401) (pc := 38) dX10_keep_38 (axEx hG rfl) rfl h5.1 h5.2 ?_
        refine x_aload_n (pc := 39) dX10_keep_39 rfl ?_
        refine x_getF (t := 8) (j := 2) (r := 156) (pc := 40) dX10_keep_40 (axH hG rfl) (axEx hG rfl) rfl (by decide) (by decide) rfl rfl WF_X10_21 ?_
        refine x_aload_n (pc := 43) dX10_keep_43 rfl ?_
        refine x_getI (t := 8) (j := 3) (pc := 44) dX10_keep_44 (axEx hG rfl) rfl (by decide) (by decide) rfl WF_X10_24 ?_
        refine x_iload_n (pc := 47) dX10_keep_47 rfl ?_
        by_cases h6 : 0 ≤ (mI (mUI (mUR M 154 (Int.toNat (mI M 153 3)) (some a1)) 155 (Int.toNat (mI (mUR M 154 (Int.toNat (mI M 153 3)) (some a1)) 153 3)) a2) 153 3) ∧ (mI (mUI (mUR M 154 (Int.toNat (mI M 153 3)) (some a1)) 155 (Int.toNat (mI (mUR M 154 (Int.toNat (mI M 153 3)) (some a1)) 153 3)) a2) 153 3) < 401
        · replace hf := (if_pos h6).symm.trans hf
          refine x_iast2 (n := 401) (pc := 48) dX10_keep_48 (axEx hG rfl) rfl h6.1 h6.2 ?_
          refine x_aload_n (pc := 49) dX10_keep_49 rfl ?_
          refine x_dup (pc := 50) dX10_keep_50 rfl ?_
          refine x_getI (t := 8) (j := 3) (pc := 51) dX10_keep_51 (axEx hG rfl) rfl (by decide) (by decide) rfl WF_X10_24 ?_
          refine x_iconst (pc := 54) dX10_keep_54 ⟨by decide, by decide⟩ ?_
          refine x_iaddw (pc := 55) dX10_keep_55 ?_
          refine x_putI (t := 8) (j := 3) (pc := 56) dX10_keep_56 (axEx hG rfl) rfl (by decide) (by decide) rfl rfl WF_X10_24 ?_
          cases hf
          exact x_retV (pc := 59) dX10_keep_59
        · replace hf := (if_neg h6).symm.trans hf
          cases hf
      · replace hf := (if_neg h5).symm.trans hf
        cases hf
/- HexPond$Tokens.read(LHexPond$Tape;)V -/
def fX10_read_b9 (M : ax_M) (v2 : Int) (v3 : Int) : Option ((Int × Int × ax_M) ⊕ (ax_M ⊕ ax_M)) :=
  (if 400 < v3 then (some (.inr (.inr M))) else (bd1 (fX10_behindBlanks M v2) fun v4 => (bd1 (fX10_behindToken M v4) fun v6 => (bd1 (fX10_kindBetween M v4 v6) fun v8 => (if v3 = 400 then (if v8 = 49 then (bd1 (fX10_keep M v8 v4 0) fun M15 => (some (.inr (.inl M15)))) else (bd1 (fX10_keep M 50 v4 0) fun M19 => (some (.inr (.inl M19))))) else (if v8 = 48 then (bd1 (fX10_numberBetween M v4 v6) fun v24 => (bd1 (fX10_keep M v8 v4 v24) fun M26 => (some (.inl (v6, (v3 + 1), M26))))) else (bd1 (fX10_keep M v8 v4 0) fun M30 => (if v8 = 49 then (some (.inr (.inl M30))) else (if v8 = 50 then (some (.inr (.inl M30))) else (some (.inl (v6, (v3 + 1), M30))))))))))))
def fX10_read (M : ax_M) : Option ax_M :=
  (bdS (lp (fun s => fX10_read_b9 s.2.2 s.1 s.2.1) lpN (0, 0, (mUI M 153 3 0))) (fun t33 => (some t33)) (fun t35 => (some t35)))
theorem B_X10_read_9 {G : ax_G} {d : Nat} (hd : 7 ≤ d) (hG : axPs G 150 244) {M : ax_M} {v2 : Int} {v3 : Int} {o : Option ax_V ⊕ String} {M' : ax_M} {y : (Int × Int × ax_M) ⊕ (ax_M ⊕ ax_M)} (hf : fX10_read_b9 M v2 v3 = some y) (h1 : ∀ s', y = .inl s' → ax_Ex G tX10_read d 9 [some (vR 153), some (vR 151), some (vI s'.1), some (vI s'.2.1), none, none] [] s'.2.2 o M') (h2a : ∀ t, y = .inr (.inl t) → ax_Ex G tX10_read d 100 [some (vR 153), some (vR 151), none, none, none, none] [] t o M') (h2b : ∀ t, y = .inr (.inr t) → ax_Ex G tX10_read d 110 [some (vR 153), some (vR 151), none, none, none, none] [] t o M') : ax_Ex G tX10_read d 9 [some (vR 153), some (vR 151), some (vI v2), some (vI v3), none, none] [] M o M' := by
  unfold fX10_read_b9 at hf
  refine x_iload_n (pc := 9) dX10_read_9 rfl ?_
  refine x_sipush (pc := 10) dX10_read_10 (by decide) ⟨by decide, by decide⟩ ?_
  refine ax_cmp (fun b2a b2b b2c b2e => ?_)
  refine x_icmpgt (tgt := 110) (pc := 13) dX10_read_13 rfl (fun h1 => ?_) (fun h1 => ?_)
  · replace hf := (if_pos h1).symm.trans hf
    cases hf
    exact x_fgt (axS' (axS' (axN' (axN' (axN' (axN' axD)))))) (h2b _ rfl)
  · replace hf := (if_neg (Int.not_lt.mpr h1)).symm.trans hf
    refine x_aload_n (pc := 16) dX10_read_16 rfl ?_
    refine x_iload_n (pc := 17) dX10_read_17 rfl ?_
    obtain ⟨v4, r3, hf⟩ := bd1_some hf
    refine x_cr (v := vI v4) (vs := [vR 151, vI v2]) (rest := []) (k := 1) rfl (by omega) (ax_caS (pc := 18) dX10_read_18 kX10_behindBlanks rfl rfl WM_X10_32 WT_X10_behindBlanks WN_X10 (Nat.le_of_ble_eq_true rfl)) kX10_behindBlanks rfl True.intro (T_X10_behindBlanks (by omega) hG r3) ?_
    refine x_istore_n (ls' := [some (vR 153), some (vR 151), some (vI v4), some (vI v3), none, none]) (pc := 21) dX10_read_21 (Nat.le_of_ble_eq_true rfl) rfl rfl ?_
    refine x_aload_n (pc := 22) dX10_read_22 rfl ?_
    refine x_iload_n (pc := 23) dX10_read_23 rfl ?_
    obtain ⟨v6, r5, hf⟩ := bd1_some hf
    refine x_cr (v := vI v6) (vs := [vR 151, vI v4]) (rest := []) (k := 2) rfl (by omega) (ax_caS (pc := 24) dX10_read_24 kX10_behindToken rfl rfl WM_X10_36 WT_X10_behindToken WN_X10 (Nat.le_of_ble_eq_true rfl)) kX10_behindToken rfl True.intro (T_X10_behindToken (by omega) hG r5) ?_
    refine x_istore (ls' := [some (vR 153), some (vR 151), some (vI v4), some (vI v3), some (vI v6), none]) (pc := 27) dX10_read_27 (Nat.le_of_ble_eq_true rfl) rfl rfl ?_
    refine x_aload_n (pc := 29) dX10_read_29 rfl ?_
    refine x_iload_n (pc := 30) dX10_read_30 rfl ?_
    refine x_iload (pc := 31) dX10_read_31 rfl ?_
    obtain ⟨v8, r7, hf⟩ := bd1_some hf
    refine ax_know (fun g9 _ _ => ?_)
    have q10 := R_X10_kindBetween g9 r7
    refine x_cr (v := vR v8) (vs := [vR 151, vI v4, vI v6]) (rest := []) (k := 4) rfl (by omega) (ax_caS (pc := 33) dX10_read_33 kX10_kindBetween rfl rfl WM_X10_39 WT_X10_kindBetween WN_X10 (Nat.le_of_ble_eq_true rfl)) kX10_kindBetween rfl True.intro (T_X10_kindBetween (by omega) hG r7) ?_
    refine x_astore (ls' := [some (vR 153), some (vR 151), some (vI v4), some (vI v3), some (vI v6), some (vR v8)]) (pc := 36) dX10_read_36 (Nat.le_of_ble_eq_true rfl) rfl rfl ?_
    refine x_iload_n (pc := 38) dX10_read_38 rfl ?_
    refine x_sipush (pc := 39) dX10_read_39 (by decide) ⟨by decide, by decide⟩ ?_
    refine x_icmpne (tgt := 58) (pc := 42) dX10_read_42 rfl (fun h11 => ?_) (fun h11 => ?_)
    · replace hf := (if_neg h11).symm.trans hf
      refine x_aload_n (pc := 58) dX10_read_58 rfl ?_
      refine x_aload (pc := 59) dX10_read_59 rfl ?_
      refine x_iload_n (pc := 61) dX10_read_61 rfl ?_
      refine x_aload (pc := 62) dX10_read_62 rfl ?_
      refine x_gets (v := vR 48) _ (pc := 64) dX10_read_64 (axS_mem (n := 46) rfl) rfl trivial WF_X10_46 ?_
      refine x_acmpne (tgt := 80) (pc := 67) dX10_read_67 rfl q10 (by decide) (fun h22 => ?_) (fun h22 => ?_)
      · replace hf := (if_neg h22).symm.trans hf
        refine x_iconst (pc := 80) dX10_read_80 ⟨by decide, by decide⟩ ?_
        obtain ⟨M30, r29, hf⟩ := bd1_some hf
        refine x_cv (vs := [vR 153, vR v8, vI v4, vI 0]) (rest := []) (k := 0) rfl (by omega) (ax_caV (pc := 81) dX10_read_81 kX10_keep rfl rfl WM_X10_53 WI_X10_keep WS_X10_keep WN_X10 (ax_rcO (t := 8) (axEx hG rfl) rfl (by decide)) (Nat.le_of_ble_eq_true rfl)) kX10_keep rfl True.intro (T_X10_keep (by omega) hG q10 r29) ?_
        refine x_aload (pc := 84) dX10_read_84 rfl ?_
        refine x_gets (v := vR 49) _ (pc := 86) dX10_read_86 (axS_mem (n := 47) rfl) rfl trivial WF_X10_28 ?_
        refine x_acmpeq (tgt := 100) (pc := 89) dX10_read_89 rfl q10 (by decide) (fun h31 => ?_) (fun h31 => ?_)
        · replace hf := (if_pos h31).symm.trans hf
          cases hf
          exact x_fgt (axS' (axS' (axN' (axN' (axN' (axN' axD)))))) (h2a _ rfl)
        · replace hf := (if_neg h31).symm.trans hf
          refine x_aload (pc := 92) dX10_read_92 rfl ?_
          refine x_gets (v := vR 50) _ (pc := 94) dX10_read_94 (axS_mem (n := 48) rfl) rfl trivial WF_X10_43 ?_
          refine x_acmpne (tgt := 101) (pc := 97) dX10_read_97 rfl q10 (by decide) (fun h32 => ?_) (fun h32 => ?_)
          · replace hf := (if_neg h32).symm.trans hf
            refine x_iload (pc := 101) dX10_read_101 rfl ?_
            refine x_istore_n (ls' := [some (vR 153), some (vR 151), some (vI v6), some (vI v3), some (vI v6), some (vR v8)]) (pc := 103) dX10_read_103 (Nat.le_of_ble_eq_true rfl) rfl rfl ?_
            refine x_iinc (z := (v3 + 1)) (ls' := [some (vR 153), some (vR 151), some (vI v6), some (vI (v3 + 1)), some (vI v6), some (vR v8)]) (pc := 104) dX10_read_104 rfl (Nat.le_of_ble_eq_true rfl) rfl rfl (ax_i (by omega) (by omega)) rfl ?_
            refine x_goto (tgt := 9) (pc := 107) dX10_read_107 rfl ?_
            cases hf
            exact x_fgt (axS' (axS' (axS' (axS' (axN' (axN' axD)))))) (h1 _ rfl)
          · replace hf := (if_pos h32).symm.trans hf
            cases hf
            exact x_fgt (axS' (axS' (axN' (axN' (axN' (axN' axD)))))) (h2a _ rfl)
      · replace hf := (if_pos h22).symm.trans hf
        refine x_aload_n (pc := 70) dX10_read_70 rfl ?_
        refine x_iload_n (pc := 71) dX10_read_71 rfl ?_
        refine x_iload (pc := 72) dX10_read_72 rfl ?_
        obtain ⟨v24, r23, hf⟩ := bd1_some hf
        refine x_cr (v := vI v24) (vs := [vR 151, vI v4, vI v6]) (rest := [vI v4, vR v8, vR 153]) (k := 2) rfl (by omega) (ax_caS (pc := 74) dX10_read_74 kX10_numberBetween rfl rfl WM_X10_49 WT_X10_numberBetween WN_X10 (Nat.le_of_ble_eq_true rfl)) kX10_numberBetween rfl True.intro (T_X10_numberBetween (by omega) hG r23) ?_
        refine x_goto (tgt := 81) (pc := 77) dX10_read_77 rfl ?_
        obtain ⟨M26, r25, hf⟩ := bd1_some hf
        refine x_cv (vs := [vR 153, vR v8, vI v4, vI v24]) (rest := []) (k := 0) rfl (by omega) (ax_caV (pc := 81) dX10_read_81 kX10_keep rfl rfl WM_X10_53 WI_X10_keep WS_X10_keep WN_X10 (ax_rcO (t := 8) (axEx hG rfl) rfl (by decide)) (Nat.le_of_ble_eq_true rfl)) kX10_keep rfl True.intro (T_X10_keep (by omega) hG q10 r25) ?_
        refine x_aload (pc := 84) dX10_read_84 rfl ?_
        refine x_gets (v := vR 49) _ (pc := 86) dX10_read_86 (axS_mem (n := 47) rfl) rfl trivial WF_X10_28 ?_
        refine x_acmpeq (tgt := 100) (pc := 89) dX10_read_89 rfl q10 (by decide) (fun h27 => absurd h27 (by omega)) (fun h27 => ?_)
        refine x_aload (pc := 92) dX10_read_92 rfl ?_
        refine x_gets (v := vR 50) _ (pc := 94) dX10_read_94 (axS_mem (n := 48) rfl) rfl trivial WF_X10_43 ?_
        refine x_acmpne (tgt := 101) (pc := 97) dX10_read_97 rfl q10 (by decide) (fun h28 => ?_) (fun h28 => absurd h28 (by omega))
        refine x_iload (pc := 101) dX10_read_101 rfl ?_
        refine x_istore_n (ls' := [some (vR 153), some (vR 151), some (vI v6), some (vI v3), some (vI v6), some (vR v8)]) (pc := 103) dX10_read_103 (Nat.le_of_ble_eq_true rfl) rfl rfl ?_
        refine x_iinc (z := (v3 + 1)) (ls' := [some (vR 153), some (vR 151), some (vI v6), some (vI (v3 + 1)), some (vI v6), some (vR v8)]) (pc := 104) dX10_read_104 rfl (Nat.le_of_ble_eq_true rfl) rfl rfl (ax_i (by omega) (by omega)) rfl ?_
        refine x_goto (tgt := 9) (pc := 107) dX10_read_107 rfl ?_
        cases hf
        exact x_fgt (axS' (axS' (axS' (axS' (axN' (axN' axD)))))) (h1 _ rfl)
    · replace hf := (if_pos h11).symm.trans hf
      refine x_aload (pc := 45) dX10_read_45 rfl ?_
      refine x_gets (v := vR 49) _ (pc := 47) dX10_read_47 (axS_mem (n := 47) rfl) rfl trivial WF_X10_28 ?_
      refine x_acmpeq (tgt := 58) (pc := 50) dX10_read_50 rfl q10 (by decide) (fun h12 => ?_) (fun h12 => ?_)
      · replace hf := (if_pos h12).symm.trans hf
        refine x_aload_n (pc := 58) dX10_read_58 rfl ?_
        refine x_aload (pc := 59) dX10_read_59 rfl ?_
        refine x_iload_n (pc := 61) dX10_read_61 rfl ?_
        refine x_aload (pc := 62) dX10_read_62 rfl ?_
        refine x_gets (v := vR 48) _ (pc := 64) dX10_read_64 (axS_mem (n := 46) rfl) rfl trivial WF_X10_46 ?_
        refine x_acmpne (tgt := 80) (pc := 67) dX10_read_67 rfl q10 (by decide) (fun h13 => ?_) (fun h13 => absurd h13 (by omega))
        refine x_iconst (pc := 80) dX10_read_80 ⟨by decide, by decide⟩ ?_
        obtain ⟨M15, r14, hf⟩ := bd1_some hf
        refine x_cv (vs := [vR 153, vR v8, vI v4, vI 0]) (rest := []) (k := 0) rfl (by omega) (ax_caV (pc := 81) dX10_read_81 kX10_keep rfl rfl WM_X10_53 WI_X10_keep WS_X10_keep WN_X10 (ax_rcO (t := 8) (axEx hG rfl) rfl (by decide)) (Nat.le_of_ble_eq_true rfl)) kX10_keep rfl True.intro (T_X10_keep (by omega) hG q10 r14) ?_
        refine x_aload (pc := 84) dX10_read_84 rfl ?_
        refine x_gets (v := vR 49) _ (pc := 86) dX10_read_86 (axS_mem (n := 47) rfl) rfl trivial WF_X10_28 ?_
        refine x_acmpeq (tgt := 100) (pc := 89) dX10_read_89 rfl q10 (by decide) (fun h16 => ?_) (fun h16 => absurd (by omega) h16)
        cases hf
        exact x_fgt (axS' (axS' (axN' (axN' (axN' (axN' axD)))))) (h2a _ rfl)
      · replace hf := (if_neg h12).symm.trans hf
        refine x_gets (v := vR 50) _ (pc := 53) dX10_read_53 (axS_mem (n := 48) rfl) rfl trivial WF_X10_43 ?_
        refine x_astore (ls' := [some (vR 153), some (vR 151), some (vI v4), some (vI v3), some (vI v6), some (vR 50)]) (pc := 56) dX10_read_56 (Nat.le_of_ble_eq_true rfl) rfl rfl ?_
        refine x_aload_n (pc := 58) dX10_read_58 rfl ?_
        refine x_aload (pc := 59) dX10_read_59 rfl ?_
        refine x_iload_n (pc := 61) dX10_read_61 rfl ?_
        refine x_aload (pc := 62) dX10_read_62 rfl ?_
        refine x_gets (v := vR 48) _ (pc := 64) dX10_read_64 (axS_mem (n := 46) rfl) rfl trivial WF_X10_46 ?_
        refine x_acmpne (tgt := 80) (pc := 67) dX10_read_67 rfl (by decide) (by decide) (fun h17 => ?_) (fun h17 => absurd h17 (by omega))
        refine x_iconst (pc := 80) dX10_read_80 ⟨by decide, by decide⟩ ?_
        obtain ⟨M19, r18, hf⟩ := bd1_some hf
        refine x_cv (vs := [vR 153, vR 50, vI v4, vI 0]) (rest := []) (k := 0) rfl (by omega) (ax_caV (pc := 81) dX10_read_81 kX10_keep rfl rfl WM_X10_53 WI_X10_keep WS_X10_keep WN_X10 (ax_rcO (t := 8) (axEx hG rfl) rfl (by decide)) (Nat.le_of_ble_eq_true rfl)) kX10_keep rfl True.intro (T_X10_keep (by omega) hG (by decide) r18) ?_
        refine x_aload (pc := 84) dX10_read_84 rfl ?_
        refine x_gets (v := vR 49) _ (pc := 86) dX10_read_86 (axS_mem (n := 47) rfl) rfl trivial WF_X10_28 ?_
        refine x_acmpeq (tgt := 100) (pc := 89) dX10_read_89 rfl (by decide) (by decide) (fun h20 => absurd h20 (by omega)) (fun h20 => ?_)
        refine x_aload (pc := 92) dX10_read_92 rfl ?_
        refine x_gets (v := vR 50) _ (pc := 94) dX10_read_94 (axS_mem (n := 48) rfl) rfl trivial WF_X10_43 ?_
        refine x_acmpne (tgt := 101) (pc := 97) dX10_read_97 rfl (by decide) (by decide) (fun h21 => absurd (by omega) h21) (fun h21 => ?_)
        cases hf
        exact x_fgt (axS' (axS' (axN' (axN' (axN' (axN' axD)))))) (h2a _ rfl)
theorem T_X10_read {G : ax_G} {d : Nat} (hd : 7 ≤ d) (hG : axPs G 150 244) {M : ax_M} {M1 : ax_M} (hf : fX10_read M = some M1) : ax_Ex G tX10_read d 0 (ax_args [vR 153, vR 151] ++ List.replicate 4 none) [] M (.inl none) M1 := by
  show ax_Ex G tX10_read d 0 [some (vR 153), some (vR 151), none, none, none, none] [] M _ _
  unfold fX10_read at hf
  refine x_aload_n (pc := 0) dX10_read_0 rfl ?_
  refine x_iconst (pc := 1) dX10_read_1 ⟨by decide, by decide⟩ ?_
  refine x_putI (t := 8) (j := 3) (pc := 2) dX10_read_2 (axEx hG rfl) rfl (by decide) (by decide) rfl rfl WF_X10_24 ?_
  refine x_iconst (pc := 5) dX10_read_5 ⟨by decide, by decide⟩ ?_
  refine x_istore_n (ls' := [some (vR 153), some (vR 151), some (vI 0), none, none, none]) (pc := 6) dX10_read_6 (Nat.le_of_ble_eq_true rfl) rfl rfl ?_
  refine x_iconst (pc := 7) dX10_read_7 ⟨by decide, by decide⟩ ?_
  refine x_istore_n (ls' := [some (vR 153), some (vR 151), some (vI 0), some (vI 0), none, none]) (pc := 8) dX10_read_8 (Nat.le_of_ble_eq_true rfl) rfl rfl ?_
  rcases bdS_some hf with ⟨t33, t34, hf⟩ | ⟨t35, t36, hf⟩
  · refine lp_ex (P := (fun s => ax_Ex G tX10_read d 9 [some (vR 153), some (vR 151), some (vI s.1), some (vI s.2.1), none, none] [] s.2.2 _ _)) (K := (fun r => (∀ t, r = .inl t → ax_Ex G tX10_read d 100 [some (vR 153), some (vR 151), none, none, none, none] [] t _ _) ∧ (∀ t, r = .inr t → ax_Ex G tX10_read d 110 [some (vR 153), some (vR 151), none, none, none, none] [] t _ _))) (fun s y hy h1 h2 => B_X10_read_9 (by omega) hG hy (fun s' e => h1 s' e) (fun t e => (h2 _ e).1 t rfl) (fun t e => (h2 _ e).2 t rfl)) _ _ _ t34 ?_
    refine ⟨fun t e => ?_, fun t e => (by cases e)⟩
    cases e
    cases hf
    exact x_retV (pc := 100) dX10_read_100
  · refine lp_ex (P := (fun s => ax_Ex G tX10_read d 9 [some (vR 153), some (vR 151), some (vI s.1), some (vI s.2.1), none, none] [] s.2.2 _ _)) (K := (fun r => (∀ t, r = .inl t → ax_Ex G tX10_read d 100 [some (vR 153), some (vR 151), none, none, none, none] [] t _ _) ∧ (∀ t, r = .inr t → ax_Ex G tX10_read d 110 [some (vR 153), some (vR 151), none, none, none, none] [] t _ _))) (fun s y hy h1 h2 => B_X10_read_9 (by omega) hG hy (fun s' e => h1 s' e) (fun t e => (h2 _ e).1 t rfl) (fun t e => (h2 _ e).2 t rfl)) _ _ _ t36 ?_
    refine ⟨fun t e => (by cases e), fun t e => ?_⟩
    cases e
    cases hf
    exact x_retV (pc := 110) dX10_read_110
