/-! walks: HexPondModel, what it reads -/
/- HexPondModel.thrown()I -/
def fX14_thrown (M : ax_M) : Int :=
  ((mI M 203 0))
theorem T_X14_thrown {G : ax_G} {d : Nat} (hd : 0 ≤ d) (hG : axPs G 150 244) {M : ax_M} {r : Int} (hf : fX14_thrown M = r) : ax_Ex G tX14_thrown d 0 (ax_args [vR 203] ++ List.replicate 0 none) [] M (.inl (some (vI r))) M := by
  show ax_Ex G tX14_thrown d 0 [some (vR 203)] [] M _ _
  unfold fX14_thrown at hf
  refine x_aload_n (pc := 0) dX14_thrown_0 rfl ?_
  refine x_getI (t := 12) (j := 0) (pc := 1) dX14_thrown_1 (axEx hG rfl) rfl (by decide) (by decide) rfl WF_X14_73 ?_
  subst hf
  exact x_retI (pc := 4) dX14_thrown_4
/- HexPondModel.no(I)I -/
def fX14_no (M : ax_M) (a1 : Int) : Option (Int × ax_M) :=
  (some (0, (mUI M 203 0 a1)))
theorem T_X14_no {G : ax_G} {d : Nat} (hd : 0 ≤ d) (hG : axPs G 150 244) {M : ax_M} {a1 : Int} {r : Int} {M1 : ax_M} (hf : fX14_no M a1 = some (r, M1)) : ax_Ex G tX14_no d 0 (ax_args [vR 203, vI a1] ++ List.replicate 0 none) [] M (.inl (some (vI r))) M1 := by
  show ax_Ex G tX14_no d 0 [some (vR 203), some (vI a1)] [] M _ _
  unfold fX14_no at hf
  refine x_aload_n (pc := 0) dX14_no_0 rfl ?_
  refine x_iload_n (pc := 1) dX14_no_1 rfl ?_
  refine x_putI (t := 12) (j := 0) (pc := 2) dX14_no_2 (axEx hG rfl) rfl (by decide) (by decide) rfl rfl WF_X14_73 ?_
  refine x_iconst (pc := 5) dX14_no_5 ⟨by decide, by decide⟩ ?_
  cases hf
  exact x_retI (pc := 6) dX14_no_6
/- HexPondModel.isNot(I)Z -/
def fX14_isNot (M : ax_M) (a1 : Int) : Option (Int × ax_M) :=
  (some (0, (mUI M 203 0 a1)))
theorem T_X14_isNot {G : ax_G} {d : Nat} (hd : 0 ≤ d) (hG : axPs G 150 244) {M : ax_M} {a1 : Int} {r : Int} {M1 : ax_M} (hf : fX14_isNot M a1 = some (r, M1)) : ax_Ex G tX14_isNot d 0 (ax_args [vR 203, vI a1] ++ List.replicate 0 none) [] M (.inl (some (vI r))) M1 := by
  show ax_Ex G tX14_isNot d 0 [some (vR 203), some (vI a1)] [] M _ _
  unfold fX14_isNot at hf
  refine x_aload_n (pc := 0) dX14_isNot_0 rfl ?_
  refine x_iload_n (pc := 1) dX14_isNot_1 rfl ?_
  refine x_putI (t := 12) (j := 0) (pc := 2) dX14_isNot_2 (axEx hG rfl) rfl (by decide) (by decide) rfl rfl WF_X14_73 ?_
  refine x_iconst (pc := 5) dX14_isNot_5 ⟨by decide, by decide⟩ ?_
  cases hf
  exact x_retI (pc := 6) dX14_isNot_6
theorem Z_X14_isNot {M : ax_M} {a1 : Int} {r : Int} {M1 : ax_M} (hf : fX14_isNot M a1 = some (r, M1)) : r = 0 ∨ r = 1 := by
  unfold fX14_isNot at hf
  cases hf
  exact Or.inl rfl
/- HexPondModel.ok(I)I -/
def fX14_ok (M : ax_M) (a1 : Int) : Option (Int × ax_M) :=
  (some (a1, (mUI M 203 0 0)))
theorem T_X14_ok {G : ax_G} {d : Nat} (hd : 0 ≤ d) (hG : axPs G 150 244) {M : ax_M} {a1 : Int} {r : Int} {M1 : ax_M} (hf : fX14_ok M a1 = some (r, M1)) : ax_Ex G tX14_ok d 0 (ax_args [vR 203, vI a1] ++ List.replicate 0 none) [] M (.inl (some (vI r))) M1 := by
  show ax_Ex G tX14_ok d 0 [some (vR 203), some (vI a1)] [] M _ _
  unfold fX14_ok at hf
  refine x_aload_n (pc := 0) dX14_ok_0 rfl ?_
  refine x_iconst (pc := 1) dX14_ok_1 ⟨by decide, by decide⟩ ?_
  refine x_putI (t := 12) (j := 0) (pc := 2) dX14_ok_2 (axEx hG rfl) rfl (by decide) (by decide) rfl rfl WF_X14_73 ?_
  refine x_iload_n (pc := 5) dX14_ok_5 rfl ?_
  cases hf
  exact x_retI (pc := 6) dX14_ok_6
/- HexPondModel.isIn(III)Z -/
def fX14_isIn (M : ax_M) (a1 : Int) (a2 : Int) (a3 : Int) : Int :=
  (if a1 < a2 then (0) else (if a3 < a1 then (0) else (1)))
theorem T_X14_isIn {G : ax_G} {d : Nat} (hd : 0 ≤ d) (hG : axPs G 150 244) {M : ax_M} {a1 : Int} {a2 : Int} {a3 : Int} {r : Int} (hf : fX14_isIn M a1 a2 a3 = r) : ax_Ex G tX14_isIn d 0 (ax_args [vI a1, vI a2, vI a3] ++ List.replicate 0 none) [] M (.inl (some (vI r))) M := by
  show ax_Ex G tX14_isIn d 0 [some (vI a1), some (vI a2), some (vI a3)] [] M _ _
  unfold fX14_isIn at hf
  refine x_iload_n (pc := 0) dX14_isIn_0 rfl ?_
  refine x_iload_n (pc := 1) dX14_isIn_1 rfl ?_
  refine ax_cmp (fun b102a b102b b102c b102e => ?_)
  refine x_icmplt (tgt := 14) (pc := 2) dX14_isIn_2 rfl (fun h101 => ?_) (fun h101 => ?_)
  · replace hf := (if_pos h101).symm.trans hf
    refine x_iconst (pc := 14) dX14_isIn_14 ⟨by decide, by decide⟩ ?_
    subst hf
    exact x_retI (pc := 15) dX14_isIn_15
  · replace hf := (if_neg (Int.not_lt.mpr h101)).symm.trans hf
    refine x_iload_n (pc := 5) dX14_isIn_5 rfl ?_
    refine x_iload_n (pc := 6) dX14_isIn_6 rfl ?_
    refine ax_cmp (fun b104a b104b b104c b104e => ?_)
    refine x_icmpgt (tgt := 14) (pc := 7) dX14_isIn_7 rfl (fun h103 => ?_) (fun h103 => ?_)
    · replace hf := (if_pos h103).symm.trans hf
      refine x_iconst (pc := 14) dX14_isIn_14 ⟨by decide, by decide⟩ ?_
      subst hf
      exact x_retI (pc := 15) dX14_isIn_15
    · replace hf := (if_neg (Int.not_lt.mpr h103)).symm.trans hf
      refine x_iconst (pc := 10) dX14_isIn_10 ⟨by decide, by decide⟩ ?_
      refine x_goto (tgt := 15) (pc := 11) dX14_isIn_11 rfl ?_
      subst hf
      exact x_retI (pc := 15) dX14_isIn_15
theorem Z_X14_isIn {M : ax_M} {a1 : Int} {a2 : Int} {a3 : Int} {r : Int} (hf : fX14_isIn M a1 a2 a3 = r) : r = 0 ∨ r = 1 := by
  unfold fX14_isIn at hf
  by_cases h101 : a1 < a2
  · replace hf := (if_pos h101).symm.trans hf
    subst hf
    exact Or.inl rfl
  · replace hf := (if_neg h101).symm.trans hf
    by_cases h103 : a3 < a1
    · replace hf := (if_pos h103).symm.trans hf
      subst hf
      exact Or.inl rfl
    · replace hf := (if_neg h103).symm.trans hf
      subst hf
      exact Or.inr rfl
/- HexPondModel.isLetter(I)Z -/
def fX14_isLetter (M : ax_M) (a1 : Int) : Int :=
  ((fX14_isIn M a1 97 122))
theorem T_X14_isLetter {G : ax_G} {d : Nat} (hd : 1 ≤ d) (hG : axPs G 150 244) {M : ax_M} {a1 : Int} {r : Int} (hf : fX14_isLetter M a1 = r) : ax_Ex G tX14_isLetter d 0 (ax_args [vI a1] ++ List.replicate 0 none) [] M (.inl (some (vI r))) M := by
  show ax_Ex G tX14_isLetter d 0 [some (vI a1)] [] M _ _
  unfold fX14_isLetter at hf
  refine x_iload_n (pc := 0) dX14_isLetter_0 rfl ?_
  refine x_bipush (pc := 1) dX14_isLetter_1 (by decide) ⟨by decide, by decide⟩ ?_
  refine x_bipush (pc := 3) dX14_isLetter_3 (by decide) ⟨by decide, by decide⟩ ?_
  refine x_cr (v := vI (fX14_isIn M a1 97 122)) (vs := [vI a1, vI 97, vI 122]) (rest := []) (k := 0) rfl (by omega) (ax_caS (pc := 5) dX14_isLetter_5 kX14_isIn rfl rfl WM_X14_76 WT_X14_isIn WN_X14 (Nat.le_of_ble_eq_true rfl)) kX14_isIn rfl (Z_X14_isIn rfl) (T_X14_isIn (by omega) hG rfl) ?_
  subst hf
  exact x_retI (pc := 8) dX14_isLetter_8
theorem Z_X14_isLetter {M : ax_M} {a1 : Int} {r : Int} (hf : fX14_isLetter M a1 = r) : r = 0 ∨ r = 1 := by
  unfold fX14_isLetter at hf
  subst hf
  exact (Z_X14_isIn rfl)
/- HexPondModel.isDigit(I)Z -/
def fX14_isDigit (M : ax_M) (a1 : Int) : Int :=
  ((fX14_isIn M a1 48 57))
theorem T_X14_isDigit {G : ax_G} {d : Nat} (hd : 1 ≤ d) (hG : axPs G 150 244) {M : ax_M} {a1 : Int} {r : Int} (hf : fX14_isDigit M a1 = r) : ax_Ex G tX14_isDigit d 0 (ax_args [vI a1] ++ List.replicate 0 none) [] M (.inl (some (vI r))) M := by
  show ax_Ex G tX14_isDigit d 0 [some (vI a1)] [] M _ _
  unfold fX14_isDigit at hf
  refine x_iload_n (pc := 0) dX14_isDigit_0 rfl ?_
  refine x_bipush (pc := 1) dX14_isDigit_1 (by decide) ⟨by decide, by decide⟩ ?_
  refine x_bipush (pc := 3) dX14_isDigit_3 (by decide) ⟨by decide, by decide⟩ ?_
  refine x_cr (v := vI (fX14_isIn M a1 48 57)) (vs := [vI a1, vI 48, vI 57]) (rest := []) (k := 0) rfl (by omega) (ax_caS (pc := 5) dX14_isDigit_5 kX14_isIn rfl rfl WM_X14_76 WT_X14_isIn WN_X14 (Nat.le_of_ble_eq_true rfl)) kX14_isIn rfl (Z_X14_isIn rfl) (T_X14_isIn (by omega) hG rfl) ?_
  subst hf
  exact x_retI (pc := 8) dX14_isDigit_8
theorem Z_X14_isDigit {M : ax_M} {a1 : Int} {r : Int} (hf : fX14_isDigit M a1 = r) : r = 0 ∨ r = 1 := by
  unfold fX14_isDigit at hf
  subst hf
  exact (Z_X14_isIn rfl)
/- HexPondModel.byteAt(I)I -/
def fX14_byteAt (M : ax_M) (a1 : Int) : Option Int :=
  (if a1 < (mI M 203 2) then (if 0 ≤ a1 ∧ a1 < 2000 then (some (mI M 204 (Int.toNat a1))) else none) else (some (-1)))
theorem T_X14_byteAt {G : ax_G} {d : Nat} (hd : 0 ≤ d) (hG : axPs G 150 244) {M : ax_M} {a1 : Int} {r : Int} (hf : fX14_byteAt M a1 = some r) : ax_Ex G tX14_byteAt d 0 (ax_args [vR 203, vI a1] ++ List.replicate 0 none) [] M (.inl (some (vI r))) M := by
  show ax_Ex G tX14_byteAt d 0 [some (vR 203), some (vI a1)] [] M _ _
  unfold fX14_byteAt at hf
  refine x_iload_n (pc := 0) dX14_byteAt_0 rfl ?_
  refine x_aload_n (pc := 1) dX14_byteAt_1 rfl ?_
  refine x_getI (t := 12) (j := 2) (pc := 2) dX14_byteAt_2 (axEx hG rfl) rfl (by decide) (by decide) rfl WF_X14_80 ?_
  refine ax_cmp (fun b102a b102b b102c b102e => ?_)
  refine x_icmpge (tgt := 17) (pc := 5) dX14_byteAt_5 rfl (fun h101 => ?_) (fun h101 => ?_)
  · replace hf := (if_neg (Int.not_lt.mpr h101)).symm.trans hf
    refine x_iconst (pc := 17) dX14_byteAt_17 ⟨by decide, by decide⟩ ?_
    cases hf
    exact x_retI (pc := 18) dX14_byteAt_18
  · replace hf := (if_pos h101).symm.trans hf
    refine x_aload_n (pc := 8) dX14_byteAt_8 rfl ?_
    refine x_getF (t := 12) (j := 1) (r := 204) (pc := 9) dX14_byteAt_9 (axH hG rfl) (axEx hG rfl) rfl (by decide) (by decide) rfl rfl WF_X14_9 ?_
    refine x_iload_n (pc := 12) dX14_byteAt_12 rfl ?_
    by_cases h103 : 0 ≤ a1 ∧ a1 < 2000
    · replace hf := (if_pos h103).symm.trans hf
      refine x_iald2 (n := 2000) (pc := 13) dX14_byteAt_13 (axEx hG rfl) rfl h103.1 h103.2 ?_
      refine x_goto (tgt := 18) (pc := 14) dX14_byteAt_14 rfl ?_
      cases hf
      exact x_retI (pc := 18) dX14_byteAt_18
    · replace hf := (if_neg h103).symm.trans hf
      cases hf
/- HexPondModel.isWord(IILjava/lang/String;)Z -/
def fX14_isWord_b13 (M : ax_M) (x1 : Int) (x2 : Int) (x3 : Nat) (v4 : Int) : Option (Int ⊕ (Unit ⊕ Unit)) :=
  (if v4 < x2 then (if 0 ≤ v4 ∧ v4 < ((cTb (x3 + 42)).length : Int) then (if 0 ≤ (wr (x1 + v4)) ∧ (wr (x1 + v4)) < 2000 then (if ((cTb (x3 + 42)).getD (Int.toNat v4) 0) = (mI M 204 (Int.toNat (wr (x1 + v4)))) then (some (.inl (v4 + 1))) else (some (.inr (.inl ())))) else none) else none) else (some (.inr (.inr ()))))
def fX14_isWord (M : ax_M) (a1 : Int) (a2 : Int) (a3 : Nat) : Option Int :=
  (if ((cTb (a3 + 42)).length : Int) = a2 then (bdS (lp (fun s => fX14_isWord_b13 M a1 a2 a3 s) lpN 0) (fun t107 => (some 0)) (fun t109 => (some 1))) else (some 0))
theorem B_X14_isWord_13 {G : ax_G} {d : Nat} (hd : 5 ≤ d) (hG : axPs G 150 244) {M : ax_M} {x1 : Int} {x2 : Int} {x3 : Nat} {v4 : Int} (hy3 : 60 ≤ x3 ∧ x3 < 102) {o : Option ax_V ⊕ String} {M' : ax_M} {y : Int ⊕ (Unit ⊕ Unit)} (hf : fX14_isWord_b13 M x1 x2 x3 v4 = some y) (h1 : ∀ s', y = .inl s' → ax_Ex G tX14_isWord d 13 [some (vR 203), some (vI x1), some (vI x2), some (vR x3), some (vI s')] [] M o M') (h2a : ∀ t, y = .inr (.inl t) → ax_Ex G tX14_isWord d 37 [some (vR 203), some (vI x1), some (vI x2), some (vR x3), none] [] M o M') (h2b : ∀ t, y = .inr (.inr t) → ax_Ex G tX14_isWord d 45 [some (vR 203), some (vI x1), some (vI x2), some (vR x3), none] [] M o M') : ax_Ex G tX14_isWord d 13 [some (vR 203), some (vI x1), some (vI x2), some (vR x3), some (vI v4)] [] M o M' := by
  unfold fX14_isWord_b13 at hf
  refine x_iload (pc := 13) dX14_isWord_13 rfl ?_
  refine x_iload_n (pc := 15) dX14_isWord_15 rfl ?_
  refine ax_cmp (fun b103a b103b b103c b103e => ?_)
  refine x_icmpge (tgt := 45) (pc := 16) dX14_isWord_16 rfl (fun h102 => ?_) (fun h102 => ?_)
  · replace hf := (if_neg (Int.not_lt.mpr h102)).symm.trans hf
    cases hf
    exact x_fgt (axS' (axS' (axS' (axS' (axN' axD))))) (h2b _ rfl)
  · replace hf := (if_pos h102).symm.trans hf
    refine x_aload_n (pc := 19) dX14_isWord_19 rfl ?_
    refine x_iload (pc := 20) dX14_isWord_20 rfl ?_
    by_cases h104 : 0 ≤ v4 ∧ v4 < ((cTb (x3 + 42)).length : Int)
    · replace hf := (if_pos h104).symm.trans hf
      refine x_cr (v := vI ((cTb (x3 + 42)).getD (Int.toNat v4) 0)) (vs := [vR x3, vI v4]) (rest := []) (k := 0) rfl (by omega) (ax_caV (pc := 22) dX14_isWord_22 kJ0_charAt_5068e rfl rfl WM_X14_89 WI_J0_charAt_5068e WS_J0_charAt_5068e WN_J0 (ax_rcK (axKc_str hy3)) (Nat.le_of_ble_eq_true rfl)) kJ0_charAt_5068e rfl (cTb_char _) (T_schar (by omega) hy3 h104.1 h104.2) ?_
      refine x_aload_n (pc := 25) dX14_isWord_25 rfl ?_
      refine x_getF (t := 12) (j := 1) (r := 204) (pc := 26) dX14_isWord_26 (axH hG rfl) (axEx hG rfl) rfl (by decide) (by decide) rfl rfl WF_X14_9 ?_
      refine x_iload_n (pc := 29) dX14_isWord_29 rfl ?_
      refine x_iload (pc := 30) dX14_isWord_30 rfl ?_
      refine x_iaddw (pc := 32) dX14_isWord_32 ?_
      by_cases h105 : 0 ≤ (wr (x1 + v4)) ∧ (wr (x1 + v4)) < 2000
      · replace hf := (if_pos h105).symm.trans hf
        refine x_iald2 (n := 2000) (pc := 33) dX14_isWord_33 (axEx hG rfl) rfl h105.1 h105.2 ?_
        refine x_icmpeq (tgt := 39) (pc := 34) dX14_isWord_34 rfl (fun h106 => ?_) (fun h106 => ?_)
        · replace hf := (if_pos h106).symm.trans hf
          refine x_iinc (z := (v4 + 1)) (ls' := [some (vR 203), some (vI x1), some (vI x2), some (vR x3), some (vI (v4 + 1))]) (pc := 39) dX14_isWord_39 rfl (Nat.le_of_ble_eq_true rfl) rfl rfl (ax_i (by omega) (by omega)) rfl ?_
          refine x_goto (tgt := 13) (pc := 42) dX14_isWord_42 rfl ?_
          cases hf
          exact h1 _ rfl
        · replace hf := (if_neg h106).symm.trans hf
          cases hf
          exact x_fgt (axS' (axS' (axS' (axS' (axN' axD))))) (h2a _ rfl)
      · replace hf := (if_neg h105).symm.trans hf
        cases hf
    · replace hf := (if_neg h104).symm.trans hf
      cases hf
theorem T_X14_isWord {G : ax_G} {d : Nat} (hd : 5 ≤ d) (hG : axPs G 150 244) {M : ax_M} {a1 : Int} {a2 : Int} {a3 : Nat} (y_a3 : 60 ≤ a3 ∧ a3 < 102) {r : Int} (hf : fX14_isWord M a1 a2 a3 = some r) : ax_Ex G tX14_isWord d 0 (ax_args [vR 203, vI a1, vI a2, vR a3] ++ List.replicate 1 none) [] M (.inl (some (vI r))) M := by
  show ax_Ex G tX14_isWord d 0 [some (vR 203), some (vI a1), some (vI a2), some (vR a3), none] [] M _ _
  unfold fX14_isWord at hf
  refine x_aload_n (pc := 0) dX14_isWord_0 rfl ?_
  refine x_cr (v := vI ((cTb (a3 + 42)).length : Int)) (vs := [vR a3]) (rest := []) (k := 0) rfl (by omega) (ax_caV (pc := 1) dX14_isWord_1 kJ0_length_8abf5 rfl rfl WM_X14_83 WI_J0_length_8abf5 WS_J0_length_8abf5 WN_J0 (ax_rcK (axKc_str y_a3)) (Nat.le_of_ble_eq_true rfl)) kJ0_length_8abf5 rfl True.intro (T_slen (by omega) y_a3) ?_
  refine x_iload_n (pc := 4) dX14_isWord_4 rfl ?_
  refine x_icmpeq (tgt := 10) (pc := 5) dX14_isWord_5 rfl (fun h101 => ?_) (fun h101 => ?_)
  · replace hf := (if_pos h101).symm.trans hf
    refine x_iconst (pc := 10) dX14_isWord_10 ⟨by decide, by decide⟩ ?_
    refine x_istore (ls' := [some (vR 203), some (vI a1), some (vI a2), some (vR a3), some (vI 0)]) (pc := 11) dX14_isWord_11 (Nat.le_of_ble_eq_true rfl) rfl rfl ?_
    rcases bdS_some hf with ⟨t107, t108, hf⟩ | ⟨t109, t110, hf⟩
    · refine lp_ex (P := (fun s => ax_Ex G tX14_isWord d 13 [some (vR 203), some (vI a1), some (vI a2), some (vR a3), some (vI s)] [] M _ _)) (K := (fun r => (∀ t, r = .inl t → ax_Ex G tX14_isWord d 37 [some (vR 203), some (vI a1), some (vI a2), some (vR a3), none] [] M _ _) ∧ (∀ t, r = .inr t → ax_Ex G tX14_isWord d 45 [some (vR 203), some (vI a1), some (vI a2), some (vR a3), none] [] M _ _))) (fun s y hy h1 h2 => B_X14_isWord_13 (by omega) hG y_a3 hy (fun s' e => h1 s' e) (fun t e => (h2 _ e).1 t rfl) (fun t e => (h2 _ e).2 t rfl)) _ _ _ t108 ?_
      refine ⟨fun t e => ?_, fun t e => (by cases e)⟩
      cases e
      refine x_iconst (pc := 37) dX14_isWord_37 ⟨by decide, by decide⟩ ?_
      cases hf
      exact x_retI (pc := 38) dX14_isWord_38
    · refine lp_ex (P := (fun s => ax_Ex G tX14_isWord d 13 [some (vR 203), some (vI a1), some (vI a2), some (vR a3), some (vI s)] [] M _ _)) (K := (fun r => (∀ t, r = .inl t → ax_Ex G tX14_isWord d 37 [some (vR 203), some (vI a1), some (vI a2), some (vR a3), none] [] M _ _) ∧ (∀ t, r = .inr t → ax_Ex G tX14_isWord d 45 [some (vR 203), some (vI a1), some (vI a2), some (vR a3), none] [] M _ _))) (fun s y hy h1 h2 => B_X14_isWord_13 (by omega) hG y_a3 hy (fun s' e => h1 s' e) (fun t e => (h2 _ e).1 t rfl) (fun t e => (h2 _ e).2 t rfl)) _ _ _ t110 ?_
      refine ⟨fun t e => (by cases e), fun t e => ?_⟩
      cases e
      refine x_iconst (pc := 45) dX14_isWord_45 ⟨by decide, by decide⟩ ?_
      cases hf
      exact x_retI (pc := 46) dX14_isWord_46
  · replace hf := (if_neg h101).symm.trans hf
    refine x_iconst (pc := 8) dX14_isWord_8 ⟨by decide, by decide⟩ ?_
    cases hf
    exact x_retI (pc := 9) dX14_isWord_9
theorem Z_X14_isWord {M : ax_M} {a1 : Int} {a2 : Int} {a3 : Nat} {r : Int} (hf : fX14_isWord M a1 a2 a3 = some r) : r = 0 ∨ r = 1 := by
  unfold fX14_isWord at hf
  by_cases h101 : ((cTb (a3 + 42)).length : Int) = a2
  · replace hf := (if_pos h101).symm.trans hf
    rcases bdS_some hf with ⟨t107, t108, hf⟩ | ⟨t109, t110, hf⟩
    · skip
      cases hf
      exact Or.inl rfl
    · skip
      cases hf
      exact Or.inr rfl
  · replace hf := (if_neg h101).symm.trans hf
    cases hf
    exact Or.inl rfl
/- HexPondModel.keyword(II)I -/
def fX14_keyword_b2 (M : ax_M) (x1 : Int) (x2 : Int) (v3 : Int) : Option (Int ⊕ (Int ⊕ Unit)) :=
  (if v3 < 23 then (if 0 ≤ v3 ∧ v3 < 23 then (bd1 (fX14_isWord M x1 x2 (60 + (Int.toNat v3))) fun v105 => (if v105 = 0 then (some (.inl (v3 + 1))) else (some (.inr (.inl v3))))) else none) else (some (.inr (.inr ()))))
def fX14_keyword (M : ax_M) (a1 : Int) (a2 : Int) : Option Int :=
  (bdS (lp (fun s => fX14_keyword_b2 M a1 a2 s) lpN 0) (fun t107 => (some t107)) (fun t109 => (if 10 < a2 then (some 32) else (some 30))))
theorem B_X14_keyword_2 {G : ax_G} {d : Nat} (hd : 6 ≤ d) (hG : axPs G 150 244) {M : ax_M} {x1 : Int} {x2 : Int} {v3 : Int} {o : Option ax_V ⊕ String} {M' : ax_M} {y : Int ⊕ (Int ⊕ Unit)} (hf : fX14_keyword_b2 M x1 x2 v3 = some y) (h1 : ∀ s', y = .inl s' → ax_Ex G tX14_keyword d 2 [some (vR 203), some (vI x1), some (vI x2), some (vI s')] [] M o M') (h2a : ∀ t, y = .inr (.inl t) → ax_Ex G tX14_keyword d 24 [some (vR 203), some (vI x1), some (vI x2), some (vI t)] [] M o M') (h2b : ∀ t, y = .inr (.inr t) → ax_Ex G tX14_keyword d 32 [some (vR 203), some (vI x1), some (vI x2), none] [] M o M') : ax_Ex G tX14_keyword d 2 [some (vR 203), some (vI x1), some (vI x2), some (vI v3)] [] M o M' := by
  unfold fX14_keyword_b2 at hf
  refine x_iload_n (pc := 2) dX14_keyword_2 rfl ?_
  refine x_gets (v := vR 7) _ (pc := 3) dX14_keyword_3 (axS_mem (n := 6) rfl) rfl trivial WF_X14_93 ?_
  refine x_clen (n := 23) (pc := 6) dX14_keyword_6 (axKa_mem (n := 6) rfl) rfl (by decide) ?_
  refine ax_cmp (fun b102a b102b b102c b102e => ?_)
  refine x_icmpge (tgt := 32) (pc := 7) dX14_keyword_7 rfl (fun h101 => ?_) (fun h101 => ?_)
  · replace hf := (if_neg (Int.not_lt.mpr h101)).symm.trans hf
    cases hf
    exact x_fgt (axS' (axS' (axS' (axN' axD)))) (h2b _ rfl)
  · replace hf := (if_pos h101).symm.trans hf
    refine x_aload_n (pc := 10) dX14_keyword_10 rfl ?_
    refine x_iload_n (pc := 11) dX14_keyword_11 rfl ?_
    refine x_iload_n (pc := 12) dX14_keyword_12 rfl ?_
    refine x_gets (v := vR 7) _ (pc := 13) dX14_keyword_13 (axS_mem (n := 6) rfl) rfl trivial WF_X14_93 ?_
    refine x_iload_n (pc := 16) dX14_keyword_16 rfl ?_
    by_cases h103 : 0 ≤ v3 ∧ v3 < 23
    · replace hf := (if_pos h103).symm.trans hf
      refine x_words (pc := 17) dX14_keyword_17 h103.1 h103.2 ?_
      obtain ⟨v105, r104, hf⟩ := bd1_some hf
      refine x_cr (v := vI v105) (vs := [vR 203, vI x1, vI x2, vR (60 + (Int.toNat v3))]) (rest := []) (k := 1) rfl (by omega) (ax_caV (pc := 18) dX14_keyword_18 kX14_isWord rfl rfl WM_X14_97 WI_X14_isWord WS_X14_isWord WN_X14 (ax_rcO (t := 12) (axEx hG rfl) rfl (by decide)) (Nat.le_of_ble_eq_true rfl)) kX14_isWord rfl (Z_X14_isWord r104) (T_X14_isWord (by omega) hG (by omega) r104) ?_
      refine x_ifeq (tgt := 26) (pc := 21) dX14_keyword_21 rfl (fun h106 => ?_) (fun h106 => ?_)
      · replace hf := (if_pos h106).symm.trans hf
        refine x_iinc (z := (v3 + 1)) (ls' := [some (vR 203), some (vI x1), some (vI x2), some (vI (v3 + 1))]) (pc := 26) dX14_keyword_26 rfl (Nat.le_of_ble_eq_true rfl) rfl rfl (ax_i (by omega) (by omega)) rfl ?_
        refine x_goto (tgt := 2) (pc := 29) dX14_keyword_29 rfl ?_
        cases hf
        exact h1 _ rfl
      · replace hf := (if_neg h106).symm.trans hf
        cases hf
        exact h2a _ rfl
    · replace hf := (if_neg h103).symm.trans hf
      cases hf
theorem T_X14_keyword {G : ax_G} {d : Nat} (hd : 6 ≤ d) (hG : axPs G 150 244) {M : ax_M} {a1 : Int} {a2 : Int} {r : Int} (hf : fX14_keyword M a1 a2 = some r) : ax_Ex G tX14_keyword d 0 (ax_args [vR 203, vI a1, vI a2] ++ List.replicate 1 none) [] M (.inl (some (vI r))) M := by
  show ax_Ex G tX14_keyword d 0 [some (vR 203), some (vI a1), some (vI a2), none] [] M _ _
  unfold fX14_keyword at hf
  refine x_iconst (pc := 0) dX14_keyword_0 ⟨by decide, by decide⟩ ?_
  refine x_istore_n (ls' := [some (vR 203), some (vI a1), some (vI a2), some (vI 0)]) (pc := 1) dX14_keyword_1 (Nat.le_of_ble_eq_true rfl) rfl rfl ?_
  rcases bdS_some hf with ⟨t107, t108, hf⟩ | ⟨t109, t110, hf⟩
  · refine lp_ex (P := (fun s => ax_Ex G tX14_keyword d 2 [some (vR 203), some (vI a1), some (vI a2), some (vI s)] [] M _ _)) (K := (fun r => (∀ t, r = .inl t → ax_Ex G tX14_keyword d 24 [some (vR 203), some (vI a1), some (vI a2), some (vI t)] [] M _ _) ∧ (∀ t, r = .inr t → ax_Ex G tX14_keyword d 32 [some (vR 203), some (vI a1), some (vI a2), none] [] M _ _))) (fun s y hy h1 h2 => B_X14_keyword_2 (by omega) hG hy (fun s' e => h1 s' e) (fun t e => (h2 _ e).1 t rfl) (fun t e => (h2 _ e).2 t rfl)) _ _ _ t108 ?_
    refine ⟨fun t e => ?_, fun t e => (by cases e)⟩
    cases e
    refine x_iload_n (pc := 24) dX14_keyword_24 rfl ?_
    cases hf
    exact x_retI (pc := 25) dX14_keyword_25
  · refine lp_ex (P := (fun s => ax_Ex G tX14_keyword d 2 [some (vR 203), some (vI a1), some (vI a2), some (vI s)] [] M _ _)) (K := (fun r => (∀ t, r = .inl t → ax_Ex G tX14_keyword d 24 [some (vR 203), some (vI a1), some (vI a2), some (vI t)] [] M _ _) ∧ (∀ t, r = .inr t → ax_Ex G tX14_keyword d 32 [some (vR 203), some (vI a1), some (vI a2), none] [] M _ _))) (fun s y hy h1 h2 => B_X14_keyword_2 (by omega) hG hy (fun s' e => h1 s' e) (fun t e => (h2 _ e).1 t rfl) (fun t e => (h2 _ e).2 t rfl)) _ _ _ t110 ?_
    refine ⟨fun t e => (by cases e), fun t e => ?_⟩
    cases e
    refine x_iload_n (pc := 32) dX14_keyword_32 rfl ?_
    refine x_bipush (pc := 33) dX14_keyword_33 (by decide) ⟨by decide, by decide⟩ ?_
    refine ax_cmp (fun b112a b112b b112c b112e => ?_)
    refine x_icmple (tgt := 43) (pc := 35) dX14_keyword_35 rfl (fun h111 => ?_) (fun h111 => ?_)
    · replace hf := (if_neg (Int.not_lt.mpr h111)).symm.trans hf
      refine x_bipush (pc := 43) dX14_keyword_43 (by decide) ⟨by decide, by decide⟩ ?_
      cases hf
      exact x_retI (pc := 45) dX14_keyword_45
    · replace hf := (if_pos h111).symm.trans hf
      refine x_bipush (pc := 38) dX14_keyword_38 (by decide) ⟨by decide, by decide⟩ ?_
      refine x_goto (tgt := 45) (pc := 40) dX14_keyword_40 rfl ?_
      cases hf
      exact x_retI (pc := 45) dX14_keyword_45
/- HexPondModel.symbol(I)I -/
def fX14_symbol (M : ax_M) (a1 : Int) : Int :=
  (if a1 = 40 then (49) else (if a1 = 41 then (50) else (if a1 = 42 then (42) else (if a1 = 43 then (40) else (if a1 = 44 then (54) else (if a1 = 45 then (41) else (if a1 = 47 then (43) else (if a1 = 59 then (53) else (if a1 = 60 then (44) else (if a1 = 61 then (46) else (if a1 = 62 then (45) else (if a1 = 91 then (51) else (if a1 = 93 then (52) else (32))))))))))))))
theorem T_X14_symbol {G : ax_G} {d : Nat} (hd : 0 ≤ d) (hG : axPs G 150 244) {M : ax_M} {a1 : Int} {r : Int} (hf : fX14_symbol M a1 = r) : ax_Ex G tX14_symbol d 0 (ax_args [vI a1] ++ List.replicate 0 none) [] M (.inl (some (vI r))) M := by
  show ax_Ex G tX14_symbol d 0 [some (vI a1)] [] M _ _
  unfold fX14_symbol at hf
  refine x_iload_n (pc := 0) dX14_symbol_0 rfl ?_
  by_cases h101 : a1 = 40
  · replace hf := (if_pos h101).symm.trans hf
    refine x_tabIn (tgt := 232) 40 (pc := 1) dX14_symbol_1 h101 (by decide) (by decide) rfl rfl ?_
    refine x_bipush (pc := 232) dX14_symbol_232 (by decide) ⟨by decide, by decide⟩ ?_
    subst hf
    exact x_retI (pc := 234) dX14_symbol_234
  replace hf := (if_neg h101).symm.trans hf
  by_cases h102 : a1 = 41
  · replace hf := (if_pos h102).symm.trans hf
    refine x_tabIn (tgt := 235) 41 (pc := 1) dX14_symbol_1 h102 (by decide) (by decide) rfl rfl ?_
    refine x_bipush (pc := 235) dX14_symbol_235 (by decide) ⟨by decide, by decide⟩ ?_
    subst hf
    exact x_retI (pc := 237) dX14_symbol_237
  replace hf := (if_neg h102).symm.trans hf
  by_cases h103 : a1 = 42
  · replace hf := (if_pos h103).symm.trans hf
    refine x_tabIn (tgt := 256) 42 (pc := 1) dX14_symbol_1 h103 (by decide) (by decide) rfl rfl ?_
    refine x_bipush (pc := 256) dX14_symbol_256 (by decide) ⟨by decide, by decide⟩ ?_
    subst hf
    exact x_retI (pc := 258) dX14_symbol_258
  replace hf := (if_neg h103).symm.trans hf
  by_cases h104 : a1 = 43
  · replace hf := (if_pos h104).symm.trans hf
    refine x_tabIn (tgt := 250) 43 (pc := 1) dX14_symbol_1 h104 (by decide) (by decide) rfl rfl ?_
    refine x_bipush (pc := 250) dX14_symbol_250 (by decide) ⟨by decide, by decide⟩ ?_
    subst hf
    exact x_retI (pc := 252) dX14_symbol_252
  replace hf := (if_neg h104).symm.trans hf
  by_cases h105 : a1 = 44
  · replace hf := (if_pos h105).symm.trans hf
    refine x_tabIn (tgt := 247) 44 (pc := 1) dX14_symbol_1 h105 (by decide) (by decide) rfl rfl ?_
    refine x_bipush (pc := 247) dX14_symbol_247 (by decide) ⟨by decide, by decide⟩ ?_
    subst hf
    exact x_retI (pc := 249) dX14_symbol_249
  replace hf := (if_neg h105).symm.trans hf
  by_cases h106 : a1 = 45
  · replace hf := (if_pos h106).symm.trans hf
    refine x_tabIn (tgt := 253) 45 (pc := 1) dX14_symbol_1 h106 (by decide) (by decide) rfl rfl ?_
    refine x_bipush (pc := 253) dX14_symbol_253 (by decide) ⟨by decide, by decide⟩ ?_
    subst hf
    exact x_retI (pc := 255) dX14_symbol_255
  replace hf := (if_neg h106).symm.trans hf
  by_cases h107 : a1 = 47
  · replace hf := (if_pos h107).symm.trans hf
    refine x_tabIn (tgt := 259) 47 (pc := 1) dX14_symbol_1 h107 (by decide) (by decide) rfl rfl ?_
    refine x_bipush (pc := 259) dX14_symbol_259 (by decide) ⟨by decide, by decide⟩ ?_
    subst hf
    exact x_retI (pc := 261) dX14_symbol_261
  replace hf := (if_neg h107).symm.trans hf
  by_cases h108 : a1 = 59
  · replace hf := (if_pos h108).symm.trans hf
    refine x_tabIn (tgt := 244) 59 (pc := 1) dX14_symbol_1 h108 (by decide) (by decide) rfl rfl ?_
    refine x_bipush (pc := 244) dX14_symbol_244 (by decide) ⟨by decide, by decide⟩ ?_
    subst hf
    exact x_retI (pc := 246) dX14_symbol_246
  replace hf := (if_neg h108).symm.trans hf
  by_cases h109 : a1 = 60
  · replace hf := (if_pos h109).symm.trans hf
    refine x_tabIn (tgt := 262) 60 (pc := 1) dX14_symbol_1 h109 (by decide) (by decide) rfl rfl ?_
    refine x_bipush (pc := 262) dX14_symbol_262 (by decide) ⟨by decide, by decide⟩ ?_
    subst hf
    exact x_retI (pc := 264) dX14_symbol_264
  replace hf := (if_neg h109).symm.trans hf
  by_cases h110 : a1 = 61
  · replace hf := (if_pos h110).symm.trans hf
    refine x_tabIn (tgt := 268) 61 (pc := 1) dX14_symbol_1 h110 (by decide) (by decide) rfl rfl ?_
    refine x_bipush (pc := 268) dX14_symbol_268 (by decide) ⟨by decide, by decide⟩ ?_
    subst hf
    exact x_retI (pc := 270) dX14_symbol_270
  replace hf := (if_neg h110).symm.trans hf
  by_cases h111 : a1 = 62
  · replace hf := (if_pos h111).symm.trans hf
    refine x_tabIn (tgt := 265) 62 (pc := 1) dX14_symbol_1 h111 (by decide) (by decide) rfl rfl ?_
    refine x_bipush (pc := 265) dX14_symbol_265 (by decide) ⟨by decide, by decide⟩ ?_
    subst hf
    exact x_retI (pc := 267) dX14_symbol_267
  replace hf := (if_neg h111).symm.trans hf
  by_cases h112 : a1 = 91
  · replace hf := (if_pos h112).symm.trans hf
    refine x_tabIn (tgt := 238) 91 (pc := 1) dX14_symbol_1 h112 (by decide) (by decide) rfl rfl ?_
    refine x_bipush (pc := 238) dX14_symbol_238 (by decide) ⟨by decide, by decide⟩ ?_
    subst hf
    exact x_retI (pc := 240) dX14_symbol_240
  replace hf := (if_neg h112).symm.trans hf
  by_cases h113 : a1 = 93
  · replace hf := (if_pos h113).symm.trans hf
    refine x_tabIn (tgt := 241) 93 (pc := 1) dX14_symbol_1 h113 (by decide) (by decide) rfl rfl ?_
    refine x_bipush (pc := 241) dX14_symbol_241 (by decide) ⟨by decide, by decide⟩ ?_
    subst hf
    exact x_retI (pc := 243) dX14_symbol_243
  replace hf := (if_neg h113).symm.trans hf
  refine x_tabD (tgt := 271) [40, 41, 42, 43, 44, 45, 47, 59, 60, 61, 62, 91, 93] (pc := 1) dX14_symbol_1 rfl rfl (by decide) (by intro v hv; simp only [List.mem_cons, List.mem_nil_iff, or_false] at hv; omega) ?_
  refine x_bipush (pc := 271) dX14_symbol_271 (by decide) ⟨by decide, by decide⟩ ?_
  subst hf
  exact x_retI (pc := 273) dX14_symbol_273
/- HexPondModel.read(II)I -/
def fX14_read_b87 (M : ax_M) (x1 : Int) (x2 : Int) (v4 : Int) (v5 : Int) : Option ((Int × Int) ⊕ (Int × Int)) :=
  (bd1 (fX14_byteAt M v4) fun v116 => (if (fX14_isDigit M v116) = 0 then (some (.inr (v4, v5))) else (if (wr (v4 - x1)) < 7 then (bd1 (fX14_byteAt M v4) fun v121 => (some (.inl ((wr (v4 + 1)), (wr ((wr ((wr (10 * v5)) + v121)) - 48)))))) else (some (.inl ((wr (v4 + 1)), v5))))))
def fX14_read_b26 (M : ax_M) (x1 : Int) (x2 : Int) (v4 : Int) : Option (Int ⊕ Int) :=
  (bd1 (fX14_byteAt M v4) fun v127 => (if (fX14_isLetter M v127) = 0 then (bd1 (fX14_byteAt M v4) fun v130 => (if (fX14_isDigit M v130) = 0 then (some (.inr v4)) else (some (.inl (wr (v4 + 1)))))) else (some (.inl (wr (v4 + 1))))))
def fX14_read (M : ax_M) (a1 : Int) (a2 : Int) : Option (Int × ax_M) :=
  (if 0 ≤ a1 ∧ a1 < 2000 then (if 0 ≤ a2 ∧ a2 < 402 then (if (fX14_isLetter (mUI M 207 (Int.toNat a2) a1) (mI M 204 (Int.toNat a1))) = 0 then (if (fX14_isDigit (mUI M 207 (Int.toNat a2) a1) (mI M 204 (Int.toNat a1))) = 0 then (if (mI (mUI (mUI M 207 (Int.toNat a2) a1) 205 (Int.toNat a2) (fX14_symbol (mUI M 207 (Int.toNat a2) a1) (mI M 204 (Int.toNat a1)))) 205 (Int.toNat a2)) = 44 then (bd1 (fX14_byteAt (mUI (mUI M 207 (Int.toNat a2) a1) 205 (Int.toNat a2) (fX14_symbol (mUI M 207 (Int.toNat a2) a1) (mI M 204 (Int.toNat a1)))) (a1 + 1)) fun v107 => (if v107 = 61 then (some (((a1 + 1) + 1), (mUI (mUI (mUI M 207 (Int.toNat a2) a1) 205 (Int.toNat a2) (fX14_symbol (mUI M 207 (Int.toNat a2) a1) (mI M 204 (Int.toNat a1)))) 205 (Int.toNat a2) 47))) else (some ((a1 + 1), (mUI (mUI M 207 (Int.toNat a2) a1) 205 (Int.toNat a2) (fX14_symbol (mUI M 207 (Int.toNat a2) a1) (mI M 204 (Int.toNat a1)))))))) else (if (mI (mUI (mUI M 207 (Int.toNat a2) a1) 205 (Int.toNat a2) (fX14_symbol (mUI M 207 (Int.toNat a2) a1) (mI M 204 (Int.toNat a1)))) 205 (Int.toNat a2)) = 45 then (bd1 (fX14_byteAt (mUI (mUI M 207 (Int.toNat a2) a1) 205 (Int.toNat a2) (fX14_symbol (mUI M 207 (Int.toNat a2) a1) (mI M 204 (Int.toNat a1)))) (a1 + 1)) fun v112 => (if v112 = 61 then (some (((a1 + 1) + 1), (mUI (mUI (mUI M 207 (Int.toNat a2) a1) 205 (Int.toNat a2) (fX14_symbol (mUI M 207 (Int.toNat a2) a1) (mI M 204 (Int.toNat a1)))) 205 (Int.toNat a2) 48))) else (some ((a1 + 1), (mUI (mUI M 207 (Int.toNat a2) a1) 205 (Int.toNat a2) (fX14_symbol (mUI M 207 (Int.toNat a2) a1) (mI M 204 (Int.toNat a1)))))))) else (some ((a1 + 1), (mUI (mUI M 207 (Int.toNat a2) a1) 205 (Int.toNat a2) (fX14_symbol (mUI M 207 (Int.toNat a2) a1) (mI M 204 (Int.toNat a1)))))))) else (bd1 (lp (fun s => fX14_read_b87 (mUI M 207 (Int.toNat a2) a1) a1 a2 s.1 s.2) lpN ((a1 + 1), (wr ((mI M 204 (Int.toNat a1)) - 48)))) fun t122 => (if 6 < (wr (t122.1 - a1)) then (some (t122.1, (mUI (mUI (mUI M 207 (Int.toNat a2) a1) 206 (Int.toNat a2) t122.2) 205 (Int.toNat a2) 32))) else (some (t122.1, (mUI (mUI (mUI M 207 (Int.toNat a2) a1) 206 (Int.toNat a2) t122.2) 205 (Int.toNat a2) 31)))))) else (bd1 (lp (fun s => fX14_read_b26 (mUI M 207 (Int.toNat a2) a1) a1 a2 s) lpN (a1 + 1)) fun t132 => (bd1 (fX14_keyword (mUI M 207 (Int.toNat a2) a1) a1 (wr (t132 - a1))) fun v135 => (some (t132, (mUI (mUI M 207 (Int.toNat a2) a1) 205 (Int.toNat a2) v135)))))) else none) else none)
theorem B_X14_read_87 {G : ax_G} {d : Nat} (hd : 7 ≤ d) (hG : axPs G 150 244) {M : ax_M} {x1 : Int} {x2 : Int} {v4 : Int} {v5 : Int} {o : Option ax_V ⊕ String} {M' : ax_M} {y : (Int × Int) ⊕ (Int × Int)} (hf : fX14_read_b87 M x1 x2 v4 v5 = some y) (h1 : ∀ s', y = .inl s' → ax_Ex G tX14_read d 87 [some (vR 203), some (vI x1), some (vI x2), none, some (vI s'.1), some (vI s'.2)] [] M o M') (h2a : ∀ t, y = .inr t → ax_Ex G tX14_read d 136 [some (vR 203), some (vI x1), some (vI x2), none, some (vI t.1), some (vI t.2)] [] M o M') : ax_Ex G tX14_read d 87 [some (vR 203), some (vI x1), some (vI x2), none, some (vI v4), some (vI v5)] [] M o M' := by
  unfold fX14_read_b87 at hf
  refine x_aload_n (pc := 87) dX14_read_87 rfl ?_
  refine x_iload (pc := 88) dX14_read_88 rfl ?_
  obtain ⟨v116, r115, hf⟩ := bd1_some hf
  refine x_cr (v := vI v116) (vs := [vR 203, vI v4]) (rest := []) (k := 0) rfl (by omega) (ax_caV (pc := 90) dX14_read_90 kX14_byteAt rfl rfl WM_X14_105 WI_X14_byteAt WS_X14_byteAt WN_X14 (ax_rcO (t := 12) (axEx hG rfl) rfl (by decide)) (Nat.le_of_ble_eq_true rfl)) kX14_byteAt rfl True.intro (T_X14_byteAt (by omega) hG r115) ?_
  refine x_cr (v := vI (fX14_isDigit M v116)) (vs := [vI v116]) (rest := []) (k := 0) rfl (by omega) (ax_caS (pc := 93) dX14_read_93 kX14_isDigit rfl rfl WM_X14_109 WT_X14_isDigit WN_X14 (Nat.le_of_ble_eq_true rfl)) kX14_isDigit rfl (Z_X14_isDigit rfl) (T_X14_isDigit (by omega) hG rfl) ?_
  refine x_ifeq (tgt := 136) (pc := 96) dX14_read_96 rfl (fun h117 => ?_) (fun h117 => ?_)
  · replace hf := (if_pos h117).symm.trans hf
    cases hf
    exact h2a _ rfl
  · replace hf := (if_neg h117).symm.trans hf
    refine x_iload (pc := 99) dX14_read_99 rfl ?_
    refine x_iload_n (pc := 101) dX14_read_101 rfl ?_
    refine x_isubw (pc := 102) dX14_read_102 ?_
    refine x_bipush (pc := 103) dX14_read_103 (by decide) ⟨by decide, by decide⟩ ?_
    refine ax_cmp (fun b119a b119b b119c b119e => ?_)
    refine x_icmpge (tgt := 126) (pc := 105) dX14_read_105 rfl (fun h118 => ?_) (fun h118 => ?_)
    · replace hf := (if_neg (Int.not_lt.mpr h118)).symm.trans hf
      refine x_iload (pc := 126) dX14_read_126 rfl ?_
      refine x_istore (ls' := [some (vR 203), some (vI x1), some (vI x2), none, some (vI v4), some (vI v5)]) (pc := 128) dX14_read_128 (Nat.le_of_ble_eq_true rfl) rfl rfl ?_
      refine x_iincw (ls' := [some (vR 203), some (vI x1), some (vI x2), none, some (vI (wr (v4 + 1))), some (vI v5)]) (pc := 130) dX14_read_130 rfl (Nat.le_of_ble_eq_true rfl) rfl rfl ?_
      refine x_goto (tgt := 87) (pc := 133) dX14_read_133 rfl ?_
      cases hf
      exact h1 _ rfl
    · replace hf := (if_pos h118).symm.trans hf
      refine x_bipush (pc := 108) dX14_read_108 (by decide) ⟨by decide, by decide⟩ ?_
      refine x_iload (pc := 110) dX14_read_110 rfl ?_
      refine x_imulw (pc := 112) dX14_read_112 ?_
      refine x_aload_n (pc := 113) dX14_read_113 rfl ?_
      refine x_iload (pc := 114) dX14_read_114 rfl ?_
      obtain ⟨v121, r120, hf⟩ := bd1_some hf
      refine x_cr (v := vI v121) (vs := [vR 203, vI v4]) (rest := [vI (wr (10 * v5))]) (k := 0) rfl (by omega) (ax_caV (pc := 116) dX14_read_116 kX14_byteAt rfl rfl WM_X14_105 WI_X14_byteAt WS_X14_byteAt WN_X14 (ax_rcO (t := 12) (axEx hG rfl) rfl (by decide)) (Nat.le_of_ble_eq_true rfl)) kX14_byteAt rfl True.intro (T_X14_byteAt (by omega) hG r120) ?_
      refine x_iaddw (pc := 119) dX14_read_119 ?_
      refine x_bipush (pc := 120) dX14_read_120 (by decide) ⟨by decide, by decide⟩ ?_
      refine x_isubw (pc := 122) dX14_read_122 ?_
      refine x_goto (tgt := 128) (pc := 123) dX14_read_123 rfl ?_
      refine x_istore (ls' := [some (vR 203), some (vI x1), some (vI x2), none, some (vI v4), some (vI (wr ((wr ((wr (10 * v5)) + v121)) - 48)))]) (pc := 128) dX14_read_128 (Nat.le_of_ble_eq_true rfl) rfl rfl ?_
      refine x_iincw (ls' := [some (vR 203), some (vI x1), some (vI x2), none, some (vI (wr (v4 + 1))), some (vI (wr ((wr ((wr (10 * v5)) + v121)) - 48)))]) (pc := 130) dX14_read_130 rfl (Nat.le_of_ble_eq_true rfl) rfl rfl ?_
      refine x_goto (tgt := 87) (pc := 133) dX14_read_133 rfl ?_
      cases hf
      exact h1 _ rfl
theorem B_X14_read_26 {G : ax_G} {d : Nat} (hd : 7 ≤ d) (hG : axPs G 150 244) {M : ax_M} {x1 : Int} {x2 : Int} {v4 : Int} {o : Option ax_V ⊕ String} {M' : ax_M} {y : Int ⊕ Int} (hf : fX14_read_b26 M x1 x2 v4 = some y) (h1 : ∀ s', y = .inl s' → ax_Ex G tX14_read d 26 [some (vR 203), some (vI x1), some (vI x2), none, some (vI s'), none] [] M o M') (h2a : ∀ t, y = .inr t → ax_Ex G tX14_read d 56 [some (vR 203), some (vI x1), some (vI x2), none, some (vI t), none] [] M o M') : ax_Ex G tX14_read d 26 [some (vR 203), some (vI x1), some (vI x2), none, some (vI v4), none] [] M o M' := by
  unfold fX14_read_b26 at hf
  refine x_aload_n (pc := 26) dX14_read_26 rfl ?_
  refine x_iload (pc := 27) dX14_read_27 rfl ?_
  obtain ⟨v127, r126, hf⟩ := bd1_some hf
  refine x_cr (v := vI v127) (vs := [vR 203, vI v4]) (rest := []) (k := 0) rfl (by omega) (ax_caV (pc := 29) dX14_read_29 kX14_byteAt rfl rfl WM_X14_105 WI_X14_byteAt WS_X14_byteAt WN_X14 (ax_rcO (t := 12) (axEx hG rfl) rfl (by decide)) (Nat.le_of_ble_eq_true rfl)) kX14_byteAt rfl True.intro (T_X14_byteAt (by omega) hG r126) ?_
  refine x_cr (v := vI (fX14_isLetter M v127)) (vs := [vI v127]) (rest := []) (k := 0) rfl (by omega) (ax_caS (pc := 32) dX14_read_32 kX14_isLetter rfl rfl WM_X14_101 WT_X14_isLetter WN_X14 (Nat.le_of_ble_eq_true rfl)) kX14_isLetter rfl (Z_X14_isLetter rfl) (T_X14_isLetter (by omega) hG rfl) ?_
  refine x_ifne (tgt := 50) (pc := 35) dX14_read_35 rfl (fun h128 => ?_) (fun h128 => ?_)
  · replace hf := (if_neg h128).symm.trans hf
    refine x_iincw (ls' := [some (vR 203), some (vI x1), some (vI x2), none, some (vI (wr (v4 + 1))), none]) (pc := 50) dX14_read_50 rfl (Nat.le_of_ble_eq_true rfl) rfl rfl ?_
    refine x_goto (tgt := 26) (pc := 53) dX14_read_53 rfl ?_
    cases hf
    exact h1 _ rfl
  · replace hf := (if_pos h128).symm.trans hf
    refine x_aload_n (pc := 38) dX14_read_38 rfl ?_
    refine x_iload (pc := 39) dX14_read_39 rfl ?_
    obtain ⟨v130, r129, hf⟩ := bd1_some hf
    refine x_cr (v := vI v130) (vs := [vR 203, vI v4]) (rest := []) (k := 0) rfl (by omega) (ax_caV (pc := 41) dX14_read_41 kX14_byteAt rfl rfl WM_X14_105 WI_X14_byteAt WS_X14_byteAt WN_X14 (ax_rcO (t := 12) (axEx hG rfl) rfl (by decide)) (Nat.le_of_ble_eq_true rfl)) kX14_byteAt rfl True.intro (T_X14_byteAt (by omega) hG r129) ?_
    refine x_cr (v := vI (fX14_isDigit M v130)) (vs := [vI v130]) (rest := []) (k := 0) rfl (by omega) (ax_caS (pc := 44) dX14_read_44 kX14_isDigit rfl rfl WM_X14_109 WT_X14_isDigit WN_X14 (Nat.le_of_ble_eq_true rfl)) kX14_isDigit rfl (Z_X14_isDigit rfl) (T_X14_isDigit (by omega) hG rfl) ?_
    refine x_ifeq (tgt := 56) (pc := 47) dX14_read_47 rfl (fun h131 => ?_) (fun h131 => ?_)
    · replace hf := (if_pos h131).symm.trans hf
      cases hf
      exact h2a _ rfl
    · replace hf := (if_neg h131).symm.trans hf
      refine x_iincw (ls' := [some (vR 203), some (vI x1), some (vI x2), none, some (vI (wr (v4 + 1))), none]) (pc := 50) dX14_read_50 rfl (Nat.le_of_ble_eq_true rfl) rfl rfl ?_
      refine x_goto (tgt := 26) (pc := 53) dX14_read_53 rfl ?_
      cases hf
      exact h1 _ rfl
theorem T_X14_read {G : ax_G} {d : Nat} (hd : 7 ≤ d) (hG : axPs G 150 244) {M : ax_M} {a1 : Int} {a2 : Int} {r : Int} {M1 : ax_M} (hf : fX14_read M a1 a2 = some (r, M1)) : ax_Ex G tX14_read d 0 (ax_args [vR 203, vI a1, vI a2] ++ List.replicate 3 none) [] M (.inl (some (vI r))) M1 := by
  show ax_Ex G tX14_read d 0 [some (vR 203), some (vI a1), some (vI a2), none, none, none] [] M _ _
  unfold fX14_read at hf
  refine x_aload_n (pc := 0) dX14_read_0 rfl ?_
  refine x_getF (t := 12) (j := 1) (r := 204) (pc := 1) dX14_read_1 (axH hG rfl) (axEx hG rfl) rfl (by decide) (by decide) rfl rfl WF_X14_9 ?_
  refine x_iload_n (pc := 4) dX14_read_4 rfl ?_
  by_cases h101 : 0 ≤ a1 ∧ a1 < 2000
  · replace hf := (if_pos h101).symm.trans hf
    refine x_iald2 (n := 2000) (pc := 5) dX14_read_5 (axEx hG rfl) rfl h101.1 h101.2 ?_
    refine x_istore_n (ls' := [some (vR 203), some (vI a1), some (vI a2), some (vI (mI M 204 (Int.toNat a1))), none, none]) (pc := 6) dX14_read_6 (Nat.le_of_ble_eq_true rfl) rfl rfl ?_
    refine x_iload_n (pc := 7) dX14_read_7 rfl ?_
    refine x_iconst (pc := 8) dX14_read_8 ⟨by decide, by decide⟩ ?_
    refine x_iadd (z := (a1 + 1)) (pc := 9) dX14_read_9 rfl (ax_i (by omega) (by omega)) ?_
    refine x_istore (ls' := [some (vR 203), some (vI a1), some (vI a2), some (vI (mI M 204 (Int.toNat a1))), some (vI (a1 + 1)), none]) (pc := 10) dX14_read_10 (Nat.le_of_ble_eq_true rfl) rfl rfl ?_
    refine x_aload_n (pc := 12) dX14_read_12 rfl ?_
    refine x_getF (t := 12) (j := 6) (r := 207) (pc := 13) dX14_read_13 (axH hG rfl) (axEx hG rfl) rfl (by decide) (by decide) rfl rfl WF_X14_23 ?_
    refine x_iload_n (pc := 16) dX14_read_16 rfl ?_
    refine x_iload_n (pc := 17) dX14_read_17 rfl ?_
    by_cases h102 : 0 ≤ a2 ∧ a2 < 402
    · replace hf := (if_pos h102).symm.trans hf
      refine x_iast2 (n := 402) (pc := 18) dX14_read_18 (axEx hG rfl) rfl h102.1 h102.2 ?_
      refine x_iload_n (pc := 19) dX14_read_19 rfl ?_
      refine x_cr (v := vI (fX14_isLetter (mUI M 207 (Int.toNat a2) a1) (mI M 204 (Int.toNat a1)))) (vs := [vI (mI M 204 (Int.toNat a1))]) (rest := []) (k := 0) rfl (by omega) (ax_caS (pc := 20) dX14_read_20 kX14_isLetter rfl rfl WM_X14_101 WT_X14_isLetter WN_X14 (Nat.le_of_ble_eq_true rfl)) kX14_isLetter rfl (Z_X14_isLetter rfl) (T_X14_isLetter (by omega) hG rfl) ?_
      refine x_ifeq (tgt := 74) (pc := 23) dX14_read_23 rfl (fun h103 => ?_) (fun h103 => ?_)
      · replace hf := (if_pos h103).symm.trans hf
        refine x_iload_n (pc := 74) dX14_read_74 rfl ?_
        refine x_cr (v := vI (fX14_isDigit (mUI M 207 (Int.toNat a2) a1) (mI M 204 (Int.toNat a1)))) (vs := [vI (mI M 204 (Int.toNat a1))]) (rest := []) (k := 0) rfl (by omega) (ax_caS (pc := 75) dX14_read_75 kX14_isDigit rfl rfl WM_X14_109 WT_X14_isDigit WN_X14 (Nat.le_of_ble_eq_true rfl)) kX14_isDigit rfl (Z_X14_isDigit rfl) (T_X14_isDigit (by omega) hG rfl) ?_
        refine x_ifeq (tgt := 169) (pc := 78) dX14_read_78 rfl (fun h104 => ?_) (fun h104 => ?_)
        · replace hf := (if_pos h104).symm.trans hf
          refine x_aload_n (pc := 169) dX14_read_169 rfl ?_
          refine x_getF (t := 12) (j := 4) (r := 205) (pc := 170) dX14_read_170 (axH hG rfl) (axEx hG rfl) rfl (by decide) (by decide) rfl rfl WF_X14_17 ?_
          refine x_iload_n (pc := 173) dX14_read_173 rfl ?_
          refine x_iload_n (pc := 174) dX14_read_174 rfl ?_
          refine x_cr (v := vI (fX14_symbol (mUI M 207 (Int.toNat a2) a1) (mI M 204 (Int.toNat a1)))) (vs := [vI (mI M 204 (Int.toNat a1))]) (rest := [vI a2, vR 205]) (k := 0) rfl (by omega) (ax_caS (pc := 175) dX14_read_175 kX14_symbol rfl rfl WM_X14_116 WT_X14_symbol WN_X14 (Nat.le_of_ble_eq_true rfl)) kX14_symbol rfl True.intro (T_X14_symbol (by omega) hG rfl) ?_
          refine x_iast2 (n := 402) (pc := 178) dX14_read_178 (axEx hG rfl) rfl (by omega) (by omega) ?_
          refine x_aload_n (pc := 179) dX14_read_179 rfl ?_
          refine x_getF (t := 12) (j := 4) (r := 205) (pc := 180) dX14_read_180 (axH hG rfl) (axEx hG rfl) rfl (by decide) (by decide) rfl rfl WF_X14_17 ?_
          refine x_iload_n (pc := 183) dX14_read_183 rfl ?_
          refine x_iald2 (n := 402) (pc := 184) dX14_read_184 (axEx hG rfl) rfl (by omega) (by omega) ?_
          refine x_bipush (pc := 185) dX14_read_185 (by decide) ⟨by decide, by decide⟩ ?_
          refine x_icmpeq (tgt := 201) (pc := 187) dX14_read_187 rfl (fun h105 => ?_) (fun h105 => ?_)
          · replace hf := (if_pos h105).symm.trans hf
            refine x_aload_n (pc := 201) dX14_read_201 rfl ?_
            refine x_iload (pc := 202) dX14_read_202 rfl ?_
            obtain ⟨v107, r106, hf⟩ := bd1_some hf
            refine x_cr (v := vI v107) (vs := [vR 203, vI (a1 + 1)]) (rest := []) (k := 0) rfl (by omega) (ax_caV (pc := 204) dX14_read_204 kX14_byteAt rfl rfl WM_X14_105 WI_X14_byteAt WS_X14_byteAt WN_X14 (ax_rcO (t := 12) (axEx hG rfl) rfl (by decide)) (Nat.le_of_ble_eq_true rfl)) kX14_byteAt rfl True.intro (T_X14_byteAt (by omega) hG r106) ?_
            refine x_bipush (pc := 207) dX14_read_207 (by decide) ⟨by decide, by decide⟩ ?_
            refine x_icmpne (tgt := 239) (pc := 209) dX14_read_209 rfl (fun h108 => ?_) (fun h108 => ?_)
            · replace hf := (if_neg h108).symm.trans hf
              refine x_iload (pc := 239) dX14_read_239 rfl ?_
              cases hf
              exact x_retI (pc := 241) dX14_read_241
            · replace hf := (if_pos h108).symm.trans hf
              refine x_aload_n (pc := 212) dX14_read_212 rfl ?_
              refine x_getF (t := 12) (j := 4) (r := 205) (pc := 213) dX14_read_213 (axH hG rfl) (axEx hG rfl) rfl (by decide) (by decide) rfl rfl WF_X14_17 ?_
              refine x_iload_n (pc := 216) dX14_read_216 rfl ?_
              refine x_aload_n (pc := 217) dX14_read_217 rfl ?_
              refine x_getF (t := 12) (j := 4) (r := 205) (pc := 218) dX14_read_218 (axH hG rfl) (axEx hG rfl) rfl (by decide) (by decide) rfl rfl WF_X14_17 ?_
              refine x_iload_n (pc := 221) dX14_read_221 rfl ?_
              refine x_iald2 (n := 402) (pc := 222) dX14_read_222 (axEx hG rfl) rfl (by omega) (by omega) ?_
              refine x_bipush (pc := 223) dX14_read_223 (by decide) ⟨by decide, by decide⟩ ?_
              refine x_icmpne (tgt := 233) (pc := 225) dX14_read_225 rfl (fun h109 => absurd h109 (by omega)) (fun h109 => ?_)
              refine x_bipush (pc := 228) dX14_read_228 (by decide) ⟨by decide, by decide⟩ ?_
              refine x_goto (tgt := 235) (pc := 230) dX14_read_230 rfl ?_
              refine x_iast2 (n := 402) (pc := 235) dX14_read_235 (axEx hG rfl) rfl (by omega) (by omega) ?_
              refine x_iinc (z := ((a1 + 1) + 1)) (ls' := [some (vR 203), some (vI a1), some (vI a2), some (vI (mI M 204 (Int.toNat a1))), some (vI ((a1 + 1) + 1)), none]) (pc := 236) dX14_read_236 rfl (Nat.le_of_ble_eq_true rfl) rfl rfl (ax_i (by omega) (by omega)) rfl ?_
              refine x_iload (pc := 239) dX14_read_239 rfl ?_
              cases hf
              exact x_retI (pc := 241) dX14_read_241
          · replace hf := (if_neg h105).symm.trans hf
            refine x_aload_n (pc := 190) dX14_read_190 rfl ?_
            refine x_getF (t := 12) (j := 4) (r := 205) (pc := 191) dX14_read_191 (axH hG rfl) (axEx hG rfl) rfl (by decide) (by decide) rfl rfl WF_X14_17 ?_
            refine x_iload_n (pc := 194) dX14_read_194 rfl ?_
            refine x_iald2 (n := 402) (pc := 195) dX14_read_195 (axEx hG rfl) rfl (by omega) (by omega) ?_
            refine x_bipush (pc := 196) dX14_read_196 (by decide) ⟨by decide, by decide⟩ ?_
            refine x_icmpne (tgt := 239) (pc := 198) dX14_read_198 rfl (fun h110 => ?_) (fun h110 => ?_)
            · replace hf := (if_neg h110).symm.trans hf
              refine x_iload (pc := 239) dX14_read_239 rfl ?_
              cases hf
              exact x_retI (pc := 241) dX14_read_241
            · replace hf := (if_pos h110).symm.trans hf
              refine x_aload_n (pc := 201) dX14_read_201 rfl ?_
              refine x_iload (pc := 202) dX14_read_202 rfl ?_
              obtain ⟨v112, r111, hf⟩ := bd1_some hf
              refine x_cr (v := vI v112) (vs := [vR 203, vI (a1 + 1)]) (rest := []) (k := 0) rfl (by omega) (ax_caV (pc := 204) dX14_read_204 kX14_byteAt rfl rfl WM_X14_105 WI_X14_byteAt WS_X14_byteAt WN_X14 (ax_rcO (t := 12) (axEx hG rfl) rfl (by decide)) (Nat.le_of_ble_eq_true rfl)) kX14_byteAt rfl True.intro (T_X14_byteAt (by omega) hG r111) ?_
              refine x_bipush (pc := 207) dX14_read_207 (by decide) ⟨by decide, by decide⟩ ?_
              refine x_icmpne (tgt := 239) (pc := 209) dX14_read_209 rfl (fun h113 => ?_) (fun h113 => ?_)
              · replace hf := (if_neg h113).symm.trans hf
                refine x_iload (pc := 239) dX14_read_239 rfl ?_
                cases hf
                exact x_retI (pc := 241) dX14_read_241
              · replace hf := (if_pos h113).symm.trans hf
                refine x_aload_n (pc := 212) dX14_read_212 rfl ?_
                refine x_getF (t := 12) (j := 4) (r := 205) (pc := 213) dX14_read_213 (axH hG rfl) (axEx hG rfl) rfl (by decide) (by decide) rfl rfl WF_X14_17 ?_
                refine x_iload_n (pc := 216) dX14_read_216 rfl ?_
                refine x_aload_n (pc := 217) dX14_read_217 rfl ?_
                refine x_getF (t := 12) (j := 4) (r := 205) (pc := 218) dX14_read_218 (axH hG rfl) (axEx hG rfl) rfl (by decide) (by decide) rfl rfl WF_X14_17 ?_
                refine x_iload_n (pc := 221) dX14_read_221 rfl ?_
                refine x_iald2 (n := 402) (pc := 222) dX14_read_222 (axEx hG rfl) rfl (by omega) (by omega) ?_
                refine x_bipush (pc := 223) dX14_read_223 (by decide) ⟨by decide, by decide⟩ ?_
                refine x_icmpne (tgt := 233) (pc := 225) dX14_read_225 rfl (fun h114 => ?_) (fun h114 => absurd h114 (by omega))
                refine x_bipush (pc := 233) dX14_read_233 (by decide) ⟨by decide, by decide⟩ ?_
                refine x_iast2 (n := 402) (pc := 235) dX14_read_235 (axEx hG rfl) rfl (by omega) (by omega) ?_
                refine x_iinc (z := ((a1 + 1) + 1)) (ls' := [some (vR 203), some (vI a1), some (vI a2), some (vI (mI M 204 (Int.toNat a1))), some (vI ((a1 + 1) + 1)), none]) (pc := 236) dX14_read_236 rfl (Nat.le_of_ble_eq_true rfl) rfl rfl (ax_i (by omega) (by omega)) rfl ?_
                refine x_iload (pc := 239) dX14_read_239 rfl ?_
                cases hf
                exact x_retI (pc := 241) dX14_read_241
        · replace hf := (if_neg h104).symm.trans hf
          refine x_iload_n (pc := 81) dX14_read_81 rfl ?_
          refine x_bipush (pc := 82) dX14_read_82 (by decide) ⟨by decide, by decide⟩ ?_
          refine x_isubw (pc := 84) dX14_read_84 ?_
          refine x_istore (ls' := [some (vR 203), some (vI a1), some (vI a2), some (vI (mI M 204 (Int.toNat a1))), some (vI (a1 + 1)), some (vI (wr ((mI M 204 (Int.toNat a1)) - 48)))]) (pc := 85) dX14_read_85 (Nat.le_of_ble_eq_true rfl) rfl rfl ?_
          obtain ⟨t122, t123, hf⟩ := bd1_some hf
          refine x_fgt (axS' (axS' (axS' (axN' (axS' (axS' axD)))))) (lp_ex (P := (fun s => ax_Ex G tX14_read d 87 [some (vR 203), some (vI a1), some (vI a2), none, some (vI s.1), some (vI s.2)] [] (mUI M 207 (Int.toNat a2) a1) _ _)) (K := (fun t => ax_Ex G tX14_read d 136 [some (vR 203), some (vI a1), some (vI a2), none, some (vI t.1), some (vI t.2)] [] (mUI M 207 (Int.toNat a2) a1) _ _)) (fun s y hy h1 h2 => B_X14_read_87 (by omega) hG hy (fun s' e => h1 s' e) (fun t e => h2 t e)) _ _ _ t123 ?_)
          refine x_aload_n (pc := 136) dX14_read_136 rfl ?_
          refine x_getF (t := 12) (j := 5) (r := 206) (pc := 137) dX14_read_137 (axH hG rfl) (axEx hG rfl) rfl (by decide) (by decide) rfl rfl WF_X14_20 ?_
          refine x_iload_n (pc := 140) dX14_read_140 rfl ?_
          refine x_iload (pc := 141) dX14_read_141 rfl ?_
          refine x_iast2 (n := 402) (pc := 143) dX14_read_143 (axEx hG rfl) rfl (by omega) (by omega) ?_
          refine x_aload_n (pc := 144) dX14_read_144 rfl ?_
          refine x_getF (t := 12) (j := 4) (r := 205) (pc := 145) dX14_read_145 (axH hG rfl) (axEx hG rfl) rfl (by decide) (by decide) rfl rfl WF_X14_17 ?_
          refine x_iload_n (pc := 148) dX14_read_148 rfl ?_
          refine x_iload (pc := 149) dX14_read_149 rfl ?_
          refine x_iload_n (pc := 151) dX14_read_151 rfl ?_
          refine x_isubw (pc := 152) dX14_read_152 ?_
          refine x_bipush (pc := 153) dX14_read_153 (by decide) ⟨by decide, by decide⟩ ?_
          refine ax_cmp (fun b125a b125b b125c b125e => ?_)
          refine x_icmple (tgt := 163) (pc := 155) dX14_read_155 rfl (fun h124 => ?_) (fun h124 => ?_)
          · replace hf := (if_neg (Int.not_lt.mpr h124)).symm.trans hf
            refine x_bipush (pc := 163) dX14_read_163 (by decide) ⟨by decide, by decide⟩ ?_
            refine x_iast2 (n := 402) (pc := 165) dX14_read_165 (axEx hG rfl) rfl (by omega) (by omega) ?_
            refine x_goto (tgt := 239) (pc := 166) dX14_read_166 rfl ?_
            refine x_iload (pc := 239) dX14_read_239 rfl ?_
            cases hf
            exact x_retI (pc := 241) dX14_read_241
          · replace hf := (if_pos h124).symm.trans hf
            refine x_bipush (pc := 158) dX14_read_158 (by decide) ⟨by decide, by decide⟩ ?_
            refine x_goto (tgt := 165) (pc := 160) dX14_read_160 rfl ?_
            refine x_iast2 (n := 402) (pc := 165) dX14_read_165 (axEx hG rfl) rfl (by omega) (by omega) ?_
            refine x_goto (tgt := 239) (pc := 166) dX14_read_166 rfl ?_
            refine x_iload (pc := 239) dX14_read_239 rfl ?_
            cases hf
            exact x_retI (pc := 241) dX14_read_241
      · replace hf := (if_neg h103).symm.trans hf
        obtain ⟨t132, t133, hf⟩ := bd1_some hf
        refine x_fgt (axS' (axS' (axS' (axN' (axS' (axN' axD)))))) (lp_ex (P := (fun s => ax_Ex G tX14_read d 26 [some (vR 203), some (vI a1), some (vI a2), none, some (vI s), none] [] (mUI M 207 (Int.toNat a2) a1) _ _)) (K := (fun t => ax_Ex G tX14_read d 56 [some (vR 203), some (vI a1), some (vI a2), none, some (vI t), none] [] (mUI M 207 (Int.toNat a2) a1) _ _)) (fun s y hy h1 h2 => B_X14_read_26 (by omega) hG hy (fun s' e => h1 s' e) (fun t e => h2 t e)) _ _ _ t133 ?_)
        refine x_aload_n (pc := 56) dX14_read_56 rfl ?_
        refine x_getF (t := 12) (j := 4) (r := 205) (pc := 57) dX14_read_57 (axH hG rfl) (axEx hG rfl) rfl (by decide) (by decide) rfl rfl WF_X14_17 ?_
        refine x_iload_n (pc := 60) dX14_read_60 rfl ?_
        refine x_aload_n (pc := 61) dX14_read_61 rfl ?_
        refine x_iload_n (pc := 62) dX14_read_62 rfl ?_
        refine x_iload (pc := 63) dX14_read_63 rfl ?_
        refine x_iload_n (pc := 65) dX14_read_65 rfl ?_
        refine x_isubw (pc := 66) dX14_read_66 ?_
        obtain ⟨v135, r134, hf⟩ := bd1_some hf
        refine x_cr (v := vI v135) (vs := [vR 203, vI a1, vI (wr (t132 - a1))]) (rest := [vI a2, vR 205]) (k := 1) rfl (by omega) (ax_caV (pc := 67) dX14_read_67 kX14_keyword rfl rfl WM_X14_112 WI_X14_keyword WS_X14_keyword WN_X14 (ax_rcO (t := 12) (axEx hG rfl) rfl (by decide)) (Nat.le_of_ble_eq_true rfl)) kX14_keyword rfl True.intro (T_X14_keyword (by omega) hG r134) ?_
        refine x_iast2 (n := 402) (pc := 70) dX14_read_70 (axEx hG rfl) rfl (by omega) (by omega) ?_
        refine x_goto (tgt := 239) (pc := 71) dX14_read_71 rfl ?_
        refine x_iload (pc := 239) dX14_read_239 rfl ?_
        cases hf
        exact x_retI (pc := 241) dX14_read_241
    · replace hf := (if_neg h102).symm.trans hf
      cases hf
  · replace hf := (if_neg h101).symm.trans hf
    cases hf
/- HexPondModel.skip(I)I -/
def fX14_skip_b2 (M : ax_M) (v2 : Int) : Option (Int ⊕ Int) :=
  (bd1 (fX14_byteAt M v2) fun v102 => (if v102 = 32 then (some (.inl (wr (v2 + 1)))) else (bd1 (fX14_byteAt M v2) fun v105 => (if v105 = 10 then (some (.inl (wr (v2 + 1)))) else (some (.inr v2))))))
def fX14_skip (M : ax_M) (a1 : Int) : Option Int :=
  (bd1 (lp (fun s => fX14_skip_b2 M s) lpN a1) fun t107 => (some t107))
theorem B_X14_skip_2 {G : ax_G} {d : Nat} (hd : 1 ≤ d) (hG : axPs G 150 244) {M : ax_M} {v2 : Int} {o : Option ax_V ⊕ String} {M' : ax_M} {y : Int ⊕ Int} (hf : fX14_skip_b2 M v2 = some y) (h1 : ∀ s', y = .inl s' → ax_Ex G tX14_skip d 2 [some (vR 203), none, some (vI s')] [] M o M') (h2a : ∀ t, y = .inr t → ax_Ex G tX14_skip d 28 [some (vR 203), none, some (vI t)] [] M o M') : ax_Ex G tX14_skip d 2 [some (vR 203), none, some (vI v2)] [] M o M' := by
  unfold fX14_skip_b2 at hf
  refine x_aload_n (pc := 2) dX14_skip_2 rfl ?_
  refine x_iload_n (pc := 3) dX14_skip_3 rfl ?_
  obtain ⟨v102, r101, hf⟩ := bd1_some hf
  refine x_cr (v := vI v102) (vs := [vR 203, vI v2]) (rest := []) (k := 0) rfl (by omega) (ax_caV (pc := 4) dX14_skip_4 kX14_byteAt rfl rfl WM_X14_105 WI_X14_byteAt WS_X14_byteAt WN_X14 (ax_rcO (t := 12) (axEx hG rfl) rfl (by decide)) (Nat.le_of_ble_eq_true rfl)) kX14_byteAt rfl True.intro (T_X14_byteAt (by omega) hG r101) ?_
  refine x_bipush (pc := 7) dX14_skip_7 (by decide) ⟨by decide, by decide⟩ ?_
  refine x_icmpeq (tgt := 22) (pc := 9) dX14_skip_9 rfl (fun h103 => ?_) (fun h103 => ?_)
  · replace hf := (if_pos h103).symm.trans hf
    refine x_iincw (ls' := [some (vR 203), none, some (vI (wr (v2 + 1)))]) (pc := 22) dX14_skip_22 rfl (Nat.le_of_ble_eq_true rfl) rfl rfl ?_
    refine x_goto (tgt := 2) (pc := 25) dX14_skip_25 rfl ?_
    cases hf
    exact h1 _ rfl
  · replace hf := (if_neg h103).symm.trans hf
    refine x_aload_n (pc := 12) dX14_skip_12 rfl ?_
    refine x_iload_n (pc := 13) dX14_skip_13 rfl ?_
    obtain ⟨v105, r104, hf⟩ := bd1_some hf
    refine x_cr (v := vI v105) (vs := [vR 203, vI v2]) (rest := []) (k := 0) rfl (by omega) (ax_caV (pc := 14) dX14_skip_14 kX14_byteAt rfl rfl WM_X14_105 WI_X14_byteAt WS_X14_byteAt WN_X14 (ax_rcO (t := 12) (axEx hG rfl) rfl (by decide)) (Nat.le_of_ble_eq_true rfl)) kX14_byteAt rfl True.intro (T_X14_byteAt (by omega) hG r104) ?_
    refine x_bipush (pc := 17) dX14_skip_17 (by decide) ⟨by decide, by decide⟩ ?_
    refine x_icmpne (tgt := 28) (pc := 19) dX14_skip_19 rfl (fun h106 => ?_) (fun h106 => ?_)
    · replace hf := (if_neg h106).symm.trans hf
      cases hf
      exact h2a _ rfl
    · replace hf := (if_pos h106).symm.trans hf
      refine x_iincw (ls' := [some (vR 203), none, some (vI (wr (v2 + 1)))]) (pc := 22) dX14_skip_22 rfl (Nat.le_of_ble_eq_true rfl) rfl rfl ?_
      refine x_goto (tgt := 2) (pc := 25) dX14_skip_25 rfl ?_
      cases hf
      exact h1 _ rfl
theorem T_X14_skip {G : ax_G} {d : Nat} (hd : 1 ≤ d) (hG : axPs G 150 244) {M : ax_M} {a1 : Int} {r : Int} (hf : fX14_skip M a1 = some r) : ax_Ex G tX14_skip d 0 (ax_args [vR 203, vI a1] ++ List.replicate 1 none) [] M (.inl (some (vI r))) M := by
  show ax_Ex G tX14_skip d 0 [some (vR 203), some (vI a1), none] [] M _ _
  unfold fX14_skip at hf
  refine x_iload_n (pc := 0) dX14_skip_0 rfl ?_
  refine x_istore_n (ls' := [some (vR 203), some (vI a1), some (vI a1)]) (pc := 1) dX14_skip_1 (Nat.le_of_ble_eq_true rfl) rfl rfl ?_
  obtain ⟨t107, t108, hf⟩ := bd1_some hf
  refine x_fgt (axS' (axN' (axS' axD))) (lp_ex (P := (fun s => ax_Ex G tX14_skip d 2 [some (vR 203), none, some (vI s)] [] M _ _)) (K := (fun t => ax_Ex G tX14_skip d 28 [some (vR 203), none, some (vI t)] [] M _ _)) (fun s y hy h1 h2 => B_X14_skip_2 (by omega) hG hy (fun s' e => h1 s' e) (fun t e => h2 t e)) _ _ _ t108 ?_)
  refine x_iload_n (pc := 28) dX14_skip_28 rfl ?_
  cases hf
  exact x_retI (pc := 29) dX14_skip_29
/- HexPondModel.readAll()V -/
def fX14_readAll_b8 (M : ax_M) (v1 : Int) (v2 : Int) : Option ((Int × Int × ax_M) ⊕ (Int × ax_M)) :=
  (if v1 < (mI M 203 2) then (if v2 = 0 then (bd2 (fX14_read M v1 v2) fun v108 M107 => (bd1 (fX14_skip M107 v108) fun v110 => (some (.inl (v110, (v2 + 1), M107))))) else (if 0 ≤ (wr (v2 - 1)) ∧ (wr (v2 - 1)) < 402 then (if (mI M 205 (Int.toNat (wr (v2 - 1)))) = 32 then (some (.inr (v2, M))) else (bd2 (fX14_read M v1 v2) fun v116 M115 => (bd1 (fX14_skip M115 v116) fun v118 => (if v2 = 400 then (some (.inl (v118, (v2 + 1), (mUI M115 205 (Int.toNat v2) 32)))) else (some (.inl (v118, (wr (v2 + 1)), M115))))))) else none)) else (some (.inr (v2, M))))
def fX14_readAll (M : ax_M) : Option ax_M :=
  (bd1 (fX14_skip M 0) fun v102 => (bd1 (lp (fun s => fX14_readAll_b8 s.2.2 s.1 s.2.1) lpN (v102, 0, M)) fun t120 => (if 0 ≤ t120.1 ∧ t120.1 < 402 then (some (mUI (mUI t120.2 205 (Int.toNat t120.1) 33) 207 (Int.toNat t120.1) (mI (mUI t120.2 205 (Int.toNat t120.1) 33) 203 2))) else none)))
theorem B_X14_readAll_8 {G : ax_G} {d : Nat} (hd : 8 ≤ d) (hG : axPs G 150 244) {M : ax_M} {v1 : Int} {v2 : Int} {o : Option ax_V ⊕ String} {M' : ax_M} {y : (Int × Int × ax_M) ⊕ (Int × ax_M)} (hf : fX14_readAll_b8 M v1 v2 = some y) (h1 : ∀ s', y = .inl s' → ax_Ex G tX14_readAll d 8 [some (vR 203), some (vI s'.1), some (vI s'.2.1)] [] s'.2.2 o M') (h2a : ∀ t, y = .inr t → ax_Ex G tX14_readAll d 65 [some (vR 203), none, some (vI t.1)] [] t.2 o M') : ax_Ex G tX14_readAll d 8 [some (vR 203), some (vI v1), some (vI v2)] [] M o M' := by
  unfold fX14_readAll_b8 at hf
  refine x_iload_n (pc := 8) dX14_readAll_8 rfl ?_
  refine x_aload_n (pc := 9) dX14_readAll_9 rfl ?_
  refine x_getI (t := 12) (j := 2) (pc := 10) dX14_readAll_10 (axEx hG rfl) rfl (by decide) (by decide) rfl WF_X14_80 ?_
  refine ax_cmp (fun b104a b104b b104c b104e => ?_)
  refine x_icmpge (tgt := 65) (pc := 13) dX14_readAll_13 rfl (fun h103 => ?_) (fun h103 => ?_)
  · replace hf := (if_neg (Int.not_lt.mpr h103)).symm.trans hf
    cases hf
    exact x_fgt (axS' (axN' (axS' axD))) (h2a _ rfl)
  · replace hf := (if_pos h103).symm.trans hf
    refine x_iload_n (pc := 16) dX14_readAll_16 rfl ?_
    refine x_ifeq (tgt := 33) (pc := 17) dX14_readAll_17 rfl (fun h105 => ?_) (fun h105 => ?_)
    · replace hf := (if_pos h105).symm.trans hf
      refine x_aload_n (pc := 33) dX14_readAll_33 rfl ?_
      refine x_aload_n (pc := 34) dX14_readAll_34 rfl ?_
      refine x_iload_n (pc := 35) dX14_readAll_35 rfl ?_
      refine x_iload_n (pc := 36) dX14_readAll_36 rfl ?_
      obtain ⟨v108, M107, r106, hf⟩ := bd2_some hf
      refine x_cr (v := vI v108) (vs := [vR 203, vI v1, vI v2]) (rest := [vR 203]) (k := 3) rfl (by omega) (ax_caV (pc := 37) dX14_readAll_37 kX14_read rfl rfl WM_X14_122 WI_X14_read WS_X14_read WN_X14 (ax_rcO (t := 12) (axEx hG rfl) rfl (by decide)) (Nat.le_of_ble_eq_true rfl)) kX14_read rfl True.intro (T_X14_read (by omega) hG r106) ?_
      obtain ⟨v110, r109, hf⟩ := bd1_some hf
      refine x_cr (v := vI v110) (vs := [vR 203, vI v108]) (rest := []) (k := 1) rfl (by omega) (ax_caV (pc := 40) dX14_readAll_40 kX14_skip rfl rfl WM_X14_119 WI_X14_skip WS_X14_skip WN_X14 (ax_rcO (t := 12) (axEx hG rfl) rfl (by decide)) (Nat.le_of_ble_eq_true rfl)) kX14_skip rfl True.intro (T_X14_skip (by omega) hG r109) ?_
      refine x_istore_n (ls' := [some (vR 203), some (vI v110), some (vI v2)]) (pc := 43) dX14_readAll_43 (Nat.le_of_ble_eq_true rfl) rfl rfl ?_
      refine x_iload_n (pc := 44) dX14_readAll_44 rfl ?_
      refine x_sipush (pc := 45) dX14_readAll_45 (by decide) ⟨by decide, by decide⟩ ?_
      refine x_icmpne (tgt := 59) (pc := 48) dX14_readAll_48 rfl (fun h111 => ?_) (fun h111 => absurd h111 (by omega))
      refine x_iinc (z := (v2 + 1)) (ls' := [some (vR 203), some (vI v110), some (vI (v2 + 1))]) (pc := 59) dX14_readAll_59 rfl (Nat.le_of_ble_eq_true rfl) rfl rfl (ax_i (by omega) (by omega)) rfl ?_
      refine x_goto (tgt := 8) (pc := 62) dX14_readAll_62 rfl ?_
      cases hf
      exact h1 _ rfl
    · replace hf := (if_neg h105).symm.trans hf
      refine x_aload_n (pc := 20) dX14_readAll_20 rfl ?_
      refine x_getF (t := 12) (j := 4) (r := 205) (pc := 21) dX14_readAll_21 (axH hG rfl) (axEx hG rfl) rfl (by decide) (by decide) rfl rfl WF_X14_17 ?_
      refine x_iload_n (pc := 24) dX14_readAll_24 rfl ?_
      refine x_iconst (pc := 25) dX14_readAll_25 ⟨by decide, by decide⟩ ?_
      refine x_isubw (pc := 26) dX14_readAll_26 ?_
      by_cases h112 : 0 ≤ (wr (v2 - 1)) ∧ (wr (v2 - 1)) < 402
      · replace hf := (if_pos h112).symm.trans hf
        refine x_iald2 (n := 402) (pc := 27) dX14_readAll_27 (axEx hG rfl) rfl h112.1 h112.2 ?_
        refine x_bipush (pc := 28) dX14_readAll_28 (by decide) ⟨by decide, by decide⟩ ?_
        refine x_icmpeq (tgt := 65) (pc := 30) dX14_readAll_30 rfl (fun h113 => ?_) (fun h113 => ?_)
        · replace hf := (if_pos h113).symm.trans hf
          cases hf
          exact x_fgt (axS' (axN' (axS' axD))) (h2a _ rfl)
        · replace hf := (if_neg h113).symm.trans hf
          refine x_aload_n (pc := 33) dX14_readAll_33 rfl ?_
          refine x_aload_n (pc := 34) dX14_readAll_34 rfl ?_
          refine x_iload_n (pc := 35) dX14_readAll_35 rfl ?_
          refine x_iload_n (pc := 36) dX14_readAll_36 rfl ?_
          obtain ⟨v116, M115, r114, hf⟩ := bd2_some hf
          refine x_cr (v := vI v116) (vs := [vR 203, vI v1, vI v2]) (rest := [vR 203]) (k := 3) rfl (by omega) (ax_caV (pc := 37) dX14_readAll_37 kX14_read rfl rfl WM_X14_122 WI_X14_read WS_X14_read WN_X14 (ax_rcO (t := 12) (axEx hG rfl) rfl (by decide)) (Nat.le_of_ble_eq_true rfl)) kX14_read rfl True.intro (T_X14_read (by omega) hG r114) ?_
          obtain ⟨v118, r117, hf⟩ := bd1_some hf
          refine x_cr (v := vI v118) (vs := [vR 203, vI v116]) (rest := []) (k := 1) rfl (by omega) (ax_caV (pc := 40) dX14_readAll_40 kX14_skip rfl rfl WM_X14_119 WI_X14_skip WS_X14_skip WN_X14 (ax_rcO (t := 12) (axEx hG rfl) rfl (by decide)) (Nat.le_of_ble_eq_true rfl)) kX14_skip rfl True.intro (T_X14_skip (by omega) hG r117) ?_
          refine x_istore_n (ls' := [some (vR 203), some (vI v118), some (vI v2)]) (pc := 43) dX14_readAll_43 (Nat.le_of_ble_eq_true rfl) rfl rfl ?_
          refine x_iload_n (pc := 44) dX14_readAll_44 rfl ?_
          refine x_sipush (pc := 45) dX14_readAll_45 (by decide) ⟨by decide, by decide⟩ ?_
          refine x_icmpne (tgt := 59) (pc := 48) dX14_readAll_48 rfl (fun h119 => ?_) (fun h119 => ?_)
          · replace hf := (if_neg h119).symm.trans hf
            refine x_iincw (ls' := [some (vR 203), some (vI v118), some (vI (wr (v2 + 1)))]) (pc := 59) dX14_readAll_59 rfl (Nat.le_of_ble_eq_true rfl) rfl rfl ?_
            refine x_goto (tgt := 8) (pc := 62) dX14_readAll_62 rfl ?_
            cases hf
            exact h1 _ rfl
          · replace hf := (if_pos h119).symm.trans hf
            refine x_aload_n (pc := 51) dX14_readAll_51 rfl ?_
            refine x_getF (t := 12) (j := 4) (r := 205) (pc := 52) dX14_readAll_52 (axH hG rfl) (axEx hG rfl) rfl (by decide) (by decide) rfl rfl WF_X14_17 ?_
            refine x_iload_n (pc := 55) dX14_readAll_55 rfl ?_
            refine x_bipush (pc := 56) dX14_readAll_56 (by decide) ⟨by decide, by decide⟩ ?_
            refine x_iast2 (n := 402) (pc := 58) dX14_readAll_58 (axEx hG rfl) rfl (by omega) (by omega) ?_
            refine x_iinc (z := (v2 + 1)) (ls' := [some (vR 203), some (vI v118), some (vI (v2 + 1))]) (pc := 59) dX14_readAll_59 rfl (Nat.le_of_ble_eq_true rfl) rfl rfl (ax_i (by omega) (by omega)) rfl ?_
            refine x_goto (tgt := 8) (pc := 62) dX14_readAll_62 rfl ?_
            cases hf
            exact h1 _ rfl
      · replace hf := (if_neg h112).symm.trans hf
        cases hf
theorem T_X14_readAll {G : ax_G} {d : Nat} (hd : 8 ≤ d) (hG : axPs G 150 244) {M : ax_M} {M1 : ax_M} (hf : fX14_readAll M = some M1) : ax_Ex G tX14_readAll d 0 (ax_args [vR 203] ++ List.replicate 2 none) [] M (.inl none) M1 := by
  show ax_Ex G tX14_readAll d 0 [some (vR 203), none, none] [] M _ _
  unfold fX14_readAll at hf
  refine x_aload_n (pc := 0) dX14_readAll_0 rfl ?_
  refine x_iconst (pc := 1) dX14_readAll_1 ⟨by decide, by decide⟩ ?_
  obtain ⟨v102, r101, hf⟩ := bd1_some hf
  refine x_cr (v := vI v102) (vs := [vR 203, vI 0]) (rest := []) (k := 1) rfl (by omega) (ax_caV (pc := 2) dX14_readAll_2 kX14_skip rfl rfl WM_X14_119 WI_X14_skip WS_X14_skip WN_X14 (ax_rcO (t := 12) (axEx hG rfl) rfl (by decide)) (Nat.le_of_ble_eq_true rfl)) kX14_skip rfl True.intro (T_X14_skip (by omega) hG r101) ?_
  refine x_istore_n (ls' := [some (vR 203), some (vI v102), none]) (pc := 5) dX14_readAll_5 (Nat.le_of_ble_eq_true rfl) rfl rfl ?_
  refine x_iconst (pc := 6) dX14_readAll_6 ⟨by decide, by decide⟩ ?_
  refine x_istore_n (ls' := [some (vR 203), some (vI v102), some (vI 0)]) (pc := 7) dX14_readAll_7 (Nat.le_of_ble_eq_true rfl) rfl rfl ?_
  obtain ⟨t120, t121, hf⟩ := bd1_some hf
  refine lp_ex (P := (fun s => ax_Ex G tX14_readAll d 8 [some (vR 203), some (vI s.1), some (vI s.2.1)] [] s.2.2 _ _)) (K := (fun t => ax_Ex G tX14_readAll d 65 [some (vR 203), none, some (vI t.1)] [] t.2 _ _)) (fun s y hy h1 h2 => B_X14_readAll_8 (by omega) hG hy (fun s' e => h1 s' e) (fun t e => h2 t e)) _ _ _ t121 ?_
  refine x_aload_n (pc := 65) dX14_readAll_65 rfl ?_
  refine x_getF (t := 12) (j := 4) (r := 205) (pc := 66) dX14_readAll_66 (axH hG rfl) (axEx hG rfl) rfl (by decide) (by decide) rfl rfl WF_X14_17 ?_
  refine x_iload_n (pc := 69) dX14_readAll_69 rfl ?_
  refine x_bipush (pc := 70) dX14_readAll_70 (by decide) ⟨by decide, by decide⟩ ?_
  by_cases h122 : 0 ≤ t120.1 ∧ t120.1 < 402
  · replace hf := (if_pos h122).symm.trans hf
    refine x_iast2 (n := 402) (pc := 72) dX14_readAll_72 (axEx hG rfl) rfl h122.1 h122.2 ?_
    refine x_aload_n (pc := 73) dX14_readAll_73 rfl ?_
    refine x_getF (t := 12) (j := 6) (r := 207) (pc := 74) dX14_readAll_74 (axH hG rfl) (axEx hG rfl) rfl (by decide) (by decide) rfl rfl WF_X14_23 ?_
    refine x_iload_n (pc := 77) dX14_readAll_77 rfl ?_
    refine x_aload_n (pc := 78) dX14_readAll_78 rfl ?_
    refine x_getI (t := 12) (j := 2) (pc := 79) dX14_readAll_79 (axEx hG rfl) rfl (by decide) (by decide) rfl WF_X14_80 ?_
    refine x_iast2 (n := 402) (pc := 82) dX14_readAll_82 (axEx hG rfl) rfl (by omega) (by omega) ?_
    cases hf
    exact x_retV (pc := 83) dX14_readAll_83
  · replace hf := (if_neg h122).symm.trans hf
    cases hf
/- HexPondModel.is(I)Z -/
def fX14_is (M : ax_M) (a1 : Int) : Option Int :=
  (if (mI M 203 8) = 0 then (if 0 ≤ (mI M 203 7) ∧ (mI M 203 7) < 402 then (if (mI M 205 (Int.toNat (mI M 203 7))) = a1 then (some 1) else (some 0)) else none) else (some 0))
theorem T_X14_is {G : ax_G} {d : Nat} (hd : 0 ≤ d) (hG : axPs G 150 244) {M : ax_M} {a1 : Int} {r : Int} (hf : fX14_is M a1 = some r) : ax_Ex G tX14_is d 0 (ax_args [vR 203, vI a1] ++ List.replicate 0 none) [] M (.inl (some (vI r))) M := by
  show ax_Ex G tX14_is d 0 [some (vR 203), some (vI a1)] [] M _ _
  unfold fX14_is at hf
  refine x_aload_n (pc := 0) dX14_is_0 rfl ?_
  refine x_getI (t := 12) (j := 8) (pc := 1) dX14_is_1 (axEx hG rfl) rfl (by decide) (by decide) rfl WF_X14_125 ?_
  refine x_ifne (tgt := 24) (pc := 4) dX14_is_4 rfl (fun h101 => ?_) (fun h101 => ?_)
  · replace hf := (if_neg h101).symm.trans hf
    refine x_iconst (pc := 24) dX14_is_24 ⟨by decide, by decide⟩ ?_
    cases hf
    exact x_retI (pc := 25) dX14_is_25
  · replace hf := (if_pos h101).symm.trans hf
    refine x_aload_n (pc := 7) dX14_is_7 rfl ?_
    refine x_getF (t := 12) (j := 4) (r := 205) (pc := 8) dX14_is_8 (axH hG rfl) (axEx hG rfl) rfl (by decide) (by decide) rfl rfl WF_X14_17 ?_
    refine x_aload_n (pc := 11) dX14_is_11 rfl ?_
    refine x_getI (t := 12) (j := 7) (pc := 12) dX14_is_12 (axEx hG rfl) rfl (by decide) (by decide) rfl WF_X14_129 ?_
    by_cases h102 : 0 ≤ (mI M 203 7) ∧ (mI M 203 7) < 402
    · replace hf := (if_pos h102).symm.trans hf
      refine x_iald2 (n := 402) (pc := 15) dX14_is_15 (axEx hG rfl) rfl h102.1 h102.2 ?_
      refine x_iload_n (pc := 16) dX14_is_16 rfl ?_
      refine x_icmpne (tgt := 24) (pc := 17) dX14_is_17 rfl (fun h103 => ?_) (fun h103 => ?_)
      · replace hf := (if_neg h103).symm.trans hf
        refine x_iconst (pc := 24) dX14_is_24 ⟨by decide, by decide⟩ ?_
        cases hf
        exact x_retI (pc := 25) dX14_is_25
      · replace hf := (if_pos h103).symm.trans hf
        refine x_iconst (pc := 20) dX14_is_20 ⟨by decide, by decide⟩ ?_
        refine x_goto (tgt := 25) (pc := 21) dX14_is_21 rfl ?_
        cases hf
        exact x_retI (pc := 25) dX14_is_25
    · replace hf := (if_neg h102).symm.trans hf
      cases hf
theorem Z_X14_is {M : ax_M} {a1 : Int} {r : Int} (hf : fX14_is M a1 = some r) : r = 0 ∨ r = 1 := by
  unfold fX14_is at hf
  by_cases h101 : (mI M 203 8) = 0
  · replace hf := (if_pos h101).symm.trans hf
    by_cases h102 : 0 ≤ (mI M 203 7) ∧ (mI M 203 7) < 402
    · replace hf := (if_pos h102).symm.trans hf
      by_cases h103 : (mI M 205 (Int.toNat (mI M 203 7))) = a1
      · replace hf := (if_pos h103).symm.trans hf
        cases hf
        exact Or.inr rfl
      · replace hf := (if_neg h103).symm.trans hf
        cases hf
        exact Or.inl rfl
    · replace hf := (if_neg h102).symm.trans hf
      cases hf
  · replace hf := (if_neg h101).symm.trans hf
    cases hf
    exact Or.inl rfl
/- HexPondModel.wrong()V -/
def fX14_wrong (M : ax_M) : Option ax_M :=
  (if (mI M 203 8) = 0 then (some (mUI (mUI (mUI M 203 8 1) 203 9 1) 203 10 (mI (mUI (mUI M 203 8 1) 203 9 1) 203 7))) else (some M))
theorem T_X14_wrong {G : ax_G} {d : Nat} (hd : 0 ≤ d) (hG : axPs G 150 244) {M : ax_M} {M1 : ax_M} (hf : fX14_wrong M = some M1) : ax_Ex G tX14_wrong d 0 (ax_args [vR 203] ++ List.replicate 0 none) [] M (.inl none) M1 := by
  show ax_Ex G tX14_wrong d 0 [some (vR 203)] [] M _ _
  unfold fX14_wrong at hf
  refine x_aload_n (pc := 0) dX14_wrong_0 rfl ?_
  refine x_getI (t := 12) (j := 8) (pc := 1) dX14_wrong_1 (axEx hG rfl) rfl (by decide) (by decide) rfl WF_X14_125 ?_
  refine x_ifeq (tgt := 8) (pc := 4) dX14_wrong_4 rfl (fun h101 => ?_) (fun h101 => ?_)
  · replace hf := (if_pos h101).symm.trans hf
    refine x_aload_n (pc := 8) dX14_wrong_8 rfl ?_
    refine x_iconst (pc := 9) dX14_wrong_9 ⟨by decide, by decide⟩ ?_
    refine x_putZ (t := 12) (j := 8) (pc := 10) dX14_wrong_10 (axEx hG rfl) rfl (by decide) (by decide) rfl rfl WF_X14_125 (by decide) ?_
    refine x_aload_n (pc := 13) dX14_wrong_13 rfl ?_
    refine x_iconst (pc := 14) dX14_wrong_14 ⟨by decide, by decide⟩ ?_
    refine x_putI (t := 12) (j := 9) (pc := 15) dX14_wrong_15 (axEx hG rfl) rfl (by decide) (by decide) rfl rfl WF_X14_132 ?_
    refine x_aload_n (pc := 18) dX14_wrong_18 rfl ?_
    refine x_aload_n (pc := 19) dX14_wrong_19 rfl ?_
    refine x_getI (t := 12) (j := 7) (pc := 20) dX14_wrong_20 (axEx hG rfl) rfl (by decide) (by decide) rfl WF_X14_129 ?_
    refine x_putI (t := 12) (j := 10) (pc := 23) dX14_wrong_23 (axEx hG rfl) rfl (by decide) (by decide) rfl rfl WF_X14_135 ?_
    cases hf
    exact x_retV (pc := 26) dX14_wrong_26
  · replace hf := (if_neg h101).symm.trans hf
    cases hf
    exact x_retV (pc := 7) dX14_wrong_7
/- HexPondModel.take(I)V -/
def fX14_take (M : ax_M) (a1 : Int) : Option ax_M :=
  (bd1 (fX14_is M a1) fun v102 => (if v102 = 0 then (bd1 (fX14_wrong M) fun M105 => (some M105)) else (some (mUI M 203 7 (wr ((mI M 203 7) + 1))))))
theorem T_X14_take {G : ax_G} {d : Nat} (hd : 1 ≤ d) (hG : axPs G 150 244) {M : ax_M} {a1 : Int} {M1 : ax_M} (hf : fX14_take M a1 = some M1) : ax_Ex G tX14_take d 0 (ax_args [vR 203, vI a1] ++ List.replicate 0 none) [] M (.inl none) M1 := by
  show ax_Ex G tX14_take d 0 [some (vR 203), some (vI a1)] [] M _ _
  unfold fX14_take at hf
  refine x_aload_n (pc := 0) dX14_take_0 rfl ?_
  refine x_iload_n (pc := 1) dX14_take_1 rfl ?_
  obtain ⟨v102, r101, hf⟩ := bd1_some hf
  refine x_cr (v := vI v102) (vs := [vR 203, vI a1]) (rest := []) (k := 0) rfl (by omega) (ax_caV (pc := 2) dX14_take_2 kX14_is rfl rfl WM_X14_138 WI_X14_is WS_X14_is WN_X14 (ax_rcO (t := 12) (axEx hG rfl) rfl (by decide)) (Nat.le_of_ble_eq_true rfl)) kX14_is rfl (Z_X14_is r101) (T_X14_is (by omega) hG r101) ?_
  refine x_ifeq (tgt := 21) (pc := 5) dX14_take_5 rfl (fun h103 => ?_) (fun h103 => ?_)
  · replace hf := (if_pos h103).symm.trans hf
    refine x_aload_n (pc := 21) dX14_take_21 rfl ?_
    obtain ⟨M105, r104, hf⟩ := bd1_some hf
    refine x_cv (vs := [vR 203]) (rest := []) (k := 0) rfl (by omega) (ax_caV (pc := 22) dX14_take_22 kX14_wrong rfl rfl WM_X14_141 WI_X14_wrong WS_X14_wrong WN_X14 (ax_rcO (t := 12) (axEx hG rfl) rfl (by decide)) (Nat.le_of_ble_eq_true rfl)) kX14_wrong rfl True.intro (T_X14_wrong (by omega) hG r104) ?_
    cases hf
    exact x_retV (pc := 25) dX14_take_25
  · replace hf := (if_neg h103).symm.trans hf
    refine x_aload_n (pc := 8) dX14_take_8 rfl ?_
    refine x_dup (pc := 9) dX14_take_9 rfl ?_
    refine x_getI (t := 12) (j := 7) (pc := 10) dX14_take_10 (axEx hG rfl) rfl (by decide) (by decide) rfl WF_X14_129 ?_
    refine x_iconst (pc := 13) dX14_take_13 ⟨by decide, by decide⟩ ?_
    refine x_iaddw (pc := 14) dX14_take_14 ?_
    refine x_putI (t := 12) (j := 7) (pc := 15) dX14_take_15 (axEx hG rfl) rfl (by decide) (by decide) rfl rfl WF_X14_129 ?_
    refine x_goto (tgt := 25) (pc := 18) dX14_take_18 rfl ?_
    cases hf
    exact x_retV (pc := 25) dX14_take_25
/- HexPondModel.takes(I)Z -/
def fX14_takes (M : ax_M) (a1 : Int) : Option (Int × ax_M) :=
  (bd1 (fX14_is M a1) fun v102 => (if v102 = 0 then (some (0, M)) else (some (1, (mUI M 203 7 (wr ((mI M 203 7) + 1)))))))
theorem T_X14_takes {G : ax_G} {d : Nat} (hd : 1 ≤ d) (hG : axPs G 150 244) {M : ax_M} {a1 : Int} {r : Int} {M1 : ax_M} (hf : fX14_takes M a1 = some (r, M1)) : ax_Ex G tX14_takes d 0 (ax_args [vR 203, vI a1] ++ List.replicate 0 none) [] M (.inl (some (vI r))) M1 := by
  show ax_Ex G tX14_takes d 0 [some (vR 203), some (vI a1)] [] M _ _
  unfold fX14_takes at hf
  refine x_aload_n (pc := 0) dX14_takes_0 rfl ?_
  refine x_iload_n (pc := 1) dX14_takes_1 rfl ?_
  obtain ⟨v102, r101, hf⟩ := bd1_some hf
  refine x_cr (v := vI v102) (vs := [vR 203, vI a1]) (rest := []) (k := 0) rfl (by omega) (ax_caV (pc := 2) dX14_takes_2 kX14_is rfl rfl WM_X14_138 WI_X14_is WS_X14_is WN_X14 (ax_rcO (t := 12) (axEx hG rfl) rfl (by decide)) (Nat.le_of_ble_eq_true rfl)) kX14_is rfl (Z_X14_is r101) (T_X14_is (by omega) hG r101) ?_
  refine x_ifne (tgt := 10) (pc := 5) dX14_takes_5 rfl (fun h103 => ?_) (fun h103 => ?_)
  · replace hf := (if_neg h103).symm.trans hf
    refine x_aload_n (pc := 10) dX14_takes_10 rfl ?_
    refine x_dup (pc := 11) dX14_takes_11 rfl ?_
    refine x_getI (t := 12) (j := 7) (pc := 12) dX14_takes_12 (axEx hG rfl) rfl (by decide) (by decide) rfl WF_X14_129 ?_
    refine x_iconst (pc := 15) dX14_takes_15 ⟨by decide, by decide⟩ ?_
    refine x_iaddw (pc := 16) dX14_takes_16 ?_
    refine x_putI (t := 12) (j := 7) (pc := 17) dX14_takes_17 (axEx hG rfl) rfl (by decide) (by decide) rfl rfl WF_X14_129 ?_
    refine x_iconst (pc := 20) dX14_takes_20 ⟨by decide, by decide⟩ ?_
    cases hf
    exact x_retI (pc := 21) dX14_takes_21
  · replace hf := (if_pos h103).symm.trans hf
    refine x_iconst (pc := 8) dX14_takes_8 ⟨by decide, by decide⟩ ?_
    cases hf
    exact x_retI (pc := 9) dX14_takes_9
theorem Z_X14_takes {M : ax_M} {a1 : Int} {r : Int} {M1 : ax_M} (hf : fX14_takes M a1 = some (r, M1)) : r = 0 ∨ r = 1 := by
  unfold fX14_takes at hf
  obtain ⟨v102, r101, hf⟩ := bd1_some hf
  by_cases h103 : v102 = 0
  · replace hf := (if_pos h103).symm.trans hf
    cases hf
    exact Or.inl rfl
  · replace hf := (if_neg h103).symm.trans hf
    cases hf
    exact Or.inr rfl
/- HexPondModel.deeper()V -/
def fX14_deeper (M : ax_M) : Option ax_M :=
  (if (mI M 203 11) = 8 then (bd1 (fX14_wrong M) fun M103 => (some (mUI M103 203 11 (wr ((mI M103 203 11) + 1))))) else (some (mUI (mUI M 203 7 (wr ((mI M 203 7) + 1))) 203 11 (wr ((mI (mUI M 203 7 (wr ((mI M 203 7) + 1))) 203 11) + 1)))))
theorem T_X14_deeper {G : ax_G} {d : Nat} (hd : 1 ≤ d) (hG : axPs G 150 244) {M : ax_M} {M1 : ax_M} (hf : fX14_deeper M = some M1) : ax_Ex G tX14_deeper d 0 (ax_args [vR 203] ++ List.replicate 0 none) [] M (.inl none) M1 := by
  show ax_Ex G tX14_deeper d 0 [some (vR 203)] [] M _ _
  unfold fX14_deeper at hf
  refine x_aload_n (pc := 0) dX14_deeper_0 rfl ?_
  refine x_getI (t := 12) (j := 11) (pc := 1) dX14_deeper_1 (axEx hG rfl) rfl (by decide) (by decide) rfl WF_X14_144 ?_
  refine x_bipush (pc := 4) dX14_deeper_4 (by decide) ⟨by decide, by decide⟩ ?_
  refine x_icmpne (tgt := 16) (pc := 6) dX14_deeper_6 rfl (fun h101 => ?_) (fun h101 => ?_)
  · replace hf := (if_neg h101).symm.trans hf
    refine x_aload_n (pc := 16) dX14_deeper_16 rfl ?_
    refine x_dup (pc := 17) dX14_deeper_17 rfl ?_
    refine x_getI (t := 12) (j := 7) (pc := 18) dX14_deeper_18 (axEx hG rfl) rfl (by decide) (by decide) rfl WF_X14_129 ?_
    refine x_iconst (pc := 21) dX14_deeper_21 ⟨by decide, by decide⟩ ?_
    refine x_iaddw (pc := 22) dX14_deeper_22 ?_
    refine x_putI (t := 12) (j := 7) (pc := 23) dX14_deeper_23 (axEx hG rfl) rfl (by decide) (by decide) rfl rfl WF_X14_129 ?_
    refine x_aload_n (pc := 26) dX14_deeper_26 rfl ?_
    refine x_dup (pc := 27) dX14_deeper_27 rfl ?_
    refine x_getI (t := 12) (j := 11) (pc := 28) dX14_deeper_28 (axEx hG rfl) rfl (by decide) (by decide) rfl WF_X14_144 ?_
    refine x_iconst (pc := 31) dX14_deeper_31 ⟨by decide, by decide⟩ ?_
    refine x_iaddw (pc := 32) dX14_deeper_32 ?_
    refine x_putI (t := 12) (j := 11) (pc := 33) dX14_deeper_33 (axEx hG rfl) rfl (by decide) (by decide) rfl rfl WF_X14_144 ?_
    cases hf
    exact x_retV (pc := 36) dX14_deeper_36
  · replace hf := (if_pos h101).symm.trans hf
    refine x_aload_n (pc := 9) dX14_deeper_9 rfl ?_
    obtain ⟨M103, r102, hf⟩ := bd1_some hf
    refine x_cv (vs := [vR 203]) (rest := []) (k := 0) rfl (by omega) (ax_caV (pc := 10) dX14_deeper_10 kX14_wrong rfl rfl WM_X14_141 WI_X14_wrong WS_X14_wrong WN_X14 (ax_rcO (t := 12) (axEx hG rfl) rfl (by decide)) (Nat.le_of_ble_eq_true rfl)) kX14_wrong rfl True.intro (T_X14_wrong (by omega) hG r102) ?_
    refine x_goto (tgt := 26) (pc := 13) dX14_deeper_13 rfl ?_
    refine x_aload_n (pc := 26) dX14_deeper_26 rfl ?_
    refine x_dup (pc := 27) dX14_deeper_27 rfl ?_
    refine x_getI (t := 12) (j := 11) (pc := 28) dX14_deeper_28 (axEx hG rfl) rfl (by decide) (by decide) rfl WF_X14_144 ?_
    refine x_iconst (pc := 31) dX14_deeper_31 ⟨by decide, by decide⟩ ?_
    refine x_iaddw (pc := 32) dX14_deeper_32 ?_
    refine x_putI (t := 12) (j := 11) (pc := 33) dX14_deeper_33 (axEx hG rfl) rfl (by decide) (by decide) rfl rfl WF_X14_144 ?_
    cases hf
    exact x_retV (pc := 36) dX14_deeper_36
/- HexPondModel.mark(I)V -/
def fX14_mark (M : ax_M) (a1 : Int) : Option ax_M :=
  (if (mI M 203 8) = 0 then (if (mI M 203 9) = 0 then (some (mUI (mUI M 203 9 a1) 203 10 (mI (mUI M 203 9 a1) 203 7))) else (some M)) else (some M))
theorem T_X14_mark {G : ax_G} {d : Nat} (hd : 0 ≤ d) (hG : axPs G 150 244) {M : ax_M} {a1 : Int} {M1 : ax_M} (hf : fX14_mark M a1 = some M1) : ax_Ex G tX14_mark d 0 (ax_args [vR 203, vI a1] ++ List.replicate 0 none) [] M (.inl none) M1 := by
  show ax_Ex G tX14_mark d 0 [some (vR 203), some (vI a1)] [] M _ _
  unfold fX14_mark at hf
  refine x_aload_n (pc := 0) dX14_mark_0 rfl ?_
  refine x_getI (t := 12) (j := 8) (pc := 1) dX14_mark_1 (axEx hG rfl) rfl (by decide) (by decide) rfl WF_X14_125 ?_
  refine x_ifne (tgt := 14) (pc := 4) dX14_mark_4 rfl (fun h101 => ?_) (fun h101 => ?_)
  · replace hf := (if_neg h101).symm.trans hf
    cases hf
    exact x_retV (pc := 14) dX14_mark_14
  · replace hf := (if_pos h101).symm.trans hf
    refine x_aload_n (pc := 7) dX14_mark_7 rfl ?_
    refine x_getI (t := 12) (j := 9) (pc := 8) dX14_mark_8 (axEx hG rfl) rfl (by decide) (by decide) rfl WF_X14_132 ?_
    refine x_ifeq (tgt := 15) (pc := 11) dX14_mark_11 rfl (fun h102 => ?_) (fun h102 => ?_)
    · replace hf := (if_pos h102).symm.trans hf
      refine x_aload_n (pc := 15) dX14_mark_15 rfl ?_
      refine x_iload_n (pc := 16) dX14_mark_16 rfl ?_
      refine x_putI (t := 12) (j := 9) (pc := 17) dX14_mark_17 (axEx hG rfl) rfl (by decide) (by decide) rfl rfl WF_X14_132 ?_
      refine x_aload_n (pc := 20) dX14_mark_20 rfl ?_
      refine x_aload_n (pc := 21) dX14_mark_21 rfl ?_
      refine x_getI (t := 12) (j := 7) (pc := 22) dX14_mark_22 (axEx hG rfl) rfl (by decide) (by decide) rfl WF_X14_129 ?_
      refine x_putI (t := 12) (j := 10) (pc := 25) dX14_mark_25 (axEx hG rfl) rfl (by decide) (by decide) rfl rfl WF_X14_135 ?_
      cases hf
      exact x_retV (pc := 28) dX14_mark_28
    · replace hf := (if_neg h102).symm.trans hf
      cases hf
      exact x_retV (pc := 14) dX14_mark_14
/- HexPondModel.node(III)I -/
def fX14_node (M : ax_M) (a1 : Int) (a2 : Int) (a3 : Int) : Option (Int × ax_M) :=
  (if 0 ≤ (mI M 220 11) ∧ (mI M 220 11) < 800 then (some ((mI M 220 11), (mUI (mUI (mUI (mUI M 229 (Int.toNat (mI M 220 11)) a1) 230 (Int.toNat (mI M 220 11)) a2) 231 (Int.toNat (mI M 220 11)) a3) 220 11 (wr ((mI (mUI (mUI (mUI M 229 (Int.toNat (mI M 220 11)) a1) 230 (Int.toNat (mI M 220 11)) a2) 231 (Int.toNat (mI M 220 11)) a3) 220 11) + 1))))) else none)
theorem T_X14_node {G : ax_G} {d : Nat} (hd : 0 ≤ d) (hG : axPs G 150 244) {M : ax_M} {a1 : Int} {a2 : Int} {a3 : Int} {r : Int} {M1 : ax_M} (hf : fX14_node M a1 a2 a3 = some (r, M1)) : ax_Ex G tX14_node d 0 (ax_args [vR 203, vI a1, vI a2, vI a3] ++ List.replicate 1 none) [] M (.inl (some (vI r))) M1 := by
  show ax_Ex G tX14_node d 0 [some (vR 203), some (vI a1), some (vI a2), some (vI a3), none] [] M _ _
  unfold fX14_node at hf
  refine x_aload_n (pc := 0) dX14_node_0 rfl ?_
  refine x_getF (t := 12) (j := 13) (r := 220) (pc := 1) dX14_node_1 (axH hG rfl) (axEx hG rfl) rfl (by decide) (by decide) rfl rfl WF_X14_33 ?_
  refine x_getIN (t := 11) (j := 11) (pc := 4) dX14_node_4 (axEx hG rfl) rfl (by decide) (by decide) rfl NF_X14_147 ?_
  refine x_istore (ls' := [some (vR 203), some (vI a1), some (vI a2), some (vI a3), some (vI (mI M 220 11))]) (pc := 7) dX14_node_7 (Nat.le_of_ble_eq_true rfl) rfl rfl ?_
  refine x_aload_n (pc := 9) dX14_node_9 rfl ?_
  refine x_getF (t := 12) (j := 13) (r := 220) (pc := 10) dX14_node_10 (axH hG rfl) (axEx hG rfl) rfl (by decide) (by decide) rfl rfl WF_X14_33 ?_
  refine x_getFN (t := 11) (j := 12) (r := 229) (pc := 13) dX14_node_13 (axH hG rfl) (axEx hG rfl) rfl (by decide) (by decide) rfl rfl NF_X14_150 ?_
  refine x_iload (pc := 16) dX14_node_16 rfl ?_
  refine x_iload_n (pc := 18) dX14_node_18 rfl ?_
  by_cases h101 : 0 ≤ (mI M 220 11) ∧ (mI M 220 11) < 800
  · replace hf := (if_pos h101).symm.trans hf
    refine x_iast2 (n := 800) (pc := 19) dX14_node_19 (axEx hG rfl) rfl h101.1 h101.2 ?_
    refine x_aload_n (pc := 20) dX14_node_20 rfl ?_
    refine x_getF (t := 12) (j := 13) (r := 220) (pc := 21) dX14_node_21 (axH hG rfl) (axEx hG rfl) rfl (by decide) (by decide) rfl rfl WF_X14_33 ?_
    refine x_getFN (t := 11) (j := 13) (r := 230) (pc := 24) dX14_node_24 (axH hG rfl) (axEx hG rfl) rfl (by decide) (by decide) rfl rfl NF_X14_153 ?_
    refine x_iload (pc := 27) dX14_node_27 rfl ?_
    refine x_iload_n (pc := 29) dX14_node_29 rfl ?_
    refine x_iast2 (n := 800) (pc := 30) dX14_node_30 (axEx hG rfl) rfl (by omega) (by omega) ?_
    refine x_aload_n (pc := 31) dX14_node_31 rfl ?_
    refine x_getF (t := 12) (j := 13) (r := 220) (pc := 32) dX14_node_32 (axH hG rfl) (axEx hG rfl) rfl (by decide) (by decide) rfl rfl WF_X14_33 ?_
    refine x_getFN (t := 11) (j := 14) (r := 231) (pc := 35) dX14_node_35 (axH hG rfl) (axEx hG rfl) rfl (by decide) (by decide) rfl rfl NF_X14_156 ?_
    refine x_iload (pc := 38) dX14_node_38 rfl ?_
    refine x_iload_n (pc := 40) dX14_node_40 rfl ?_
    refine x_iast2 (n := 800) (pc := 41) dX14_node_41 (axEx hG rfl) rfl (by omega) (by omega) ?_
    refine x_aload_n (pc := 42) dX14_node_42 rfl ?_
    refine x_getF (t := 12) (j := 13) (r := 220) (pc := 43) dX14_node_43 (axH hG rfl) (axEx hG rfl) rfl (by decide) (by decide) rfl rfl WF_X14_33 ?_
    refine x_dup (pc := 46) dX14_node_46 rfl ?_
    refine x_getIN (t := 11) (j := 11) (pc := 47) dX14_node_47 (axEx hG rfl) rfl (by decide) (by decide) rfl NF_X14_147 ?_
    refine x_iconst (pc := 50) dX14_node_50 ⟨by decide, by decide⟩ ?_
    refine x_iaddw (pc := 51) dX14_node_51 ?_
    refine x_putIN (t := 11) (j := 11) (pc := 52) dX14_node_52 (axEx hG rfl) rfl (by decide) (by decide) rfl rfl NF_X14_147 ?_
    refine x_iload (pc := 55) dX14_node_55 rfl ?_
    cases hf
    exact x_retI (pc := 57) dX14_node_57
  · replace hf := (if_neg h101).symm.trans hf
    cases hf
/- HexPondModel.player()I -/
def fX14_player (M : ax_M) : Option (Int × ax_M) :=
  (bd2 (fX14_takes M 4) fun v103 M102 => (if v103 = 0 then (bd1 (fX14_take M102 5) fun M106 => (some (1, M106))) else (some (0, M102))))
theorem T_X14_player {G : ax_G} {d : Nat} (hd : 2 ≤ d) (hG : axPs G 150 244) {M : ax_M} {r : Int} {M1 : ax_M} (hf : fX14_player M = some (r, M1)) : ax_Ex G tX14_player d 0 (ax_args [vR 203] ++ List.replicate 0 none) [] M (.inl (some (vI r))) M1 := by
  show ax_Ex G tX14_player d 0 [some (vR 203)] [] M _ _
  unfold fX14_player at hf
  refine x_aload_n (pc := 0) dX14_player_0 rfl ?_
  refine x_iconst (pc := 1) dX14_player_1 ⟨by decide, by decide⟩ ?_
  obtain ⟨v103, M102, r101, hf⟩ := bd2_some hf
  refine x_cr (v := vI v103) (vs := [vR 203, vI 4]) (rest := []) (k := 0) rfl (by omega) (ax_caV (pc := 2) dX14_player_2 kX14_takes rfl rfl WM_X14_159 WI_X14_takes WS_X14_takes WN_X14 (ax_rcO (t := 12) (axEx hG rfl) rfl (by decide)) (Nat.le_of_ble_eq_true rfl)) kX14_takes rfl (Z_X14_takes r101) (T_X14_takes (by omega) hG r101) ?_
  refine x_ifeq (tgt := 10) (pc := 5) dX14_player_5 rfl (fun h104 => ?_) (fun h104 => ?_)
  · replace hf := (if_pos h104).symm.trans hf
    refine x_aload_n (pc := 10) dX14_player_10 rfl ?_
    refine x_iconst (pc := 11) dX14_player_11 ⟨by decide, by decide⟩ ?_
    obtain ⟨M106, r105, hf⟩ := bd1_some hf
    refine x_cv (vs := [vR 203, vI 5]) (rest := []) (k := 0) rfl (by omega) (ax_caV (pc := 12) dX14_player_12 kX14_take rfl rfl WM_X14_162 WI_X14_take WS_X14_take WN_X14 (ax_rcO (t := 12) (axEx hG rfl) rfl (by decide)) (Nat.le_of_ble_eq_true rfl)) kX14_take rfl True.intro (T_X14_take (by omega) hG r105) ?_
    refine x_iconst (pc := 15) dX14_player_15 ⟨by decide, by decide⟩ ?_
    cases hf
    exact x_retI (pc := 16) dX14_player_16
  · replace hf := (if_neg h104).symm.trans hf
    refine x_iconst (pc := 8) dX14_player_8 ⟨by decide, by decide⟩ ?_
    cases hf
    exact x_retI (pc := 9) dX14_player_9
def SG14 (G : ax_G) (self : Nat → Int → ax_M → Option (Int × ax_M)) (D : Nat) : Prop :=
  (∀ (d : Nat) {r : Int} (M M1 : ax_M), D ≤ d → self 0 0 M = some (r, M1) → ax_Ex G tX14_value d 0 (ax_args [vR 203] ++ List.replicate 1 none) [] M (.inl (some (vI r))) M1) ∧
  (∀ (d : Nat) {r : Int} (M M1 : ax_M), D ≤ d → self 1 0 M = some (r, M1) → ax_Ex G tX14_product d 0 (ax_args [vR 203] ++ List.replicate 2 none) [] M (.inl (some (vI r))) M1) ∧
  (∀ (d : Nat) {r : Int} (M M1 : ax_M), D ≤ d → self 2 0 M = some (r, M1) → ax_Ex G tX14_sum d 0 (ax_args [vR 203] ++ List.replicate 2 none) [] M (.inl (some (vI r))) M1) ∧
  (∀ (d : Nat) {r : Int} (M M1 : ax_M), D ≤ d → self 3 0 M = some (r, M1) → ax_Ex G tX14_inBrackets d 0 (ax_args [vR 203] ++ List.replicate 1 none) [] M (.inl (some (vI r))) M1) ∧
  (∀ (d : Nat) {e r : Int} (M M1 : ax_M), D ≤ d → self 4 e M = some (r, M1) → ax_Ex G tX14_ofTwo d 0 (ax_args [vR 203, vI e] ++ List.replicate 2 none) [] M (.inl (some (vI r))) M1)
/- HexPondModel.value()I -/
def fX14_value_b77 (self : Nat → Int → ax_M → Option (Int × ax_M)) (M : ax_M) (v1 : Int) : Option ((Int × ax_M) ⊕ ((Int × ax_M) ⊕ ax_M)) :=
  (if 16 < v1 then (some (.inr (.inr M))) else (if v1 = 15 then (some (.inl ((v1 + 1), M))) else (bd2 (fX14_takes M v1) fun v117 M116 => (if v117 = 0 then (some (.inl ((v1 + 1), M116))) else (some (.inr (.inl (v1, M116))))))))
def fX14_value (self : Nat → Int → ax_M → Option (Int × ax_M)) (M : ax_M) : Option (Int × ax_M) :=
  (bd1 (fX14_is M 31) fun v102 => (if v102 = 0 then (bd2 (fX14_takes M 12) fun v106 M105 => (if v106 = 0 then (bd2 (fX14_takes M105 15) fun v110 M109 => (if v110 = 0 then (bdS (lp (fun s => fX14_value_b77 self s.2 s.1) lpN (13, M109)) (fun t119 => (bd2 (fX14_player t119.2) fun v123 M122 => (bd2 (fX14_node M122 t119.1 v123 0) fun v126 M125 => (some (v126, M125))))) (fun t127 => (bd1 (fX14_is t127 21) fun v130 => (if v130 = 0 then (bd1 (fX14_is t127 22) fun v133 => (if v133 = 0 then (bd1 (fX14_is t127 49) fun v136 => (if v136 = 0 then (bd1 (fX14_is t127 41) fun v139 => (if v139 = 0 then (bd1 (fX14_wrong t127) fun M142 => (some (0, M142))) else (bd1 (fX14_deeper t127) fun M144 => (bd2 (self 0 0 M144) fun v147 M146 => (bd2 (fX14_node (mUI M146 203 11 (wr ((mI M146 203 11) - 1))) 60 v147 0) fun v150 M149 => (some (v150, M149))))))) else (bd2 (self 3 0 t127) fun v153 M152 => (some (v153, M152))))) else (if 0 ≤ (mI t127 203 7) ∧ (mI t127 203 7) < 402 then (bd2 (self 4 (mI t127 205 (Int.toNat (mI t127 203 7))) t127) fun v157 M156 => (some (v157, M156))) else none))) else (if 0 ≤ (mI t127 203 7) ∧ (mI t127 203 7) < 402 then (bd2 (self 4 (mI t127 205 (Int.toNat (mI t127 203 7))) t127) fun v161 M160 => (some (v161, M160))) else none))))) else (bd2 (fX14_node M109 15 0 0) fun v164 M163 => (some (v164, M163))))) else (bd2 (fX14_node M105 12 0 0) fun v167 M166 => (some (v167, M166))))) else (if 0 ≤ (wr ((mI (mUI M 203 7 (wr ((mI M 203 7) + 1))) 203 7) - 1)) ∧ (wr ((mI (mUI M 203 7 (wr ((mI M 203 7) + 1))) 203 7) - 1)) < 402 then (bd2 (fX14_node (mUI M 203 7 (wr ((mI M 203 7) + 1))) 31 (mI (mUI M 203 7 (wr ((mI M 203 7) + 1))) 206 (Int.toNat (wr ((mI (mUI M 203 7 (wr ((mI M 203 7) + 1))) 203 7) - 1)))) 0) fun v171 M170 => (some (v171, M170))) else none)))
theorem B_X14_value_77 {G : ax_G} {d : Nat} {D : Nat} {self : Nat → Int → ax_M → Option (Int × ax_M)} (hD : 8 ≤ D) (hS : SG14 G self D) (hd : D + 1 ≤ d) (hG : axPs G 150 244) {M : ax_M} {v1 : Int} {o : Option ax_V ⊕ String} {M' : ax_M} {y : (Int × ax_M) ⊕ ((Int × ax_M) ⊕ ax_M)} (hf : fX14_value_b77 self M v1 = some y) (h1 : ∀ s', y = .inl s' → ax_Ex G tX14_value d 77 [some (vR 203), some (vI s'.1)] [] s'.2 o M') (h2a : ∀ t, y = .inr (.inl t) → ax_Ex G tX14_value d 97 [some (vR 203), some (vI t.1)] [] t.2 o M') (h2b : ∀ t, y = .inr (.inr t) → ax_Ex G tX14_value d 114 [some (vR 203), none] [] t o M') : ax_Ex G tX14_value d 77 [some (vR 203), some (vI v1)] [] M o M' := by
  unfold fX14_value_b77 at hf
  refine x_iload_n (pc := 77) dX14_value_77 rfl ?_
  refine x_bipush (pc := 78) dX14_value_78 (by decide) ⟨by decide, by decide⟩ ?_
  refine ax_cmp (fun b113a b113b b113c b113e => ?_)
  refine x_icmpgt (tgt := 114) (pc := 80) dX14_value_80 rfl (fun h112 => ?_) (fun h112 => ?_)
  · replace hf := (if_pos h112).symm.trans hf
    cases hf
    exact x_fgt (axS' (axN' axD)) (h2b _ rfl)
  · replace hf := (if_neg (Int.not_lt.mpr h112)).symm.trans hf
    refine x_iload_n (pc := 83) dX14_value_83 rfl ?_
    refine x_bipush (pc := 84) dX14_value_84 (by decide) ⟨by decide, by decide⟩ ?_
    refine x_icmpeq (tgt := 108) (pc := 86) dX14_value_86 rfl (fun h114 => ?_) (fun h114 => ?_)
    · replace hf := (if_pos h114).symm.trans hf
      refine x_iinc (z := (v1 + 1)) (ls' := [some (vR 203), some (vI (v1 + 1))]) (pc := 108) dX14_value_108 rfl (Nat.le_of_ble_eq_true rfl) rfl rfl (ax_i (by omega) (by omega)) rfl ?_
      refine x_goto (tgt := 77) (pc := 111) dX14_value_111 rfl ?_
      cases hf
      exact h1 _ rfl
    · replace hf := (if_neg h114).symm.trans hf
      refine x_aload_n (pc := 89) dX14_value_89 rfl ?_
      refine x_iload_n (pc := 90) dX14_value_90 rfl ?_
      obtain ⟨v117, M116, r115, hf⟩ := bd2_some hf
      refine x_cr (v := vI v117) (vs := [vR 203, vI v1]) (rest := []) (k := 0) rfl (by omega) (ax_caV (pc := 91) dX14_value_91 kX14_takes rfl rfl WM_X14_159 WI_X14_takes WS_X14_takes WN_X14 (ax_rcO (t := 12) (axEx hG rfl) rfl (by decide)) (Nat.le_of_ble_eq_true rfl)) kX14_takes rfl (Z_X14_takes r115) (T_X14_takes (by omega) hG r115) ?_
      refine x_ifeq (tgt := 108) (pc := 94) dX14_value_94 rfl (fun h118 => ?_) (fun h118 => ?_)
      · replace hf := (if_pos h118).symm.trans hf
        refine x_iinc (z := (v1 + 1)) (ls' := [some (vR 203), some (vI (v1 + 1))]) (pc := 108) dX14_value_108 rfl (Nat.le_of_ble_eq_true rfl) rfl rfl (ax_i (by omega) (by omega)) rfl ?_
        refine x_goto (tgt := 77) (pc := 111) dX14_value_111 rfl ?_
        cases hf
        exact h1 _ rfl
      · replace hf := (if_neg h118).symm.trans hf
        cases hf
        exact h2a _ rfl
theorem T_X14_value {G : ax_G} {d : Nat} {D : Nat} {self : Nat → Int → ax_M → Option (Int × ax_M)} (hD : 8 ≤ D) (hS : SG14 G self D) (hd : D + 1 ≤ d) (hG : axPs G 150 244) {M : ax_M} {r : Int} {M1 : ax_M} (hf : fX14_value self M = some (r, M1)) : ax_Ex G tX14_value d 0 (ax_args [vR 203] ++ List.replicate 1 none) [] M (.inl (some (vI r))) M1 := by
  show ax_Ex G tX14_value d 0 [some (vR 203), none] [] M _ _
  unfold fX14_value at hf
  refine x_aload_n (pc := 0) dX14_value_0 rfl ?_
  refine x_bipush (pc := 1) dX14_value_1 (by decide) ⟨by decide, by decide⟩ ?_
  obtain ⟨v102, r101, hf⟩ := bd1_some hf
  refine x_cr (v := vI v102) (vs := [vR 203, vI 31]) (rest := []) (k := 0) rfl (by omega) (ax_caV (pc := 3) dX14_value_3 kX14_is rfl rfl WM_X14_138 WI_X14_is WS_X14_is WN_X14 (ax_rcO (t := 12) (axEx hG rfl) rfl (by decide)) (Nat.le_of_ble_eq_true rfl)) kX14_is rfl (Z_X14_is r101) (T_X14_is (by omega) hG r101) ?_
  refine x_ifeq (tgt := 38) (pc := 6) dX14_value_6 rfl (fun h103 => ?_) (fun h103 => ?_)
  · replace hf := (if_pos h103).symm.trans hf
    refine x_aload_n (pc := 38) dX14_value_38 rfl ?_
    refine x_bipush (pc := 39) dX14_value_39 (by decide) ⟨by decide, by decide⟩ ?_
    obtain ⟨v106, M105, r104, hf⟩ := bd2_some hf
    refine x_cr (v := vI v106) (vs := [vR 203, vI 12]) (rest := []) (k := 0) rfl (by omega) (ax_caV (pc := 41) dX14_value_41 kX14_takes rfl rfl WM_X14_159 WI_X14_takes WS_X14_takes WN_X14 (ax_rcO (t := 12) (axEx hG rfl) rfl (by decide)) (Nat.le_of_ble_eq_true rfl)) kX14_takes rfl (Z_X14_takes r104) (T_X14_takes (by omega) hG r104) ?_
    refine x_ifeq (tgt := 56) (pc := 44) dX14_value_44 rfl (fun h107 => ?_) (fun h107 => ?_)
    · replace hf := (if_pos h107).symm.trans hf
      refine x_aload_n (pc := 56) dX14_value_56 rfl ?_
      refine x_bipush (pc := 57) dX14_value_57 (by decide) ⟨by decide, by decide⟩ ?_
      obtain ⟨v110, M109, r108, hf⟩ := bd2_some hf
      refine x_cr (v := vI v110) (vs := [vR 203, vI 15]) (rest := []) (k := 0) rfl (by omega) (ax_caV (pc := 59) dX14_value_59 kX14_takes rfl rfl WM_X14_159 WI_X14_takes WS_X14_takes WN_X14 (ax_rcO (t := 12) (axEx hG rfl) rfl (by decide)) (Nat.le_of_ble_eq_true rfl)) kX14_takes rfl (Z_X14_takes r108) (T_X14_takes (by omega) hG r108) ?_
      refine x_ifeq (tgt := 74) (pc := 62) dX14_value_62 rfl (fun h111 => ?_) (fun h111 => ?_)
      · replace hf := (if_pos h111).symm.trans hf
        refine x_bipush (pc := 74) dX14_value_74 (by decide) ⟨by decide, by decide⟩ ?_
        refine x_istore_n (ls' := [some (vR 203), some (vI 13)]) (pc := 76) dX14_value_76 (Nat.le_of_ble_eq_true rfl) rfl rfl ?_
        rcases bdS_some hf with ⟨t119, t120, hf⟩ | ⟨t127, t128, hf⟩
        · refine lp_ex (P := (fun s => ax_Ex G tX14_value d 77 [some (vR 203), some (vI s.1)] [] s.2 _ _)) (K := (fun r => (∀ t, r = .inl t → ax_Ex G tX14_value d 97 [some (vR 203), some (vI t.1)] [] t.2 _ _) ∧ (∀ t, r = .inr t → ax_Ex G tX14_value d 114 [some (vR 203), none] [] t _ _))) (fun s y hy h1 h2 => B_X14_value_77 hD hS (by omega) hG hy (fun s' e => h1 s' e) (fun t e => (h2 _ e).1 t rfl) (fun t e => (h2 _ e).2 t rfl)) _ _ _ t120 ?_
          refine ⟨fun t e => ?_, fun t e => (by cases e)⟩
          cases e
          refine x_aload_n (pc := 97) dX14_value_97 rfl ?_
          refine x_iload_n (pc := 98) dX14_value_98 rfl ?_
          refine x_aload_n (pc := 99) dX14_value_99 rfl ?_
          obtain ⟨v123, M122, r121, hf⟩ := bd2_some hf
          refine x_cr (v := vI v123) (vs := [vR 203]) (rest := [vI t119.1, vR 203]) (k := 0) rfl (by omega) (ax_caV (pc := 100) dX14_value_100 kX14_player rfl rfl WM_X14_176 WI_X14_player WS_X14_player WN_X14 (ax_rcO (t := 12) (axEx hG rfl) rfl (by decide)) (Nat.le_of_ble_eq_true rfl)) kX14_player rfl True.intro (T_X14_player (by omega) hG r121) ?_
          refine x_iconst (pc := 103) dX14_value_103 ⟨by decide, by decide⟩ ?_
          obtain ⟨v126, M125, r124, hf⟩ := bd2_some hf
          refine x_cr (v := vI v126) (vs := [vR 203, vI t119.1, vI v123, vI 0]) (rest := []) (k := 1) rfl (by omega) (ax_caV (pc := 104) dX14_value_104 kX14_node rfl rfl WM_X14_172 WI_X14_node WS_X14_node WN_X14 (ax_rcO (t := 12) (axEx hG rfl) rfl (by decide)) (Nat.le_of_ble_eq_true rfl)) kX14_node rfl True.intro (T_X14_node (by omega) hG r124) ?_
          cases hf
          exact x_retI (pc := 107) dX14_value_107
        · refine lp_ex (P := (fun s => ax_Ex G tX14_value d 77 [some (vR 203), some (vI s.1)] [] s.2 _ _)) (K := (fun r => (∀ t, r = .inl t → ax_Ex G tX14_value d 97 [some (vR 203), some (vI t.1)] [] t.2 _ _) ∧ (∀ t, r = .inr t → ax_Ex G tX14_value d 114 [some (vR 203), none] [] t _ _))) (fun s y hy h1 h2 => B_X14_value_77 hD hS (by omega) hG hy (fun s' e => h1 s' e) (fun t e => (h2 _ e).1 t rfl) (fun t e => (h2 _ e).2 t rfl)) _ _ _ t128 ?_
          refine ⟨fun t e => (by cases e), fun t e => ?_⟩
          cases e
          refine x_aload_n (pc := 114) dX14_value_114 rfl ?_
          refine x_bipush (pc := 115) dX14_value_115 (by decide) ⟨by decide, by decide⟩ ?_
          obtain ⟨v130, r129, hf⟩ := bd1_some hf
          refine x_cr (v := vI v130) (vs := [vR 203, vI 21]) (rest := []) (k := 0) rfl (by omega) (ax_caV (pc := 117) dX14_value_117 kX14_is rfl rfl WM_X14_138 WI_X14_is WS_X14_is WN_X14 (ax_rcO (t := 12) (axEx hG rfl) rfl (by decide)) (Nat.le_of_ble_eq_true rfl)) kX14_is rfl (Z_X14_is r129) (T_X14_is (by omega) hG r129) ?_
          refine x_ifne (tgt := 132) (pc := 120) dX14_value_120 rfl (fun h131 => ?_) (fun h131 => ?_)
          · replace hf := (if_neg h131).symm.trans hf
            refine x_aload_n (pc := 132) dX14_value_132 rfl ?_
            refine x_aload_n (pc := 133) dX14_value_133 rfl ?_
            refine x_getF (t := 12) (j := 4) (r := 205) (pc := 134) dX14_value_134 (axH hG rfl) (axEx hG rfl) rfl (by decide) (by decide) rfl rfl WF_X14_17 ?_
            refine x_aload_n (pc := 137) dX14_value_137 rfl ?_
            refine x_getI (t := 12) (j := 7) (pc := 138) dX14_value_138 (axEx hG rfl) rfl (by decide) (by decide) rfl WF_X14_129 ?_
            by_cases h158 : 0 ≤ (mI t127 203 7) ∧ (mI t127 203 7) < 402
            · replace hf := (if_pos h158).symm.trans hf
              refine x_iald2 (n := 402) (pc := 141) dX14_value_141 (axEx hG rfl) rfl h158.1 h158.2 ?_
              obtain ⟨v161, M160, r159, hf⟩ := bd2_some hf
              refine x_cr (v := vI v161) (vs := [vR 203, vI (mI t127 205 (Int.toNat (mI t127 203 7)))]) (rest := []) (k := 2) rfl (by omega) (ax_caV (pc := 142) dX14_value_142 kX14_ofTwo rfl rfl WM_X14_179 WI_X14_ofTwo WS_X14_ofTwo WN_X14 (ax_rcO (t := 12) (axEx hG rfl) rfl (by decide)) (Nat.le_of_ble_eq_true rfl)) kX14_ofTwo rfl True.intro (hS.2.2.2.2 (d - 1) _ _ (by omega) r159) ?_
              cases hf
              exact x_retI (pc := 145) dX14_value_145
            · replace hf := (if_neg h158).symm.trans hf
              cases hf
          · replace hf := (if_pos h131).symm.trans hf
            refine x_aload_n (pc := 123) dX14_value_123 rfl ?_
            refine x_bipush (pc := 124) dX14_value_124 (by decide) ⟨by decide, by decide⟩ ?_
            obtain ⟨v133, r132, hf⟩ := bd1_some hf
            refine x_cr (v := vI v133) (vs := [vR 203, vI 22]) (rest := []) (k := 0) rfl (by omega) (ax_caV (pc := 126) dX14_value_126 kX14_is rfl rfl WM_X14_138 WI_X14_is WS_X14_is WN_X14 (ax_rcO (t := 12) (axEx hG rfl) rfl (by decide)) (Nat.le_of_ble_eq_true rfl)) kX14_is rfl (Z_X14_is r132) (T_X14_is (by omega) hG r132) ?_
            refine x_ifeq (tgt := 146) (pc := 129) dX14_value_129 rfl (fun h134 => ?_) (fun h134 => ?_)
            · replace hf := (if_pos h134).symm.trans hf
              refine x_aload_n (pc := 146) dX14_value_146 rfl ?_
              refine x_bipush (pc := 147) dX14_value_147 (by decide) ⟨by decide, by decide⟩ ?_
              obtain ⟨v136, r135, hf⟩ := bd1_some hf
              refine x_cr (v := vI v136) (vs := [vR 203, vI 49]) (rest := []) (k := 0) rfl (by omega) (ax_caV (pc := 149) dX14_value_149 kX14_is rfl rfl WM_X14_138 WI_X14_is WS_X14_is WN_X14 (ax_rcO (t := 12) (axEx hG rfl) rfl (by decide)) (Nat.le_of_ble_eq_true rfl)) kX14_is rfl (Z_X14_is r135) (T_X14_is (by omega) hG r135) ?_
              refine x_ifeq (tgt := 160) (pc := 152) dX14_value_152 rfl (fun h137 => ?_) (fun h137 => ?_)
              · replace hf := (if_pos h137).symm.trans hf
                refine x_aload_n (pc := 160) dX14_value_160 rfl ?_
                refine x_bipush (pc := 161) dX14_value_161 (by decide) ⟨by decide, by decide⟩ ?_
                obtain ⟨v139, r138, hf⟩ := bd1_some hf
                refine x_cr (v := vI v139) (vs := [vR 203, vI 41]) (rest := []) (k := 0) rfl (by omega) (ax_caV (pc := 163) dX14_value_163 kX14_is rfl rfl WM_X14_138 WI_X14_is WS_X14_is WN_X14 (ax_rcO (t := 12) (axEx hG rfl) rfl (by decide)) (Nat.le_of_ble_eq_true rfl)) kX14_is rfl (Z_X14_is r138) (T_X14_is (by omega) hG r138) ?_
                refine x_ifne (tgt := 175) (pc := 166) dX14_value_166 rfl (fun h140 => ?_) (fun h140 => ?_)
                · replace hf := (if_neg h140).symm.trans hf
                  refine x_aload_n (pc := 175) dX14_value_175 rfl ?_
                  obtain ⟨M144, r143, hf⟩ := bd1_some hf
                  refine x_cv (vs := [vR 203]) (rest := []) (k := 0) rfl (by omega) (ax_caV (pc := 176) dX14_value_176 kX14_deeper rfl rfl WM_X14_166 WI_X14_deeper WS_X14_deeper WN_X14 (ax_rcO (t := 12) (axEx hG rfl) rfl (by decide)) (Nat.le_of_ble_eq_true rfl)) kX14_deeper rfl True.intro (T_X14_deeper (by omega) hG r143) ?_
                  refine x_aload_n (pc := 179) dX14_value_179 rfl ?_
                  obtain ⟨v147, M146, r145, hf⟩ := bd2_some hf
                  refine x_cr (v := vI v147) (vs := [vR 203]) (rest := []) (k := 1) rfl (by omega) (ax_caV (pc := 180) dX14_value_180 kX14_value rfl rfl WM_X14_185 WI_X14_value WS_X14_value WN_X14 (ax_rcO (t := 12) (axEx hG rfl) rfl (by decide)) (Nat.le_of_ble_eq_true rfl)) kX14_value rfl True.intro (hS.1 (d - 1) _ _ (by omega) r145) ?_
                  refine x_istore_n (ls' := [some (vR 203), some (vI v147)]) (pc := 183) dX14_value_183 (Nat.le_of_ble_eq_true rfl) rfl rfl ?_
                  refine x_aload_n (pc := 184) dX14_value_184 rfl ?_
                  refine x_dup (pc := 185) dX14_value_185 rfl ?_
                  refine x_getI (t := 12) (j := 11) (pc := 186) dX14_value_186 (axEx hG rfl) rfl (by decide) (by decide) rfl WF_X14_144 ?_
                  refine x_iconst (pc := 189) dX14_value_189 ⟨by decide, by decide⟩ ?_
                  refine x_isubw (pc := 190) dX14_value_190 ?_
                  refine x_putI (t := 12) (j := 11) (pc := 191) dX14_value_191 (axEx hG rfl) rfl (by decide) (by decide) rfl rfl WF_X14_144 ?_
                  refine x_aload_n (pc := 194) dX14_value_194 rfl ?_
                  refine x_bipush (pc := 195) dX14_value_195 (by decide) ⟨by decide, by decide⟩ ?_
                  refine x_iload_n (pc := 197) dX14_value_197 rfl ?_
                  refine x_iconst (pc := 198) dX14_value_198 ⟨by decide, by decide⟩ ?_
                  obtain ⟨v150, M149, r148, hf⟩ := bd2_some hf
                  refine x_cr (v := vI v150) (vs := [vR 203, vI 60, vI v147, vI 0]) (rest := []) (k := 1) rfl (by omega) (ax_caV (pc := 199) dX14_value_199 kX14_node rfl rfl WM_X14_172 WI_X14_node WS_X14_node WN_X14 (ax_rcO (t := 12) (axEx hG rfl) rfl (by decide)) (Nat.le_of_ble_eq_true rfl)) kX14_node rfl True.intro (T_X14_node (by omega) hG r148) ?_
                  cases hf
                  exact x_retI (pc := 202) dX14_value_202
                · replace hf := (if_pos h140).symm.trans hf
                  refine x_aload_n (pc := 169) dX14_value_169 rfl ?_
                  obtain ⟨M142, r141, hf⟩ := bd1_some hf
                  refine x_cv (vs := [vR 203]) (rest := []) (k := 0) rfl (by omega) (ax_caV (pc := 170) dX14_value_170 kX14_wrong rfl rfl WM_X14_141 WI_X14_wrong WS_X14_wrong WN_X14 (ax_rcO (t := 12) (axEx hG rfl) rfl (by decide)) (Nat.le_of_ble_eq_true rfl)) kX14_wrong rfl True.intro (T_X14_wrong (by omega) hG r141) ?_
                  refine x_iconst (pc := 173) dX14_value_173 ⟨by decide, by decide⟩ ?_
                  cases hf
                  exact x_retI (pc := 174) dX14_value_174
              · replace hf := (if_neg h137).symm.trans hf
                refine x_aload_n (pc := 155) dX14_value_155 rfl ?_
                obtain ⟨v153, M152, r151, hf⟩ := bd2_some hf
                refine x_cr (v := vI v153) (vs := [vR 203]) (rest := []) (k := 1) rfl (by omega) (ax_caV (pc := 156) dX14_value_156 kX14_inBrackets rfl rfl WM_X14_182 WI_X14_inBrackets WS_X14_inBrackets WN_X14 (ax_rcO (t := 12) (axEx hG rfl) rfl (by decide)) (Nat.le_of_ble_eq_true rfl)) kX14_inBrackets rfl True.intro (hS.2.2.2.1 (d - 1) _ _ (by omega) r151) ?_
                cases hf
                exact x_retI (pc := 159) dX14_value_159
            · replace hf := (if_neg h134).symm.trans hf
              refine x_aload_n (pc := 132) dX14_value_132 rfl ?_
              refine x_aload_n (pc := 133) dX14_value_133 rfl ?_
              refine x_getF (t := 12) (j := 4) (r := 205) (pc := 134) dX14_value_134 (axH hG rfl) (axEx hG rfl) rfl (by decide) (by decide) rfl rfl WF_X14_17 ?_
              refine x_aload_n (pc := 137) dX14_value_137 rfl ?_
              refine x_getI (t := 12) (j := 7) (pc := 138) dX14_value_138 (axEx hG rfl) rfl (by decide) (by decide) rfl WF_X14_129 ?_
              by_cases h154 : 0 ≤ (mI t127 203 7) ∧ (mI t127 203 7) < 402
              · replace hf := (if_pos h154).symm.trans hf
                refine x_iald2 (n := 402) (pc := 141) dX14_value_141 (axEx hG rfl) rfl h154.1 h154.2 ?_
                obtain ⟨v157, M156, r155, hf⟩ := bd2_some hf
                refine x_cr (v := vI v157) (vs := [vR 203, vI (mI t127 205 (Int.toNat (mI t127 203 7)))]) (rest := []) (k := 2) rfl (by omega) (ax_caV (pc := 142) dX14_value_142 kX14_ofTwo rfl rfl WM_X14_179 WI_X14_ofTwo WS_X14_ofTwo WN_X14 (ax_rcO (t := 12) (axEx hG rfl) rfl (by decide)) (Nat.le_of_ble_eq_true rfl)) kX14_ofTwo rfl True.intro (hS.2.2.2.2 (d - 1) _ _ (by omega) r155) ?_
                cases hf
                exact x_retI (pc := 145) dX14_value_145
              · replace hf := (if_neg h154).symm.trans hf
                cases hf
      · replace hf := (if_neg h111).symm.trans hf
        refine x_aload_n (pc := 65) dX14_value_65 rfl ?_
        refine x_bipush (pc := 66) dX14_value_66 (by decide) ⟨by decide, by decide⟩ ?_
        refine x_iconst (pc := 68) dX14_value_68 ⟨by decide, by decide⟩ ?_
        refine x_iconst (pc := 69) dX14_value_69 ⟨by decide, by decide⟩ ?_
        obtain ⟨v164, M163, r162, hf⟩ := bd2_some hf
        refine x_cr (v := vI v164) (vs := [vR 203, vI 15, vI 0, vI 0]) (rest := []) (k := 1) rfl (by omega) (ax_caV (pc := 70) dX14_value_70 kX14_node rfl rfl WM_X14_172 WI_X14_node WS_X14_node WN_X14 (ax_rcO (t := 12) (axEx hG rfl) rfl (by decide)) (Nat.le_of_ble_eq_true rfl)) kX14_node rfl True.intro (T_X14_node (by omega) hG r162) ?_
        cases hf
        exact x_retI (pc := 73) dX14_value_73
    · replace hf := (if_neg h107).symm.trans hf
      refine x_aload_n (pc := 47) dX14_value_47 rfl ?_
      refine x_bipush (pc := 48) dX14_value_48 (by decide) ⟨by decide, by decide⟩ ?_
      refine x_iconst (pc := 50) dX14_value_50 ⟨by decide, by decide⟩ ?_
      refine x_iconst (pc := 51) dX14_value_51 ⟨by decide, by decide⟩ ?_
      obtain ⟨v167, M166, r165, hf⟩ := bd2_some hf
      refine x_cr (v := vI v167) (vs := [vR 203, vI 12, vI 0, vI 0]) (rest := []) (k := 1) rfl (by omega) (ax_caV (pc := 52) dX14_value_52 kX14_node rfl rfl WM_X14_172 WI_X14_node WS_X14_node WN_X14 (ax_rcO (t := 12) (axEx hG rfl) rfl (by decide)) (Nat.le_of_ble_eq_true rfl)) kX14_node rfl True.intro (T_X14_node (by omega) hG r165) ?_
      cases hf
      exact x_retI (pc := 55) dX14_value_55
  · replace hf := (if_neg h103).symm.trans hf
    refine x_aload_n (pc := 9) dX14_value_9 rfl ?_
    refine x_dup (pc := 10) dX14_value_10 rfl ?_
    refine x_getI (t := 12) (j := 7) (pc := 11) dX14_value_11 (axEx hG rfl) rfl (by decide) (by decide) rfl WF_X14_129 ?_
    refine x_iconst (pc := 14) dX14_value_14 ⟨by decide, by decide⟩ ?_
    refine x_iaddw (pc := 15) dX14_value_15 ?_
    refine x_putI (t := 12) (j := 7) (pc := 16) dX14_value_16 (axEx hG rfl) rfl (by decide) (by decide) rfl rfl WF_X14_129 ?_
    refine x_aload_n (pc := 19) dX14_value_19 rfl ?_
    refine x_bipush (pc := 20) dX14_value_20 (by decide) ⟨by decide, by decide⟩ ?_
    refine x_aload_n (pc := 22) dX14_value_22 rfl ?_
    refine x_getF (t := 12) (j := 5) (r := 206) (pc := 23) dX14_value_23 (axH hG rfl) (axEx hG rfl) rfl (by decide) (by decide) rfl rfl WF_X14_20 ?_
    refine x_aload_n (pc := 26) dX14_value_26 rfl ?_
    refine x_getI (t := 12) (j := 7) (pc := 27) dX14_value_27 (axEx hG rfl) rfl (by decide) (by decide) rfl WF_X14_129 ?_
    refine x_iconst (pc := 30) dX14_value_30 ⟨by decide, by decide⟩ ?_
    refine x_isubw (pc := 31) dX14_value_31 ?_
    by_cases h168 : 0 ≤ (wr ((mI (mUI M 203 7 (wr ((mI M 203 7) + 1))) 203 7) - 1)) ∧ (wr ((mI (mUI M 203 7 (wr ((mI M 203 7) + 1))) 203 7) - 1)) < 402
    · replace hf := (if_pos h168).symm.trans hf
      refine x_iald2 (n := 402) (pc := 32) dX14_value_32 (axEx hG rfl) rfl h168.1 h168.2 ?_
      refine x_iconst (pc := 33) dX14_value_33 ⟨by decide, by decide⟩ ?_
      obtain ⟨v171, M170, r169, hf⟩ := bd2_some hf
      refine x_cr (v := vI v171) (vs := [vR 203, vI 31, vI (mI (mUI M 203 7 (wr ((mI M 203 7) + 1))) 206 (Int.toNat (wr ((mI (mUI M 203 7 (wr ((mI M 203 7) + 1))) 203 7) - 1)))), vI 0]) (rest := []) (k := 1) rfl (by omega) (ax_caV (pc := 34) dX14_value_34 kX14_node rfl rfl WM_X14_172 WI_X14_node WS_X14_node WN_X14 (ax_rcO (t := 12) (axEx hG rfl) rfl (by decide)) (Nat.le_of_ble_eq_true rfl)) kX14_node rfl True.intro (T_X14_node (by omega) hG r169) ?_
      cases hf
      exact x_retI (pc := 37) dX14_value_37
    · replace hf := (if_neg h168).symm.trans hf
      cases hf
/- HexPondModel.product()I -/
def fX14_product_b5 (self : Nat → Int → ax_M → Option (Int × ax_M)) (M : ax_M) (v1 : Int) : Option ((Int × ax_M) ⊕ (Int × ax_M)) :=
  (bd1 (fX14_is M 42) fun v105 => (if v105 = 0 then (bd1 (fX14_is M 43) fun v108 => (if v108 = 0 then (some (.inr (v1, M))) else (if 0 ≤ (mI M 203 7) ∧ (mI M 203 7) < 402 then (bd2 (self 0 0 (mUI M 203 7 ((mI M 203 7) + 1))) fun v113 M112 => (bd2 (fX14_node M112 (mI M 205 (Int.toNat (mI M 203 7))) v1 v113) fun v116 M115 => (some (.inl (v116, M115))))) else none))) else (if 0 ≤ (mI M 203 7) ∧ (mI M 203 7) < 402 then (bd2 (self 0 0 (mUI M 203 7 ((mI M 203 7) + 1))) fun v120 M119 => (bd2 (fX14_node M119 (mI M 205 (Int.toNat (mI M 203 7))) v1 v120) fun v123 M122 => (some (.inl (v123, M122))))) else none)))
def fX14_product (self : Nat → Int → ax_M → Option (Int × ax_M)) (M : ax_M) : Option (Int × ax_M) :=
  (bd2 (self 0 0 M) fun v103 M102 => (bd1 (lp (fun s => fX14_product_b5 self s.2 s.1) lpN (v103, M102)) fun t124 => (some (t124.1, t124.2))))
theorem B_X14_product_5 {G : ax_G} {d : Nat} {D : Nat} {self : Nat → Int → ax_M → Option (Int × ax_M)} (hD : 8 ≤ D) (hS : SG14 G self D) (hd : D + 1 ≤ d) (hG : axPs G 150 244) {M : ax_M} {v1 : Int} {o : Option ax_V ⊕ String} {M' : ax_M} {y : (Int × ax_M) ⊕ (Int × ax_M)} (hf : fX14_product_b5 self M v1 = some y) (h1 : ∀ s', y = .inl s' → ax_Ex G tX14_product d 5 [some (vR 203), some (vI s'.1), none] [] s'.2 o M') (h2a : ∀ t, y = .inr t → ax_Ex G tX14_product d 57 [some (vR 203), some (vI t.1), none] [] t.2 o M') : ax_Ex G tX14_product d 5 [some (vR 203), some (vI v1), none] [] M o M' := by
  unfold fX14_product_b5 at hf
  refine x_aload_n (pc := 5) dX14_product_5 rfl ?_
  refine x_bipush (pc := 6) dX14_product_6 (by decide) ⟨by decide, by decide⟩ ?_
  obtain ⟨v105, r104, hf⟩ := bd1_some hf
  refine x_cr (v := vI v105) (vs := [vR 203, vI 42]) (rest := []) (k := 0) rfl (by omega) (ax_caV (pc := 8) dX14_product_8 kX14_is rfl rfl WM_X14_138 WI_X14_is WS_X14_is WN_X14 (ax_rcO (t := 12) (axEx hG rfl) rfl (by decide)) (Nat.le_of_ble_eq_true rfl)) kX14_is rfl (Z_X14_is r104) (T_X14_is (by omega) hG r104) ?_
  refine x_ifne (tgt := 23) (pc := 11) dX14_product_11 rfl (fun h106 => ?_) (fun h106 => ?_)
  · replace hf := (if_neg h106).symm.trans hf
    refine x_aload_n (pc := 23) dX14_product_23 rfl ?_
    refine x_getF (t := 12) (j := 4) (r := 205) (pc := 24) dX14_product_24 (axH hG rfl) (axEx hG rfl) rfl (by decide) (by decide) rfl rfl WF_X14_17 ?_
    refine x_aload_n (pc := 27) dX14_product_27 rfl ?_
    refine x_getI (t := 12) (j := 7) (pc := 28) dX14_product_28 (axEx hG rfl) rfl (by decide) (by decide) rfl WF_X14_129 ?_
    by_cases h117 : 0 ≤ (mI M 203 7) ∧ (mI M 203 7) < 402
    · replace hf := (if_pos h117).symm.trans hf
      refine x_iald2 (n := 402) (pc := 31) dX14_product_31 (axEx hG rfl) rfl h117.1 h117.2 ?_
      refine x_istore_n (ls' := [some (vR 203), some (vI v1), some (vI (mI M 205 (Int.toNat (mI M 203 7))))]) (pc := 32) dX14_product_32 (Nat.le_of_ble_eq_true rfl) rfl rfl ?_
      refine x_aload_n (pc := 33) dX14_product_33 rfl ?_
      refine x_dup (pc := 34) dX14_product_34 rfl ?_
      refine x_getI (t := 12) (j := 7) (pc := 35) dX14_product_35 (axEx hG rfl) rfl (by decide) (by decide) rfl WF_X14_129 ?_
      refine x_iconst (pc := 38) dX14_product_38 ⟨by decide, by decide⟩ ?_
      refine x_iadd (z := ((mI M 203 7) + 1)) (pc := 39) dX14_product_39 rfl (ax_i (by omega) (by omega)) ?_
      refine x_putI (t := 12) (j := 7) (pc := 40) dX14_product_40 (axEx hG rfl) rfl (by decide) (by decide) rfl rfl WF_X14_129 ?_
      refine x_aload_n (pc := 43) dX14_product_43 rfl ?_
      refine x_iload_n (pc := 44) dX14_product_44 rfl ?_
      refine x_iload_n (pc := 45) dX14_product_45 rfl ?_
      refine x_aload_n (pc := 46) dX14_product_46 rfl ?_
      obtain ⟨v120, M119, r118, hf⟩ := bd2_some hf
      refine x_cr (v := vI v120) (vs := [vR 203]) (rest := [vI v1, vI (mI M 205 (Int.toNat (mI M 203 7))), vR 203]) (k := 1) rfl (by omega) (ax_caV (pc := 47) dX14_product_47 kX14_value rfl rfl WM_X14_185 WI_X14_value WS_X14_value WN_X14 (ax_rcO (t := 12) (axEx hG rfl) rfl (by decide)) (Nat.le_of_ble_eq_true rfl)) kX14_value rfl True.intro (hS.1 (d - 1) _ _ (by omega) r118) ?_
      obtain ⟨v123, M122, r121, hf⟩ := bd2_some hf
      refine x_cr (v := vI v123) (vs := [vR 203, vI (mI M 205 (Int.toNat (mI M 203 7))), vI v1, vI v120]) (rest := []) (k := 1) rfl (by omega) (ax_caV (pc := 50) dX14_product_50 kX14_node rfl rfl WM_X14_172 WI_X14_node WS_X14_node WN_X14 (ax_rcO (t := 12) (axEx hG rfl) rfl (by decide)) (Nat.le_of_ble_eq_true rfl)) kX14_node rfl True.intro (T_X14_node (by omega) hG r121) ?_
      refine x_istore_n (ls' := [some (vR 203), some (vI v123), some (vI (mI M 205 (Int.toNat (mI M 203 7))))]) (pc := 53) dX14_product_53 (Nat.le_of_ble_eq_true rfl) rfl rfl ?_
      refine x_goto (tgt := 5) (pc := 54) dX14_product_54 rfl ?_
      cases hf
      exact x_fgt (axS' (axS' (axN' axD))) (h1 _ rfl)
    · replace hf := (if_neg h117).symm.trans hf
      cases hf
  · replace hf := (if_pos h106).symm.trans hf
    refine x_aload_n (pc := 14) dX14_product_14 rfl ?_
    refine x_bipush (pc := 15) dX14_product_15 (by decide) ⟨by decide, by decide⟩ ?_
    obtain ⟨v108, r107, hf⟩ := bd1_some hf
    refine x_cr (v := vI v108) (vs := [vR 203, vI 43]) (rest := []) (k := 0) rfl (by omega) (ax_caV (pc := 17) dX14_product_17 kX14_is rfl rfl WM_X14_138 WI_X14_is WS_X14_is WN_X14 (ax_rcO (t := 12) (axEx hG rfl) rfl (by decide)) (Nat.le_of_ble_eq_true rfl)) kX14_is rfl (Z_X14_is r107) (T_X14_is (by omega) hG r107) ?_
    refine x_ifeq (tgt := 57) (pc := 20) dX14_product_20 rfl (fun h109 => ?_) (fun h109 => ?_)
    · replace hf := (if_pos h109).symm.trans hf
      cases hf
      exact h2a _ rfl
    · replace hf := (if_neg h109).symm.trans hf
      refine x_aload_n (pc := 23) dX14_product_23 rfl ?_
      refine x_getF (t := 12) (j := 4) (r := 205) (pc := 24) dX14_product_24 (axH hG rfl) (axEx hG rfl) rfl (by decide) (by decide) rfl rfl WF_X14_17 ?_
      refine x_aload_n (pc := 27) dX14_product_27 rfl ?_
      refine x_getI (t := 12) (j := 7) (pc := 28) dX14_product_28 (axEx hG rfl) rfl (by decide) (by decide) rfl WF_X14_129 ?_
      by_cases h110 : 0 ≤ (mI M 203 7) ∧ (mI M 203 7) < 402
      · replace hf := (if_pos h110).symm.trans hf
        refine x_iald2 (n := 402) (pc := 31) dX14_product_31 (axEx hG rfl) rfl h110.1 h110.2 ?_
        refine x_istore_n (ls' := [some (vR 203), some (vI v1), some (vI (mI M 205 (Int.toNat (mI M 203 7))))]) (pc := 32) dX14_product_32 (Nat.le_of_ble_eq_true rfl) rfl rfl ?_
        refine x_aload_n (pc := 33) dX14_product_33 rfl ?_
        refine x_dup (pc := 34) dX14_product_34 rfl ?_
        refine x_getI (t := 12) (j := 7) (pc := 35) dX14_product_35 (axEx hG rfl) rfl (by decide) (by decide) rfl WF_X14_129 ?_
        refine x_iconst (pc := 38) dX14_product_38 ⟨by decide, by decide⟩ ?_
        refine x_iadd (z := ((mI M 203 7) + 1)) (pc := 39) dX14_product_39 rfl (ax_i (by omega) (by omega)) ?_
        refine x_putI (t := 12) (j := 7) (pc := 40) dX14_product_40 (axEx hG rfl) rfl (by decide) (by decide) rfl rfl WF_X14_129 ?_
        refine x_aload_n (pc := 43) dX14_product_43 rfl ?_
        refine x_iload_n (pc := 44) dX14_product_44 rfl ?_
        refine x_iload_n (pc := 45) dX14_product_45 rfl ?_
        refine x_aload_n (pc := 46) dX14_product_46 rfl ?_
        obtain ⟨v113, M112, r111, hf⟩ := bd2_some hf
        refine x_cr (v := vI v113) (vs := [vR 203]) (rest := [vI v1, vI (mI M 205 (Int.toNat (mI M 203 7))), vR 203]) (k := 1) rfl (by omega) (ax_caV (pc := 47) dX14_product_47 kX14_value rfl rfl WM_X14_185 WI_X14_value WS_X14_value WN_X14 (ax_rcO (t := 12) (axEx hG rfl) rfl (by decide)) (Nat.le_of_ble_eq_true rfl)) kX14_value rfl True.intro (hS.1 (d - 1) _ _ (by omega) r111) ?_
        obtain ⟨v116, M115, r114, hf⟩ := bd2_some hf
        refine x_cr (v := vI v116) (vs := [vR 203, vI (mI M 205 (Int.toNat (mI M 203 7))), vI v1, vI v113]) (rest := []) (k := 1) rfl (by omega) (ax_caV (pc := 50) dX14_product_50 kX14_node rfl rfl WM_X14_172 WI_X14_node WS_X14_node WN_X14 (ax_rcO (t := 12) (axEx hG rfl) rfl (by decide)) (Nat.le_of_ble_eq_true rfl)) kX14_node rfl True.intro (T_X14_node (by omega) hG r114) ?_
        refine x_istore_n (ls' := [some (vR 203), some (vI v116), some (vI (mI M 205 (Int.toNat (mI M 203 7))))]) (pc := 53) dX14_product_53 (Nat.le_of_ble_eq_true rfl) rfl rfl ?_
        refine x_goto (tgt := 5) (pc := 54) dX14_product_54 rfl ?_
        cases hf
        exact x_fgt (axS' (axS' (axN' axD))) (h1 _ rfl)
      · replace hf := (if_neg h110).symm.trans hf
        cases hf
theorem T_X14_product {G : ax_G} {d : Nat} {D : Nat} {self : Nat → Int → ax_M → Option (Int × ax_M)} (hD : 8 ≤ D) (hS : SG14 G self D) (hd : D + 1 ≤ d) (hG : axPs G 150 244) {M : ax_M} {r : Int} {M1 : ax_M} (hf : fX14_product self M = some (r, M1)) : ax_Ex G tX14_product d 0 (ax_args [vR 203] ++ List.replicate 2 none) [] M (.inl (some (vI r))) M1 := by
  show ax_Ex G tX14_product d 0 [some (vR 203), none, none] [] M _ _
  unfold fX14_product at hf
  refine x_aload_n (pc := 0) dX14_product_0 rfl ?_
  obtain ⟨v103, M102, r101, hf⟩ := bd2_some hf
  refine x_cr (v := vI v103) (vs := [vR 203]) (rest := []) (k := 1) rfl (by omega) (ax_caV (pc := 1) dX14_product_1 kX14_value rfl rfl WM_X14_185 WI_X14_value WS_X14_value WN_X14 (ax_rcO (t := 12) (axEx hG rfl) rfl (by decide)) (Nat.le_of_ble_eq_true rfl)) kX14_value rfl True.intro (hS.1 (d - 1) _ _ (by omega) r101) ?_
  refine x_istore_n (ls' := [some (vR 203), some (vI v103), none]) (pc := 4) dX14_product_4 (Nat.le_of_ble_eq_true rfl) rfl rfl ?_
  obtain ⟨t124, t125, hf⟩ := bd1_some hf
  refine lp_ex (P := (fun s => ax_Ex G tX14_product d 5 [some (vR 203), some (vI s.1), none] [] s.2 _ _)) (K := (fun t => ax_Ex G tX14_product d 57 [some (vR 203), some (vI t.1), none] [] t.2 _ _)) (fun s y hy h1 h2 => B_X14_product_5 hD hS (by omega) hG hy (fun s' e => h1 s' e) (fun t e => h2 t e)) _ _ _ t125 ?_
  refine x_iload_n (pc := 57) dX14_product_57 rfl ?_
  cases hf
  exact x_retI (pc := 58) dX14_product_58
/- HexPondModel.sum()I -/
def fX14_sum_b5 (self : Nat → Int → ax_M → Option (Int × ax_M)) (M : ax_M) (v1 : Int) : Option ((Int × ax_M) ⊕ (Int × ax_M)) :=
  (bd1 (fX14_is M 40) fun v105 => (if v105 = 0 then (bd1 (fX14_is M 41) fun v108 => (if v108 = 0 then (some (.inr (v1, M))) else (if 0 ≤ (mI M 203 7) ∧ (mI M 203 7) < 402 then (bd2 (self 1 0 (mUI M 203 7 ((mI M 203 7) + 1))) fun v113 M112 => (bd2 (fX14_node M112 (mI M 205 (Int.toNat (mI M 203 7))) v1 v113) fun v116 M115 => (some (.inl (v116, M115))))) else none))) else (if 0 ≤ (mI M 203 7) ∧ (mI M 203 7) < 402 then (bd2 (self 1 0 (mUI M 203 7 ((mI M 203 7) + 1))) fun v120 M119 => (bd2 (fX14_node M119 (mI M 205 (Int.toNat (mI M 203 7))) v1 v120) fun v123 M122 => (some (.inl (v123, M122))))) else none)))
def fX14_sum (self : Nat → Int → ax_M → Option (Int × ax_M)) (M : ax_M) : Option (Int × ax_M) :=
  (bd2 (self 1 0 M) fun v103 M102 => (bd1 (lp (fun s => fX14_sum_b5 self s.2 s.1) lpN (v103, M102)) fun t124 => (some (t124.1, t124.2))))
theorem B_X14_sum_5 {G : ax_G} {d : Nat} {D : Nat} {self : Nat → Int → ax_M → Option (Int × ax_M)} (hD : 8 ≤ D) (hS : SG14 G self D) (hd : D + 1 ≤ d) (hG : axPs G 150 244) {M : ax_M} {v1 : Int} {o : Option ax_V ⊕ String} {M' : ax_M} {y : (Int × ax_M) ⊕ (Int × ax_M)} (hf : fX14_sum_b5 self M v1 = some y) (h1 : ∀ s', y = .inl s' → ax_Ex G tX14_sum d 5 [some (vR 203), some (vI s'.1), none] [] s'.2 o M') (h2a : ∀ t, y = .inr t → ax_Ex G tX14_sum d 57 [some (vR 203), some (vI t.1), none] [] t.2 o M') : ax_Ex G tX14_sum d 5 [some (vR 203), some (vI v1), none] [] M o M' := by
  unfold fX14_sum_b5 at hf
  refine x_aload_n (pc := 5) dX14_sum_5 rfl ?_
  refine x_bipush (pc := 6) dX14_sum_6 (by decide) ⟨by decide, by decide⟩ ?_
  obtain ⟨v105, r104, hf⟩ := bd1_some hf
  refine x_cr (v := vI v105) (vs := [vR 203, vI 40]) (rest := []) (k := 0) rfl (by omega) (ax_caV (pc := 8) dX14_sum_8 kX14_is rfl rfl WM_X14_138 WI_X14_is WS_X14_is WN_X14 (ax_rcO (t := 12) (axEx hG rfl) rfl (by decide)) (Nat.le_of_ble_eq_true rfl)) kX14_is rfl (Z_X14_is r104) (T_X14_is (by omega) hG r104) ?_
  refine x_ifne (tgt := 23) (pc := 11) dX14_sum_11 rfl (fun h106 => ?_) (fun h106 => ?_)
  · replace hf := (if_neg h106).symm.trans hf
    refine x_aload_n (pc := 23) dX14_sum_23 rfl ?_
    refine x_getF (t := 12) (j := 4) (r := 205) (pc := 24) dX14_sum_24 (axH hG rfl) (axEx hG rfl) rfl (by decide) (by decide) rfl rfl WF_X14_17 ?_
    refine x_aload_n (pc := 27) dX14_sum_27 rfl ?_
    refine x_getI (t := 12) (j := 7) (pc := 28) dX14_sum_28 (axEx hG rfl) rfl (by decide) (by decide) rfl WF_X14_129 ?_
    by_cases h117 : 0 ≤ (mI M 203 7) ∧ (mI M 203 7) < 402
    · replace hf := (if_pos h117).symm.trans hf
      refine x_iald2 (n := 402) (pc := 31) dX14_sum_31 (axEx hG rfl) rfl h117.1 h117.2 ?_
      refine x_istore_n (ls' := [some (vR 203), some (vI v1), some (vI (mI M 205 (Int.toNat (mI M 203 7))))]) (pc := 32) dX14_sum_32 (Nat.le_of_ble_eq_true rfl) rfl rfl ?_
      refine x_aload_n (pc := 33) dX14_sum_33 rfl ?_
      refine x_dup (pc := 34) dX14_sum_34 rfl ?_
      refine x_getI (t := 12) (j := 7) (pc := 35) dX14_sum_35 (axEx hG rfl) rfl (by decide) (by decide) rfl WF_X14_129 ?_
      refine x_iconst (pc := 38) dX14_sum_38 ⟨by decide, by decide⟩ ?_
      refine x_iadd (z := ((mI M 203 7) + 1)) (pc := 39) dX14_sum_39 rfl (ax_i (by omega) (by omega)) ?_
      refine x_putI (t := 12) (j := 7) (pc := 40) dX14_sum_40 (axEx hG rfl) rfl (by decide) (by decide) rfl rfl WF_X14_129 ?_
      refine x_aload_n (pc := 43) dX14_sum_43 rfl ?_
      refine x_iload_n (pc := 44) dX14_sum_44 rfl ?_
      refine x_iload_n (pc := 45) dX14_sum_45 rfl ?_
      refine x_aload_n (pc := 46) dX14_sum_46 rfl ?_
      obtain ⟨v120, M119, r118, hf⟩ := bd2_some hf
      refine x_cr (v := vI v120) (vs := [vR 203]) (rest := [vI v1, vI (mI M 205 (Int.toNat (mI M 203 7))), vR 203]) (k := 2) rfl (by omega) (ax_caV (pc := 47) dX14_sum_47 kX14_product rfl rfl WM_X14_187 WI_X14_product WS_X14_product WN_X14 (ax_rcO (t := 12) (axEx hG rfl) rfl (by decide)) (Nat.le_of_ble_eq_true rfl)) kX14_product rfl True.intro (hS.2.1 (d - 1) _ _ (by omega) r118) ?_
      obtain ⟨v123, M122, r121, hf⟩ := bd2_some hf
      refine x_cr (v := vI v123) (vs := [vR 203, vI (mI M 205 (Int.toNat (mI M 203 7))), vI v1, vI v120]) (rest := []) (k := 1) rfl (by omega) (ax_caV (pc := 50) dX14_sum_50 kX14_node rfl rfl WM_X14_172 WI_X14_node WS_X14_node WN_X14 (ax_rcO (t := 12) (axEx hG rfl) rfl (by decide)) (Nat.le_of_ble_eq_true rfl)) kX14_node rfl True.intro (T_X14_node (by omega) hG r121) ?_
      refine x_istore_n (ls' := [some (vR 203), some (vI v123), some (vI (mI M 205 (Int.toNat (mI M 203 7))))]) (pc := 53) dX14_sum_53 (Nat.le_of_ble_eq_true rfl) rfl rfl ?_
      refine x_goto (tgt := 5) (pc := 54) dX14_sum_54 rfl ?_
      cases hf
      exact x_fgt (axS' (axS' (axN' axD))) (h1 _ rfl)
    · replace hf := (if_neg h117).symm.trans hf
      cases hf
  · replace hf := (if_pos h106).symm.trans hf
    refine x_aload_n (pc := 14) dX14_sum_14 rfl ?_
    refine x_bipush (pc := 15) dX14_sum_15 (by decide) ⟨by decide, by decide⟩ ?_
    obtain ⟨v108, r107, hf⟩ := bd1_some hf
    refine x_cr (v := vI v108) (vs := [vR 203, vI 41]) (rest := []) (k := 0) rfl (by omega) (ax_caV (pc := 17) dX14_sum_17 kX14_is rfl rfl WM_X14_138 WI_X14_is WS_X14_is WN_X14 (ax_rcO (t := 12) (axEx hG rfl) rfl (by decide)) (Nat.le_of_ble_eq_true rfl)) kX14_is rfl (Z_X14_is r107) (T_X14_is (by omega) hG r107) ?_
    refine x_ifeq (tgt := 57) (pc := 20) dX14_sum_20 rfl (fun h109 => ?_) (fun h109 => ?_)
    · replace hf := (if_pos h109).symm.trans hf
      cases hf
      exact h2a _ rfl
    · replace hf := (if_neg h109).symm.trans hf
      refine x_aload_n (pc := 23) dX14_sum_23 rfl ?_
      refine x_getF (t := 12) (j := 4) (r := 205) (pc := 24) dX14_sum_24 (axH hG rfl) (axEx hG rfl) rfl (by decide) (by decide) rfl rfl WF_X14_17 ?_
      refine x_aload_n (pc := 27) dX14_sum_27 rfl ?_
      refine x_getI (t := 12) (j := 7) (pc := 28) dX14_sum_28 (axEx hG rfl) rfl (by decide) (by decide) rfl WF_X14_129 ?_
      by_cases h110 : 0 ≤ (mI M 203 7) ∧ (mI M 203 7) < 402
      · replace hf := (if_pos h110).symm.trans hf
        refine x_iald2 (n := 402) (pc := 31) dX14_sum_31 (axEx hG rfl) rfl h110.1 h110.2 ?_
        refine x_istore_n (ls' := [some (vR 203), some (vI v1), some (vI (mI M 205 (Int.toNat (mI M 203 7))))]) (pc := 32) dX14_sum_32 (Nat.le_of_ble_eq_true rfl) rfl rfl ?_
        refine x_aload_n (pc := 33) dX14_sum_33 rfl ?_
        refine x_dup (pc := 34) dX14_sum_34 rfl ?_
        refine x_getI (t := 12) (j := 7) (pc := 35) dX14_sum_35 (axEx hG rfl) rfl (by decide) (by decide) rfl WF_X14_129 ?_
        refine x_iconst (pc := 38) dX14_sum_38 ⟨by decide, by decide⟩ ?_
        refine x_iadd (z := ((mI M 203 7) + 1)) (pc := 39) dX14_sum_39 rfl (ax_i (by omega) (by omega)) ?_
        refine x_putI (t := 12) (j := 7) (pc := 40) dX14_sum_40 (axEx hG rfl) rfl (by decide) (by decide) rfl rfl WF_X14_129 ?_
        refine x_aload_n (pc := 43) dX14_sum_43 rfl ?_
        refine x_iload_n (pc := 44) dX14_sum_44 rfl ?_
        refine x_iload_n (pc := 45) dX14_sum_45 rfl ?_
        refine x_aload_n (pc := 46) dX14_sum_46 rfl ?_
        obtain ⟨v113, M112, r111, hf⟩ := bd2_some hf
        refine x_cr (v := vI v113) (vs := [vR 203]) (rest := [vI v1, vI (mI M 205 (Int.toNat (mI M 203 7))), vR 203]) (k := 2) rfl (by omega) (ax_caV (pc := 47) dX14_sum_47 kX14_product rfl rfl WM_X14_187 WI_X14_product WS_X14_product WN_X14 (ax_rcO (t := 12) (axEx hG rfl) rfl (by decide)) (Nat.le_of_ble_eq_true rfl)) kX14_product rfl True.intro (hS.2.1 (d - 1) _ _ (by omega) r111) ?_
        obtain ⟨v116, M115, r114, hf⟩ := bd2_some hf
        refine x_cr (v := vI v116) (vs := [vR 203, vI (mI M 205 (Int.toNat (mI M 203 7))), vI v1, vI v113]) (rest := []) (k := 1) rfl (by omega) (ax_caV (pc := 50) dX14_sum_50 kX14_node rfl rfl WM_X14_172 WI_X14_node WS_X14_node WN_X14 (ax_rcO (t := 12) (axEx hG rfl) rfl (by decide)) (Nat.le_of_ble_eq_true rfl)) kX14_node rfl True.intro (T_X14_node (by omega) hG r114) ?_
        refine x_istore_n (ls' := [some (vR 203), some (vI v116), some (vI (mI M 205 (Int.toNat (mI M 203 7))))]) (pc := 53) dX14_sum_53 (Nat.le_of_ble_eq_true rfl) rfl rfl ?_
        refine x_goto (tgt := 5) (pc := 54) dX14_sum_54 rfl ?_
        cases hf
        exact x_fgt (axS' (axS' (axN' axD))) (h1 _ rfl)
      · replace hf := (if_neg h110).symm.trans hf
        cases hf
theorem T_X14_sum {G : ax_G} {d : Nat} {D : Nat} {self : Nat → Int → ax_M → Option (Int × ax_M)} (hD : 8 ≤ D) (hS : SG14 G self D) (hd : D + 1 ≤ d) (hG : axPs G 150 244) {M : ax_M} {r : Int} {M1 : ax_M} (hf : fX14_sum self M = some (r, M1)) : ax_Ex G tX14_sum d 0 (ax_args [vR 203] ++ List.replicate 2 none) [] M (.inl (some (vI r))) M1 := by
  show ax_Ex G tX14_sum d 0 [some (vR 203), none, none] [] M _ _
  unfold fX14_sum at hf
  refine x_aload_n (pc := 0) dX14_sum_0 rfl ?_
  obtain ⟨v103, M102, r101, hf⟩ := bd2_some hf
  refine x_cr (v := vI v103) (vs := [vR 203]) (rest := []) (k := 2) rfl (by omega) (ax_caV (pc := 1) dX14_sum_1 kX14_product rfl rfl WM_X14_187 WI_X14_product WS_X14_product WN_X14 (ax_rcO (t := 12) (axEx hG rfl) rfl (by decide)) (Nat.le_of_ble_eq_true rfl)) kX14_product rfl True.intro (hS.2.1 (d - 1) _ _ (by omega) r101) ?_
  refine x_istore_n (ls' := [some (vR 203), some (vI v103), none]) (pc := 4) dX14_sum_4 (Nat.le_of_ble_eq_true rfl) rfl rfl ?_
  obtain ⟨t124, t125, hf⟩ := bd1_some hf
  refine lp_ex (P := (fun s => ax_Ex G tX14_sum d 5 [some (vR 203), some (vI s.1), none] [] s.2 _ _)) (K := (fun t => ax_Ex G tX14_sum d 57 [some (vR 203), some (vI t.1), none] [] t.2 _ _)) (fun s y hy h1 h2 => B_X14_sum_5 hD hS (by omega) hG hy (fun s' e => h1 s' e) (fun t e => h2 t e)) _ _ _ t125 ?_
  refine x_iload_n (pc := 57) dX14_sum_57 rfl ?_
  cases hf
  exact x_retI (pc := 58) dX14_sum_58
/- HexPondModel.inBrackets()I -/
def fX14_inBrackets (self : Nat → Int → ax_M → Option (Int × ax_M)) (M : ax_M) : Option (Int × ax_M) :=
  (bd1 (fX14_deeper M) fun M102 => (bd2 (self 2 0 M102) fun v105 M104 => (bd1 (fX14_take M104 50) fun M107 => (some (v105, (mUI M107 203 11 (wr ((mI M107 203 11) - 1))))))))
theorem T_X14_inBrackets {G : ax_G} {d : Nat} {D : Nat} {self : Nat → Int → ax_M → Option (Int × ax_M)} (hD : 8 ≤ D) (hS : SG14 G self D) (hd : D + 1 ≤ d) (hG : axPs G 150 244) {M : ax_M} {r : Int} {M1 : ax_M} (hf : fX14_inBrackets self M = some (r, M1)) : ax_Ex G tX14_inBrackets d 0 (ax_args [vR 203] ++ List.replicate 1 none) [] M (.inl (some (vI r))) M1 := by
  show ax_Ex G tX14_inBrackets d 0 [some (vR 203), none] [] M _ _
  unfold fX14_inBrackets at hf
  refine x_aload_n (pc := 0) dX14_inBrackets_0 rfl ?_
  obtain ⟨M102, r101, hf⟩ := bd1_some hf
  refine x_cv (vs := [vR 203]) (rest := []) (k := 0) rfl (by omega) (ax_caV (pc := 1) dX14_inBrackets_1 kX14_deeper rfl rfl WM_X14_166 WI_X14_deeper WS_X14_deeper WN_X14 (ax_rcO (t := 12) (axEx hG rfl) rfl (by decide)) (Nat.le_of_ble_eq_true rfl)) kX14_deeper rfl True.intro (T_X14_deeper (by omega) hG r101) ?_
  refine x_aload_n (pc := 4) dX14_inBrackets_4 rfl ?_
  obtain ⟨v105, M104, r103, hf⟩ := bd2_some hf
  refine x_cr (v := vI v105) (vs := [vR 203]) (rest := []) (k := 2) rfl (by omega) (ax_caV (pc := 5) dX14_inBrackets_5 kX14_sum rfl rfl WM_X14_169 WI_X14_sum WS_X14_sum WN_X14 (ax_rcO (t := 12) (axEx hG rfl) rfl (by decide)) (Nat.le_of_ble_eq_true rfl)) kX14_sum rfl True.intro (hS.2.2.1 (d - 1) _ _ (by omega) r103) ?_
  refine x_istore_n (ls' := [some (vR 203), some (vI v105)]) (pc := 8) dX14_inBrackets_8 (Nat.le_of_ble_eq_true rfl) rfl rfl ?_
  refine x_aload_n (pc := 9) dX14_inBrackets_9 rfl ?_
  refine x_bipush (pc := 10) dX14_inBrackets_10 (by decide) ⟨by decide, by decide⟩ ?_
  obtain ⟨M107, r106, hf⟩ := bd1_some hf
  refine x_cv (vs := [vR 203, vI 50]) (rest := []) (k := 0) rfl (by omega) (ax_caV (pc := 12) dX14_inBrackets_12 kX14_take rfl rfl WM_X14_162 WI_X14_take WS_X14_take WN_X14 (ax_rcO (t := 12) (axEx hG rfl) rfl (by decide)) (Nat.le_of_ble_eq_true rfl)) kX14_take rfl True.intro (T_X14_take (by omega) hG r106) ?_
  refine x_aload_n (pc := 15) dX14_inBrackets_15 rfl ?_
  refine x_dup (pc := 16) dX14_inBrackets_16 rfl ?_
  refine x_getI (t := 12) (j := 11) (pc := 17) dX14_inBrackets_17 (axEx hG rfl) rfl (by decide) (by decide) rfl WF_X14_144 ?_
  refine x_iconst (pc := 20) dX14_inBrackets_20 ⟨by decide, by decide⟩ ?_
  refine x_isubw (pc := 21) dX14_inBrackets_21 ?_
  refine x_putI (t := 12) (j := 11) (pc := 22) dX14_inBrackets_22 (axEx hG rfl) rfl (by decide) (by decide) rfl rfl WF_X14_144 ?_
  refine x_iload_n (pc := 25) dX14_inBrackets_25 rfl ?_
  cases hf
  exact x_retI (pc := 26) dX14_inBrackets_26
/- HexPondModel.ofTwo(I)I -/
def fX14_ofTwo (self : Nat → Int → ax_M → Option (Int × ax_M)) (M : ax_M) (a1 : Int) : Option (Int × ax_M) :=
  (bd1 (fX14_is (mUI M 203 7 (wr ((mI M 203 7) + 1))) 49) fun v102 => (if v102 = 0 then (bd1 (fX14_wrong (mUI M 203 7 (wr ((mI M 203 7) + 1)))) fun M105 => (some (0, M105))) else (bd1 (fX14_deeper (mUI M 203 7 (wr ((mI M 203 7) + 1)))) fun M107 => (bd2 (self 2 0 M107) fun v110 M109 => (bd1 (fX14_take M109 54) fun M112 => (bd2 (self 2 0 M112) fun v115 M114 => (bd1 (fX14_take M114 50) fun M117 => (bd2 (fX14_node (mUI M117 203 11 (wr ((mI M117 203 11) - 1))) a1 v110 v115) fun v120 M119 => (some (v120, M119))))))))))
theorem T_X14_ofTwo {G : ax_G} {d : Nat} {D : Nat} {self : Nat → Int → ax_M → Option (Int × ax_M)} (hD : 8 ≤ D) (hS : SG14 G self D) (hd : D + 1 ≤ d) (hG : axPs G 150 244) {M : ax_M} {a1 : Int} {r : Int} {M1 : ax_M} (hf : fX14_ofTwo self M a1 = some (r, M1)) : ax_Ex G tX14_ofTwo d 0 (ax_args [vR 203, vI a1] ++ List.replicate 2 none) [] M (.inl (some (vI r))) M1 := by
  show ax_Ex G tX14_ofTwo d 0 [some (vR 203), some (vI a1), none, none] [] M _ _
  unfold fX14_ofTwo at hf
  refine x_aload_n (pc := 0) dX14_ofTwo_0 rfl ?_
  refine x_dup (pc := 1) dX14_ofTwo_1 rfl ?_
  refine x_getI (t := 12) (j := 7) (pc := 2) dX14_ofTwo_2 (axEx hG rfl) rfl (by decide) (by decide) rfl WF_X14_129 ?_
  refine x_iconst (pc := 5) dX14_ofTwo_5 ⟨by decide, by decide⟩ ?_
  refine x_iaddw (pc := 6) dX14_ofTwo_6 ?_
  refine x_putI (t := 12) (j := 7) (pc := 7) dX14_ofTwo_7 (axEx hG rfl) rfl (by decide) (by decide) rfl rfl WF_X14_129 ?_
  refine x_aload_n (pc := 10) dX14_ofTwo_10 rfl ?_
  refine x_bipush (pc := 11) dX14_ofTwo_11 (by decide) ⟨by decide, by decide⟩ ?_
  obtain ⟨v102, r101, hf⟩ := bd1_some hf
  refine x_cr (v := vI v102) (vs := [vR 203, vI 49]) (rest := []) (k := 0) rfl (by omega) (ax_caV (pc := 13) dX14_ofTwo_13 kX14_is rfl rfl WM_X14_138 WI_X14_is WS_X14_is WN_X14 (ax_rcO (t := 12) (axEx hG rfl) rfl (by decide)) (Nat.le_of_ble_eq_true rfl)) kX14_is rfl (Z_X14_is r101) (T_X14_is (by omega) hG r101) ?_
  refine x_ifne (tgt := 25) (pc := 16) dX14_ofTwo_16 rfl (fun h103 => ?_) (fun h103 => ?_)
  · replace hf := (if_neg h103).symm.trans hf
    refine x_aload_n (pc := 25) dX14_ofTwo_25 rfl ?_
    obtain ⟨M107, r106, hf⟩ := bd1_some hf
    refine x_cv (vs := [vR 203]) (rest := []) (k := 0) rfl (by omega) (ax_caV (pc := 26) dX14_ofTwo_26 kX14_deeper rfl rfl WM_X14_166 WI_X14_deeper WS_X14_deeper WN_X14 (ax_rcO (t := 12) (axEx hG rfl) rfl (by decide)) (Nat.le_of_ble_eq_true rfl)) kX14_deeper rfl True.intro (T_X14_deeper (by omega) hG r106) ?_
    refine x_aload_n (pc := 29) dX14_ofTwo_29 rfl ?_
    obtain ⟨v110, M109, r108, hf⟩ := bd2_some hf
    refine x_cr (v := vI v110) (vs := [vR 203]) (rest := []) (k := 2) rfl (by omega) (ax_caV (pc := 30) dX14_ofTwo_30 kX14_sum rfl rfl WM_X14_169 WI_X14_sum WS_X14_sum WN_X14 (ax_rcO (t := 12) (axEx hG rfl) rfl (by decide)) (Nat.le_of_ble_eq_true rfl)) kX14_sum rfl True.intro (hS.2.2.1 (d - 1) _ _ (by omega) r108) ?_
    refine x_istore_n (ls' := [some (vR 203), some (vI a1), some (vI v110), none]) (pc := 33) dX14_ofTwo_33 (Nat.le_of_ble_eq_true rfl) rfl rfl ?_
    refine x_aload_n (pc := 34) dX14_ofTwo_34 rfl ?_
    refine x_bipush (pc := 35) dX14_ofTwo_35 (by decide) ⟨by decide, by decide⟩ ?_
    obtain ⟨M112, r111, hf⟩ := bd1_some hf
    refine x_cv (vs := [vR 203, vI 54]) (rest := []) (k := 0) rfl (by omega) (ax_caV (pc := 37) dX14_ofTwo_37 kX14_take rfl rfl WM_X14_162 WI_X14_take WS_X14_take WN_X14 (ax_rcO (t := 12) (axEx hG rfl) rfl (by decide)) (Nat.le_of_ble_eq_true rfl)) kX14_take rfl True.intro (T_X14_take (by omega) hG r111) ?_
    refine x_aload_n (pc := 40) dX14_ofTwo_40 rfl ?_
    obtain ⟨v115, M114, r113, hf⟩ := bd2_some hf
    refine x_cr (v := vI v115) (vs := [vR 203]) (rest := []) (k := 2) rfl (by omega) (ax_caV (pc := 41) dX14_ofTwo_41 kX14_sum rfl rfl WM_X14_169 WI_X14_sum WS_X14_sum WN_X14 (ax_rcO (t := 12) (axEx hG rfl) rfl (by decide)) (Nat.le_of_ble_eq_true rfl)) kX14_sum rfl True.intro (hS.2.2.1 (d - 1) _ _ (by omega) r113) ?_
    refine x_istore_n (ls' := [some (vR 203), some (vI a1), some (vI v110), some (vI v115)]) (pc := 44) dX14_ofTwo_44 (Nat.le_of_ble_eq_true rfl) rfl rfl ?_
    refine x_aload_n (pc := 45) dX14_ofTwo_45 rfl ?_
    refine x_bipush (pc := 46) dX14_ofTwo_46 (by decide) ⟨by decide, by decide⟩ ?_
    obtain ⟨M117, r116, hf⟩ := bd1_some hf
    refine x_cv (vs := [vR 203, vI 50]) (rest := []) (k := 0) rfl (by omega) (ax_caV (pc := 48) dX14_ofTwo_48 kX14_take rfl rfl WM_X14_162 WI_X14_take WS_X14_take WN_X14 (ax_rcO (t := 12) (axEx hG rfl) rfl (by decide)) (Nat.le_of_ble_eq_true rfl)) kX14_take rfl True.intro (T_X14_take (by omega) hG r116) ?_
    refine x_aload_n (pc := 51) dX14_ofTwo_51 rfl ?_
    refine x_dup (pc := 52) dX14_ofTwo_52 rfl ?_
    refine x_getI (t := 12) (j := 11) (pc := 53) dX14_ofTwo_53 (axEx hG rfl) rfl (by decide) (by decide) rfl WF_X14_144 ?_
    refine x_iconst (pc := 56) dX14_ofTwo_56 ⟨by decide, by decide⟩ ?_
    refine x_isubw (pc := 57) dX14_ofTwo_57 ?_
    refine x_putI (t := 12) (j := 11) (pc := 58) dX14_ofTwo_58 (axEx hG rfl) rfl (by decide) (by decide) rfl rfl WF_X14_144 ?_
    refine x_aload_n (pc := 61) dX14_ofTwo_61 rfl ?_
    refine x_iload_n (pc := 62) dX14_ofTwo_62 rfl ?_
    refine x_iload_n (pc := 63) dX14_ofTwo_63 rfl ?_
    refine x_iload_n (pc := 64) dX14_ofTwo_64 rfl ?_
    obtain ⟨v120, M119, r118, hf⟩ := bd2_some hf
    refine x_cr (v := vI v120) (vs := [vR 203, vI a1, vI v110, vI v115]) (rest := []) (k := 1) rfl (by omega) (ax_caV (pc := 65) dX14_ofTwo_65 kX14_node rfl rfl WM_X14_172 WI_X14_node WS_X14_node WN_X14 (ax_rcO (t := 12) (axEx hG rfl) rfl (by decide)) (Nat.le_of_ble_eq_true rfl)) kX14_node rfl True.intro (T_X14_node (by omega) hG r118) ?_
    cases hf
    exact x_retI (pc := 68) dX14_ofTwo_68
  · replace hf := (if_pos h103).symm.trans hf
    refine x_aload_n (pc := 19) dX14_ofTwo_19 rfl ?_
    obtain ⟨M105, r104, hf⟩ := bd1_some hf
    refine x_cv (vs := [vR 203]) (rest := []) (k := 0) rfl (by omega) (ax_caV (pc := 20) dX14_ofTwo_20 kX14_wrong rfl rfl WM_X14_141 WI_X14_wrong WS_X14_wrong WN_X14 (ax_rcO (t := 12) (axEx hG rfl) rfl (by decide)) (Nat.le_of_ble_eq_true rfl)) kX14_wrong rfl True.intro (T_X14_wrong (by omega) hG r104) ?_
    refine x_iconst (pc := 23) dX14_ofTwo_23 ⟨by decide, by decide⟩ ?_
    cases hf
    exact x_retI (pc := 24) dX14_ofTwo_24
def fG14 : Nat → Nat → Int → ax_M → Option (Int × ax_M)
  | 0, _, _, _ => none
  | n + 1, tag, e, M => if tag = 0 then fX14_value (fG14 n) M else if tag = 1 then fX14_product (fG14 n) M else if tag = 2 then fX14_sum (fG14 n) M else if tag = 3 then fX14_inBrackets (fG14 n) M else fX14_ofTwo (fG14 n) M e
theorem TG14 {G : ax_G} (hG : axPs G 150 244) : ∀ n : Nat, SG14 G (fG14 n) (n + 8)
  | 0 => ⟨(fun _ _ _ _ _ h => nomatch h), (fun _ _ _ _ _ h => nomatch h), (fun _ _ _ _ _ h => nomatch h), (fun _ _ _ _ _ h => nomatch h), (fun _ _ _ _ _ _ h => nomatch h)⟩
  | n + 1 => ⟨fun d _ M M1 hd h => T_X14_value (by omega) (TG14 hG n) (by omega) hG h, fun d _ M M1 hd h => T_X14_product (by omega) (TG14 hG n) (by omega) hG h, fun d _ M M1 hd h => T_X14_sum (by omega) (TG14 hG n) (by omega) hG h, fun d _ M M1 hd h => T_X14_inBrackets (by omega) (TG14 hG n) (by omega) hG h, fun d _ _ M M1 hd h => T_X14_ofTwo (by omega) (TG14 hG n) (by omega) hG h⟩
/- HexPondModel.comparison()I -/
def fX14_comparison (M : ax_M) : Option (Int × ax_M) :=
  (bd2 (fG14 60 2 0 M) fun v103 M102 => (if 0 ≤ (mI M102 203 7) ∧ (mI M102 203 7) < 402 then (if (mI M102 203 8) = 0 then (if (fX14_isIn M102 (mI M102 205 (Int.toNat (mI M102 203 7))) 44 48) = 0 then (bd1 (fX14_wrong M102) fun M108 => (some (0, M108))) else (bd2 (fG14 60 2 0 (mUI M102 203 7 ((mI M102 203 7) + 1))) fun v111 M110 => (bd2 (fX14_node M110 (mI M102 205 (Int.toNat (mI M102 203 7))) v103 v111) fun v114 M113 => (some (v114, M113))))) else (bd1 (fX14_wrong M102) fun M116 => (some (0, M116)))) else none))
theorem T_X14_comparison {G : ax_G} {d : Nat} (hd : 69 ≤ d) (hG : axPs G 150 244) {M : ax_M} {r : Int} {M1 : ax_M} (hf : fX14_comparison M = some (r, M1)) : ax_Ex G tX14_comparison d 0 (ax_args [vR 203] ++ List.replicate 2 none) [] M (.inl (some (vI r))) M1 := by
  show ax_Ex G tX14_comparison d 0 [some (vR 203), none, none] [] M _ _
  unfold fX14_comparison at hf
  refine x_aload_n (pc := 0) dX14_comparison_0 rfl ?_
  obtain ⟨v103, M102, r101, hf⟩ := bd2_some hf
  refine x_cr (v := vI v103) (vs := [vR 203]) (rest := []) (k := 2) rfl (by omega) (ax_caV (pc := 1) dX14_comparison_1 kX14_sum rfl rfl WM_X14_169 WI_X14_sum WS_X14_sum WN_X14 (ax_rcO (t := 12) (axEx hG rfl) rfl (by decide)) (Nat.le_of_ble_eq_true rfl)) kX14_sum rfl True.intro ((TG14 hG 60).2.2.1 (d - 1) _ _ (by omega) r101) ?_
  refine x_istore_n (ls' := [some (vR 203), some (vI v103), none]) (pc := 4) dX14_comparison_4 (Nat.le_of_ble_eq_true rfl) rfl rfl ?_
  refine x_aload_n (pc := 5) dX14_comparison_5 rfl ?_
  refine x_getF (t := 12) (j := 4) (r := 205) (pc := 6) dX14_comparison_6 (axH hG rfl) (axEx hG rfl) rfl (by decide) (by decide) rfl rfl WF_X14_17 ?_
  refine x_aload_n (pc := 9) dX14_comparison_9 rfl ?_
  refine x_getI (t := 12) (j := 7) (pc := 10) dX14_comparison_10 (axEx hG rfl) rfl (by decide) (by decide) rfl WF_X14_129 ?_
  by_cases h104 : 0 ≤ (mI M102 203 7) ∧ (mI M102 203 7) < 402
  · replace hf := (if_pos h104).symm.trans hf
    refine x_iald2 (n := 402) (pc := 13) dX14_comparison_13 (axEx hG rfl) rfl h104.1 h104.2 ?_
    refine x_istore_n (ls' := [some (vR 203), some (vI v103), some (vI (mI M102 205 (Int.toNat (mI M102 203 7))))]) (pc := 14) dX14_comparison_14 (Nat.le_of_ble_eq_true rfl) rfl rfl ?_
    refine x_aload_n (pc := 15) dX14_comparison_15 rfl ?_
    refine x_getI (t := 12) (j := 8) (pc := 16) dX14_comparison_16 (axEx hG rfl) rfl (by decide) (by decide) rfl WF_X14_125 ?_
    refine x_ifne (tgt := 33) (pc := 19) dX14_comparison_19 rfl (fun h105 => ?_) (fun h105 => ?_)
    · replace hf := (if_neg h105).symm.trans hf
      refine x_aload_n (pc := 33) dX14_comparison_33 rfl ?_
      obtain ⟨M116, r115, hf⟩ := bd1_some hf
      refine x_cv (vs := [vR 203]) (rest := []) (k := 0) rfl (by omega) (ax_caV (pc := 34) dX14_comparison_34 kX14_wrong rfl rfl WM_X14_141 WI_X14_wrong WS_X14_wrong WN_X14 (ax_rcO (t := 12) (axEx hG rfl) rfl (by decide)) (Nat.le_of_ble_eq_true rfl)) kX14_wrong rfl True.intro (T_X14_wrong (by omega) hG r115) ?_
      refine x_iconst (pc := 37) dX14_comparison_37 ⟨by decide, by decide⟩ ?_
      cases hf
      exact x_retI (pc := 38) dX14_comparison_38
    · replace hf := (if_pos h105).symm.trans hf
      refine x_iload_n (pc := 22) dX14_comparison_22 rfl ?_
      refine x_bipush (pc := 23) dX14_comparison_23 (by decide) ⟨by decide, by decide⟩ ?_
      refine x_bipush (pc := 25) dX14_comparison_25 (by decide) ⟨by decide, by decide⟩ ?_
      refine x_cr (v := vI (fX14_isIn M102 (mI M102 205 (Int.toNat (mI M102 203 7))) 44 48)) (vs := [vI (mI M102 205 (Int.toNat (mI M102 203 7))), vI 44, vI 48]) (rest := []) (k := 0) rfl (by omega) (ax_caS (pc := 27) dX14_comparison_27 kX14_isIn rfl rfl WM_X14_76 WT_X14_isIn WN_X14 (Nat.le_of_ble_eq_true rfl)) kX14_isIn rfl (Z_X14_isIn rfl) (T_X14_isIn (by omega) hG rfl) ?_
      refine x_ifne (tgt := 39) (pc := 30) dX14_comparison_30 rfl (fun h106 => ?_) (fun h106 => ?_)
      · replace hf := (if_neg h106).symm.trans hf
        refine x_aload_n (pc := 39) dX14_comparison_39 rfl ?_
        refine x_dup (pc := 40) dX14_comparison_40 rfl ?_
        refine x_getI (t := 12) (j := 7) (pc := 41) dX14_comparison_41 (axEx hG rfl) rfl (by decide) (by decide) rfl WF_X14_129 ?_
        refine x_iconst (pc := 44) dX14_comparison_44 ⟨by decide, by decide⟩ ?_
        refine x_iadd (z := ((mI M102 203 7) + 1)) (pc := 45) dX14_comparison_45 rfl (ax_i (by omega) (by omega)) ?_
        refine x_putI (t := 12) (j := 7) (pc := 46) dX14_comparison_46 (axEx hG rfl) rfl (by decide) (by decide) rfl rfl WF_X14_129 ?_
        refine x_aload_n (pc := 49) dX14_comparison_49 rfl ?_
        refine x_iload_n (pc := 50) dX14_comparison_50 rfl ?_
        refine x_iload_n (pc := 51) dX14_comparison_51 rfl ?_
        refine x_aload_n (pc := 52) dX14_comparison_52 rfl ?_
        obtain ⟨v111, M110, r109, hf⟩ := bd2_some hf
        refine x_cr (v := vI v111) (vs := [vR 203]) (rest := [vI v103, vI (mI M102 205 (Int.toNat (mI M102 203 7))), vR 203]) (k := 2) rfl (by omega) (ax_caV (pc := 53) dX14_comparison_53 kX14_sum rfl rfl WM_X14_169 WI_X14_sum WS_X14_sum WN_X14 (ax_rcO (t := 12) (axEx hG rfl) rfl (by decide)) (Nat.le_of_ble_eq_true rfl)) kX14_sum rfl True.intro ((TG14 hG 60).2.2.1 (d - 1) _ _ (by omega) r109) ?_
        obtain ⟨v114, M113, r112, hf⟩ := bd2_some hf
        refine x_cr (v := vI v114) (vs := [vR 203, vI (mI M102 205 (Int.toNat (mI M102 203 7))), vI v103, vI v111]) (rest := []) (k := 1) rfl (by omega) (ax_caV (pc := 56) dX14_comparison_56 kX14_node rfl rfl WM_X14_172 WI_X14_node WS_X14_node WN_X14 (ax_rcO (t := 12) (axEx hG rfl) rfl (by decide)) (Nat.le_of_ble_eq_true rfl)) kX14_node rfl True.intro (T_X14_node (by omega) hG r112) ?_
        cases hf
        exact x_retI (pc := 59) dX14_comparison_59
      · replace hf := (if_pos h106).symm.trans hf
        refine x_aload_n (pc := 33) dX14_comparison_33 rfl ?_
        obtain ⟨M108, r107, hf⟩ := bd1_some hf
        refine x_cv (vs := [vR 203]) (rest := []) (k := 0) rfl (by omega) (ax_caV (pc := 34) dX14_comparison_34 kX14_wrong rfl rfl WM_X14_141 WI_X14_wrong WS_X14_wrong WN_X14 (ax_rcO (t := 12) (axEx hG rfl) rfl (by decide)) (Nat.le_of_ble_eq_true rfl)) kX14_wrong rfl True.intro (T_X14_wrong (by omega) hG r107) ?_
        refine x_iconst (pc := 37) dX14_comparison_37 ⟨by decide, by decide⟩ ?_
        cases hf
        exact x_retI (pc := 38) dX14_comparison_38
  · replace hf := (if_neg h104).symm.trans hf
    cases hf
def SG15 (G : ax_G) (self : Nat → Int → ax_M → Option (Int × ax_M)) (D : Nat) : Prop :=
  (∀ (d : Nat) {r : Int} (M M1 : ax_M), D ≤ d → self 0 0 M = some (r, M1) → ax_Ex G tX14_both d 0 (ax_args [vR 203] ++ List.replicate 1 none) [] M (.inl (some (vI r))) M1) ∧
  (∀ (d : Nat) {r : Int} (M M1 : ax_M), D ≤ d → self 1 0 M = some (r, M1) → ax_Ex G tX14_test d 0 (ax_args [vR 203] ++ List.replicate 1 none) [] M (.inl (some (vI r))) M1) ∧
  (∀ (d : Nat) {r : Int} (M M1 : ax_M), D ≤ d → self 2 0 M = some (r, M1) → ax_Ex G tX14_single d 0 (ax_args [vR 203] ++ List.replicate 1 none) [] M (.inl (some (vI r))) M1)
/- HexPondModel.both()I -/
def fX14_both_b5 (self : Nat → Int → ax_M → Option (Int × ax_M)) (M : ax_M) (v1 : Int) : Option ((Int × ax_M) ⊕ (Int × ax_M)) :=
  (bd2 (fX14_takes M 19) fun v106 M105 => (if v106 = 0 then (some (.inr (v1, M105))) else (bd2 (self 2 0 M105) fun v110 M109 => (bd2 (fX14_node M109 19 v1 v110) fun v113 M112 => (some (.inl (v113, M112)))))))
def fX14_both (self : Nat → Int → ax_M → Option (Int × ax_M)) (M : ax_M) : Option (Int × ax_M) :=
  (bd2 (self 2 0 M) fun v103 M102 => (bd1 (lp (fun s => fX14_both_b5 self s.2 s.1) lpN (v103, M102)) fun t114 => (some (t114.1, t114.2))))
theorem B_X14_both_5 {G : ax_G} {d : Nat} {D : Nat} {self : Nat → Int → ax_M → Option (Int × ax_M)} (hD : 80 ≤ D) (hS : SG15 G self D) (hd : D + 1 ≤ d) (hG : axPs G 150 244) {M : ax_M} {v1 : Int} {o : Option ax_V ⊕ String} {M' : ax_M} {y : (Int × ax_M) ⊕ (Int × ax_M)} (hf : fX14_both_b5 self M v1 = some y) (h1 : ∀ s', y = .inl s' → ax_Ex G tX14_both d 5 [some (vR 203), some (vI s'.1)] [] s'.2 o M') (h2a : ∀ t, y = .inr t → ax_Ex G tX14_both d 29 [some (vR 203), some (vI t.1)] [] t.2 o M') : ax_Ex G tX14_both d 5 [some (vR 203), some (vI v1)] [] M o M' := by
  unfold fX14_both_b5 at hf
  refine x_aload_n (pc := 5) dX14_both_5 rfl ?_
  refine x_bipush (pc := 6) dX14_both_6 (by decide) ⟨by decide, by decide⟩ ?_
  obtain ⟨v106, M105, r104, hf⟩ := bd2_some hf
  refine x_cr (v := vI v106) (vs := [vR 203, vI 19]) (rest := []) (k := 0) rfl (by omega) (ax_caV (pc := 8) dX14_both_8 kX14_takes rfl rfl WM_X14_159 WI_X14_takes WS_X14_takes WN_X14 (ax_rcO (t := 12) (axEx hG rfl) rfl (by decide)) (Nat.le_of_ble_eq_true rfl)) kX14_takes rfl (Z_X14_takes r104) (T_X14_takes (by omega) hG r104) ?_
  refine x_ifeq (tgt := 29) (pc := 11) dX14_both_11 rfl (fun h107 => ?_) (fun h107 => ?_)
  · replace hf := (if_pos h107).symm.trans hf
    cases hf
    exact h2a _ rfl
  · replace hf := (if_neg h107).symm.trans hf
    refine x_aload_n (pc := 14) dX14_both_14 rfl ?_
    refine x_bipush (pc := 15) dX14_both_15 (by decide) ⟨by decide, by decide⟩ ?_
    refine x_iload_n (pc := 17) dX14_both_17 rfl ?_
    refine x_aload_n (pc := 18) dX14_both_18 rfl ?_
    obtain ⟨v110, M109, r108, hf⟩ := bd2_some hf
    refine x_cr (v := vI v110) (vs := [vR 203]) (rest := [vI v1, vI 19, vR 203]) (k := 1) rfl (by omega) (ax_caV (pc := 19) dX14_both_19 kX14_single rfl rfl WM_X14_190 WI_X14_single WS_X14_single WN_X14 (ax_rcO (t := 12) (axEx hG rfl) rfl (by decide)) (Nat.le_of_ble_eq_true rfl)) kX14_single rfl True.intro (hS.2.2 (d - 1) _ _ (by omega) r108) ?_
    obtain ⟨v113, M112, r111, hf⟩ := bd2_some hf
    refine x_cr (v := vI v113) (vs := [vR 203, vI 19, vI v1, vI v110]) (rest := []) (k := 1) rfl (by omega) (ax_caV (pc := 22) dX14_both_22 kX14_node rfl rfl WM_X14_172 WI_X14_node WS_X14_node WN_X14 (ax_rcO (t := 12) (axEx hG rfl) rfl (by decide)) (Nat.le_of_ble_eq_true rfl)) kX14_node rfl True.intro (T_X14_node (by omega) hG r111) ?_
    refine x_istore_n (ls' := [some (vR 203), some (vI v113)]) (pc := 25) dX14_both_25 (Nat.le_of_ble_eq_true rfl) rfl rfl ?_
    refine x_goto (tgt := 5) (pc := 26) dX14_both_26 rfl ?_
    cases hf
    exact h1 _ rfl
theorem T_X14_both {G : ax_G} {d : Nat} {D : Nat} {self : Nat → Int → ax_M → Option (Int × ax_M)} (hD : 80 ≤ D) (hS : SG15 G self D) (hd : D + 1 ≤ d) (hG : axPs G 150 244) {M : ax_M} {r : Int} {M1 : ax_M} (hf : fX14_both self M = some (r, M1)) : ax_Ex G tX14_both d 0 (ax_args [vR 203] ++ List.replicate 1 none) [] M (.inl (some (vI r))) M1 := by
  show ax_Ex G tX14_both d 0 [some (vR 203), none] [] M _ _
  unfold fX14_both at hf
  refine x_aload_n (pc := 0) dX14_both_0 rfl ?_
  obtain ⟨v103, M102, r101, hf⟩ := bd2_some hf
  refine x_cr (v := vI v103) (vs := [vR 203]) (rest := []) (k := 1) rfl (by omega) (ax_caV (pc := 1) dX14_both_1 kX14_single rfl rfl WM_X14_190 WI_X14_single WS_X14_single WN_X14 (ax_rcO (t := 12) (axEx hG rfl) rfl (by decide)) (Nat.le_of_ble_eq_true rfl)) kX14_single rfl True.intro (hS.2.2 (d - 1) _ _ (by omega) r101) ?_
  refine x_istore_n (ls' := [some (vR 203), some (vI v103)]) (pc := 4) dX14_both_4 (Nat.le_of_ble_eq_true rfl) rfl rfl ?_
  obtain ⟨t114, t115, hf⟩ := bd1_some hf
  refine lp_ex (P := (fun s => ax_Ex G tX14_both d 5 [some (vR 203), some (vI s.1)] [] s.2 _ _)) (K := (fun t => ax_Ex G tX14_both d 29 [some (vR 203), some (vI t.1)] [] t.2 _ _)) (fun s y hy h1 h2 => B_X14_both_5 hD hS (by omega) hG hy (fun s' e => h1 s' e) (fun t e => h2 t e)) _ _ _ t115 ?_
  refine x_iload_n (pc := 29) dX14_both_29 rfl ?_
  cases hf
  exact x_retI (pc := 30) dX14_both_30
/- HexPondModel.test()I -/
def fX14_test_b5 (self : Nat → Int → ax_M → Option (Int × ax_M)) (M : ax_M) (v1 : Int) : Option ((Int × ax_M) ⊕ (Int × ax_M)) :=
  (bd2 (fX14_takes M 20) fun v106 M105 => (if v106 = 0 then (some (.inr (v1, M105))) else (bd2 (self 0 0 M105) fun v110 M109 => (bd2 (fX14_node M109 20 v1 v110) fun v113 M112 => (some (.inl (v113, M112)))))))
def fX14_test (self : Nat → Int → ax_M → Option (Int × ax_M)) (M : ax_M) : Option (Int × ax_M) :=
  (bd2 (self 0 0 M) fun v103 M102 => (bd1 (lp (fun s => fX14_test_b5 self s.2 s.1) lpN (v103, M102)) fun t114 => (some (t114.1, t114.2))))
theorem B_X14_test_5 {G : ax_G} {d : Nat} {D : Nat} {self : Nat → Int → ax_M → Option (Int × ax_M)} (hD : 80 ≤ D) (hS : SG15 G self D) (hd : D + 1 ≤ d) (hG : axPs G 150 244) {M : ax_M} {v1 : Int} {o : Option ax_V ⊕ String} {M' : ax_M} {y : (Int × ax_M) ⊕ (Int × ax_M)} (hf : fX14_test_b5 self M v1 = some y) (h1 : ∀ s', y = .inl s' → ax_Ex G tX14_test d 5 [some (vR 203), some (vI s'.1)] [] s'.2 o M') (h2a : ∀ t, y = .inr t → ax_Ex G tX14_test d 29 [some (vR 203), some (vI t.1)] [] t.2 o M') : ax_Ex G tX14_test d 5 [some (vR 203), some (vI v1)] [] M o M' := by
  unfold fX14_test_b5 at hf
  refine x_aload_n (pc := 5) dX14_test_5 rfl ?_
  refine x_bipush (pc := 6) dX14_test_6 (by decide) ⟨by decide, by decide⟩ ?_
  obtain ⟨v106, M105, r104, hf⟩ := bd2_some hf
  refine x_cr (v := vI v106) (vs := [vR 203, vI 20]) (rest := []) (k := 0) rfl (by omega) (ax_caV (pc := 8) dX14_test_8 kX14_takes rfl rfl WM_X14_159 WI_X14_takes WS_X14_takes WN_X14 (ax_rcO (t := 12) (axEx hG rfl) rfl (by decide)) (Nat.le_of_ble_eq_true rfl)) kX14_takes rfl (Z_X14_takes r104) (T_X14_takes (by omega) hG r104) ?_
  refine x_ifeq (tgt := 29) (pc := 11) dX14_test_11 rfl (fun h107 => ?_) (fun h107 => ?_)
  · replace hf := (if_pos h107).symm.trans hf
    cases hf
    exact h2a _ rfl
  · replace hf := (if_neg h107).symm.trans hf
    refine x_aload_n (pc := 14) dX14_test_14 rfl ?_
    refine x_bipush (pc := 15) dX14_test_15 (by decide) ⟨by decide, by decide⟩ ?_
    refine x_iload_n (pc := 17) dX14_test_17 rfl ?_
    refine x_aload_n (pc := 18) dX14_test_18 rfl ?_
    obtain ⟨v110, M109, r108, hf⟩ := bd2_some hf
    refine x_cr (v := vI v110) (vs := [vR 203]) (rest := [vI v1, vI 20, vR 203]) (k := 1) rfl (by omega) (ax_caV (pc := 19) dX14_test_19 kX14_both rfl rfl WM_X14_199 WI_X14_both WS_X14_both WN_X14 (ax_rcO (t := 12) (axEx hG rfl) rfl (by decide)) (Nat.le_of_ble_eq_true rfl)) kX14_both rfl True.intro (hS.1 (d - 1) _ _ (by omega) r108) ?_
    obtain ⟨v113, M112, r111, hf⟩ := bd2_some hf
    refine x_cr (v := vI v113) (vs := [vR 203, vI 20, vI v1, vI v110]) (rest := []) (k := 1) rfl (by omega) (ax_caV (pc := 22) dX14_test_22 kX14_node rfl rfl WM_X14_172 WI_X14_node WS_X14_node WN_X14 (ax_rcO (t := 12) (axEx hG rfl) rfl (by decide)) (Nat.le_of_ble_eq_true rfl)) kX14_node rfl True.intro (T_X14_node (by omega) hG r111) ?_
    refine x_istore_n (ls' := [some (vR 203), some (vI v113)]) (pc := 25) dX14_test_25 (Nat.le_of_ble_eq_true rfl) rfl rfl ?_
    refine x_goto (tgt := 5) (pc := 26) dX14_test_26 rfl ?_
    cases hf
    exact h1 _ rfl
theorem T_X14_test {G : ax_G} {d : Nat} {D : Nat} {self : Nat → Int → ax_M → Option (Int × ax_M)} (hD : 80 ≤ D) (hS : SG15 G self D) (hd : D + 1 ≤ d) (hG : axPs G 150 244) {M : ax_M} {r : Int} {M1 : ax_M} (hf : fX14_test self M = some (r, M1)) : ax_Ex G tX14_test d 0 (ax_args [vR 203] ++ List.replicate 1 none) [] M (.inl (some (vI r))) M1 := by
  show ax_Ex G tX14_test d 0 [some (vR 203), none] [] M _ _
  unfold fX14_test at hf
  refine x_aload_n (pc := 0) dX14_test_0 rfl ?_
  obtain ⟨v103, M102, r101, hf⟩ := bd2_some hf
  refine x_cr (v := vI v103) (vs := [vR 203]) (rest := []) (k := 1) rfl (by omega) (ax_caV (pc := 1) dX14_test_1 kX14_both rfl rfl WM_X14_199 WI_X14_both WS_X14_both WN_X14 (ax_rcO (t := 12) (axEx hG rfl) rfl (by decide)) (Nat.le_of_ble_eq_true rfl)) kX14_both rfl True.intro (hS.1 (d - 1) _ _ (by omega) r101) ?_
  refine x_istore_n (ls' := [some (vR 203), some (vI v103)]) (pc := 4) dX14_test_4 (Nat.le_of_ble_eq_true rfl) rfl rfl ?_
  obtain ⟨t114, t115, hf⟩ := bd1_some hf
  refine lp_ex (P := (fun s => ax_Ex G tX14_test d 5 [some (vR 203), some (vI s.1)] [] s.2 _ _)) (K := (fun t => ax_Ex G tX14_test d 29 [some (vR 203), some (vI t.1)] [] t.2 _ _)) (fun s y hy h1 h2 => B_X14_test_5 hD hS (by omega) hG hy (fun s' e => h1 s' e) (fun t e => h2 t e)) _ _ _ t115 ?_
  refine x_iload_n (pc := 29) dX14_test_29 rfl ?_
  cases hf
  exact x_retI (pc := 30) dX14_test_30
/- HexPondModel.single()I -/
def fX14_single (self : Nat → Int → ax_M → Option (Int × ax_M)) (M : ax_M) : Option (Int × ax_M) :=
  (bd1 (fX14_is M 18) fun v102 => (if v102 = 0 then (bd1 (fX14_is M 51) fun v105 => (if v105 = 0 then (bd2 (fX14_takes M 17) fun v109 M108 => (if v109 = 0 then (bd2 (fX14_comparison M108) fun v113 M112 => (some (v113, M112))) else (bd2 (fX14_player M108) fun v116 M115 => (bd2 (fX14_node M115 17 v116 0) fun v119 M118 => (some (v119, M118)))))) else (bd1 (fX14_deeper M) fun M121 => (bd2 (self 1 0 M121) fun v124 M123 => (bd1 (fX14_take M123 52) fun M126 => (some (v124, (mUI M126 203 11 (wr ((mI M126 203 11) - 1)))))))))) else (bd1 (fX14_deeper M) fun M128 => (bd2 (self 2 0 M128) fun v131 M130 => (bd2 (fX14_node (mUI M130 203 11 (wr ((mI M130 203 11) - 1))) 18 v131 0) fun v134 M133 => (some (v134, M133)))))))
theorem T_X14_single {G : ax_G} {d : Nat} {D : Nat} {self : Nat → Int → ax_M → Option (Int × ax_M)} (hD : 80 ≤ D) (hS : SG15 G self D) (hd : D + 1 ≤ d) (hG : axPs G 150 244) {M : ax_M} {r : Int} {M1 : ax_M} (hf : fX14_single self M = some (r, M1)) : ax_Ex G tX14_single d 0 (ax_args [vR 203] ++ List.replicate 1 none) [] M (.inl (some (vI r))) M1 := by
  show ax_Ex G tX14_single d 0 [some (vR 203), none] [] M _ _
  unfold fX14_single at hf
  refine x_aload_n (pc := 0) dX14_single_0 rfl ?_
  refine x_bipush (pc := 1) dX14_single_1 (by decide) ⟨by decide, by decide⟩ ?_
  obtain ⟨v102, r101, hf⟩ := bd1_some hf
  refine x_cr (v := vI v102) (vs := [vR 203, vI 18]) (rest := []) (k := 0) rfl (by omega) (ax_caV (pc := 3) dX14_single_3 kX14_is rfl rfl WM_X14_138 WI_X14_is WS_X14_is WN_X14 (ax_rcO (t := 12) (axEx hG rfl) rfl (by decide)) (Nat.le_of_ble_eq_true rfl)) kX14_is rfl (Z_X14_is r101) (T_X14_is (by omega) hG r101) ?_
  refine x_ifeq (tgt := 37) (pc := 6) dX14_single_6 rfl (fun h103 => ?_) (fun h103 => ?_)
  · replace hf := (if_pos h103).symm.trans hf
    refine x_aload_n (pc := 37) dX14_single_37 rfl ?_
    refine x_bipush (pc := 38) dX14_single_38 (by decide) ⟨by decide, by decide⟩ ?_
    obtain ⟨v105, r104, hf⟩ := bd1_some hf
    refine x_cr (v := vI v105) (vs := [vR 203, vI 51]) (rest := []) (k := 0) rfl (by omega) (ax_caV (pc := 40) dX14_single_40 kX14_is rfl rfl WM_X14_138 WI_X14_is WS_X14_is WN_X14 (ax_rcO (t := 12) (axEx hG rfl) rfl (by decide)) (Nat.le_of_ble_eq_true rfl)) kX14_is rfl (Z_X14_is r104) (T_X14_is (by omega) hG r104) ?_
    refine x_ifeq (tgt := 73) (pc := 43) dX14_single_43 rfl (fun h106 => ?_) (fun h106 => ?_)
    · replace hf := (if_pos h106).symm.trans hf
      refine x_aload_n (pc := 73) dX14_single_73 rfl ?_
      refine x_bipush (pc := 74) dX14_single_74 (by decide) ⟨by decide, by decide⟩ ?_
      obtain ⟨v109, M108, r107, hf⟩ := bd2_some hf
      refine x_cr (v := vI v109) (vs := [vR 203, vI 17]) (rest := []) (k := 0) rfl (by omega) (ax_caV (pc := 76) dX14_single_76 kX14_takes rfl rfl WM_X14_159 WI_X14_takes WS_X14_takes WN_X14 (ax_rcO (t := 12) (axEx hG rfl) rfl (by decide)) (Nat.le_of_ble_eq_true rfl)) kX14_takes rfl (Z_X14_takes r107) (T_X14_takes (by omega) hG r107) ?_
      refine x_ifeq (tgt := 96) (pc := 79) dX14_single_79 rfl (fun h110 => ?_) (fun h110 => ?_)
      · replace hf := (if_pos h110).symm.trans hf
        refine x_aload_n (pc := 96) dX14_single_96 rfl ?_
        obtain ⟨v113, M112, r111, hf⟩ := bd2_some hf
        refine x_cr (v := vI v113) (vs := [vR 203]) (rest := []) (k := 2) rfl (by omega) (ax_caV (pc := 97) dX14_single_97 kX14_comparison rfl rfl WM_X14_196 WI_X14_comparison WS_X14_comparison WN_X14 (ax_rcO (t := 12) (axEx hG rfl) rfl (by decide)) (Nat.le_of_ble_eq_true rfl)) kX14_comparison rfl True.intro (T_X14_comparison (by omega) hG r111) ?_
        cases hf
        exact x_retI (pc := 100) dX14_single_100
      · replace hf := (if_neg h110).symm.trans hf
        refine x_aload_n (pc := 82) dX14_single_82 rfl ?_
        refine x_bipush (pc := 83) dX14_single_83 (by decide) ⟨by decide, by decide⟩ ?_
        refine x_aload_n (pc := 85) dX14_single_85 rfl ?_
        obtain ⟨v116, M115, r114, hf⟩ := bd2_some hf
        refine x_cr (v := vI v116) (vs := [vR 203]) (rest := [vI 17, vR 203]) (k := 0) rfl (by omega) (ax_caV (pc := 86) dX14_single_86 kX14_player rfl rfl WM_X14_176 WI_X14_player WS_X14_player WN_X14 (ax_rcO (t := 12) (axEx hG rfl) rfl (by decide)) (Nat.le_of_ble_eq_true rfl)) kX14_player rfl True.intro (T_X14_player (by omega) hG r114) ?_
        refine x_iconst (pc := 89) dX14_single_89 ⟨by decide, by decide⟩ ?_
        obtain ⟨v119, M118, r117, hf⟩ := bd2_some hf
        refine x_cr (v := vI v119) (vs := [vR 203, vI 17, vI v116, vI 0]) (rest := []) (k := 1) rfl (by omega) (ax_caV (pc := 90) dX14_single_90 kX14_node rfl rfl WM_X14_172 WI_X14_node WS_X14_node WN_X14 (ax_rcO (t := 12) (axEx hG rfl) rfl (by decide)) (Nat.le_of_ble_eq_true rfl)) kX14_node rfl True.intro (T_X14_node (by omega) hG r117) ?_
        refine x_goto (tgt := 100) (pc := 93) dX14_single_93 rfl ?_
        cases hf
        exact x_retI (pc := 100) dX14_single_100
    · replace hf := (if_neg h106).symm.trans hf
      refine x_aload_n (pc := 46) dX14_single_46 rfl ?_
      obtain ⟨M121, r120, hf⟩ := bd1_some hf
      refine x_cv (vs := [vR 203]) (rest := []) (k := 0) rfl (by omega) (ax_caV (pc := 47) dX14_single_47 kX14_deeper rfl rfl WM_X14_166 WI_X14_deeper WS_X14_deeper WN_X14 (ax_rcO (t := 12) (axEx hG rfl) rfl (by decide)) (Nat.le_of_ble_eq_true rfl)) kX14_deeper rfl True.intro (T_X14_deeper (by omega) hG r120) ?_
      refine x_aload_n (pc := 50) dX14_single_50 rfl ?_
      obtain ⟨v124, M123, r122, hf⟩ := bd2_some hf
      refine x_cr (v := vI v124) (vs := [vR 203]) (rest := []) (k := 1) rfl (by omega) (ax_caV (pc := 51) dX14_single_51 kX14_test rfl rfl WM_X14_193 WI_X14_test WS_X14_test WN_X14 (ax_rcO (t := 12) (axEx hG rfl) rfl (by decide)) (Nat.le_of_ble_eq_true rfl)) kX14_test rfl True.intro (hS.2.1 (d - 1) _ _ (by omega) r122) ?_
      refine x_istore_n (ls' := [some (vR 203), some (vI v124)]) (pc := 54) dX14_single_54 (Nat.le_of_ble_eq_true rfl) rfl rfl ?_
      refine x_aload_n (pc := 55) dX14_single_55 rfl ?_
      refine x_bipush (pc := 56) dX14_single_56 (by decide) ⟨by decide, by decide⟩ ?_
      obtain ⟨M126, r125, hf⟩ := bd1_some hf
      refine x_cv (vs := [vR 203, vI 52]) (rest := []) (k := 0) rfl (by omega) (ax_caV (pc := 58) dX14_single_58 kX14_take rfl rfl WM_X14_162 WI_X14_take WS_X14_take WN_X14 (ax_rcO (t := 12) (axEx hG rfl) rfl (by decide)) (Nat.le_of_ble_eq_true rfl)) kX14_take rfl True.intro (T_X14_take (by omega) hG r125) ?_
      refine x_aload_n (pc := 61) dX14_single_61 rfl ?_
      refine x_dup (pc := 62) dX14_single_62 rfl ?_
      refine x_getI (t := 12) (j := 11) (pc := 63) dX14_single_63 (axEx hG rfl) rfl (by decide) (by decide) rfl WF_X14_144 ?_
      refine x_iconst (pc := 66) dX14_single_66 ⟨by decide, by decide⟩ ?_
      refine x_isubw (pc := 67) dX14_single_67 ?_
      refine x_putI (t := 12) (j := 11) (pc := 68) dX14_single_68 (axEx hG rfl) rfl (by decide) (by decide) rfl rfl WF_X14_144 ?_
      refine x_iload_n (pc := 71) dX14_single_71 rfl ?_
      cases hf
      exact x_retI (pc := 72) dX14_single_72
  · replace hf := (if_neg h103).symm.trans hf
    refine x_aload_n (pc := 9) dX14_single_9 rfl ?_
    obtain ⟨M128, r127, hf⟩ := bd1_some hf
    refine x_cv (vs := [vR 203]) (rest := []) (k := 0) rfl (by omega) (ax_caV (pc := 10) dX14_single_10 kX14_deeper rfl rfl WM_X14_166 WI_X14_deeper WS_X14_deeper WN_X14 (ax_rcO (t := 12) (axEx hG rfl) rfl (by decide)) (Nat.le_of_ble_eq_true rfl)) kX14_deeper rfl True.intro (T_X14_deeper (by omega) hG r127) ?_
    refine x_aload_n (pc := 13) dX14_single_13 rfl ?_
    obtain ⟨v131, M130, r129, hf⟩ := bd2_some hf
    refine x_cr (v := vI v131) (vs := [vR 203]) (rest := []) (k := 1) rfl (by omega) (ax_caV (pc := 14) dX14_single_14 kX14_single rfl rfl WM_X14_190 WI_X14_single WS_X14_single WN_X14 (ax_rcO (t := 12) (axEx hG rfl) rfl (by decide)) (Nat.le_of_ble_eq_true rfl)) kX14_single rfl True.intro (hS.2.2 (d - 1) _ _ (by omega) r129) ?_
    refine x_istore_n (ls' := [some (vR 203), some (vI v131)]) (pc := 17) dX14_single_17 (Nat.le_of_ble_eq_true rfl) rfl rfl ?_
    refine x_aload_n (pc := 18) dX14_single_18 rfl ?_
    refine x_dup (pc := 19) dX14_single_19 rfl ?_
    refine x_getI (t := 12) (j := 11) (pc := 20) dX14_single_20 (axEx hG rfl) rfl (by decide) (by decide) rfl WF_X14_144 ?_
    refine x_iconst (pc := 23) dX14_single_23 ⟨by decide, by decide⟩ ?_
    refine x_isubw (pc := 24) dX14_single_24 ?_
    refine x_putI (t := 12) (j := 11) (pc := 25) dX14_single_25 (axEx hG rfl) rfl (by decide) (by decide) rfl rfl WF_X14_144 ?_
    refine x_aload_n (pc := 28) dX14_single_28 rfl ?_
    refine x_bipush (pc := 29) dX14_single_29 (by decide) ⟨by decide, by decide⟩ ?_
    refine x_iload_n (pc := 31) dX14_single_31 rfl ?_
    refine x_iconst (pc := 32) dX14_single_32 ⟨by decide, by decide⟩ ?_
    obtain ⟨v134, M133, r132, hf⟩ := bd2_some hf
    refine x_cr (v := vI v134) (vs := [vR 203, vI 18, vI v131, vI 0]) (rest := []) (k := 1) rfl (by omega) (ax_caV (pc := 33) dX14_single_33 kX14_node rfl rfl WM_X14_172 WI_X14_node WS_X14_node WN_X14 (ax_rcO (t := 12) (axEx hG rfl) rfl (by decide)) (Nat.le_of_ble_eq_true rfl)) kX14_node rfl True.intro (T_X14_node (by omega) hG r132) ?_
    cases hf
    exact x_retI (pc := 36) dX14_single_36
def fG15 : Nat → Nat → Int → ax_M → Option (Int × ax_M)
  | 0, _, _, _ => none
  | n + 1, tag, e, M => if tag = 0 then fX14_both (fG15 n) M else if tag = 1 then fX14_test (fG15 n) M else fX14_single (fG15 n) M
theorem TG15 {G : ax_G} (hG : axPs G 150 244) : ∀ n : Nat, SG15 G (fG15 n) (n + 80)
  | 0 => ⟨(fun _ _ _ _ _ h => nomatch h), (fun _ _ _ _ _ h => nomatch h), (fun _ _ _ _ _ h => nomatch h)⟩
  | n + 1 => ⟨fun d _ M M1 hd h => T_X14_both (by omega) (TG15 hG n) (by omega) hG h, fun d _ M M1 hd h => T_X14_test (by omega) (TG15 hG n) (by omega) hG h, fun d _ M M1 hd h => T_X14_single (by omega) (TG15 hG n) (by omega) hG h⟩
/- HexPondModel.size()I -/
def fX14_size (M : ax_M) : Option (Int × ax_M) :=
  (bd1 (fX14_is M 31) fun v102 => (if v102 = 0 then (bd1 (fX14_take M 31) fun M105 => (if (mI M105 203 8) = 0 then (if 0 ≤ (wr ((mI M105 203 7) - 1)) ∧ (wr ((mI M105 203 7) - 1)) < 402 then (some ((mI M105 206 (Int.toNat (wr ((mI M105 203 7) - 1)))), M105)) else none) else (if 0 ≤ (wr ((mI M105 203 7) - 0)) ∧ (wr ((mI M105 203 7) - 0)) < 402 then (some ((mI M105 206 (Int.toNat (wr ((mI M105 203 7) - 0)))), M105)) else none))) else (if 0 ≤ (mI M 203 7) ∧ (mI M 203 7) < 402 then (if (fX14_isIn M (mI M 206 (Int.toNat (mI M 203 7))) 3 9) = 0 then (bd1 (fX14_mark M 5) fun M112 => (bd1 (fX14_take M112 31) fun M114 => (if (mI M114 203 8) = 0 then (if 0 ≤ (wr ((mI M114 203 7) - 1)) ∧ (wr ((mI M114 203 7) - 1)) < 402 then (some ((mI M114 206 (Int.toNat (wr ((mI M114 203 7) - 1)))), M114)) else none) else (if 0 ≤ (wr ((mI M114 203 7) - 0)) ∧ (wr ((mI M114 203 7) - 0)) < 402 then (some ((mI M114 206 (Int.toNat (wr ((mI M114 203 7) - 0)))), M114)) else none)))) else (bd1 (fX14_take M 31) fun M119 => (if (mI M119 203 8) = 0 then (if 0 ≤ (wr ((mI M119 203 7) - 1)) ∧ (wr ((mI M119 203 7) - 1)) < 402 then (some ((mI M119 206 (Int.toNat (wr ((mI M119 203 7) - 1)))), M119)) else none) else (if 0 ≤ (wr ((mI M119 203 7) - 0)) ∧ (wr ((mI M119 203 7) - 0)) < 402 then (some ((mI M119 206 (Int.toNat (wr ((mI M119 203 7) - 0)))), M119)) else none)))) else none)))
theorem T_X14_size {G : ax_G} {d : Nat} (hd : 2 ≤ d) (hG : axPs G 150 244) {M : ax_M} {r : Int} {M1 : ax_M} (hf : fX14_size M = some (r, M1)) : ax_Ex G tX14_size d 0 (ax_args [vR 203] ++ List.replicate 0 none) [] M (.inl (some (vI r))) M1 := by
  show ax_Ex G tX14_size d 0 [some (vR 203)] [] M _ _
  unfold fX14_size at hf
  refine x_aload_n (pc := 0) dX14_size_0 rfl ?_
  refine x_bipush (pc := 1) dX14_size_1 (by decide) ⟨by decide, by decide⟩ ?_
  obtain ⟨v102, r101, hf⟩ := bd1_some hf
  refine x_cr (v := vI v102) (vs := [vR 203, vI 31]) (rest := []) (k := 0) rfl (by omega) (ax_caV (pc := 3) dX14_size_3 kX14_is rfl rfl WM_X14_138 WI_X14_is WS_X14_is WN_X14 (ax_rcO (t := 12) (axEx hG rfl) rfl (by decide)) (Nat.le_of_ble_eq_true rfl)) kX14_is rfl (Z_X14_is r101) (T_X14_is (by omega) hG r101) ?_
  refine x_ifeq (tgt := 32) (pc := 6) dX14_size_6 rfl (fun h103 => ?_) (fun h103 => ?_)
  · replace hf := (if_pos h103).symm.trans hf
    refine x_aload_n (pc := 32) dX14_size_32 rfl ?_
    refine x_bipush (pc := 33) dX14_size_33 (by decide) ⟨by decide, by decide⟩ ?_
    obtain ⟨M105, r104, hf⟩ := bd1_some hf
    refine x_cv (vs := [vR 203, vI 31]) (rest := []) (k := 0) rfl (by omega) (ax_caV (pc := 35) dX14_size_35 kX14_take rfl rfl WM_X14_162 WI_X14_take WS_X14_take WN_X14 (ax_rcO (t := 12) (axEx hG rfl) rfl (by decide)) (Nat.le_of_ble_eq_true rfl)) kX14_take rfl True.intro (T_X14_take (by omega) hG r104) ?_
    refine x_aload_n (pc := 38) dX14_size_38 rfl ?_
    refine x_getF (t := 12) (j := 5) (r := 206) (pc := 39) dX14_size_39 (axH hG rfl) (axEx hG rfl) rfl (by decide) (by decide) rfl rfl WF_X14_20 ?_
    refine x_aload_n (pc := 42) dX14_size_42 rfl ?_
    refine x_getI (t := 12) (j := 7) (pc := 43) dX14_size_43 (axEx hG rfl) rfl (by decide) (by decide) rfl WF_X14_129 ?_
    refine x_aload_n (pc := 46) dX14_size_46 rfl ?_
    refine x_getI (t := 12) (j := 8) (pc := 47) dX14_size_47 (axEx hG rfl) rfl (by decide) (by decide) rfl WF_X14_125 ?_
    refine x_ifeq (tgt := 57) (pc := 50) dX14_size_50 rfl (fun h106 => ?_) (fun h106 => ?_)
    · replace hf := (if_pos h106).symm.trans hf
      refine x_iconst (pc := 57) dX14_size_57 ⟨by decide, by decide⟩ ?_
      refine x_isubw (pc := 58) dX14_size_58 ?_
      by_cases h107 : 0 ≤ (wr ((mI M105 203 7) - 1)) ∧ (wr ((mI M105 203 7) - 1)) < 402
      · replace hf := (if_pos h107).symm.trans hf
        refine x_iald2 (n := 402) (pc := 59) dX14_size_59 (axEx hG rfl) rfl h107.1 h107.2 ?_
        cases hf
        exact x_retI (pc := 60) dX14_size_60
      · replace hf := (if_neg h107).symm.trans hf
        cases hf
    · replace hf := (if_neg h106).symm.trans hf
      refine x_iconst (pc := 53) dX14_size_53 ⟨by decide, by decide⟩ ?_
      refine x_goto (tgt := 58) (pc := 54) dX14_size_54 rfl ?_
      refine x_isubw (pc := 58) dX14_size_58 ?_
      by_cases h108 : 0 ≤ (wr ((mI M105 203 7) - 0)) ∧ (wr ((mI M105 203 7) - 0)) < 402
      · replace hf := (if_pos h108).symm.trans hf
        refine x_iald2 (n := 402) (pc := 59) dX14_size_59 (axEx hG rfl) rfl h108.1 h108.2 ?_
        cases hf
        exact x_retI (pc := 60) dX14_size_60
      · replace hf := (if_neg h108).symm.trans hf
        cases hf
  · replace hf := (if_neg h103).symm.trans hf
    refine x_aload_n (pc := 9) dX14_size_9 rfl ?_
    refine x_getF (t := 12) (j := 5) (r := 206) (pc := 10) dX14_size_10 (axH hG rfl) (axEx hG rfl) rfl (by decide) (by decide) rfl rfl WF_X14_20 ?_
    refine x_aload_n (pc := 13) dX14_size_13 rfl ?_
    refine x_getI (t := 12) (j := 7) (pc := 14) dX14_size_14 (axEx hG rfl) rfl (by decide) (by decide) rfl WF_X14_129 ?_
    by_cases h109 : 0 ≤ (mI M 203 7) ∧ (mI M 203 7) < 402
    · replace hf := (if_pos h109).symm.trans hf
      refine x_iald2 (n := 402) (pc := 17) dX14_size_17 (axEx hG rfl) rfl h109.1 h109.2 ?_
      refine x_iconst (pc := 18) dX14_size_18 ⟨by decide, by decide⟩ ?_
      refine x_bipush (pc := 19) dX14_size_19 (by decide) ⟨by decide, by decide⟩ ?_
      refine x_cr (v := vI (fX14_isIn M (mI M 206 (Int.toNat (mI M 203 7))) 3 9)) (vs := [vI (mI M 206 (Int.toNat (mI M 203 7))), vI 3, vI 9]) (rest := []) (k := 0) rfl (by omega) (ax_caS (pc := 21) dX14_size_21 kX14_isIn rfl rfl WM_X14_76 WT_X14_isIn WN_X14 (Nat.le_of_ble_eq_true rfl)) kX14_isIn rfl (Z_X14_isIn rfl) (T_X14_isIn (by omega) hG rfl) ?_
      refine x_ifne (tgt := 32) (pc := 24) dX14_size_24 rfl (fun h110 => ?_) (fun h110 => ?_)
      · replace hf := (if_neg h110).symm.trans hf
        refine x_aload_n (pc := 32) dX14_size_32 rfl ?_
        refine x_bipush (pc := 33) dX14_size_33 (by decide) ⟨by decide, by decide⟩ ?_
        obtain ⟨M119, r118, hf⟩ := bd1_some hf
        refine x_cv (vs := [vR 203, vI 31]) (rest := []) (k := 0) rfl (by omega) (ax_caV (pc := 35) dX14_size_35 kX14_take rfl rfl WM_X14_162 WI_X14_take WS_X14_take WN_X14 (ax_rcO (t := 12) (axEx hG rfl) rfl (by decide)) (Nat.le_of_ble_eq_true rfl)) kX14_take rfl True.intro (T_X14_take (by omega) hG r118) ?_
        refine x_aload_n (pc := 38) dX14_size_38 rfl ?_
        refine x_getF (t := 12) (j := 5) (r := 206) (pc := 39) dX14_size_39 (axH hG rfl) (axEx hG rfl) rfl (by decide) (by decide) rfl rfl WF_X14_20 ?_
        refine x_aload_n (pc := 42) dX14_size_42 rfl ?_
        refine x_getI (t := 12) (j := 7) (pc := 43) dX14_size_43 (axEx hG rfl) rfl (by decide) (by decide) rfl WF_X14_129 ?_
        refine x_aload_n (pc := 46) dX14_size_46 rfl ?_
        refine x_getI (t := 12) (j := 8) (pc := 47) dX14_size_47 (axEx hG rfl) rfl (by decide) (by decide) rfl WF_X14_125 ?_
        refine x_ifeq (tgt := 57) (pc := 50) dX14_size_50 rfl (fun h120 => ?_) (fun h120 => ?_)
        · replace hf := (if_pos h120).symm.trans hf
          refine x_iconst (pc := 57) dX14_size_57 ⟨by decide, by decide⟩ ?_
          refine x_isubw (pc := 58) dX14_size_58 ?_
          by_cases h121 : 0 ≤ (wr ((mI M119 203 7) - 1)) ∧ (wr ((mI M119 203 7) - 1)) < 402
          · replace hf := (if_pos h121).symm.trans hf
            refine x_iald2 (n := 402) (pc := 59) dX14_size_59 (axEx hG rfl) rfl h121.1 h121.2 ?_
            cases hf
            exact x_retI (pc := 60) dX14_size_60
          · replace hf := (if_neg h121).symm.trans hf
            cases hf
        · replace hf := (if_neg h120).symm.trans hf
          refine x_iconst (pc := 53) dX14_size_53 ⟨by decide, by decide⟩ ?_
          refine x_goto (tgt := 58) (pc := 54) dX14_size_54 rfl ?_
          refine x_isubw (pc := 58) dX14_size_58 ?_
          by_cases h122 : 0 ≤ (wr ((mI M119 203 7) - 0)) ∧ (wr ((mI M119 203 7) - 0)) < 402
          · replace hf := (if_pos h122).symm.trans hf
            refine x_iald2 (n := 402) (pc := 59) dX14_size_59 (axEx hG rfl) rfl h122.1 h122.2 ?_
            cases hf
            exact x_retI (pc := 60) dX14_size_60
          · replace hf := (if_neg h122).symm.trans hf
            cases hf
      · replace hf := (if_pos h110).symm.trans hf
        refine x_aload_n (pc := 27) dX14_size_27 rfl ?_
        refine x_iconst (pc := 28) dX14_size_28 ⟨by decide, by decide⟩ ?_
        obtain ⟨M112, r111, hf⟩ := bd1_some hf
        refine x_cv (vs := [vR 203, vI 5]) (rest := []) (k := 0) rfl (by omega) (ax_caV (pc := 29) dX14_size_29 kX14_mark rfl rfl WM_X14_202 WI_X14_mark WS_X14_mark WN_X14 (ax_rcO (t := 12) (axEx hG rfl) rfl (by decide)) (Nat.le_of_ble_eq_true rfl)) kX14_mark rfl True.intro (T_X14_mark (by omega) hG r111) ?_
        refine x_aload_n (pc := 32) dX14_size_32 rfl ?_
        refine x_bipush (pc := 33) dX14_size_33 (by decide) ⟨by decide, by decide⟩ ?_
        obtain ⟨M114, r113, hf⟩ := bd1_some hf
        refine x_cv (vs := [vR 203, vI 31]) (rest := []) (k := 0) rfl (by omega) (ax_caV (pc := 35) dX14_size_35 kX14_take rfl rfl WM_X14_162 WI_X14_take WS_X14_take WN_X14 (ax_rcO (t := 12) (axEx hG rfl) rfl (by decide)) (Nat.le_of_ble_eq_true rfl)) kX14_take rfl True.intro (T_X14_take (by omega) hG r113) ?_
        refine x_aload_n (pc := 38) dX14_size_38 rfl ?_
        refine x_getF (t := 12) (j := 5) (r := 206) (pc := 39) dX14_size_39 (axH hG rfl) (axEx hG rfl) rfl (by decide) (by decide) rfl rfl WF_X14_20 ?_
        refine x_aload_n (pc := 42) dX14_size_42 rfl ?_
        refine x_getI (t := 12) (j := 7) (pc := 43) dX14_size_43 (axEx hG rfl) rfl (by decide) (by decide) rfl WF_X14_129 ?_
        refine x_aload_n (pc := 46) dX14_size_46 rfl ?_
        refine x_getI (t := 12) (j := 8) (pc := 47) dX14_size_47 (axEx hG rfl) rfl (by decide) (by decide) rfl WF_X14_125 ?_
        refine x_ifeq (tgt := 57) (pc := 50) dX14_size_50 rfl (fun h115 => ?_) (fun h115 => ?_)
        · replace hf := (if_pos h115).symm.trans hf
          refine x_iconst (pc := 57) dX14_size_57 ⟨by decide, by decide⟩ ?_
          refine x_isubw (pc := 58) dX14_size_58 ?_
          by_cases h116 : 0 ≤ (wr ((mI M114 203 7) - 1)) ∧ (wr ((mI M114 203 7) - 1)) < 402
          · replace hf := (if_pos h116).symm.trans hf
            refine x_iald2 (n := 402) (pc := 59) dX14_size_59 (axEx hG rfl) rfl h116.1 h116.2 ?_
            cases hf
            exact x_retI (pc := 60) dX14_size_60
          · replace hf := (if_neg h116).symm.trans hf
            cases hf
        · replace hf := (if_neg h115).symm.trans hf
          refine x_iconst (pc := 53) dX14_size_53 ⟨by decide, by decide⟩ ?_
          refine x_goto (tgt := 58) (pc := 54) dX14_size_54 rfl ?_
          refine x_isubw (pc := 58) dX14_size_58 ?_
          by_cases h117 : 0 ≤ (wr ((mI M114 203 7) - 0)) ∧ (wr ((mI M114 203 7) - 0)) < 402
          · replace hf := (if_pos h117).symm.trans hf
            refine x_iald2 (n := 402) (pc := 59) dX14_size_59 (axEx hG rfl) rfl h117.1 h117.2 ?_
            cases hf
            exact x_retI (pc := 60) dX14_size_60
          · replace hf := (if_neg h117).symm.trans hf
            cases hf
    · replace hf := (if_neg h109).symm.trans hf
      cases hf
/- HexPondModel.pond()V -/
def fX14_pond (M : ax_M) : Option ax_M :=
  (bd2 (fX14_size M) fun v103 M102 => (bd1 (fX14_take (mUI M102 220 0 v103) 1) fun M105 => (bd2 (fX14_size M105) fun v108 M107 => (bd1 (fX14_take (mUI M107 220 1 v108) 53) fun M110 => (some M110)))))
theorem T_X14_pond {G : ax_G} {d : Nat} (hd : 3 ≤ d) (hG : axPs G 150 244) {M : ax_M} {M1 : ax_M} (hf : fX14_pond M = some M1) : ax_Ex G tX14_pond d 0 (ax_args [vR 203] ++ List.replicate 0 none) [] M (.inl none) M1 := by
  show ax_Ex G tX14_pond d 0 [some (vR 203)] [] M _ _
  unfold fX14_pond at hf
  refine x_aload_n (pc := 0) dX14_pond_0 rfl ?_
  refine x_getF (t := 12) (j := 13) (r := 220) (pc := 1) dX14_pond_1 (axH hG rfl) (axEx hG rfl) rfl (by decide) (by decide) rfl rfl WF_X14_33 ?_
  refine x_aload_n (pc := 4) dX14_pond_4 rfl ?_
  obtain ⟨v103, M102, r101, hf⟩ := bd2_some hf
  refine x_cr (v := vI v103) (vs := [vR 203]) (rest := [vR 220]) (k := 0) rfl (by omega) (ax_caV (pc := 5) dX14_pond_5 kX14_size rfl rfl WM_X14_205 WI_X14_size WS_X14_size WN_X14 (ax_rcO (t := 12) (axEx hG rfl) rfl (by decide)) (Nat.le_of_ble_eq_true rfl)) kX14_size rfl True.intro (T_X14_size (by omega) hG r101) ?_
  refine x_putIN (t := 11) (j := 0) (pc := 8) dX14_pond_8 (axEx hG rfl) rfl (by decide) (by decide) rfl rfl NF_X14_208 ?_
  refine x_aload_n (pc := 11) dX14_pond_11 rfl ?_
  refine x_iconst (pc := 12) dX14_pond_12 ⟨by decide, by decide⟩ ?_
  obtain ⟨M105, r104, hf⟩ := bd1_some hf
  refine x_cv (vs := [vR 203, vI 1]) (rest := []) (k := 0) rfl (by omega) (ax_caV (pc := 13) dX14_pond_13 kX14_take rfl rfl WM_X14_162 WI_X14_take WS_X14_take WN_X14 (ax_rcO (t := 12) (axEx hG rfl) rfl (by decide)) (Nat.le_of_ble_eq_true rfl)) kX14_take rfl True.intro (T_X14_take (by omega) hG r104) ?_
  refine x_aload_n (pc := 16) dX14_pond_16 rfl ?_
  refine x_getF (t := 12) (j := 13) (r := 220) (pc := 17) dX14_pond_17 (axH hG rfl) (axEx hG rfl) rfl (by decide) (by decide) rfl rfl WF_X14_33 ?_
  refine x_aload_n (pc := 20) dX14_pond_20 rfl ?_
  obtain ⟨v108, M107, r106, hf⟩ := bd2_some hf
  refine x_cr (v := vI v108) (vs := [vR 203]) (rest := [vR 220]) (k := 0) rfl (by omega) (ax_caV (pc := 21) dX14_pond_21 kX14_size rfl rfl WM_X14_205 WI_X14_size WS_X14_size WN_X14 (ax_rcO (t := 12) (axEx hG rfl) rfl (by decide)) (Nat.le_of_ble_eq_true rfl)) kX14_size rfl True.intro (T_X14_size (by omega) hG r106) ?_
  refine x_putIN (t := 11) (j := 1) (pc := 24) dX14_pond_24 (axEx hG rfl) rfl (by decide) (by decide) rfl rfl NF_X14_211 ?_
  refine x_aload_n (pc := 27) dX14_pond_27 rfl ?_
  refine x_bipush (pc := 28) dX14_pond_28 (by decide) ⟨by decide, by decide⟩ ?_
  obtain ⟨M110, r109, hf⟩ := bd1_some hf
  refine x_cv (vs := [vR 203, vI 53]) (rest := []) (k := 0) rfl (by omega) (ax_caV (pc := 30) dX14_pond_30 kX14_take rfl rfl WM_X14_162 WI_X14_take WS_X14_take WN_X14 (ax_rcO (t := 12) (axEx hG rfl) rfl (by decide)) (Nat.le_of_ble_eq_true rfl)) kX14_take rfl True.intro (T_X14_take (by omega) hG r109) ?_
  cases hf
  exact x_retV (pc := 33) dX14_pond_33
/- HexPondModel.stone()V -/
def fX14_stone (M : ax_M) : Option ax_M :=
  (bd2 (fX14_player M) fun v103 M102 => (if 0 ≤ (mI M102 203 7) ∧ (mI M102 203 7) < 402 then (bd1 (fX14_is M102 31) fun v106 => (if v106 = 0 then (bd1 (fX14_take M102 31) fun M109 => (bd1 (fX14_take M109 54) fun M111 => (if 0 ≤ (mI M111 203 7) ∧ (mI M111 203 7) < 402 then (bd1 (fX14_is M111 31) fun v114 => (if v114 = 0 then (bd1 (fX14_take M111 31) fun M117 => (some M117)) else (if (mI M111 203 9) = 0 then (if (mI M111 206 (Int.toNat (mI M111 203 7))) < (mI M111 220 1) then (if 0 ≤ (wr ((wr ((mI M111 220 0) * (mI M111 206 (Int.toNat (mI M111 203 7))))) + (mI M102 206 (Int.toNat (mI M102 203 7))))) ∧ (wr ((wr ((mI M111 220 0) * (mI M111 206 (Int.toNat (mI M111 203 7))))) + (mI M102 206 (Int.toNat (mI M102 203 7))))) < 81 then (if (mI M111 221 (Int.toNat (wr ((wr ((mI M111 220 0) * (mI M111 206 (Int.toNat (mI M111 203 7))))) + (mI M102 206 (Int.toNat (mI M102 203 7))))))) = (-1) then (bd1 (fX14_take (mUI M111 221 (Int.toNat (wr ((wr ((mI M111 220 0) * (mI M111 206 (Int.toNat (mI M111 203 7))))) + (mI M102 206 (Int.toNat (mI M102 203 7)))))) v103) 31) fun M124 => (some M124)) else (bd1 (fX14_mark M111 2) fun M126 => (bd1 (fX14_take M126 31) fun M128 => (some M128)))) else none) else (bd1 (fX14_mark M111 5) fun M130 => (bd1 (fX14_take M130 31) fun M132 => (some M132)))) else (bd1 (fX14_take M111 31) fun M134 => (some M134))))) else none))) else (if (mI M102 206 (Int.toNat (mI M102 203 7))) < (mI M102 220 0) then (bd1 (fX14_take M102 31) fun M138 => (bd1 (fX14_take M138 54) fun M140 => (if 0 ≤ (mI M140 203 7) ∧ (mI M140 203 7) < 402 then (bd1 (fX14_is M140 31) fun v143 => (if v143 = 0 then (bd1 (fX14_take M140 31) fun M146 => (some M146)) else (if (mI M140 203 9) = 0 then (if (mI M140 206 (Int.toNat (mI M140 203 7))) < (mI M140 220 1) then (if 0 ≤ (wr ((wr ((mI M140 220 0) * (mI M140 206 (Int.toNat (mI M140 203 7))))) + (mI M102 206 (Int.toNat (mI M102 203 7))))) ∧ (wr ((wr ((mI M140 220 0) * (mI M140 206 (Int.toNat (mI M140 203 7))))) + (mI M102 206 (Int.toNat (mI M102 203 7))))) < 81 then (if (mI M140 221 (Int.toNat (wr ((wr ((mI M140 220 0) * (mI M140 206 (Int.toNat (mI M140 203 7))))) + (mI M102 206 (Int.toNat (mI M102 203 7))))))) = (-1) then (bd1 (fX14_take (mUI M140 221 (Int.toNat (wr ((wr ((mI M140 220 0) * (mI M140 206 (Int.toNat (mI M140 203 7))))) + (mI M102 206 (Int.toNat (mI M102 203 7)))))) v103) 31) fun M153 => (some M153)) else (bd1 (fX14_mark M140 2) fun M155 => (bd1 (fX14_take M155 31) fun M157 => (some M157)))) else none) else (bd1 (fX14_mark M140 5) fun M159 => (bd1 (fX14_take M159 31) fun M161 => (some M161)))) else (bd1 (fX14_take M140 31) fun M163 => (some M163))))) else none))) else (bd1 (fX14_mark M102 5) fun M165 => (bd1 (fX14_take M165 31) fun M167 => (bd1 (fX14_take M167 54) fun M169 => (if 0 ≤ (mI M169 203 7) ∧ (mI M169 203 7) < 402 then (bd1 (fX14_is M169 31) fun v172 => (if v172 = 0 then (bd1 (fX14_take M169 31) fun M175 => (some M175)) else (if (mI M169 203 9) = 0 then (if (mI M169 206 (Int.toNat (mI M169 203 7))) < (mI M169 220 1) then (if 0 ≤ (wr ((wr ((mI M169 220 0) * (mI M169 206 (Int.toNat (mI M169 203 7))))) + (mI M102 206 (Int.toNat (mI M102 203 7))))) ∧ (wr ((wr ((mI M169 220 0) * (mI M169 206 (Int.toNat (mI M169 203 7))))) + (mI M102 206 (Int.toNat (mI M102 203 7))))) < 81 then (if (mI M169 221 (Int.toNat (wr ((wr ((mI M169 220 0) * (mI M169 206 (Int.toNat (mI M169 203 7))))) + (mI M102 206 (Int.toNat (mI M102 203 7))))))) = (-1) then (bd1 (fX14_take (mUI M169 221 (Int.toNat (wr ((wr ((mI M169 220 0) * (mI M169 206 (Int.toNat (mI M169 203 7))))) + (mI M102 206 (Int.toNat (mI M102 203 7)))))) v103) 31) fun M182 => (some M182)) else (bd1 (fX14_mark M169 2) fun M184 => (bd1 (fX14_take M184 31) fun M186 => (some M186)))) else none) else (bd1 (fX14_mark M169 5) fun M188 => (bd1 (fX14_take M188 31) fun M190 => (some M190)))) else (bd1 (fX14_take M169 31) fun M192 => (some M192))))) else none))))))) else none))
theorem T_X14_stone {G : ax_G} {d : Nat} (hd : 3 ≤ d) (hG : axPs G 150 244) {M : ax_M} {M1 : ax_M} (hf : fX14_stone M = some M1) : ax_Ex G tX14_stone d 0 (ax_args [vR 203] ++ List.replicate 3 none) [] M (.inl none) M1 := by
  show ax_Ex G tX14_stone d 0 [some (vR 203), none, none, none] [] M _ _
  unfold fX14_stone at hf
  refine x_aload_n (pc := 0) dX14_stone_0 rfl ?_
  obtain ⟨v103, M102, r101, hf⟩ := bd2_some hf
  refine x_cr (v := vI v103) (vs := [vR 203]) (rest := []) (k := 0) rfl (by omega) (ax_caV (pc := 1) dX14_stone_1 kX14_player rfl rfl WM_X14_176 WI_X14_player WS_X14_player WN_X14 (ax_rcO (t := 12) (axEx hG rfl) rfl (by decide)) (Nat.le_of_ble_eq_true rfl)) kX14_player rfl True.intro (T_X14_player (by omega) hG r101) ?_
  refine x_istore_n (ls' := [some (vR 203), some (vI v103), none, none]) (pc := 4) dX14_stone_4 (Nat.le_of_ble_eq_true rfl) rfl rfl ?_
  refine x_aload_n (pc := 5) dX14_stone_5 rfl ?_
  refine x_getF (t := 12) (j := 5) (r := 206) (pc := 6) dX14_stone_6 (axH hG rfl) (axEx hG rfl) rfl (by decide) (by decide) rfl rfl WF_X14_20 ?_
  refine x_aload_n (pc := 9) dX14_stone_9 rfl ?_
  refine x_getI (t := 12) (j := 7) (pc := 10) dX14_stone_10 (axEx hG rfl) rfl (by decide) (by decide) rfl WF_X14_129 ?_
  by_cases h104 : 0 ≤ (mI M102 203 7) ∧ (mI M102 203 7) < 402
  · replace hf := (if_pos h104).symm.trans hf
    refine x_iald2 (n := 402) (pc := 13) dX14_stone_13 (axEx hG rfl) rfl h104.1 h104.2 ?_
    refine x_istore_n (ls' := [some (vR 203), some (vI v103), some (vI (mI M102 206 (Int.toNat (mI M102 203 7)))), none]) (pc := 14) dX14_stone_14 (Nat.le_of_ble_eq_true rfl) rfl rfl ?_
    refine x_aload_n (pc := 15) dX14_stone_15 rfl ?_
    refine x_bipush (pc := 16) dX14_stone_16 (by decide) ⟨by decide, by decide⟩ ?_
    obtain ⟨v106, r105, hf⟩ := bd1_some hf
    refine x_cr (v := vI v106) (vs := [vR 203, vI 31]) (rest := []) (k := 0) rfl (by omega) (ax_caV (pc := 18) dX14_stone_18 kX14_is rfl rfl WM_X14_138 WI_X14_is WS_X14_is WN_X14 (ax_rcO (t := 12) (axEx hG rfl) rfl (by decide)) (Nat.le_of_ble_eq_true rfl)) kX14_is rfl (Z_X14_is r105) (T_X14_is (by omega) hG r105) ?_
    refine x_ifeq (tgt := 40) (pc := 21) dX14_stone_21 rfl (fun h107 => ?_) (fun h107 => ?_)
    · replace hf := (if_pos h107).symm.trans hf
      refine x_aload_n (pc := 40) dX14_stone_40 rfl ?_
      refine x_bipush (pc := 41) dX14_stone_41 (by decide) ⟨by decide, by decide⟩ ?_
      obtain ⟨M109, r108, hf⟩ := bd1_some hf
      refine x_cv (vs := [vR 203, vI 31]) (rest := []) (k := 0) rfl (by omega) (ax_caV (pc := 43) dX14_stone_43 kX14_take rfl rfl WM_X14_162 WI_X14_take WS_X14_take WN_X14 (ax_rcO (t := 12) (axEx hG rfl) rfl (by decide)) (Nat.le_of_ble_eq_true rfl)) kX14_take rfl True.intro (T_X14_take (by omega) hG r108) ?_
      refine x_aload_n (pc := 46) dX14_stone_46 rfl ?_
      refine x_bipush (pc := 47) dX14_stone_47 (by decide) ⟨by decide, by decide⟩ ?_
      obtain ⟨M111, r110, hf⟩ := bd1_some hf
      refine x_cv (vs := [vR 203, vI 54]) (rest := []) (k := 0) rfl (by omega) (ax_caV (pc := 49) dX14_stone_49 kX14_take rfl rfl WM_X14_162 WI_X14_take WS_X14_take WN_X14 (ax_rcO (t := 12) (axEx hG rfl) rfl (by decide)) (Nat.le_of_ble_eq_true rfl)) kX14_take rfl True.intro (T_X14_take (by omega) hG r110) ?_
      refine x_aload_n (pc := 52) dX14_stone_52 rfl ?_
      refine x_getF (t := 12) (j := 5) (r := 206) (pc := 53) dX14_stone_53 (axH hG rfl) (axEx hG rfl) rfl (by decide) (by decide) rfl rfl WF_X14_20 ?_
      refine x_aload_n (pc := 56) dX14_stone_56 rfl ?_
      refine x_getI (t := 12) (j := 7) (pc := 57) dX14_stone_57 (axEx hG rfl) rfl (by decide) (by decide) rfl WF_X14_129 ?_
      by_cases h112 : 0 ≤ (mI M111 203 7) ∧ (mI M111 203 7) < 402
      · replace hf := (if_pos h112).symm.trans hf
        refine x_iald2 (n := 402) (pc := 60) dX14_stone_60 (axEx hG rfl) rfl h112.1 h112.2 ?_
        refine x_istore_n (ls' := [some (vR 203), some (vI v103), some (vI (mI M102 206 (Int.toNat (mI M102 203 7)))), some (vI (mI M111 206 (Int.toNat (mI M111 203 7))))]) (pc := 61) dX14_stone_61 (Nat.le_of_ble_eq_true rfl) rfl rfl ?_
        refine x_aload_n (pc := 62) dX14_stone_62 rfl ?_
        refine x_bipush (pc := 63) dX14_stone_63 (by decide) ⟨by decide, by decide⟩ ?_
        obtain ⟨v114, r113, hf⟩ := bd1_some hf
        refine x_cr (v := vI v114) (vs := [vR 203, vI 31]) (rest := []) (k := 0) rfl (by omega) (ax_caV (pc := 65) dX14_stone_65 kX14_is rfl rfl WM_X14_138 WI_X14_is WS_X14_is WN_X14 (ax_rcO (t := 12) (axEx hG rfl) rfl (by decide)) (Nat.le_of_ble_eq_true rfl)) kX14_is rfl (Z_X14_is r113) (T_X14_is (by omega) hG r113) ?_
        refine x_ifeq (tgt := 148) (pc := 68) dX14_stone_68 rfl (fun h115 => ?_) (fun h115 => ?_)
        · replace hf := (if_pos h115).symm.trans hf
          refine x_aload_n (pc := 148) dX14_stone_148 rfl ?_
          refine x_bipush (pc := 149) dX14_stone_149 (by decide) ⟨by decide, by decide⟩ ?_
          obtain ⟨M117, r116, hf⟩ := bd1_some hf
          refine x_cv (vs := [vR 203, vI 31]) (rest := []) (k := 0) rfl (by omega) (ax_caV (pc := 151) dX14_stone_151 kX14_take rfl rfl WM_X14_162 WI_X14_take WS_X14_take WN_X14 (ax_rcO (t := 12) (axEx hG rfl) rfl (by decide)) (Nat.le_of_ble_eq_true rfl)) kX14_take rfl True.intro (T_X14_take (by omega) hG r116) ?_
          cases hf
          exact x_retV (pc := 154) dX14_stone_154
        · replace hf := (if_neg h115).symm.trans hf
          refine x_aload_n (pc := 71) dX14_stone_71 rfl ?_
          refine x_getI (t := 12) (j := 9) (pc := 72) dX14_stone_72 (axEx hG rfl) rfl (by decide) (by decide) rfl WF_X14_132 ?_
          refine x_ifne (tgt := 148) (pc := 75) dX14_stone_75 rfl (fun h118 => ?_) (fun h118 => ?_)
          · replace hf := (if_neg h118).symm.trans hf
            refine x_aload_n (pc := 148) dX14_stone_148 rfl ?_
            refine x_bipush (pc := 149) dX14_stone_149 (by decide) ⟨by decide, by decide⟩ ?_
            obtain ⟨M134, r133, hf⟩ := bd1_some hf
            refine x_cv (vs := [vR 203, vI 31]) (rest := []) (k := 0) rfl (by omega) (ax_caV (pc := 151) dX14_stone_151 kX14_take rfl rfl WM_X14_162 WI_X14_take WS_X14_take WN_X14 (ax_rcO (t := 12) (axEx hG rfl) rfl (by decide)) (Nat.le_of_ble_eq_true rfl)) kX14_take rfl True.intro (T_X14_take (by omega) hG r133) ?_
            cases hf
            exact x_retV (pc := 154) dX14_stone_154
          · replace hf := (if_pos h118).symm.trans hf
            refine x_iload_n (pc := 78) dX14_stone_78 rfl ?_
            refine x_aload_n (pc := 79) dX14_stone_79 rfl ?_
            refine x_getF (t := 12) (j := 13) (r := 220) (pc := 80) dX14_stone_80 (axH hG rfl) (axEx hG rfl) rfl (by decide) (by decide) rfl rfl WF_X14_33 ?_
            refine x_getIN (t := 11) (j := 1) (pc := 83) dX14_stone_83 (axEx hG rfl) rfl (by decide) (by decide) rfl NF_X14_211 ?_
            refine ax_cmp (fun b120a b120b b120c b120e => ?_)
            refine x_icmplt (tgt := 97) (pc := 86) dX14_stone_86 rfl (fun h119 => ?_) (fun h119 => ?_)
            · replace hf := (if_pos h119).symm.trans hf
              refine x_aload_n (pc := 97) dX14_stone_97 rfl ?_
              refine x_getF (t := 12) (j := 13) (r := 220) (pc := 98) dX14_stone_98 (axH hG rfl) (axEx hG rfl) rfl (by decide) (by decide) rfl rfl WF_X14_33 ?_
              refine x_getFN (t := 11) (j := 2) (r := 221) (pc := 101) dX14_stone_101 (axH hG rfl) (axEx hG rfl) rfl (by decide) (by decide) rfl rfl NF_X14_214 ?_
              refine x_aload_n (pc := 104) dX14_stone_104 rfl ?_
              refine x_getF (t := 12) (j := 13) (r := 220) (pc := 105) dX14_stone_105 (axH hG rfl) (axEx hG rfl) rfl (by decide) (by decide) rfl rfl WF_X14_33 ?_
              refine x_getIN (t := 11) (j := 0) (pc := 108) dX14_stone_108 (axEx hG rfl) rfl (by decide) (by decide) rfl NF_X14_208 ?_
              refine x_iload_n (pc := 111) dX14_stone_111 rfl ?_
              refine x_imulw (pc := 112) dX14_stone_112 ?_
              refine x_iload_n (pc := 113) dX14_stone_113 rfl ?_
              refine x_iaddw (pc := 114) dX14_stone_114 ?_
              by_cases h121 : 0 ≤ (wr ((wr ((mI M111 220 0) * (mI M111 206 (Int.toNat (mI M111 203 7))))) + (mI M102 206 (Int.toNat (mI M102 203 7))))) ∧ (wr ((wr ((mI M111 220 0) * (mI M111 206 (Int.toNat (mI M111 203 7))))) + (mI M102 206 (Int.toNat (mI M102 203 7))))) < 81
              · replace hf := (if_pos h121).symm.trans hf
                refine x_iald2 (n := 81) (pc := 115) dX14_stone_115 (axEx hG rfl) rfl h121.1 h121.2 ?_
                refine x_iconst (pc := 116) dX14_stone_116 ⟨by decide, by decide⟩ ?_
                refine x_icmpeq (tgt := 128) (pc := 117) dX14_stone_117 rfl (fun h122 => ?_) (fun h122 => ?_)
                · replace hf := (if_pos h122).symm.trans hf
                  refine x_aload_n (pc := 128) dX14_stone_128 rfl ?_
                  refine x_getF (t := 12) (j := 13) (r := 220) (pc := 129) dX14_stone_129 (axH hG rfl) (axEx hG rfl) rfl (by decide) (by decide) rfl rfl WF_X14_33 ?_
                  refine x_getFN (t := 11) (j := 2) (r := 221) (pc := 132) dX14_stone_132 (axH hG rfl) (axEx hG rfl) rfl (by decide) (by decide) rfl rfl NF_X14_214 ?_
                  refine x_aload_n (pc := 135) dX14_stone_135 rfl ?_
                  refine x_getF (t := 12) (j := 13) (r := 220) (pc := 136) dX14_stone_136 (axH hG rfl) (axEx hG rfl) rfl (by decide) (by decide) rfl rfl WF_X14_33 ?_
                  refine x_getIN (t := 11) (j := 0) (pc := 139) dX14_stone_139 (axEx hG rfl) rfl (by decide) (by decide) rfl NF_X14_208 ?_
                  refine x_iload_n (pc := 142) dX14_stone_142 rfl ?_
                  refine x_imulw (pc := 143) dX14_stone_143 ?_
                  refine x_iload_n (pc := 144) dX14_stone_144 rfl ?_
                  refine x_iaddw (pc := 145) dX14_stone_145 ?_
                  refine x_iload_n (pc := 146) dX14_stone_146 rfl ?_
                  refine x_iast2 (n := 81) (pc := 147) dX14_stone_147 (axEx hG rfl) rfl (by omega) (by omega) ?_
                  refine x_aload_n (pc := 148) dX14_stone_148 rfl ?_
                  refine x_bipush (pc := 149) dX14_stone_149 (by decide) ⟨by decide, by decide⟩ ?_
                  obtain ⟨M124, r123, hf⟩ := bd1_some hf
                  refine x_cv (vs := [vR 203, vI 31]) (rest := []) (k := 0) rfl (by omega) (ax_caV (pc := 151) dX14_stone_151 kX14_take rfl rfl WM_X14_162 WI_X14_take WS_X14_take WN_X14 (ax_rcO (t := 12) (axEx hG rfl) rfl (by decide)) (Nat.le_of_ble_eq_true rfl)) kX14_take rfl True.intro (T_X14_take (by omega) hG r123) ?_
                  cases hf
                  exact x_retV (pc := 154) dX14_stone_154
                · replace hf := (if_neg h122).symm.trans hf
                  refine x_aload_n (pc := 120) dX14_stone_120 rfl ?_
                  refine x_iconst (pc := 121) dX14_stone_121 ⟨by decide, by decide⟩ ?_
                  obtain ⟨M126, r125, hf⟩ := bd1_some hf
                  refine x_cv (vs := [vR 203, vI 2]) (rest := []) (k := 0) rfl (by omega) (ax_caV (pc := 122) dX14_stone_122 kX14_mark rfl rfl WM_X14_202 WI_X14_mark WS_X14_mark WN_X14 (ax_rcO (t := 12) (axEx hG rfl) rfl (by decide)) (Nat.le_of_ble_eq_true rfl)) kX14_mark rfl True.intro (T_X14_mark (by omega) hG r125) ?_
                  refine x_goto (tgt := 148) (pc := 125) dX14_stone_125 rfl ?_
                  refine x_aload_n (pc := 148) dX14_stone_148 rfl ?_
                  refine x_bipush (pc := 149) dX14_stone_149 (by decide) ⟨by decide, by decide⟩ ?_
                  obtain ⟨M128, r127, hf⟩ := bd1_some hf
                  refine x_cv (vs := [vR 203, vI 31]) (rest := []) (k := 0) rfl (by omega) (ax_caV (pc := 151) dX14_stone_151 kX14_take rfl rfl WM_X14_162 WI_X14_take WS_X14_take WN_X14 (ax_rcO (t := 12) (axEx hG rfl) rfl (by decide)) (Nat.le_of_ble_eq_true rfl)) kX14_take rfl True.intro (T_X14_take (by omega) hG r127) ?_
                  cases hf
                  exact x_retV (pc := 154) dX14_stone_154
              · replace hf := (if_neg h121).symm.trans hf
                cases hf
            · replace hf := (if_neg (Int.not_lt.mpr h119)).symm.trans hf
              refine x_aload_n (pc := 89) dX14_stone_89 rfl ?_
              refine x_iconst (pc := 90) dX14_stone_90 ⟨by decide, by decide⟩ ?_
              obtain ⟨M130, r129, hf⟩ := bd1_some hf
              refine x_cv (vs := [vR 203, vI 5]) (rest := []) (k := 0) rfl (by omega) (ax_caV (pc := 91) dX14_stone_91 kX14_mark rfl rfl WM_X14_202 WI_X14_mark WS_X14_mark WN_X14 (ax_rcO (t := 12) (axEx hG rfl) rfl (by decide)) (Nat.le_of_ble_eq_true rfl)) kX14_mark rfl True.intro (T_X14_mark (by omega) hG r129) ?_
              refine x_goto (tgt := 148) (pc := 94) dX14_stone_94 rfl ?_
              refine x_aload_n (pc := 148) dX14_stone_148 rfl ?_
              refine x_bipush (pc := 149) dX14_stone_149 (by decide) ⟨by decide, by decide⟩ ?_
              obtain ⟨M132, r131, hf⟩ := bd1_some hf
              refine x_cv (vs := [vR 203, vI 31]) (rest := []) (k := 0) rfl (by omega) (ax_caV (pc := 151) dX14_stone_151 kX14_take rfl rfl WM_X14_162 WI_X14_take WS_X14_take WN_X14 (ax_rcO (t := 12) (axEx hG rfl) rfl (by decide)) (Nat.le_of_ble_eq_true rfl)) kX14_take rfl True.intro (T_X14_take (by omega) hG r131) ?_
              cases hf
              exact x_retV (pc := 154) dX14_stone_154
      · replace hf := (if_neg h112).symm.trans hf
        cases hf
    · replace hf := (if_neg h107).symm.trans hf
      refine x_iload_n (pc := 24) dX14_stone_24 rfl ?_
      refine x_aload_n (pc := 25) dX14_stone_25 rfl ?_
      refine x_getF (t := 12) (j := 13) (r := 220) (pc := 26) dX14_stone_26 (axH hG rfl) (axEx hG rfl) rfl (by decide) (by decide) rfl rfl WF_X14_33 ?_
      refine x_getIN (t := 11) (j := 0) (pc := 29) dX14_stone_29 (axEx hG rfl) rfl (by decide) (by decide) rfl NF_X14_208 ?_
      refine ax_cmp (fun b136a b136b b136c b136e => ?_)
      refine x_icmplt (tgt := 40) (pc := 32) dX14_stone_32 rfl (fun h135 => ?_) (fun h135 => ?_)
      · replace hf := (if_pos h135).symm.trans hf
        refine x_aload_n (pc := 40) dX14_stone_40 rfl ?_
        refine x_bipush (pc := 41) dX14_stone_41 (by decide) ⟨by decide, by decide⟩ ?_
        obtain ⟨M138, r137, hf⟩ := bd1_some hf
        refine x_cv (vs := [vR 203, vI 31]) (rest := []) (k := 0) rfl (by omega) (ax_caV (pc := 43) dX14_stone_43 kX14_take rfl rfl WM_X14_162 WI_X14_take WS_X14_take WN_X14 (ax_rcO (t := 12) (axEx hG rfl) rfl (by decide)) (Nat.le_of_ble_eq_true rfl)) kX14_take rfl True.intro (T_X14_take (by omega) hG r137) ?_
        refine x_aload_n (pc := 46) dX14_stone_46 rfl ?_
        refine x_bipush (pc := 47) dX14_stone_47 (by decide) ⟨by decide, by decide⟩ ?_
        obtain ⟨M140, r139, hf⟩ := bd1_some hf
        refine x_cv (vs := [vR 203, vI 54]) (rest := []) (k := 0) rfl (by omega) (ax_caV (pc := 49) dX14_stone_49 kX14_take rfl rfl WM_X14_162 WI_X14_take WS_X14_take WN_X14 (ax_rcO (t := 12) (axEx hG rfl) rfl (by decide)) (Nat.le_of_ble_eq_true rfl)) kX14_take rfl True.intro (T_X14_take (by omega) hG r139) ?_
        refine x_aload_n (pc := 52) dX14_stone_52 rfl ?_
        refine x_getF (t := 12) (j := 5) (r := 206) (pc := 53) dX14_stone_53 (axH hG rfl) (axEx hG rfl) rfl (by decide) (by decide) rfl rfl WF_X14_20 ?_
        refine x_aload_n (pc := 56) dX14_stone_56 rfl ?_
        refine x_getI (t := 12) (j := 7) (pc := 57) dX14_stone_57 (axEx hG rfl) rfl (by decide) (by decide) rfl WF_X14_129 ?_
        by_cases h141 : 0 ≤ (mI M140 203 7) ∧ (mI M140 203 7) < 402
        · replace hf := (if_pos h141).symm.trans hf
          refine x_iald2 (n := 402) (pc := 60) dX14_stone_60 (axEx hG rfl) rfl h141.1 h141.2 ?_
          refine x_istore_n (ls' := [some (vR 203), some (vI v103), some (vI (mI M102 206 (Int.toNat (mI M102 203 7)))), some (vI (mI M140 206 (Int.toNat (mI M140 203 7))))]) (pc := 61) dX14_stone_61 (Nat.le_of_ble_eq_true rfl) rfl rfl ?_
          refine x_aload_n (pc := 62) dX14_stone_62 rfl ?_
          refine x_bipush (pc := 63) dX14_stone_63 (by decide) ⟨by decide, by decide⟩ ?_
          obtain ⟨v143, r142, hf⟩ := bd1_some hf
          refine x_cr (v := vI v143) (vs := [vR 203, vI 31]) (rest := []) (k := 0) rfl (by omega) (ax_caV (pc := 65) dX14_stone_65 kX14_is rfl rfl WM_X14_138 WI_X14_is WS_X14_is WN_X14 (ax_rcO (t := 12) (axEx hG rfl) rfl (by decide)) (Nat.le_of_ble_eq_true rfl)) kX14_is rfl (Z_X14_is r142) (T_X14_is (by omega) hG r142) ?_
          refine x_ifeq (tgt := 148) (pc := 68) dX14_stone_68 rfl (fun h144 => ?_) (fun h144 => ?_)
          · replace hf := (if_pos h144).symm.trans hf
            refine x_aload_n (pc := 148) dX14_stone_148 rfl ?_
            refine x_bipush (pc := 149) dX14_stone_149 (by decide) ⟨by decide, by decide⟩ ?_
            obtain ⟨M146, r145, hf⟩ := bd1_some hf
            refine x_cv (vs := [vR 203, vI 31]) (rest := []) (k := 0) rfl (by omega) (ax_caV (pc := 151) dX14_stone_151 kX14_take rfl rfl WM_X14_162 WI_X14_take WS_X14_take WN_X14 (ax_rcO (t := 12) (axEx hG rfl) rfl (by decide)) (Nat.le_of_ble_eq_true rfl)) kX14_take rfl True.intro (T_X14_take (by omega) hG r145) ?_
            cases hf
            exact x_retV (pc := 154) dX14_stone_154
          · replace hf := (if_neg h144).symm.trans hf
            refine x_aload_n (pc := 71) dX14_stone_71 rfl ?_
            refine x_getI (t := 12) (j := 9) (pc := 72) dX14_stone_72 (axEx hG rfl) rfl (by decide) (by decide) rfl WF_X14_132 ?_
            refine x_ifne (tgt := 148) (pc := 75) dX14_stone_75 rfl (fun h147 => ?_) (fun h147 => ?_)
            · replace hf := (if_neg h147).symm.trans hf
              refine x_aload_n (pc := 148) dX14_stone_148 rfl ?_
              refine x_bipush (pc := 149) dX14_stone_149 (by decide) ⟨by decide, by decide⟩ ?_
              obtain ⟨M163, r162, hf⟩ := bd1_some hf
              refine x_cv (vs := [vR 203, vI 31]) (rest := []) (k := 0) rfl (by omega) (ax_caV (pc := 151) dX14_stone_151 kX14_take rfl rfl WM_X14_162 WI_X14_take WS_X14_take WN_X14 (ax_rcO (t := 12) (axEx hG rfl) rfl (by decide)) (Nat.le_of_ble_eq_true rfl)) kX14_take rfl True.intro (T_X14_take (by omega) hG r162) ?_
              cases hf
              exact x_retV (pc := 154) dX14_stone_154
            · replace hf := (if_pos h147).symm.trans hf
              refine x_iload_n (pc := 78) dX14_stone_78 rfl ?_
              refine x_aload_n (pc := 79) dX14_stone_79 rfl ?_
              refine x_getF (t := 12) (j := 13) (r := 220) (pc := 80) dX14_stone_80 (axH hG rfl) (axEx hG rfl) rfl (by decide) (by decide) rfl rfl WF_X14_33 ?_
              refine x_getIN (t := 11) (j := 1) (pc := 83) dX14_stone_83 (axEx hG rfl) rfl (by decide) (by decide) rfl NF_X14_211 ?_
              refine ax_cmp (fun b149a b149b b149c b149e => ?_)
              refine x_icmplt (tgt := 97) (pc := 86) dX14_stone_86 rfl (fun h148 => ?_) (fun h148 => ?_)
              · replace hf := (if_pos h148).symm.trans hf
                refine x_aload_n (pc := 97) dX14_stone_97 rfl ?_
                refine x_getF (t := 12) (j := 13) (r := 220) (pc := 98) dX14_stone_98 (axH hG rfl) (axEx hG rfl) rfl (by decide) (by decide) rfl rfl WF_X14_33 ?_
                refine x_getFN (t := 11) (j := 2) (r := 221) (pc := 101) dX14_stone_101 (axH hG rfl) (axEx hG rfl) rfl (by decide) (by decide) rfl rfl NF_X14_214 ?_
                refine x_aload_n (pc := 104) dX14_stone_104 rfl ?_
                refine x_getF (t := 12) (j := 13) (r := 220) (pc := 105) dX14_stone_105 (axH hG rfl) (axEx hG rfl) rfl (by decide) (by decide) rfl rfl WF_X14_33 ?_
                refine x_getIN (t := 11) (j := 0) (pc := 108) dX14_stone_108 (axEx hG rfl) rfl (by decide) (by decide) rfl NF_X14_208 ?_
                refine x_iload_n (pc := 111) dX14_stone_111 rfl ?_
                refine x_imulw (pc := 112) dX14_stone_112 ?_
                refine x_iload_n (pc := 113) dX14_stone_113 rfl ?_
                refine x_iaddw (pc := 114) dX14_stone_114 ?_
                by_cases h150 : 0 ≤ (wr ((wr ((mI M140 220 0) * (mI M140 206 (Int.toNat (mI M140 203 7))))) + (mI M102 206 (Int.toNat (mI M102 203 7))))) ∧ (wr ((wr ((mI M140 220 0) * (mI M140 206 (Int.toNat (mI M140 203 7))))) + (mI M102 206 (Int.toNat (mI M102 203 7))))) < 81
                · replace hf := (if_pos h150).symm.trans hf
                  refine x_iald2 (n := 81) (pc := 115) dX14_stone_115 (axEx hG rfl) rfl h150.1 h150.2 ?_
                  refine x_iconst (pc := 116) dX14_stone_116 ⟨by decide, by decide⟩ ?_
                  refine x_icmpeq (tgt := 128) (pc := 117) dX14_stone_117 rfl (fun h151 => ?_) (fun h151 => ?_)
                  · replace hf := (if_pos h151).symm.trans hf
                    refine x_aload_n (pc := 128) dX14_stone_128 rfl ?_
                    refine x_getF (t := 12) (j := 13) (r := 220) (pc := 129) dX14_stone_129 (axH hG rfl) (axEx hG rfl) rfl (by decide) (by decide) rfl rfl WF_X14_33 ?_
                    refine x_getFN (t := 11) (j := 2) (r := 221) (pc := 132) dX14_stone_132 (axH hG rfl) (axEx hG rfl) rfl (by decide) (by decide) rfl rfl NF_X14_214 ?_
                    refine x_aload_n (pc := 135) dX14_stone_135 rfl ?_
                    refine x_getF (t := 12) (j := 13) (r := 220) (pc := 136) dX14_stone_136 (axH hG rfl) (axEx hG rfl) rfl (by decide) (by decide) rfl rfl WF_X14_33 ?_
                    refine x_getIN (t := 11) (j := 0) (pc := 139) dX14_stone_139 (axEx hG rfl) rfl (by decide) (by decide) rfl NF_X14_208 ?_
                    refine x_iload_n (pc := 142) dX14_stone_142 rfl ?_
                    refine x_imulw (pc := 143) dX14_stone_143 ?_
                    refine x_iload_n (pc := 144) dX14_stone_144 rfl ?_
                    refine x_iaddw (pc := 145) dX14_stone_145 ?_
                    refine x_iload_n (pc := 146) dX14_stone_146 rfl ?_
                    refine x_iast2 (n := 81) (pc := 147) dX14_stone_147 (axEx hG rfl) rfl (by omega) (by omega) ?_
                    refine x_aload_n (pc := 148) dX14_stone_148 rfl ?_
                    refine x_bipush (pc := 149) dX14_stone_149 (by decide) ⟨by decide, by decide⟩ ?_
                    obtain ⟨M153, r152, hf⟩ := bd1_some hf
                    refine x_cv (vs := [vR 203, vI 31]) (rest := []) (k := 0) rfl (by omega) (ax_caV (pc := 151) dX14_stone_151 kX14_take rfl rfl WM_X14_162 WI_X14_take WS_X14_take WN_X14 (ax_rcO (t := 12) (axEx hG rfl) rfl (by decide)) (Nat.le_of_ble_eq_true rfl)) kX14_take rfl True.intro (T_X14_take (by omega) hG r152) ?_
                    cases hf
                    exact x_retV (pc := 154) dX14_stone_154
                  · replace hf := (if_neg h151).symm.trans hf
                    refine x_aload_n (pc := 120) dX14_stone_120 rfl ?_
                    refine x_iconst (pc := 121) dX14_stone_121 ⟨by decide, by decide⟩ ?_
                    obtain ⟨M155, r154, hf⟩ := bd1_some hf
                    refine x_cv (vs := [vR 203, vI 2]) (rest := []) (k := 0) rfl (by omega) (ax_caV (pc := 122) dX14_stone_122 kX14_mark rfl rfl WM_X14_202 WI_X14_mark WS_X14_mark WN_X14 (ax_rcO (t := 12) (axEx hG rfl) rfl (by decide)) (Nat.le_of_ble_eq_true rfl)) kX14_mark rfl True.intro (T_X14_mark (by omega) hG r154) ?_
                    refine x_goto (tgt := 148) (pc := 125) dX14_stone_125 rfl ?_
                    refine x_aload_n (pc := 148) dX14_stone_148 rfl ?_
                    refine x_bipush (pc := 149) dX14_stone_149 (by decide) ⟨by decide, by decide⟩ ?_
                    obtain ⟨M157, r156, hf⟩ := bd1_some hf
                    refine x_cv (vs := [vR 203, vI 31]) (rest := []) (k := 0) rfl (by omega) (ax_caV (pc := 151) dX14_stone_151 kX14_take rfl rfl WM_X14_162 WI_X14_take WS_X14_take WN_X14 (ax_rcO (t := 12) (axEx hG rfl) rfl (by decide)) (Nat.le_of_ble_eq_true rfl)) kX14_take rfl True.intro (T_X14_take (by omega) hG r156) ?_
                    cases hf
                    exact x_retV (pc := 154) dX14_stone_154
                · replace hf := (if_neg h150).symm.trans hf
                  cases hf
              · replace hf := (if_neg (Int.not_lt.mpr h148)).symm.trans hf
                refine x_aload_n (pc := 89) dX14_stone_89 rfl ?_
                refine x_iconst (pc := 90) dX14_stone_90 ⟨by decide, by decide⟩ ?_
                obtain ⟨M159, r158, hf⟩ := bd1_some hf
                refine x_cv (vs := [vR 203, vI 5]) (rest := []) (k := 0) rfl (by omega) (ax_caV (pc := 91) dX14_stone_91 kX14_mark rfl rfl WM_X14_202 WI_X14_mark WS_X14_mark WN_X14 (ax_rcO (t := 12) (axEx hG rfl) rfl (by decide)) (Nat.le_of_ble_eq_true rfl)) kX14_mark rfl True.intro (T_X14_mark (by omega) hG r158) ?_
                refine x_goto (tgt := 148) (pc := 94) dX14_stone_94 rfl ?_
                refine x_aload_n (pc := 148) dX14_stone_148 rfl ?_
                refine x_bipush (pc := 149) dX14_stone_149 (by decide) ⟨by decide, by decide⟩ ?_
                obtain ⟨M161, r160, hf⟩ := bd1_some hf
                refine x_cv (vs := [vR 203, vI 31]) (rest := []) (k := 0) rfl (by omega) (ax_caV (pc := 151) dX14_stone_151 kX14_take rfl rfl WM_X14_162 WI_X14_take WS_X14_take WN_X14 (ax_rcO (t := 12) (axEx hG rfl) rfl (by decide)) (Nat.le_of_ble_eq_true rfl)) kX14_take rfl True.intro (T_X14_take (by omega) hG r160) ?_
                cases hf
                exact x_retV (pc := 154) dX14_stone_154
        · replace hf := (if_neg h141).symm.trans hf
          cases hf
      · replace hf := (if_neg (Int.not_lt.mpr h135)).symm.trans hf
        refine x_aload_n (pc := 35) dX14_stone_35 rfl ?_
        refine x_iconst (pc := 36) dX14_stone_36 ⟨by decide, by decide⟩ ?_
        obtain ⟨M165, r164, hf⟩ := bd1_some hf
        refine x_cv (vs := [vR 203, vI 5]) (rest := []) (k := 0) rfl (by omega) (ax_caV (pc := 37) dX14_stone_37 kX14_mark rfl rfl WM_X14_202 WI_X14_mark WS_X14_mark WN_X14 (ax_rcO (t := 12) (axEx hG rfl) rfl (by decide)) (Nat.le_of_ble_eq_true rfl)) kX14_mark rfl True.intro (T_X14_mark (by omega) hG r164) ?_
        refine x_aload_n (pc := 40) dX14_stone_40 rfl ?_
        refine x_bipush (pc := 41) dX14_stone_41 (by decide) ⟨by decide, by decide⟩ ?_
        obtain ⟨M167, r166, hf⟩ := bd1_some hf
        refine x_cv (vs := [vR 203, vI 31]) (rest := []) (k := 0) rfl (by omega) (ax_caV (pc := 43) dX14_stone_43 kX14_take rfl rfl WM_X14_162 WI_X14_take WS_X14_take WN_X14 (ax_rcO (t := 12) (axEx hG rfl) rfl (by decide)) (Nat.le_of_ble_eq_true rfl)) kX14_take rfl True.intro (T_X14_take (by omega) hG r166) ?_
        refine x_aload_n (pc := 46) dX14_stone_46 rfl ?_
        refine x_bipush (pc := 47) dX14_stone_47 (by decide) ⟨by decide, by decide⟩ ?_
        obtain ⟨M169, r168, hf⟩ := bd1_some hf
        refine x_cv (vs := [vR 203, vI 54]) (rest := []) (k := 0) rfl (by omega) (ax_caV (pc := 49) dX14_stone_49 kX14_take rfl rfl WM_X14_162 WI_X14_take WS_X14_take WN_X14 (ax_rcO (t := 12) (axEx hG rfl) rfl (by decide)) (Nat.le_of_ble_eq_true rfl)) kX14_take rfl True.intro (T_X14_take (by omega) hG r168) ?_
        refine x_aload_n (pc := 52) dX14_stone_52 rfl ?_
        refine x_getF (t := 12) (j := 5) (r := 206) (pc := 53) dX14_stone_53 (axH hG rfl) (axEx hG rfl) rfl (by decide) (by decide) rfl rfl WF_X14_20 ?_
        refine x_aload_n (pc := 56) dX14_stone_56 rfl ?_
        refine x_getI (t := 12) (j := 7) (pc := 57) dX14_stone_57 (axEx hG rfl) rfl (by decide) (by decide) rfl WF_X14_129 ?_
        by_cases h170 : 0 ≤ (mI M169 203 7) ∧ (mI M169 203 7) < 402
        · replace hf := (if_pos h170).symm.trans hf
          refine x_iald2 (n := 402) (pc := 60) dX14_stone_60 (axEx hG rfl) rfl h170.1 h170.2 ?_
          refine x_istore_n (ls' := [some (vR 203), some (vI v103), some (vI (mI M102 206 (Int.toNat (mI M102 203 7)))), some (vI (mI M169 206 (Int.toNat (mI M169 203 7))))]) (pc := 61) dX14_stone_61 (Nat.le_of_ble_eq_true rfl) rfl rfl ?_
          refine x_aload_n (pc := 62) dX14_stone_62 rfl ?_
          refine x_bipush (pc := 63) dX14_stone_63 (by decide) ⟨by decide, by decide⟩ ?_
          obtain ⟨v172, r171, hf⟩ := bd1_some hf
          refine x_cr (v := vI v172) (vs := [vR 203, vI 31]) (rest := []) (k := 0) rfl (by omega) (ax_caV (pc := 65) dX14_stone_65 kX14_is rfl rfl WM_X14_138 WI_X14_is WS_X14_is WN_X14 (ax_rcO (t := 12) (axEx hG rfl) rfl (by decide)) (Nat.le_of_ble_eq_true rfl)) kX14_is rfl (Z_X14_is r171) (T_X14_is (by omega) hG r171) ?_
          refine x_ifeq (tgt := 148) (pc := 68) dX14_stone_68 rfl (fun h173 => ?_) (fun h173 => ?_)
          · replace hf := (if_pos h173).symm.trans hf
            refine x_aload_n (pc := 148) dX14_stone_148 rfl ?_
            refine x_bipush (pc := 149) dX14_stone_149 (by decide) ⟨by decide, by decide⟩ ?_
            obtain ⟨M175, r174, hf⟩ := bd1_some hf
            refine x_cv (vs := [vR 203, vI 31]) (rest := []) (k := 0) rfl (by omega) (ax_caV (pc := 151) dX14_stone_151 kX14_take rfl rfl WM_X14_162 WI_X14_take WS_X14_take WN_X14 (ax_rcO (t := 12) (axEx hG rfl) rfl (by decide)) (Nat.le_of_ble_eq_true rfl)) kX14_take rfl True.intro (T_X14_take (by omega) hG r174) ?_
            cases hf
            exact x_retV (pc := 154) dX14_stone_154
          · replace hf := (if_neg h173).symm.trans hf
            refine x_aload_n (pc := 71) dX14_stone_71 rfl ?_
            refine x_getI (t := 12) (j := 9) (pc := 72) dX14_stone_72 (axEx hG rfl) rfl (by decide) (by decide) rfl WF_X14_132 ?_
            refine x_ifne (tgt := 148) (pc := 75) dX14_stone_75 rfl (fun h176 => ?_) (fun h176 => ?_)
            · replace hf := (if_neg h176).symm.trans hf
              refine x_aload_n (pc := 148) dX14_stone_148 rfl ?_
              refine x_bipush (pc := 149) dX14_stone_149 (by decide) ⟨by decide, by decide⟩ ?_
              obtain ⟨M192, r191, hf⟩ := bd1_some hf
              refine x_cv (vs := [vR 203, vI 31]) (rest := []) (k := 0) rfl (by omega) (ax_caV (pc := 151) dX14_stone_151 kX14_take rfl rfl WM_X14_162 WI_X14_take WS_X14_take WN_X14 (ax_rcO (t := 12) (axEx hG rfl) rfl (by decide)) (Nat.le_of_ble_eq_true rfl)) kX14_take rfl True.intro (T_X14_take (by omega) hG r191) ?_
              cases hf
              exact x_retV (pc := 154) dX14_stone_154
            · replace hf := (if_pos h176).symm.trans hf
              refine x_iload_n (pc := 78) dX14_stone_78 rfl ?_
              refine x_aload_n (pc := 79) dX14_stone_79 rfl ?_
              refine x_getF (t := 12) (j := 13) (r := 220) (pc := 80) dX14_stone_80 (axH hG rfl) (axEx hG rfl) rfl (by decide) (by decide) rfl rfl WF_X14_33 ?_
              refine x_getIN (t := 11) (j := 1) (pc := 83) dX14_stone_83 (axEx hG rfl) rfl (by decide) (by decide) rfl NF_X14_211 ?_
              refine ax_cmp (fun b178a b178b b178c b178e => ?_)
              refine x_icmplt (tgt := 97) (pc := 86) dX14_stone_86 rfl (fun h177 => ?_) (fun h177 => ?_)
              · replace hf := (if_pos h177).symm.trans hf
                refine x_aload_n (pc := 97) dX14_stone_97 rfl ?_
                refine x_getF (t := 12) (j := 13) (r := 220) (pc := 98) dX14_stone_98 (axH hG rfl) (axEx hG rfl) rfl (by decide) (by decide) rfl rfl WF_X14_33 ?_
                refine x_getFN (t := 11) (j := 2) (r := 221) (pc := 101) dX14_stone_101 (axH hG rfl) (axEx hG rfl) rfl (by decide) (by decide) rfl rfl NF_X14_214 ?_
                refine x_aload_n (pc := 104) dX14_stone_104 rfl ?_
                refine x_getF (t := 12) (j := 13) (r := 220) (pc := 105) dX14_stone_105 (axH hG rfl) (axEx hG rfl) rfl (by decide) (by decide) rfl rfl WF_X14_33 ?_
                refine x_getIN (t := 11) (j := 0) (pc := 108) dX14_stone_108 (axEx hG rfl) rfl (by decide) (by decide) rfl NF_X14_208 ?_
                refine x_iload_n (pc := 111) dX14_stone_111 rfl ?_
                refine x_imulw (pc := 112) dX14_stone_112 ?_
                refine x_iload_n (pc := 113) dX14_stone_113 rfl ?_
                refine x_iaddw (pc := 114) dX14_stone_114 ?_
                by_cases h179 : 0 ≤ (wr ((wr ((mI M169 220 0) * (mI M169 206 (Int.toNat (mI M169 203 7))))) + (mI M102 206 (Int.toNat (mI M102 203 7))))) ∧ (wr ((wr ((mI M169 220 0) * (mI M169 206 (Int.toNat (mI M169 203 7))))) + (mI M102 206 (Int.toNat (mI M102 203 7))))) < 81
                · replace hf := (if_pos h179).symm.trans hf
                  refine x_iald2 (n := 81) (pc := 115) dX14_stone_115 (axEx hG rfl) rfl h179.1 h179.2 ?_
                  refine x_iconst (pc := 116) dX14_stone_116 ⟨by decide, by decide⟩ ?_
                  refine x_icmpeq (tgt := 128) (pc := 117) dX14_stone_117 rfl (fun h180 => ?_) (fun h180 => ?_)
                  · replace hf := (if_pos h180).symm.trans hf
                    refine x_aload_n (pc := 128) dX14_stone_128 rfl ?_
                    refine x_getF (t := 12) (j := 13) (r := 220) (pc := 129) dX14_stone_129 (axH hG rfl) (axEx hG rfl) rfl (by decide) (by decide) rfl rfl WF_X14_33 ?_
                    refine x_getFN (t := 11) (j := 2) (r := 221) (pc := 132) dX14_stone_132 (axH hG rfl) (axEx hG rfl) rfl (by decide) (by decide) rfl rfl NF_X14_214 ?_
                    refine x_aload_n (pc := 135) dX14_stone_135 rfl ?_
                    refine x_getF (t := 12) (j := 13) (r := 220) (pc := 136) dX14_stone_136 (axH hG rfl) (axEx hG rfl) rfl (by decide) (by decide) rfl rfl WF_X14_33 ?_
                    refine x_getIN (t := 11) (j := 0) (pc := 139) dX14_stone_139 (axEx hG rfl) rfl (by decide) (by decide) rfl NF_X14_208 ?_
                    refine x_iload_n (pc := 142) dX14_stone_142 rfl ?_
                    refine x_imulw (pc := 143) dX14_stone_143 ?_
                    refine x_iload_n (pc := 144) dX14_stone_144 rfl ?_
                    refine x_iaddw (pc := 145) dX14_stone_145 ?_
                    refine x_iload_n (pc := 146) dX14_stone_146 rfl ?_
                    refine x_iast2 (n := 81) (pc := 147) dX14_stone_147 (axEx hG rfl) rfl (by omega) (by omega) ?_
                    refine x_aload_n (pc := 148) dX14_stone_148 rfl ?_
                    refine x_bipush (pc := 149) dX14_stone_149 (by decide) ⟨by decide, by decide⟩ ?_
                    obtain ⟨M182, r181, hf⟩ := bd1_some hf
                    refine x_cv (vs := [vR 203, vI 31]) (rest := []) (k := 0) rfl (by omega) (ax_caV (pc := 151) dX14_stone_151 kX14_take rfl rfl WM_X14_162 WI_X14_take WS_X14_take WN_X14 (ax_rcO (t := 12) (axEx hG rfl) rfl (by decide)) (Nat.le_of_ble_eq_true rfl)) kX14_take rfl True.intro (T_X14_take (by omega) hG r181) ?_
                    cases hf
                    exact x_retV (pc := 154) dX14_stone_154
                  · replace hf := (if_neg h180).symm.trans hf
                    refine x_aload_n (pc := 120) dX14_stone_120 rfl ?_
                    refine x_iconst (pc := 121) dX14_stone_121 ⟨by decide, by decide⟩ ?_
                    obtain ⟨M184, r183, hf⟩ := bd1_some hf
                    refine x_cv (vs := [vR 203, vI 2]) (rest := []) (k := 0) rfl (by omega) (ax_caV (pc := 122) dX14_stone_122 kX14_mark rfl rfl WM_X14_202 WI_X14_mark WS_X14_mark WN_X14 (ax_rcO (t := 12) (axEx hG rfl) rfl (by decide)) (Nat.le_of_ble_eq_true rfl)) kX14_mark rfl True.intro (T_X14_mark (by omega) hG r183) ?_
                    refine x_goto (tgt := 148) (pc := 125) dX14_stone_125 rfl ?_
                    refine x_aload_n (pc := 148) dX14_stone_148 rfl ?_
                    refine x_bipush (pc := 149) dX14_stone_149 (by decide) ⟨by decide, by decide⟩ ?_
                    obtain ⟨M186, r185, hf⟩ := bd1_some hf
                    refine x_cv (vs := [vR 203, vI 31]) (rest := []) (k := 0) rfl (by omega) (ax_caV (pc := 151) dX14_stone_151 kX14_take rfl rfl WM_X14_162 WI_X14_take WS_X14_take WN_X14 (ax_rcO (t := 12) (axEx hG rfl) rfl (by decide)) (Nat.le_of_ble_eq_true rfl)) kX14_take rfl True.intro (T_X14_take (by omega) hG r185) ?_
                    cases hf
                    exact x_retV (pc := 154) dX14_stone_154
                · replace hf := (if_neg h179).symm.trans hf
                  cases hf
              · replace hf := (if_neg (Int.not_lt.mpr h177)).symm.trans hf
                refine x_aload_n (pc := 89) dX14_stone_89 rfl ?_
                refine x_iconst (pc := 90) dX14_stone_90 ⟨by decide, by decide⟩ ?_
                obtain ⟨M188, r187, hf⟩ := bd1_some hf
                refine x_cv (vs := [vR 203, vI 5]) (rest := []) (k := 0) rfl (by omega) (ax_caV (pc := 91) dX14_stone_91 kX14_mark rfl rfl WM_X14_202 WI_X14_mark WS_X14_mark WN_X14 (ax_rcO (t := 12) (axEx hG rfl) rfl (by decide)) (Nat.le_of_ble_eq_true rfl)) kX14_mark rfl True.intro (T_X14_mark (by omega) hG r187) ?_
                refine x_goto (tgt := 148) (pc := 94) dX14_stone_94 rfl ?_
                refine x_aload_n (pc := 148) dX14_stone_148 rfl ?_
                refine x_bipush (pc := 149) dX14_stone_149 (by decide) ⟨by decide, by decide⟩ ?_
                obtain ⟨M190, r189, hf⟩ := bd1_some hf
                refine x_cv (vs := [vR 203, vI 31]) (rest := []) (k := 0) rfl (by omega) (ax_caV (pc := 151) dX14_stone_151 kX14_take rfl rfl WM_X14_162 WI_X14_take WS_X14_take WN_X14 (ax_rcO (t := 12) (axEx hG rfl) rfl (by decide)) (Nat.le_of_ble_eq_true rfl)) kX14_take rfl True.intro (T_X14_take (by omega) hG r189) ?_
                cases hf
                exact x_retV (pc := 154) dX14_stone_154
        · replace hf := (if_neg h170).symm.trans hf
          cases hf
  · replace hf := (if_neg h104).symm.trans hf
    cases hf
/- HexPondModel.plan()V -/
def fX14_plan (M : ax_M) : Option ax_M :=
  (if 0 ≤ (fJ9_min_7cf53 M 16 (mI M 220 3)) ∧ (fJ9_min_7cf53 M 16 (mI M 220 3)) < 17 then (bd2 (fX14_player (mUI (mUI M 220 3 (wr ((mI M 220 3) + 1))) 224 (Int.toNat (fJ9_min_7cf53 M 16 (mI M 220 3))) (mI (mUI M 220 3 (wr ((mI M 220 3) + 1))) 220 11))) fun v104 M103 => (if 0 ≤ (mI (mUI M103 222 (Int.toNat (fJ9_min_7cf53 M 16 (mI M 220 3))) v104) 203 7) ∧ (mI (mUI M103 222 (Int.toNat (fJ9_min_7cf53 M 16 (mI M 220 3))) v104) 203 7) < 402 then (if (mI (mUI (mUI M103 222 (Int.toNat (fJ9_min_7cf53 M 16 (mI M 220 3))) v104) 223 (Int.toNat (fJ9_min_7cf53 M 16 (mI M 220 3))) (mI (mUI M103 222 (Int.toNat (fJ9_min_7cf53 M 16 (mI M 220 3))) v104) 205 (Int.toNat (mI (mUI M103 222 (Int.toNat (fJ9_min_7cf53 M 16 (mI M 220 3))) v104) 203 7)))) 203 8) = 0 then (if 0 ≤ (mI (mUI (mUI M103 222 (Int.toNat (fJ9_min_7cf53 M 16 (mI M 220 3))) v104) 223 (Int.toNat (fJ9_min_7cf53 M 16 (mI M 220 3))) (mI (mUI M103 222 (Int.toNat (fJ9_min_7cf53 M 16 (mI M 220 3))) v104) 205 (Int.toNat (mI (mUI M103 222 (Int.toNat (fJ9_min_7cf53 M 16 (mI M 220 3))) v104) 203 7)))) 203 7) ∧ (mI (mUI (mUI M103 222 (Int.toNat (fJ9_min_7cf53 M 16 (mI M 220 3))) v104) 223 (Int.toNat (fJ9_min_7cf53 M 16 (mI M 220 3))) (mI (mUI M103 222 (Int.toNat (fJ9_min_7cf53 M 16 (mI M 220 3))) v104) 205 (Int.toNat (mI (mUI M103 222 (Int.toNat (fJ9_min_7cf53 M 16 (mI M 220 3))) v104) 203 7)))) 203 7) < 402 then (if (fX14_isIn (mUI (mUI M103 222 (Int.toNat (fJ9_min_7cf53 M 16 (mI M 220 3))) v104) 223 (Int.toNat (fJ9_min_7cf53 M 16 (mI M 220 3))) (mI (mUI M103 222 (Int.toNat (fJ9_min_7cf53 M 16 (mI M 220 3))) v104) 205 (Int.toNat (mI (mUI M103 222 (Int.toNat (fJ9_min_7cf53 M 16 (mI M 220 3))) v104) 203 7)))) (mI (mUI (mUI M103 222 (Int.toNat (fJ9_min_7cf53 M 16 (mI M 220 3))) v104) 223 (Int.toNat (fJ9_min_7cf53 M 16 (mI M 220 3))) (mI (mUI M103 222 (Int.toNat (fJ9_min_7cf53 M 16 (mI M 220 3))) v104) 205 (Int.toNat (mI (mUI M103 222 (Int.toNat (fJ9_min_7cf53 M 16 (mI M 220 3))) v104) 203 7)))) 205 (Int.toNat (mI (mUI (mUI M103 222 (Int.toNat (fJ9_min_7cf53 M 16 (mI M 220 3))) v104) 223 (Int.toNat (fJ9_min_7cf53 M 16 (mI M 220 3))) (mI (mUI M103 222 (Int.toNat (fJ9_min_7cf53 M 16 (mI M 220 3))) v104) 205 (Int.toNat (mI (mUI M103 222 (Int.toNat (fJ9_min_7cf53 M 16 (mI M 220 3))) v104) 203 7)))) 203 7))) 6 10) = 0 then (bd1 (fX14_wrong (mUI (mUI M103 222 (Int.toNat (fJ9_min_7cf53 M 16 (mI M 220 3))) v104) 223 (Int.toNat (fJ9_min_7cf53 M 16 (mI M 220 3))) (mI (mUI M103 222 (Int.toNat (fJ9_min_7cf53 M 16 (mI M 220 3))) v104) 205 (Int.toNat (mI (mUI M103 222 (Int.toNat (fJ9_min_7cf53 M 16 (mI M 220 3))) v104) 203 7))))) fun M110 => (some M110)) else (if (mI (mUI (mUI (mUI M103 222 (Int.toNat (fJ9_min_7cf53 M 16 (mI M 220 3))) v104) 223 (Int.toNat (fJ9_min_7cf53 M 16 (mI M 220 3))) (mI (mUI M103 222 (Int.toNat (fJ9_min_7cf53 M 16 (mI M 220 3))) v104) 205 (Int.toNat (mI (mUI M103 222 (Int.toNat (fJ9_min_7cf53 M 16 (mI M 220 3))) v104) 203 7)))) 203 7 ((mI (mUI (mUI M103 222 (Int.toNat (fJ9_min_7cf53 M 16 (mI M 220 3))) v104) 223 (Int.toNat (fJ9_min_7cf53 M 16 (mI M 220 3))) (mI (mUI M103 222 (Int.toNat (fJ9_min_7cf53 M 16 (mI M 220 3))) v104) 205 (Int.toNat (mI (mUI M103 222 (Int.toNat (fJ9_min_7cf53 M 16 (mI M 220 3))) v104) 203 7)))) 203 7) + 1)) 223 (Int.toNat (fJ9_min_7cf53 M 16 (mI M 220 3)))) = 10 then (bd2 (fG14 60 2 0 (mUI (mUI (mUI M103 222 (Int.toNat (fJ9_min_7cf53 M 16 (mI M 220 3))) v104) 223 (Int.toNat (fJ9_min_7cf53 M 16 (mI M 220 3))) (mI (mUI M103 222 (Int.toNat (fJ9_min_7cf53 M 16 (mI M 220 3))) v104) 205 (Int.toNat (mI (mUI M103 222 (Int.toNat (fJ9_min_7cf53 M 16 (mI M 220 3))) v104) 203 7)))) 203 7 ((mI (mUI (mUI M103 222 (Int.toNat (fJ9_min_7cf53 M 16 (mI M 220 3))) v104) 223 (Int.toNat (fJ9_min_7cf53 M 16 (mI M 220 3))) (mI (mUI M103 222 (Int.toNat (fJ9_min_7cf53 M 16 (mI M 220 3))) v104) 205 (Int.toNat (mI (mUI M103 222 (Int.toNat (fJ9_min_7cf53 M 16 (mI M 220 3))) v104) 203 7)))) 203 7) + 1))) fun v114 M113 => (bd1 (fX14_take (mUI M113 226 (Int.toNat (fJ9_min_7cf53 M 16 (mI M 220 3))) v114) 54) fun M116 => (bd2 (fG14 60 2 0 M116) fun v119 M118 => (bd2 (fX14_takes (mUI M118 227 (Int.toNat (fJ9_min_7cf53 M 16 (mI M 220 3))) v119) 11) fun v122 M121 => (if v122 = 0 then (some (mUI (mUI M121 228 (Int.toNat (fJ9_min_7cf53 M 16 (mI M 220 3))) (-1)) 225 (Int.toNat (fJ9_min_7cf53 M 16 (mI M 220 3))) (mI (mUI M121 228 (Int.toNat (fJ9_min_7cf53 M 16 (mI M 220 3))) (-1)) 220 11))) else (bd2 (fG15 60 1 0 M121) fun v126 M125 => (some (mUI (mUI M125 228 (Int.toNat (fJ9_min_7cf53 M 16 (mI M 220 3))) v126) 225 (Int.toNat (fJ9_min_7cf53 M 16 (mI M 220 3))) (mI (mUI M125 228 (Int.toNat (fJ9_min_7cf53 M 16 (mI M 220 3))) v126) 220 11))))))))) else (bd2 (fX14_takes (mUI (mUI (mUI M103 222 (Int.toNat (fJ9_min_7cf53 M 16 (mI M 220 3))) v104) 223 (Int.toNat (fJ9_min_7cf53 M 16 (mI M 220 3))) (mI (mUI M103 222 (Int.toNat (fJ9_min_7cf53 M 16 (mI M 220 3))) v104) 205 (Int.toNat (mI (mUI M103 222 (Int.toNat (fJ9_min_7cf53 M 16 (mI M 220 3))) v104) 203 7)))) 203 7 ((mI (mUI (mUI M103 222 (Int.toNat (fJ9_min_7cf53 M 16 (mI M 220 3))) v104) 223 (Int.toNat (fJ9_min_7cf53 M 16 (mI M 220 3))) (mI (mUI M103 222 (Int.toNat (fJ9_min_7cf53 M 16 (mI M 220 3))) v104) 205 (Int.toNat (mI (mUI M103 222 (Int.toNat (fJ9_min_7cf53 M 16 (mI M 220 3))) v104) 203 7)))) 203 7) + 1)) 11) fun v129 M128 => (if v129 = 0 then (some (mUI (mUI M128 228 (Int.toNat (fJ9_min_7cf53 M 16 (mI M 220 3))) (-1)) 225 (Int.toNat (fJ9_min_7cf53 M 16 (mI M 220 3))) (mI (mUI M128 228 (Int.toNat (fJ9_min_7cf53 M 16 (mI M 220 3))) (-1)) 220 11))) else (bd2 (fG15 60 1 0 M128) fun v133 M132 => (some (mUI (mUI M132 228 (Int.toNat (fJ9_min_7cf53 M 16 (mI M 220 3))) v133) 225 (Int.toNat (fJ9_min_7cf53 M 16 (mI M 220 3))) (mI (mUI M132 228 (Int.toNat (fJ9_min_7cf53 M 16 (mI M 220 3))) v133) 220 11)))))))) else none) else (bd1 (fX14_wrong (mUI (mUI M103 222 (Int.toNat (fJ9_min_7cf53 M 16 (mI M 220 3))) v104) 223 (Int.toNat (fJ9_min_7cf53 M 16 (mI M 220 3))) (mI (mUI M103 222 (Int.toNat (fJ9_min_7cf53 M 16 (mI M 220 3))) v104) 205 (Int.toNat (mI (mUI M103 222 (Int.toNat (fJ9_min_7cf53 M 16 (mI M 220 3))) v104) 203 7))))) fun M135 => (some M135))) else none)) else none)
theorem T_X14_plan {G : ax_G} {d : Nat} (hd : 141 ≤ d) (hG : axPs G 150 244) {M : ax_M} {M1 : ax_M} (hf : fX14_plan M = some M1) : ax_Ex G tX14_plan d 0 (ax_args [vR 203] ++ List.replicate 1 none) [] M (.inl none) M1 := by
  show ax_Ex G tX14_plan d 0 [some (vR 203), none] [] M _ _
  unfold fX14_plan at hf
  refine x_bipush (pc := 0) dX14_plan_0 (by decide) ⟨by decide, by decide⟩ ?_
  refine x_aload_n (pc := 2) dX14_plan_2 rfl ?_
  refine x_getF (t := 12) (j := 13) (r := 220) (pc := 3) dX14_plan_3 (axH hG rfl) (axEx hG rfl) rfl (by decide) (by decide) rfl rfl WF_X14_33 ?_
  refine x_getIN (t := 11) (j := 3) (pc := 6) dX14_plan_6 (axEx hG rfl) rfl (by decide) (by decide) rfl NF_X14_215 ?_
  refine x_cr (v := vI (fJ9_min_7cf53 M 16 (mI M 220 3))) (vs := [vI 16, vI (mI M 220 3)]) (rest := []) (k := 0) rfl (by omega) (ax_caS (pc := 9) dX14_plan_9 kJ9_min_7cf53 rfl rfl WM_X14_218 WT_J9_min_7cf53 WN_J9 (Nat.le_of_ble_eq_true rfl)) kJ9_min_7cf53 rfl True.intro (T_J9_min_7cf53 (by omega) rfl) ?_
  refine x_istore_n (ls' := [some (vR 203), some (vI (fJ9_min_7cf53 M 16 (mI M 220 3)))]) (pc := 12) dX14_plan_12 (Nat.le_of_ble_eq_true rfl) rfl rfl ?_
  refine x_aload_n (pc := 13) dX14_plan_13 rfl ?_
  refine x_getF (t := 12) (j := 13) (r := 220) (pc := 14) dX14_plan_14 (axH hG rfl) (axEx hG rfl) rfl (by decide) (by decide) rfl rfl WF_X14_33 ?_
  refine x_dup (pc := 17) dX14_plan_17 rfl ?_
  refine x_getIN (t := 11) (j := 3) (pc := 18) dX14_plan_18 (axEx hG rfl) rfl (by decide) (by decide) rfl NF_X14_215 ?_
  refine x_iconst (pc := 21) dX14_plan_21 ⟨by decide, by decide⟩ ?_
  refine x_iaddw (pc := 22) dX14_plan_22 ?_
  refine x_putIN (t := 11) (j := 3) (pc := 23) dX14_plan_23 (axEx hG rfl) rfl (by decide) (by decide) rfl rfl NF_X14_215 ?_
  refine x_aload_n (pc := 26) dX14_plan_26 rfl ?_
  refine x_getF (t := 12) (j := 13) (r := 220) (pc := 27) dX14_plan_27 (axH hG rfl) (axEx hG rfl) rfl (by decide) (by decide) rfl rfl WF_X14_33 ?_
  refine x_getFN (t := 11) (j := 6) (r := 224) (pc := 30) dX14_plan_30 (axH hG rfl) (axEx hG rfl) rfl (by decide) (by decide) rfl rfl NF_X14_223 ?_
  refine x_iload_n (pc := 33) dX14_plan_33 rfl ?_
  refine x_aload_n (pc := 34) dX14_plan_34 rfl ?_
  refine x_getF (t := 12) (j := 13) (r := 220) (pc := 35) dX14_plan_35 (axH hG rfl) (axEx hG rfl) rfl (by decide) (by decide) rfl rfl WF_X14_33 ?_
  refine x_getIN (t := 11) (j := 11) (pc := 38) dX14_plan_38 (axEx hG rfl) rfl (by decide) (by decide) rfl NF_X14_147 ?_
  by_cases h101 : 0 ≤ (fJ9_min_7cf53 M 16 (mI M 220 3)) ∧ (fJ9_min_7cf53 M 16 (mI M 220 3)) < 17
  · replace hf := (if_pos h101).symm.trans hf
    refine x_iast2 (n := 17) (pc := 41) dX14_plan_41 (axEx hG rfl) rfl h101.1 h101.2 ?_
    refine x_aload_n (pc := 42) dX14_plan_42 rfl ?_
    refine x_getF (t := 12) (j := 13) (r := 220) (pc := 43) dX14_plan_43 (axH hG rfl) (axEx hG rfl) rfl (by decide) (by decide) rfl rfl WF_X14_33 ?_
    refine x_getFN (t := 11) (j := 4) (r := 222) (pc := 46) dX14_plan_46 (axH hG rfl) (axEx hG rfl) rfl (by decide) (by decide) rfl rfl NF_X14_226 ?_
    refine x_iload_n (pc := 49) dX14_plan_49 rfl ?_
    refine x_aload_n (pc := 50) dX14_plan_50 rfl ?_
    obtain ⟨v104, M103, r102, hf⟩ := bd2_some hf
    refine x_cr (v := vI v104) (vs := [vR 203]) (rest := [vI (fJ9_min_7cf53 M 16 (mI M 220 3)), vR 222]) (k := 0) rfl (by omega) (ax_caV (pc := 51) dX14_plan_51 kX14_player rfl rfl WM_X14_176 WI_X14_player WS_X14_player WN_X14 (ax_rcO (t := 12) (axEx hG rfl) rfl (by decide)) (Nat.le_of_ble_eq_true rfl)) kX14_player rfl True.intro (T_X14_player (by omega) hG r102) ?_
    refine x_iast2 (n := 17) (pc := 54) dX14_plan_54 (axEx hG rfl) rfl (by omega) (by omega) ?_
    refine x_aload_n (pc := 55) dX14_plan_55 rfl ?_
    refine x_getF (t := 12) (j := 13) (r := 220) (pc := 56) dX14_plan_56 (axH hG rfl) (axEx hG rfl) rfl (by decide) (by decide) rfl rfl WF_X14_33 ?_
    refine x_getFN (t := 11) (j := 5) (r := 223) (pc := 59) dX14_plan_59 (axH hG rfl) (axEx hG rfl) rfl (by decide) (by decide) rfl rfl NF_X14_228 ?_
    refine x_iload_n (pc := 62) dX14_plan_62 rfl ?_
    refine x_aload_n (pc := 63) dX14_plan_63 rfl ?_
    refine x_getF (t := 12) (j := 4) (r := 205) (pc := 64) dX14_plan_64 (axH hG rfl) (axEx hG rfl) rfl (by decide) (by decide) rfl rfl WF_X14_17 ?_
    refine x_aload_n (pc := 67) dX14_plan_67 rfl ?_
    refine x_getI (t := 12) (j := 7) (pc := 68) dX14_plan_68 (axEx hG rfl) rfl (by decide) (by decide) rfl WF_X14_129 ?_
    by_cases h105 : 0 ≤ (mI (mUI M103 222 (Int.toNat (fJ9_min_7cf53 M 16 (mI M 220 3))) v104) 203 7) ∧ (mI (mUI M103 222 (Int.toNat (fJ9_min_7cf53 M 16 (mI M 220 3))) v104) 203 7) < 402
    · replace hf := (if_pos h105).symm.trans hf
      refine x_iald2 (n := 402) (pc := 71) dX14_plan_71 (axEx hG rfl) rfl h105.1 h105.2 ?_
      refine x_iast2 (n := 17) (pc := 72) dX14_plan_72 (axEx hG rfl) rfl (by omega) (by omega) ?_
      refine x_aload_n (pc := 73) dX14_plan_73 rfl ?_
      refine x_getI (t := 12) (j := 8) (pc := 74) dX14_plan_74 (axEx hG rfl) rfl (by decide) (by decide) rfl WF_X14_125 ?_
      refine x_ifne (tgt := 99) (pc := 77) dX14_plan_77 rfl (fun h106 => ?_) (fun h106 => ?_)
      · replace hf := (if_neg h106).symm.trans hf
        refine x_aload_n (pc := 99) dX14_plan_99 rfl ?_
        obtain ⟨M135, r134, hf⟩ := bd1_some hf
        refine x_cv (vs := [vR 203]) (rest := []) (k := 0) rfl (by omega) (ax_caV (pc := 100) dX14_plan_100 kX14_wrong rfl rfl WM_X14_141 WI_X14_wrong WS_X14_wrong WN_X14 (ax_rcO (t := 12) (axEx hG rfl) rfl (by decide)) (Nat.le_of_ble_eq_true rfl)) kX14_wrong rfl True.intro (T_X14_wrong (by omega) hG r134) ?_
        cases hf
        exact x_retV (pc := 103) dX14_plan_103
      · replace hf := (if_pos h106).symm.trans hf
        refine x_aload_n (pc := 80) dX14_plan_80 rfl ?_
        refine x_getF (t := 12) (j := 4) (r := 205) (pc := 81) dX14_plan_81 (axH hG rfl) (axEx hG rfl) rfl (by decide) (by decide) rfl rfl WF_X14_17 ?_
        refine x_aload_n (pc := 84) dX14_plan_84 rfl ?_
        refine x_getI (t := 12) (j := 7) (pc := 85) dX14_plan_85 (axEx hG rfl) rfl (by decide) (by decide) rfl WF_X14_129 ?_
        by_cases h107 : 0 ≤ (mI (mUI (mUI M103 222 (Int.toNat (fJ9_min_7cf53 M 16 (mI M 220 3))) v104) 223 (Int.toNat (fJ9_min_7cf53 M 16 (mI M 220 3))) (mI (mUI M103 222 (Int.toNat (fJ9_min_7cf53 M 16 (mI M 220 3))) v104) 205 (Int.toNat (mI (mUI M103 222 (Int.toNat (fJ9_min_7cf53 M 16 (mI M 220 3))) v104) 203 7)))) 203 7) ∧ (mI (mUI (mUI M103 222 (Int.toNat (fJ9_min_7cf53 M 16 (mI M 220 3))) v104) 223 (Int.toNat (fJ9_min_7cf53 M 16 (mI M 220 3))) (mI (mUI M103 222 (Int.toNat (fJ9_min_7cf53 M 16 (mI M 220 3))) v104) 205 (Int.toNat (mI (mUI M103 222 (Int.toNat (fJ9_min_7cf53 M 16 (mI M 220 3))) v104) 203 7)))) 203 7) < 402
        · replace hf := (if_pos h107).symm.trans hf
          refine x_iald2 (n := 402) (pc := 88) dX14_plan_88 (axEx hG rfl) rfl h107.1 h107.2 ?_
          refine x_bipush (pc := 89) dX14_plan_89 (by decide) ⟨by decide, by decide⟩ ?_
          refine x_bipush (pc := 91) dX14_plan_91 (by decide) ⟨by decide, by decide⟩ ?_
          refine x_cr (v := vI (fX14_isIn (mUI (mUI M103 222 (Int.toNat (fJ9_min_7cf53 M 16 (mI M 220 3))) v104) 223 (Int.toNat (fJ9_min_7cf53 M 16 (mI M 220 3))) (mI (mUI M103 222 (Int.toNat (fJ9_min_7cf53 M 16 (mI M 220 3))) v104) 205 (Int.toNat (mI (mUI M103 222 (Int.toNat (fJ9_min_7cf53 M 16 (mI M 220 3))) v104) 203 7)))) (mI (mUI (mUI M103 222 (Int.toNat (fJ9_min_7cf53 M 16 (mI M 220 3))) v104) 223 (Int.toNat (fJ9_min_7cf53 M 16 (mI M 220 3))) (mI (mUI M103 222 (Int.toNat (fJ9_min_7cf53 M 16 (mI M 220 3))) v104) 205 (Int.toNat (mI (mUI M103 222 (Int.toNat (fJ9_min_7cf53 M 16 (mI M 220 3))) v104) 203 7)))) 205 (Int.toNat (mI (mUI (mUI M103 222 (Int.toNat (fJ9_min_7cf53 M 16 (mI M 220 3))) v104) 223 (Int.toNat (fJ9_min_7cf53 M 16 (mI M 220 3))) (mI (mUI M103 222 (Int.toNat (fJ9_min_7cf53 M 16 (mI M 220 3))) v104) 205 (Int.toNat (mI (mUI M103 222 (Int.toNat (fJ9_min_7cf53 M 16 (mI M 220 3))) v104) 203 7)))) 203 7))) 6 10)) (vs := [vI (mI (mUI (mUI M103 222 (Int.toNat (fJ9_min_7cf53 M 16 (mI M 220 3))) v104) 223 (Int.toNat (fJ9_min_7cf53 M 16 (mI M 220 3))) (mI (mUI M103 222 (Int.toNat (fJ9_min_7cf53 M 16 (mI M 220 3))) v104) 205 (Int.toNat (mI (mUI M103 222 (Int.toNat (fJ9_min_7cf53 M 16 (mI M 220 3))) v104) 203 7)))) 205 (Int.toNat (mI (mUI (mUI M103 222 (Int.toNat (fJ9_min_7cf53 M 16 (mI M 220 3))) v104) 223 (Int.toNat (fJ9_min_7cf53 M 16 (mI M 220 3))) (mI (mUI M103 222 (Int.toNat (fJ9_min_7cf53 M 16 (mI M 220 3))) v104) 205 (Int.toNat (mI (mUI M103 222 (Int.toNat (fJ9_min_7cf53 M 16 (mI M 220 3))) v104) 203 7)))) 203 7))), vI 6, vI 10]) (rest := []) (k := 0) rfl (by omega) (ax_caS (pc := 93) dX14_plan_93 kX14_isIn rfl rfl WM_X14_76 WT_X14_isIn WN_X14 (Nat.le_of_ble_eq_true rfl)) kX14_isIn rfl (Z_X14_isIn rfl) (T_X14_isIn (by omega) hG rfl) ?_
          refine x_ifne (tgt := 104) (pc := 96) dX14_plan_96 rfl (fun h108 => ?_) (fun h108 => ?_)
          · replace hf := (if_neg h108).symm.trans hf
            refine x_aload_n (pc := 104) dX14_plan_104 rfl ?_
            refine x_dup (pc := 105) dX14_plan_105 rfl ?_
            refine x_getI (t := 12) (j := 7) (pc := 106) dX14_plan_106 (axEx hG rfl) rfl (by decide) (by decide) rfl WF_X14_129 ?_
            refine x_iconst (pc := 109) dX14_plan_109 ⟨by decide, by decide⟩ ?_
            refine x_iadd (z := ((mI (mUI (mUI M103 222 (Int.toNat (fJ9_min_7cf53 M 16 (mI M 220 3))) v104) 223 (Int.toNat (fJ9_min_7cf53 M 16 (mI M 220 3))) (mI (mUI M103 222 (Int.toNat (fJ9_min_7cf53 M 16 (mI M 220 3))) v104) 205 (Int.toNat (mI (mUI M103 222 (Int.toNat (fJ9_min_7cf53 M 16 (mI M 220 3))) v104) 203 7)))) 203 7) + 1)) (pc := 110) dX14_plan_110 rfl (ax_i (by omega) (by omega)) ?_
            refine x_putI (t := 12) (j := 7) (pc := 111) dX14_plan_111 (axEx hG rfl) rfl (by decide) (by decide) rfl rfl WF_X14_129 ?_
            refine x_aload_n (pc := 114) dX14_plan_114 rfl ?_
            refine x_getF (t := 12) (j := 13) (r := 220) (pc := 115) dX14_plan_115 (axH hG rfl) (axEx hG rfl) rfl (by decide) (by decide) rfl rfl WF_X14_33 ?_
            refine x_getFN (t := 11) (j := 5) (r := 223) (pc := 118) dX14_plan_118 (axH hG rfl) (axEx hG rfl) rfl (by decide) (by decide) rfl rfl NF_X14_228 ?_
            refine x_iload_n (pc := 121) dX14_plan_121 rfl ?_
            refine x_iald2 (n := 17) (pc := 122) dX14_plan_122 (axEx hG rfl) rfl (by omega) (by omega) ?_
            refine x_bipush (pc := 123) dX14_plan_123 (by decide) ⟨by decide, by decide⟩ ?_
            refine x_icmpne (tgt := 160) (pc := 125) dX14_plan_125 rfl (fun h111 => ?_) (fun h111 => ?_)
            · replace hf := (if_neg h111).symm.trans hf
              refine x_aload_n (pc := 160) dX14_plan_160 rfl ?_
              refine x_getF (t := 12) (j := 13) (r := 220) (pc := 161) dX14_plan_161 (axH hG rfl) (axEx hG rfl) rfl (by decide) (by decide) rfl rfl WF_X14_33 ?_
              refine x_getFN (t := 11) (j := 10) (r := 228) (pc := 164) dX14_plan_164 (axH hG rfl) (axEx hG rfl) rfl (by decide) (by decide) rfl rfl NF_X14_237 ?_
              refine x_iload_n (pc := 167) dX14_plan_167 rfl ?_
              refine x_aload_n (pc := 168) dX14_plan_168 rfl ?_
              refine x_bipush (pc := 169) dX14_plan_169 (by decide) ⟨by decide, by decide⟩ ?_
              obtain ⟨v129, M128, r127, hf⟩ := bd2_some hf
              refine x_cr (v := vI v129) (vs := [vR 203, vI 11]) (rest := [vI (fJ9_min_7cf53 M 16 (mI M 220 3)), vR 228]) (k := 0) rfl (by omega) (ax_caV (pc := 171) dX14_plan_171 kX14_takes rfl rfl WM_X14_159 WI_X14_takes WS_X14_takes WN_X14 (ax_rcO (t := 12) (axEx hG rfl) rfl (by decide)) (Nat.le_of_ble_eq_true rfl)) kX14_takes rfl (Z_X14_takes r127) (T_X14_takes (by omega) hG r127) ?_
              refine x_ifeq (tgt := 184) (pc := 174) dX14_plan_174 rfl (fun h130 => ?_) (fun h130 => ?_)
              · replace hf := (if_pos h130).symm.trans hf
                refine x_iconst (pc := 184) dX14_plan_184 ⟨by decide, by decide⟩ ?_
                refine x_iast2 (n := 17) (pc := 185) dX14_plan_185 (axEx hG rfl) rfl (by omega) (by omega) ?_
                refine x_aload_n (pc := 186) dX14_plan_186 rfl ?_
                refine x_getF (t := 12) (j := 13) (r := 220) (pc := 187) dX14_plan_187 (axH hG rfl) (axEx hG rfl) rfl (by decide) (by decide) rfl rfl WF_X14_33 ?_
                refine x_getFN (t := 11) (j := 7) (r := 225) (pc := 190) dX14_plan_190 (axH hG rfl) (axEx hG rfl) rfl (by decide) (by decide) rfl rfl NF_X14_239 ?_
                refine x_iload_n (pc := 193) dX14_plan_193 rfl ?_
                refine x_aload_n (pc := 194) dX14_plan_194 rfl ?_
                refine x_getF (t := 12) (j := 13) (r := 220) (pc := 195) dX14_plan_195 (axH hG rfl) (axEx hG rfl) rfl (by decide) (by decide) rfl rfl WF_X14_33 ?_
                refine x_getIN (t := 11) (j := 11) (pc := 198) dX14_plan_198 (axEx hG rfl) rfl (by decide) (by decide) rfl NF_X14_147 ?_
                refine x_iast2 (n := 17) (pc := 201) dX14_plan_201 (axEx hG rfl) rfl (by omega) (by omega) ?_
                cases hf
                exact x_retV (pc := 202) dX14_plan_202
              · replace hf := (if_neg h130).symm.trans hf
                refine x_aload_n (pc := 177) dX14_plan_177 rfl ?_
                obtain ⟨v133, M132, r131, hf⟩ := bd2_some hf
                refine x_cr (v := vI v133) (vs := [vR 203]) (rest := [vI (fJ9_min_7cf53 M 16 (mI M 220 3)), vR 228]) (k := 1) rfl (by omega) (ax_caV (pc := 178) dX14_plan_178 kX14_test rfl rfl WM_X14_193 WI_X14_test WS_X14_test WN_X14 (ax_rcO (t := 12) (axEx hG rfl) rfl (by decide)) (Nat.le_of_ble_eq_true rfl)) kX14_test rfl True.intro ((TG15 hG 60).2.1 (d - 1) _ _ (by omega) r131) ?_
                refine x_goto (tgt := 185) (pc := 181) dX14_plan_181 rfl ?_
                refine x_iast2 (n := 17) (pc := 185) dX14_plan_185 (axEx hG rfl) rfl (by omega) (by omega) ?_
                refine x_aload_n (pc := 186) dX14_plan_186 rfl ?_
                refine x_getF (t := 12) (j := 13) (r := 220) (pc := 187) dX14_plan_187 (axH hG rfl) (axEx hG rfl) rfl (by decide) (by decide) rfl rfl WF_X14_33 ?_
                refine x_getFN (t := 11) (j := 7) (r := 225) (pc := 190) dX14_plan_190 (axH hG rfl) (axEx hG rfl) rfl (by decide) (by decide) rfl rfl NF_X14_239 ?_
                refine x_iload_n (pc := 193) dX14_plan_193 rfl ?_
                refine x_aload_n (pc := 194) dX14_plan_194 rfl ?_
                refine x_getF (t := 12) (j := 13) (r := 220) (pc := 195) dX14_plan_195 (axH hG rfl) (axEx hG rfl) rfl (by decide) (by decide) rfl rfl WF_X14_33 ?_
                refine x_getIN (t := 11) (j := 11) (pc := 198) dX14_plan_198 (axEx hG rfl) rfl (by decide) (by decide) rfl NF_X14_147 ?_
                refine x_iast2 (n := 17) (pc := 201) dX14_plan_201 (axEx hG rfl) rfl (by omega) (by omega) ?_
                cases hf
                exact x_retV (pc := 202) dX14_plan_202
            · replace hf := (if_pos h111).symm.trans hf
              refine x_aload_n (pc := 128) dX14_plan_128 rfl ?_
              refine x_getF (t := 12) (j := 13) (r := 220) (pc := 129) dX14_plan_129 (axH hG rfl) (axEx hG rfl) rfl (by decide) (by decide) rfl rfl WF_X14_33 ?_
              refine x_getFN (t := 11) (j := 8) (r := 226) (pc := 132) dX14_plan_132 (axH hG rfl) (axEx hG rfl) rfl (by decide) (by decide) rfl rfl NF_X14_231 ?_
              refine x_iload_n (pc := 135) dX14_plan_135 rfl ?_
              refine x_aload_n (pc := 136) dX14_plan_136 rfl ?_
              obtain ⟨v114, M113, r112, hf⟩ := bd2_some hf
              refine x_cr (v := vI v114) (vs := [vR 203]) (rest := [vI (fJ9_min_7cf53 M 16 (mI M 220 3)), vR 226]) (k := 2) rfl (by omega) (ax_caV (pc := 137) dX14_plan_137 kX14_sum rfl rfl WM_X14_169 WI_X14_sum WS_X14_sum WN_X14 (ax_rcO (t := 12) (axEx hG rfl) rfl (by decide)) (Nat.le_of_ble_eq_true rfl)) kX14_sum rfl True.intro ((TG14 hG 60).2.2.1 (d - 1) _ _ (by omega) r112) ?_
              refine x_iast2 (n := 17) (pc := 140) dX14_plan_140 (axEx hG rfl) rfl (by omega) (by omega) ?_
              refine x_aload_n (pc := 141) dX14_plan_141 rfl ?_
              refine x_bipush (pc := 142) dX14_plan_142 (by decide) ⟨by decide, by decide⟩ ?_
              obtain ⟨M116, r115, hf⟩ := bd1_some hf
              refine x_cv (vs := [vR 203, vI 54]) (rest := []) (k := 0) rfl (by omega) (ax_caV (pc := 144) dX14_plan_144 kX14_take rfl rfl WM_X14_162 WI_X14_take WS_X14_take WN_X14 (ax_rcO (t := 12) (axEx hG rfl) rfl (by decide)) (Nat.le_of_ble_eq_true rfl)) kX14_take rfl True.intro (T_X14_take (by omega) hG r115) ?_
              refine x_aload_n (pc := 147) dX14_plan_147 rfl ?_
              refine x_getF (t := 12) (j := 13) (r := 220) (pc := 148) dX14_plan_148 (axH hG rfl) (axEx hG rfl) rfl (by decide) (by decide) rfl rfl WF_X14_33 ?_
              refine x_getFN (t := 11) (j := 9) (r := 227) (pc := 151) dX14_plan_151 (axH hG rfl) (axEx hG rfl) rfl (by decide) (by decide) rfl rfl NF_X14_234 ?_
              refine x_iload_n (pc := 154) dX14_plan_154 rfl ?_
              refine x_aload_n (pc := 155) dX14_plan_155 rfl ?_
              obtain ⟨v119, M118, r117, hf⟩ := bd2_some hf
              refine x_cr (v := vI v119) (vs := [vR 203]) (rest := [vI (fJ9_min_7cf53 M 16 (mI M 220 3)), vR 227]) (k := 2) rfl (by omega) (ax_caV (pc := 156) dX14_plan_156 kX14_sum rfl rfl WM_X14_169 WI_X14_sum WS_X14_sum WN_X14 (ax_rcO (t := 12) (axEx hG rfl) rfl (by decide)) (Nat.le_of_ble_eq_true rfl)) kX14_sum rfl True.intro ((TG14 hG 60).2.2.1 (d - 1) _ _ (by omega) r117) ?_
              refine x_iast2 (n := 17) (pc := 159) dX14_plan_159 (axEx hG rfl) rfl (by omega) (by omega) ?_
              refine x_aload_n (pc := 160) dX14_plan_160 rfl ?_
              refine x_getF (t := 12) (j := 13) (r := 220) (pc := 161) dX14_plan_161 (axH hG rfl) (axEx hG rfl) rfl (by decide) (by decide) rfl rfl WF_X14_33 ?_
              refine x_getFN (t := 11) (j := 10) (r := 228) (pc := 164) dX14_plan_164 (axH hG rfl) (axEx hG rfl) rfl (by decide) (by decide) rfl rfl NF_X14_237 ?_
              refine x_iload_n (pc := 167) dX14_plan_167 rfl ?_
              refine x_aload_n (pc := 168) dX14_plan_168 rfl ?_
              refine x_bipush (pc := 169) dX14_plan_169 (by decide) ⟨by decide, by decide⟩ ?_
              obtain ⟨v122, M121, r120, hf⟩ := bd2_some hf
              refine x_cr (v := vI v122) (vs := [vR 203, vI 11]) (rest := [vI (fJ9_min_7cf53 M 16 (mI M 220 3)), vR 228]) (k := 0) rfl (by omega) (ax_caV (pc := 171) dX14_plan_171 kX14_takes rfl rfl WM_X14_159 WI_X14_takes WS_X14_takes WN_X14 (ax_rcO (t := 12) (axEx hG rfl) rfl (by decide)) (Nat.le_of_ble_eq_true rfl)) kX14_takes rfl (Z_X14_takes r120) (T_X14_takes (by omega) hG r120) ?_
              refine x_ifeq (tgt := 184) (pc := 174) dX14_plan_174 rfl (fun h123 => ?_) (fun h123 => ?_)
              · replace hf := (if_pos h123).symm.trans hf
                refine x_iconst (pc := 184) dX14_plan_184 ⟨by decide, by decide⟩ ?_
                refine x_iast2 (n := 17) (pc := 185) dX14_plan_185 (axEx hG rfl) rfl (by omega) (by omega) ?_
                refine x_aload_n (pc := 186) dX14_plan_186 rfl ?_
                refine x_getF (t := 12) (j := 13) (r := 220) (pc := 187) dX14_plan_187 (axH hG rfl) (axEx hG rfl) rfl (by decide) (by decide) rfl rfl WF_X14_33 ?_
                refine x_getFN (t := 11) (j := 7) (r := 225) (pc := 190) dX14_plan_190 (axH hG rfl) (axEx hG rfl) rfl (by decide) (by decide) rfl rfl NF_X14_239 ?_
                refine x_iload_n (pc := 193) dX14_plan_193 rfl ?_
                refine x_aload_n (pc := 194) dX14_plan_194 rfl ?_
                refine x_getF (t := 12) (j := 13) (r := 220) (pc := 195) dX14_plan_195 (axH hG rfl) (axEx hG rfl) rfl (by decide) (by decide) rfl rfl WF_X14_33 ?_
                refine x_getIN (t := 11) (j := 11) (pc := 198) dX14_plan_198 (axEx hG rfl) rfl (by decide) (by decide) rfl NF_X14_147 ?_
                refine x_iast2 (n := 17) (pc := 201) dX14_plan_201 (axEx hG rfl) rfl (by omega) (by omega) ?_
                cases hf
                exact x_retV (pc := 202) dX14_plan_202
              · replace hf := (if_neg h123).symm.trans hf
                refine x_aload_n (pc := 177) dX14_plan_177 rfl ?_
                obtain ⟨v126, M125, r124, hf⟩ := bd2_some hf
                refine x_cr (v := vI v126) (vs := [vR 203]) (rest := [vI (fJ9_min_7cf53 M 16 (mI M 220 3)), vR 228]) (k := 1) rfl (by omega) (ax_caV (pc := 178) dX14_plan_178 kX14_test rfl rfl WM_X14_193 WI_X14_test WS_X14_test WN_X14 (ax_rcO (t := 12) (axEx hG rfl) rfl (by decide)) (Nat.le_of_ble_eq_true rfl)) kX14_test rfl True.intro ((TG15 hG 60).2.1 (d - 1) _ _ (by omega) r124) ?_
                refine x_goto (tgt := 185) (pc := 181) dX14_plan_181 rfl ?_
                refine x_iast2 (n := 17) (pc := 185) dX14_plan_185 (axEx hG rfl) rfl (by omega) (by omega) ?_
                refine x_aload_n (pc := 186) dX14_plan_186 rfl ?_
                refine x_getF (t := 12) (j := 13) (r := 220) (pc := 187) dX14_plan_187 (axH hG rfl) (axEx hG rfl) rfl (by decide) (by decide) rfl rfl WF_X14_33 ?_
                refine x_getFN (t := 11) (j := 7) (r := 225) (pc := 190) dX14_plan_190 (axH hG rfl) (axEx hG rfl) rfl (by decide) (by decide) rfl rfl NF_X14_239 ?_
                refine x_iload_n (pc := 193) dX14_plan_193 rfl ?_
                refine x_aload_n (pc := 194) dX14_plan_194 rfl ?_
                refine x_getF (t := 12) (j := 13) (r := 220) (pc := 195) dX14_plan_195 (axH hG rfl) (axEx hG rfl) rfl (by decide) (by decide) rfl rfl WF_X14_33 ?_
                refine x_getIN (t := 11) (j := 11) (pc := 198) dX14_plan_198 (axEx hG rfl) rfl (by decide) (by decide) rfl NF_X14_147 ?_
                refine x_iast2 (n := 17) (pc := 201) dX14_plan_201 (axEx hG rfl) rfl (by omega) (by omega) ?_
                cases hf
                exact x_retV (pc := 202) dX14_plan_202
          · replace hf := (if_pos h108).symm.trans hf
            refine x_aload_n (pc := 99) dX14_plan_99 rfl ?_
            obtain ⟨M110, r109, hf⟩ := bd1_some hf
            refine x_cv (vs := [vR 203]) (rest := []) (k := 0) rfl (by omega) (ax_caV (pc := 100) dX14_plan_100 kX14_wrong rfl rfl WM_X14_141 WI_X14_wrong WS_X14_wrong WN_X14 (ax_rcO (t := 12) (axEx hG rfl) rfl (by decide)) (Nat.le_of_ble_eq_true rfl)) kX14_wrong rfl True.intro (T_X14_wrong (by omega) hG r109) ?_
            cases hf
            exact x_retV (pc := 103) dX14_plan_103
        · replace hf := (if_neg h107).symm.trans hf
          cases hf
    · replace hf := (if_neg h105).symm.trans hf
      cases hf
  · replace hf := (if_neg h101).symm.trans hf
    cases hf
/- HexPondModel.game()V -/
def fX14_game_b12 (M : ax_M) : Option (ax_M ⊕ ax_M) :=
  (if (mI M 203 8) = 0 then (if 0 ≤ (mI M 203 7) ∧ (mI M 203 7) < 402 then (if (mI M 205 (Int.toNat (mI M 203 7))) = 33 then (some (.inr M)) else (bd1 (fX14_is M 3) fun v109 => (if v109 = 0 then (bd2 (fX14_takes M 2) fun v113 M112 => (if v113 = 0 then (bd2 (fX14_takes M112 3) fun v117 M116 => (if v117 = 0 then (bd1 (fX14_wrong M116) fun M120 => (bd1 (fX14_take M120 53) fun M122 => (some (.inl M122)))) else (bd1 (fX14_plan M116) fun M124 => (bd1 (fX14_take M124 53) fun M126 => (some (.inl M126)))))) else (bd1 (fX14_stone M112) fun M128 => (bd1 (fX14_take M128 53) fun M130 => (some (.inl M130)))))) else (if (mI M 220 3) = 16 then (bd1 (fX14_mark M 4) fun M133 => (bd2 (fX14_takes M133 2) fun v136 M135 => (if v136 = 0 then (bd2 (fX14_takes M135 3) fun v140 M139 => (if v140 = 0 then (bd1 (fX14_wrong M139) fun M143 => (bd1 (fX14_take M143 53) fun M145 => (some (.inl M145)))) else (bd1 (fX14_plan M139) fun M147 => (bd1 (fX14_take M147 53) fun M149 => (some (.inl M149)))))) else (bd1 (fX14_stone M135) fun M151 => (bd1 (fX14_take M151 53) fun M153 => (some (.inl M153))))))) else (bd2 (fX14_takes M 2) fun v156 M155 => (if v156 = 0 then (bd2 (fX14_takes M155 3) fun v160 M159 => (if v160 = 0 then (bd1 (fX14_wrong M159) fun M163 => (bd1 (fX14_take M163 53) fun M165 => (some (.inl M165)))) else (bd1 (fX14_plan M159) fun M167 => (bd1 (fX14_take M167 53) fun M169 => (some (.inl M169)))))) else (bd1 (fX14_stone M155) fun M171 => (bd1 (fX14_take M171 53) fun M173 => (some (.inl M173)))))))))) else none) else (some (.inr M)))
def fX14_game (M : ax_M) : Option ax_M :=
  (bd2 (fX14_takes M 0) fun v103 M102 => (if v103 = 0 then (bd1 (lp (fun s => fX14_game_b12 s) lpN M102) fun t174 => (some t174)) else (bd1 (fX14_pond M102) fun M177 => (bd1 (lp (fun s => fX14_game_b12 s) lpN M177) fun t178 => (some t178)))))
theorem B_X14_game_12 {G : ax_G} {d : Nat} (hd : 142 ≤ d) (hG : axPs G 150 244) {M : ax_M} {o : Option ax_V ⊕ String} {M' : ax_M} {y : ax_M ⊕ ax_M} (hf : fX14_game_b12 M = some y) (h1 : ∀ s', y = .inl s' → ax_Ex G tX14_game d 12 [some (vR 203)] [] s' o M') (h2a : ∀ t, y = .inr t → ax_Ex G tX14_game d 101 [some (vR 203)] [] t o M') : ax_Ex G tX14_game d 12 [some (vR 203)] [] M o M' := by
  unfold fX14_game_b12 at hf
  refine x_aload_n (pc := 12) dX14_game_12 rfl ?_
  refine x_getI (t := 12) (j := 8) (pc := 13) dX14_game_13 (axEx hG rfl) rfl (by decide) (by decide) rfl WF_X14_125 ?_
  refine x_ifne (tgt := 101) (pc := 16) dX14_game_16 rfl (fun h105 => ?_) (fun h105 => ?_)
  · replace hf := (if_neg h105).symm.trans hf
    cases hf
    exact h2a _ rfl
  · replace hf := (if_pos h105).symm.trans hf
    refine x_aload_n (pc := 19) dX14_game_19 rfl ?_
    refine x_getF (t := 12) (j := 4) (r := 205) (pc := 20) dX14_game_20 (axH hG rfl) (axEx hG rfl) rfl (by decide) (by decide) rfl rfl WF_X14_17 ?_
    refine x_aload_n (pc := 23) dX14_game_23 rfl ?_
    refine x_getI (t := 12) (j := 7) (pc := 24) dX14_game_24 (axEx hG rfl) rfl (by decide) (by decide) rfl WF_X14_129 ?_
    by_cases h106 : 0 ≤ (mI M 203 7) ∧ (mI M 203 7) < 402
    · replace hf := (if_pos h106).symm.trans hf
      refine x_iald2 (n := 402) (pc := 27) dX14_game_27 (axEx hG rfl) rfl h106.1 h106.2 ?_
      refine x_bipush (pc := 28) dX14_game_28 (by decide) ⟨by decide, by decide⟩ ?_
      refine x_icmpeq (tgt := 101) (pc := 30) dX14_game_30 rfl (fun h107 => ?_) (fun h107 => ?_)
      · replace hf := (if_pos h107).symm.trans hf
        cases hf
        exact h2a _ rfl
      · replace hf := (if_neg h107).symm.trans hf
        refine x_aload_n (pc := 33) dX14_game_33 rfl ?_
        refine x_iconst (pc := 34) dX14_game_34 ⟨by decide, by decide⟩ ?_
        obtain ⟨v109, r108, hf⟩ := bd1_some hf
        refine x_cr (v := vI v109) (vs := [vR 203, vI 3]) (rest := []) (k := 0) rfl (by omega) (ax_caV (pc := 35) dX14_game_35 kX14_is rfl rfl WM_X14_138 WI_X14_is WS_X14_is WN_X14 (ax_rcO (t := 12) (axEx hG rfl) rfl (by decide)) (Nat.le_of_ble_eq_true rfl)) kX14_is rfl (Z_X14_is r108) (T_X14_is (by omega) hG r108) ?_
        refine x_ifeq (tgt := 58) (pc := 38) dX14_game_38 rfl (fun h110 => ?_) (fun h110 => ?_)
        · replace hf := (if_pos h110).symm.trans hf
          refine x_aload_n (pc := 58) dX14_game_58 rfl ?_
          refine x_iconst (pc := 59) dX14_game_59 ⟨by decide, by decide⟩ ?_
          obtain ⟨v113, M112, r111, hf⟩ := bd2_some hf
          refine x_cr (v := vI v113) (vs := [vR 203, vI 2]) (rest := []) (k := 0) rfl (by omega) (ax_caV (pc := 60) dX14_game_60 kX14_takes rfl rfl WM_X14_159 WI_X14_takes WS_X14_takes WN_X14 (ax_rcO (t := 12) (axEx hG rfl) rfl (by decide)) (Nat.le_of_ble_eq_true rfl)) kX14_takes rfl (Z_X14_takes r111) (T_X14_takes (by omega) hG r111) ?_
          refine x_ifeq (tgt := 73) (pc := 63) dX14_game_63 rfl (fun h114 => ?_) (fun h114 => ?_)
          · replace hf := (if_pos h114).symm.trans hf
            refine x_aload_n (pc := 73) dX14_game_73 rfl ?_
            refine x_iconst (pc := 74) dX14_game_74 ⟨by decide, by decide⟩ ?_
            obtain ⟨v117, M116, r115, hf⟩ := bd2_some hf
            refine x_cr (v := vI v117) (vs := [vR 203, vI 3]) (rest := []) (k := 0) rfl (by omega) (ax_caV (pc := 75) dX14_game_75 kX14_takes rfl rfl WM_X14_159 WI_X14_takes WS_X14_takes WN_X14 (ax_rcO (t := 12) (axEx hG rfl) rfl (by decide)) (Nat.le_of_ble_eq_true rfl)) kX14_takes rfl (Z_X14_takes r115) (T_X14_takes (by omega) hG r115) ?_
            refine x_ifeq (tgt := 88) (pc := 78) dX14_game_78 rfl (fun h118 => ?_) (fun h118 => ?_)
            · replace hf := (if_pos h118).symm.trans hf
              refine x_aload_n (pc := 88) dX14_game_88 rfl ?_
              obtain ⟨M120, r119, hf⟩ := bd1_some hf
              refine x_cv (vs := [vR 203]) (rest := []) (k := 0) rfl (by omega) (ax_caV (pc := 89) dX14_game_89 kX14_wrong rfl rfl WM_X14_141 WI_X14_wrong WS_X14_wrong WN_X14 (ax_rcO (t := 12) (axEx hG rfl) rfl (by decide)) (Nat.le_of_ble_eq_true rfl)) kX14_wrong rfl True.intro (T_X14_wrong (by omega) hG r119) ?_
              refine x_aload_n (pc := 92) dX14_game_92 rfl ?_
              refine x_bipush (pc := 93) dX14_game_93 (by decide) ⟨by decide, by decide⟩ ?_
              obtain ⟨M122, r121, hf⟩ := bd1_some hf
              refine x_cv (vs := [vR 203, vI 53]) (rest := []) (k := 0) rfl (by omega) (ax_caV (pc := 95) dX14_game_95 kX14_take rfl rfl WM_X14_162 WI_X14_take WS_X14_take WN_X14 (ax_rcO (t := 12) (axEx hG rfl) rfl (by decide)) (Nat.le_of_ble_eq_true rfl)) kX14_take rfl True.intro (T_X14_take (by omega) hG r121) ?_
              refine x_goto (tgt := 12) (pc := 98) dX14_game_98 rfl ?_
              cases hf
              exact h1 _ rfl
            · replace hf := (if_neg h118).symm.trans hf
              refine x_aload_n (pc := 81) dX14_game_81 rfl ?_
              obtain ⟨M124, r123, hf⟩ := bd1_some hf
              refine x_cv (vs := [vR 203]) (rest := []) (k := 1) rfl (by omega) (ax_caV (pc := 82) dX14_game_82 kX14_plan rfl rfl WM_X14_247 WI_X14_plan WS_X14_plan WN_X14 (ax_rcO (t := 12) (axEx hG rfl) rfl (by decide)) (Nat.le_of_ble_eq_true rfl)) kX14_plan rfl True.intro (T_X14_plan (by omega) hG r123) ?_
              refine x_goto (tgt := 92) (pc := 85) dX14_game_85 rfl ?_
              refine x_aload_n (pc := 92) dX14_game_92 rfl ?_
              refine x_bipush (pc := 93) dX14_game_93 (by decide) ⟨by decide, by decide⟩ ?_
              obtain ⟨M126, r125, hf⟩ := bd1_some hf
              refine x_cv (vs := [vR 203, vI 53]) (rest := []) (k := 0) rfl (by omega) (ax_caV (pc := 95) dX14_game_95 kX14_take rfl rfl WM_X14_162 WI_X14_take WS_X14_take WN_X14 (ax_rcO (t := 12) (axEx hG rfl) rfl (by decide)) (Nat.le_of_ble_eq_true rfl)) kX14_take rfl True.intro (T_X14_take (by omega) hG r125) ?_
              refine x_goto (tgt := 12) (pc := 98) dX14_game_98 rfl ?_
              cases hf
              exact h1 _ rfl
          · replace hf := (if_neg h114).symm.trans hf
            refine x_aload_n (pc := 66) dX14_game_66 rfl ?_
            obtain ⟨M128, r127, hf⟩ := bd1_some hf
            refine x_cv (vs := [vR 203]) (rest := []) (k := 3) rfl (by omega) (ax_caV (pc := 67) dX14_game_67 kX14_stone rfl rfl WM_X14_245 WI_X14_stone WS_X14_stone WN_X14 (ax_rcO (t := 12) (axEx hG rfl) rfl (by decide)) (Nat.le_of_ble_eq_true rfl)) kX14_stone rfl True.intro (T_X14_stone (by omega) hG r127) ?_
            refine x_goto (tgt := 92) (pc := 70) dX14_game_70 rfl ?_
            refine x_aload_n (pc := 92) dX14_game_92 rfl ?_
            refine x_bipush (pc := 93) dX14_game_93 (by decide) ⟨by decide, by decide⟩ ?_
            obtain ⟨M130, r129, hf⟩ := bd1_some hf
            refine x_cv (vs := [vR 203, vI 53]) (rest := []) (k := 0) rfl (by omega) (ax_caV (pc := 95) dX14_game_95 kX14_take rfl rfl WM_X14_162 WI_X14_take WS_X14_take WN_X14 (ax_rcO (t := 12) (axEx hG rfl) rfl (by decide)) (Nat.le_of_ble_eq_true rfl)) kX14_take rfl True.intro (T_X14_take (by omega) hG r129) ?_
            refine x_goto (tgt := 12) (pc := 98) dX14_game_98 rfl ?_
            cases hf
            exact h1 _ rfl
        · replace hf := (if_neg h110).symm.trans hf
          refine x_aload_n (pc := 41) dX14_game_41 rfl ?_
          refine x_getF (t := 12) (j := 13) (r := 220) (pc := 42) dX14_game_42 (axH hG rfl) (axEx hG rfl) rfl (by decide) (by decide) rfl rfl WF_X14_33 ?_
          refine x_getIN (t := 11) (j := 3) (pc := 45) dX14_game_45 (axEx hG rfl) rfl (by decide) (by decide) rfl NF_X14_215 ?_
          refine x_bipush (pc := 48) dX14_game_48 (by decide) ⟨by decide, by decide⟩ ?_
          refine x_icmpne (tgt := 58) (pc := 50) dX14_game_50 rfl (fun h131 => ?_) (fun h131 => ?_)
          · replace hf := (if_neg h131).symm.trans hf
            refine x_aload_n (pc := 58) dX14_game_58 rfl ?_
            refine x_iconst (pc := 59) dX14_game_59 ⟨by decide, by decide⟩ ?_
            obtain ⟨v156, M155, r154, hf⟩ := bd2_some hf
            refine x_cr (v := vI v156) (vs := [vR 203, vI 2]) (rest := []) (k := 0) rfl (by omega) (ax_caV (pc := 60) dX14_game_60 kX14_takes rfl rfl WM_X14_159 WI_X14_takes WS_X14_takes WN_X14 (ax_rcO (t := 12) (axEx hG rfl) rfl (by decide)) (Nat.le_of_ble_eq_true rfl)) kX14_takes rfl (Z_X14_takes r154) (T_X14_takes (by omega) hG r154) ?_
            refine x_ifeq (tgt := 73) (pc := 63) dX14_game_63 rfl (fun h157 => ?_) (fun h157 => ?_)
            · replace hf := (if_pos h157).symm.trans hf
              refine x_aload_n (pc := 73) dX14_game_73 rfl ?_
              refine x_iconst (pc := 74) dX14_game_74 ⟨by decide, by decide⟩ ?_
              obtain ⟨v160, M159, r158, hf⟩ := bd2_some hf
              refine x_cr (v := vI v160) (vs := [vR 203, vI 3]) (rest := []) (k := 0) rfl (by omega) (ax_caV (pc := 75) dX14_game_75 kX14_takes rfl rfl WM_X14_159 WI_X14_takes WS_X14_takes WN_X14 (ax_rcO (t := 12) (axEx hG rfl) rfl (by decide)) (Nat.le_of_ble_eq_true rfl)) kX14_takes rfl (Z_X14_takes r158) (T_X14_takes (by omega) hG r158) ?_
              refine x_ifeq (tgt := 88) (pc := 78) dX14_game_78 rfl (fun h161 => ?_) (fun h161 => ?_)
              · replace hf := (if_pos h161).symm.trans hf
                refine x_aload_n (pc := 88) dX14_game_88 rfl ?_
                obtain ⟨M163, r162, hf⟩ := bd1_some hf
                refine x_cv (vs := [vR 203]) (rest := []) (k := 0) rfl (by omega) (ax_caV (pc := 89) dX14_game_89 kX14_wrong rfl rfl WM_X14_141 WI_X14_wrong WS_X14_wrong WN_X14 (ax_rcO (t := 12) (axEx hG rfl) rfl (by decide)) (Nat.le_of_ble_eq_true rfl)) kX14_wrong rfl True.intro (T_X14_wrong (by omega) hG r162) ?_
                refine x_aload_n (pc := 92) dX14_game_92 rfl ?_
                refine x_bipush (pc := 93) dX14_game_93 (by decide) ⟨by decide, by decide⟩ ?_
                obtain ⟨M165, r164, hf⟩ := bd1_some hf
                refine x_cv (vs := [vR 203, vI 53]) (rest := []) (k := 0) rfl (by omega) (ax_caV (pc := 95) dX14_game_95 kX14_take rfl rfl WM_X14_162 WI_X14_take WS_X14_take WN_X14 (ax_rcO (t := 12) (axEx hG rfl) rfl (by decide)) (Nat.le_of_ble_eq_true rfl)) kX14_take rfl True.intro (T_X14_take (by omega) hG r164) ?_
                refine x_goto (tgt := 12) (pc := 98) dX14_game_98 rfl ?_
                cases hf
                exact h1 _ rfl
              · replace hf := (if_neg h161).symm.trans hf
                refine x_aload_n (pc := 81) dX14_game_81 rfl ?_
                obtain ⟨M167, r166, hf⟩ := bd1_some hf
                refine x_cv (vs := [vR 203]) (rest := []) (k := 1) rfl (by omega) (ax_caV (pc := 82) dX14_game_82 kX14_plan rfl rfl WM_X14_247 WI_X14_plan WS_X14_plan WN_X14 (ax_rcO (t := 12) (axEx hG rfl) rfl (by decide)) (Nat.le_of_ble_eq_true rfl)) kX14_plan rfl True.intro (T_X14_plan (by omega) hG r166) ?_
                refine x_goto (tgt := 92) (pc := 85) dX14_game_85 rfl ?_
                refine x_aload_n (pc := 92) dX14_game_92 rfl ?_
                refine x_bipush (pc := 93) dX14_game_93 (by decide) ⟨by decide, by decide⟩ ?_
                obtain ⟨M169, r168, hf⟩ := bd1_some hf
                refine x_cv (vs := [vR 203, vI 53]) (rest := []) (k := 0) rfl (by omega) (ax_caV (pc := 95) dX14_game_95 kX14_take rfl rfl WM_X14_162 WI_X14_take WS_X14_take WN_X14 (ax_rcO (t := 12) (axEx hG rfl) rfl (by decide)) (Nat.le_of_ble_eq_true rfl)) kX14_take rfl True.intro (T_X14_take (by omega) hG r168) ?_
                refine x_goto (tgt := 12) (pc := 98) dX14_game_98 rfl ?_
                cases hf
                exact h1 _ rfl
            · replace hf := (if_neg h157).symm.trans hf
              refine x_aload_n (pc := 66) dX14_game_66 rfl ?_
              obtain ⟨M171, r170, hf⟩ := bd1_some hf
              refine x_cv (vs := [vR 203]) (rest := []) (k := 3) rfl (by omega) (ax_caV (pc := 67) dX14_game_67 kX14_stone rfl rfl WM_X14_245 WI_X14_stone WS_X14_stone WN_X14 (ax_rcO (t := 12) (axEx hG rfl) rfl (by decide)) (Nat.le_of_ble_eq_true rfl)) kX14_stone rfl True.intro (T_X14_stone (by omega) hG r170) ?_
              refine x_goto (tgt := 92) (pc := 70) dX14_game_70 rfl ?_
              refine x_aload_n (pc := 92) dX14_game_92 rfl ?_
              refine x_bipush (pc := 93) dX14_game_93 (by decide) ⟨by decide, by decide⟩ ?_
              obtain ⟨M173, r172, hf⟩ := bd1_some hf
              refine x_cv (vs := [vR 203, vI 53]) (rest := []) (k := 0) rfl (by omega) (ax_caV (pc := 95) dX14_game_95 kX14_take rfl rfl WM_X14_162 WI_X14_take WS_X14_take WN_X14 (ax_rcO (t := 12) (axEx hG rfl) rfl (by decide)) (Nat.le_of_ble_eq_true rfl)) kX14_take rfl True.intro (T_X14_take (by omega) hG r172) ?_
              refine x_goto (tgt := 12) (pc := 98) dX14_game_98 rfl ?_
              cases hf
              exact h1 _ rfl
          · replace hf := (if_pos h131).symm.trans hf
            refine x_aload_n (pc := 53) dX14_game_53 rfl ?_
            refine x_iconst (pc := 54) dX14_game_54 ⟨by decide, by decide⟩ ?_
            obtain ⟨M133, r132, hf⟩ := bd1_some hf
            refine x_cv (vs := [vR 203, vI 4]) (rest := []) (k := 0) rfl (by omega) (ax_caV (pc := 55) dX14_game_55 kX14_mark rfl rfl WM_X14_202 WI_X14_mark WS_X14_mark WN_X14 (ax_rcO (t := 12) (axEx hG rfl) rfl (by decide)) (Nat.le_of_ble_eq_true rfl)) kX14_mark rfl True.intro (T_X14_mark (by omega) hG r132) ?_
            refine x_aload_n (pc := 58) dX14_game_58 rfl ?_
            refine x_iconst (pc := 59) dX14_game_59 ⟨by decide, by decide⟩ ?_
            obtain ⟨v136, M135, r134, hf⟩ := bd2_some hf
            refine x_cr (v := vI v136) (vs := [vR 203, vI 2]) (rest := []) (k := 0) rfl (by omega) (ax_caV (pc := 60) dX14_game_60 kX14_takes rfl rfl WM_X14_159 WI_X14_takes WS_X14_takes WN_X14 (ax_rcO (t := 12) (axEx hG rfl) rfl (by decide)) (Nat.le_of_ble_eq_true rfl)) kX14_takes rfl (Z_X14_takes r134) (T_X14_takes (by omega) hG r134) ?_
            refine x_ifeq (tgt := 73) (pc := 63) dX14_game_63 rfl (fun h137 => ?_) (fun h137 => ?_)
            · replace hf := (if_pos h137).symm.trans hf
              refine x_aload_n (pc := 73) dX14_game_73 rfl ?_
              refine x_iconst (pc := 74) dX14_game_74 ⟨by decide, by decide⟩ ?_
              obtain ⟨v140, M139, r138, hf⟩ := bd2_some hf
              refine x_cr (v := vI v140) (vs := [vR 203, vI 3]) (rest := []) (k := 0) rfl (by omega) (ax_caV (pc := 75) dX14_game_75 kX14_takes rfl rfl WM_X14_159 WI_X14_takes WS_X14_takes WN_X14 (ax_rcO (t := 12) (axEx hG rfl) rfl (by decide)) (Nat.le_of_ble_eq_true rfl)) kX14_takes rfl (Z_X14_takes r138) (T_X14_takes (by omega) hG r138) ?_
              refine x_ifeq (tgt := 88) (pc := 78) dX14_game_78 rfl (fun h141 => ?_) (fun h141 => ?_)
              · replace hf := (if_pos h141).symm.trans hf
                refine x_aload_n (pc := 88) dX14_game_88 rfl ?_
                obtain ⟨M143, r142, hf⟩ := bd1_some hf
                refine x_cv (vs := [vR 203]) (rest := []) (k := 0) rfl (by omega) (ax_caV (pc := 89) dX14_game_89 kX14_wrong rfl rfl WM_X14_141 WI_X14_wrong WS_X14_wrong WN_X14 (ax_rcO (t := 12) (axEx hG rfl) rfl (by decide)) (Nat.le_of_ble_eq_true rfl)) kX14_wrong rfl True.intro (T_X14_wrong (by omega) hG r142) ?_
                refine x_aload_n (pc := 92) dX14_game_92 rfl ?_
                refine x_bipush (pc := 93) dX14_game_93 (by decide) ⟨by decide, by decide⟩ ?_
                obtain ⟨M145, r144, hf⟩ := bd1_some hf
                refine x_cv (vs := [vR 203, vI 53]) (rest := []) (k := 0) rfl (by omega) (ax_caV (pc := 95) dX14_game_95 kX14_take rfl rfl WM_X14_162 WI_X14_take WS_X14_take WN_X14 (ax_rcO (t := 12) (axEx hG rfl) rfl (by decide)) (Nat.le_of_ble_eq_true rfl)) kX14_take rfl True.intro (T_X14_take (by omega) hG r144) ?_
                refine x_goto (tgt := 12) (pc := 98) dX14_game_98 rfl ?_
                cases hf
                exact h1 _ rfl
              · replace hf := (if_neg h141).symm.trans hf
                refine x_aload_n (pc := 81) dX14_game_81 rfl ?_
                obtain ⟨M147, r146, hf⟩ := bd1_some hf
                refine x_cv (vs := [vR 203]) (rest := []) (k := 1) rfl (by omega) (ax_caV (pc := 82) dX14_game_82 kX14_plan rfl rfl WM_X14_247 WI_X14_plan WS_X14_plan WN_X14 (ax_rcO (t := 12) (axEx hG rfl) rfl (by decide)) (Nat.le_of_ble_eq_true rfl)) kX14_plan rfl True.intro (T_X14_plan (by omega) hG r146) ?_
                refine x_goto (tgt := 92) (pc := 85) dX14_game_85 rfl ?_
                refine x_aload_n (pc := 92) dX14_game_92 rfl ?_
                refine x_bipush (pc := 93) dX14_game_93 (by decide) ⟨by decide, by decide⟩ ?_
                obtain ⟨M149, r148, hf⟩ := bd1_some hf
                refine x_cv (vs := [vR 203, vI 53]) (rest := []) (k := 0) rfl (by omega) (ax_caV (pc := 95) dX14_game_95 kX14_take rfl rfl WM_X14_162 WI_X14_take WS_X14_take WN_X14 (ax_rcO (t := 12) (axEx hG rfl) rfl (by decide)) (Nat.le_of_ble_eq_true rfl)) kX14_take rfl True.intro (T_X14_take (by omega) hG r148) ?_
                refine x_goto (tgt := 12) (pc := 98) dX14_game_98 rfl ?_
                cases hf
                exact h1 _ rfl
            · replace hf := (if_neg h137).symm.trans hf
              refine x_aload_n (pc := 66) dX14_game_66 rfl ?_
              obtain ⟨M151, r150, hf⟩ := bd1_some hf
              refine x_cv (vs := [vR 203]) (rest := []) (k := 3) rfl (by omega) (ax_caV (pc := 67) dX14_game_67 kX14_stone rfl rfl WM_X14_245 WI_X14_stone WS_X14_stone WN_X14 (ax_rcO (t := 12) (axEx hG rfl) rfl (by decide)) (Nat.le_of_ble_eq_true rfl)) kX14_stone rfl True.intro (T_X14_stone (by omega) hG r150) ?_
              refine x_goto (tgt := 92) (pc := 70) dX14_game_70 rfl ?_
              refine x_aload_n (pc := 92) dX14_game_92 rfl ?_
              refine x_bipush (pc := 93) dX14_game_93 (by decide) ⟨by decide, by decide⟩ ?_
              obtain ⟨M153, r152, hf⟩ := bd1_some hf
              refine x_cv (vs := [vR 203, vI 53]) (rest := []) (k := 0) rfl (by omega) (ax_caV (pc := 95) dX14_game_95 kX14_take rfl rfl WM_X14_162 WI_X14_take WS_X14_take WN_X14 (ax_rcO (t := 12) (axEx hG rfl) rfl (by decide)) (Nat.le_of_ble_eq_true rfl)) kX14_take rfl True.intro (T_X14_take (by omega) hG r152) ?_
              refine x_goto (tgt := 12) (pc := 98) dX14_game_98 rfl ?_
              cases hf
              exact h1 _ rfl
    · replace hf := (if_neg h106).symm.trans hf
      cases hf
theorem T_X14_game {G : ax_G} {d : Nat} (hd : 142 ≤ d) (hG : axPs G 150 244) {M : ax_M} {M1 : ax_M} (hf : fX14_game M = some M1) : ax_Ex G tX14_game d 0 (ax_args [vR 203] ++ List.replicate 0 none) [] M (.inl none) M1 := by
  show ax_Ex G tX14_game d 0 [some (vR 203)] [] M _ _
  unfold fX14_game at hf
  refine x_aload_n (pc := 0) dX14_game_0 rfl ?_
  refine x_iconst (pc := 1) dX14_game_1 ⟨by decide, by decide⟩ ?_
  obtain ⟨v103, M102, r101, hf⟩ := bd2_some hf
  refine x_cr (v := vI v103) (vs := [vR 203, vI 0]) (rest := []) (k := 0) rfl (by omega) (ax_caV (pc := 2) dX14_game_2 kX14_takes rfl rfl WM_X14_159 WI_X14_takes WS_X14_takes WN_X14 (ax_rcO (t := 12) (axEx hG rfl) rfl (by decide)) (Nat.le_of_ble_eq_true rfl)) kX14_takes rfl (Z_X14_takes r101) (T_X14_takes (by omega) hG r101) ?_
  refine x_ifeq (tgt := 12) (pc := 5) dX14_game_5 rfl (fun h104 => ?_) (fun h104 => ?_)
  · replace hf := (if_pos h104).symm.trans hf
    obtain ⟨t174, t175, hf⟩ := bd1_some hf
    refine lp_ex (P := (fun s => ax_Ex G tX14_game d 12 [some (vR 203)] [] s _ _)) (K := (fun t => ax_Ex G tX14_game d 101 [some (vR 203)] [] t _ _)) (fun s y hy h1 h2 => B_X14_game_12 (by omega) hG hy (fun s' e => h1 s' e) (fun t e => h2 t e)) _ _ _ t175 ?_
    cases hf
    exact x_retV (pc := 101) dX14_game_101
  · replace hf := (if_neg h104).symm.trans hf
    refine x_aload_n (pc := 8) dX14_game_8 rfl ?_
    obtain ⟨M177, r176, hf⟩ := bd1_some hf
    refine x_cv (vs := [vR 203]) (rest := []) (k := 0) rfl (by omega) (ax_caV (pc := 9) dX14_game_9 kX14_pond rfl rfl WM_X14_242 WI_X14_pond WS_X14_pond WN_X14 (ax_rcO (t := 12) (axEx hG rfl) rfl (by decide)) (Nat.le_of_ble_eq_true rfl)) kX14_pond rfl True.intro (T_X14_pond (by omega) hG r176) ?_
    obtain ⟨t178, t179, hf⟩ := bd1_some hf
    refine lp_ex (P := (fun s => ax_Ex G tX14_game d 12 [some (vR 203)] [] s _ _)) (K := (fun t => ax_Ex G tX14_game d 101 [some (vR 203)] [] t _ _)) (fun s y hy h1 h2 => B_X14_game_12 (by omega) hG hy (fun s' e => h1 s' e) (fun t e => h2 t e)) _ _ _ t179 ?_
    cases hf
    exact x_retV (pc := 101) dX14_game_101
/- HexPondModel.feed(IIIII)I -/
def fX14_feed_b81 (M : ax_M) (x7 : Nat) (x8 : Int) (x9 : Int) (x10 : Int) (v11 : Int) : Option ((Int × ax_M) ⊕ ax_M) :=
  (if v11 < 0 then (some (.inr M)) else (if 0 ≤ (mI M 203 2) ∧ (mI M 203 2) < 2000 then (some (.inl ((v11 + (-8)), (mUI (mUI M 204 (Int.toNat (mI M 203 2)) (iand (ishr x10 v11) 255)) 203 2 (wr ((mI (mUI M 204 (Int.toNat (mI M 203 2)) (iand (ishr x10 v11) 255)) 203 2) + 1)))))) else none))
def fX14_feed_b63 (M : ax_M) (x7 : Nat) (x8 : Int) (v9 : Int) : Option ((Int × ax_M) ⊕ ax_M) :=
  (if v9 < x8 then (if axDy M x7 5 then (if 0 ≤ v9 ∧ v9 < 5 then (bd1 (lp (fun s => fX14_feed_b81 s.2 x7 x8 v9 (mI M x7 (Int.toNat v9)) s.1) lpN (24, M)) fun t120 => (some (.inl ((v9 + 1), t120)))) else none) else none) else (some (.inr M)))
def fX14_feed (M : ax_M) (a1 : Int) (a2 : Int) (a3 : Int) (a4 : Int) (a5 : Int) : Option (Int × ax_M) :=
  (if 2000 < (wr ((mI (mUI M 203 0 0) 203 2) + 20)) then (bd2 (fX14_no (mUI M 203 0 0) 1) fun v105 M104 => (some (v105, M104))) else (if 94 ≤ mSz (mUI M 203 0 0) then (if axDy (mAl (mUI M 203 0 0) 32 5 5) (150 + mSz (mUI M 203 0 0)) 5 then (if axDy (mUI (mAl (mUI M 203 0 0) 32 5 5) (150 + mSz (mUI M 203 0 0)) 0 a1) (150 + mSz (mUI M 203 0 0)) 5 then (if axDy (mUI (mUI (mAl (mUI M 203 0 0) 32 5 5) (150 + mSz (mUI M 203 0 0)) 0 a1) (150 + mSz (mUI M 203 0 0)) 1 a2) (150 + mSz (mUI M 203 0 0)) 5 then (if axDy (mUI (mUI (mUI (mAl (mUI M 203 0 0) 32 5 5) (150 + mSz (mUI M 203 0 0)) 0 a1) (150 + mSz (mUI M 203 0 0)) 1 a2) (150 + mSz (mUI M 203 0 0)) 2 a3) (150 + mSz (mUI M 203 0 0)) 5 then (if axDy (mUI (mUI (mUI (mUI (mAl (mUI M 203 0 0) 32 5 5) (150 + mSz (mUI M 203 0 0)) 0 a1) (150 + mSz (mUI M 203 0 0)) 1 a2) (150 + mSz (mUI M 203 0 0)) 2 a3) (150 + mSz (mUI M 203 0 0)) 3 a4) (150 + mSz (mUI M 203 0 0)) 5 then (if axDy (mUI (mUI (mUI (mUI (mUI (mAl (mUI M 203 0 0) 32 5 5) (150 + mSz (mUI M 203 0 0)) 0 a1) (150 + mSz (mUI M 203 0 0)) 1 a2) (150 + mSz (mUI M 203 0 0)) 2 a3) (150 + mSz (mUI M 203 0 0)) 3 a4) (150 + mSz (mUI M 203 0 0)) 4 a5) (150 + mSz (mUI M 203 0 0)) 5 then (bd1 (lp (fun s => fX14_feed_b63 s.2 (150 + mSz (mUI M 203 0 0)) 5 s.1) lpN (0, (mUI (mUI (mUI (mUI (mUI (mAl (mUI M 203 0 0) 32 5 5) (150 + mSz (mUI M 203 0 0)) 0 a1) (150 + mSz (mUI M 203 0 0)) 1 a2) (150 + mSz (mUI M 203 0 0)) 2 a3) (150 + mSz (mUI M 203 0 0)) 3 a4) (150 + mSz (mUI M 203 0 0)) 4 a5))) fun t122 => (some ((mI t122 203 2), t122))) else none) else none) else none) else none) else none) else none) else none))
theorem B_X14_feed_81 {G : ax_G} {d : Nat} (hd : 1 ≤ d) (hG : axPs G 150 244) {M : ax_M} {x7 : Nat} {x8 : Int} {x9 : Int} {x10 : Int} {v11 : Int} {o : Option ax_V ⊕ String} {M' : ax_M} {y : (Int × ax_M) ⊕ ax_M} (hf : fX14_feed_b81 M x7 x8 x9 x10 v11 = some y) (h1 : ∀ s', y = .inl s' → ax_Ex G tX14_feed d 81 [some (vR 203), none, none, none, none, none, none, some (vR x7), some (vI x8), some (vI x9), some (vI x10), some (vI s'.1)] [] s'.2 o M') (h2a : ∀ t, y = .inr t → ax_Ex G tX14_feed d 120 [some (vR 203), none, none, none, none, none, none, some (vR x7), some (vI x8), some (vI x9), some (vI x10), none] [] t o M') : ax_Ex G tX14_feed d 81 [some (vR 203), none, none, none, none, none, none, some (vR x7), some (vI x8), some (vI x9), some (vI x10), some (vI v11)] [] M o M' := by
  unfold fX14_feed_b81 at hf
  refine x_iload (pc := 81) dX14_feed_81 rfl ?_
  refine ax_cmp1 (fun b118a b118b => ?_)
  refine x_iflt (tgt := 120) (pc := 83) dX14_feed_83 rfl (fun h117 => ?_) (fun h117 => ?_)
  · replace hf := (if_pos h117).symm.trans hf
    cases hf
    exact x_fgt (axS' (axN' (axN' (axN' (axN' (axN' (axN' (axS' (axS' (axS' (axS' (axN' axD)))))))))))) (h2a _ rfl)
  · replace hf := (if_neg (Int.not_lt.mpr h117)).symm.trans hf
    refine x_aload_n (pc := 86) dX14_feed_86 rfl ?_
    refine x_getF (t := 12) (j := 1) (r := 204) (pc := 87) dX14_feed_87 (axH hG rfl) (axEx hG rfl) rfl (by decide) (by decide) rfl rfl WF_X14_9 ?_
    refine x_aload_n (pc := 90) dX14_feed_90 rfl ?_
    refine x_getI (t := 12) (j := 2) (pc := 91) dX14_feed_91 (axEx hG rfl) rfl (by decide) (by decide) rfl WF_X14_80 ?_
    refine x_iload (pc := 94) dX14_feed_94 rfl ?_
    refine x_iload (pc := 96) dX14_feed_96 rfl ?_
    refine x_ishr (z := (ishr x10 v11)) (pc := 98) dX14_feed_98 rfl ?_
    refine x_sipush (pc := 99) dX14_feed_99 (by decide) ⟨by decide, by decide⟩ ?_
    refine x_iand (z := (iand (ishr x10 v11) 255)) (pc := 102) dX14_feed_102 rfl ?_
    by_cases h119 : 0 ≤ (mI M 203 2) ∧ (mI M 203 2) < 2000
    · replace hf := (if_pos h119).symm.trans hf
      refine x_iast2 (n := 2000) (pc := 103) dX14_feed_103 (axEx hG rfl) rfl h119.1 h119.2 ?_
      refine x_aload_n (pc := 104) dX14_feed_104 rfl ?_
      refine x_dup (pc := 105) dX14_feed_105 rfl ?_
      refine x_getI (t := 12) (j := 2) (pc := 106) dX14_feed_106 (axEx hG rfl) rfl (by decide) (by decide) rfl WF_X14_80 ?_
      refine x_iconst (pc := 109) dX14_feed_109 ⟨by decide, by decide⟩ ?_
      refine x_iaddw (pc := 110) dX14_feed_110 ?_
      refine x_putI (t := 12) (j := 2) (pc := 111) dX14_feed_111 (axEx hG rfl) rfl (by decide) (by decide) rfl rfl WF_X14_80 ?_
      refine x_iinc (z := (v11 + (-8))) (ls' := [some (vR 203), none, none, none, none, none, none, some (vR x7), some (vI x8), some (vI x9), some (vI x10), some (vI (v11 + (-8)))]) (pc := 114) dX14_feed_114 rfl (Nat.le_of_ble_eq_true rfl) rfl rfl (ax_i (by omega) (by omega)) rfl ?_
      refine x_goto (tgt := 81) (pc := 117) dX14_feed_117 rfl ?_
      cases hf
      exact h1 _ rfl
    · replace hf := (if_neg h119).symm.trans hf
      cases hf
theorem B_X14_feed_63 {G : ax_G} {d : Nat} (hd : 1 ≤ d) (hG : axPs G 150 244) {M : ax_M} {x7 : Nat} {x8 : Int} {v9 : Int} {o : Option ax_V ⊕ String} {M' : ax_M} {y : (Int × ax_M) ⊕ ax_M} (hf : fX14_feed_b63 M x7 x8 v9 = some y) (h1 : ∀ s', y = .inl s' → ax_Ex G tX14_feed d 63 [some (vR 203), none, none, none, none, none, none, some (vR x7), some (vI x8), some (vI s'.1), none, none] [] s'.2 o M') (h2a : ∀ t, y = .inr t → ax_Ex G tX14_feed d 126 [some (vR 203), none, none, none, none, none, none, some (vR x7), some (vI x8), none, none, none] [] t o M') : ax_Ex G tX14_feed d 63 [some (vR 203), none, none, none, none, none, none, some (vR x7), some (vI x8), some (vI v9), none, none] [] M o M' := by
  unfold fX14_feed_b63 at hf
  refine x_iload (pc := 63) dX14_feed_63 rfl ?_
  refine x_iload (pc := 65) dX14_feed_65 rfl ?_
  refine ax_cmp (fun b114a b114b b114c b114e => ?_)
  refine x_icmpge (tgt := 126) (pc := 67) dX14_feed_67 rfl (fun h113 => ?_) (fun h113 => ?_)
  · replace hf := (if_neg (Int.not_lt.mpr h113)).symm.trans hf
    cases hf
    exact x_fgt (axS' (axN' (axN' (axN' (axN' (axN' (axN' (axS' (axS' (axN' (axN' (axN' axD)))))))))))) (h2a _ rfl)
  · replace hf := (if_pos h113).symm.trans hf
    refine x_aload (pc := 70) dX14_feed_70 rfl ?_
    refine x_iload (pc := 72) dX14_feed_72 rfl ?_
    by_cases h115 : axDy M x7 5
    · replace hf := (if_pos h115).symm.trans hf
      by_cases h116 : 0 ≤ v9 ∧ v9 < 5
      · replace hf := (if_pos h116).symm.trans hf
        refine x_iald2 (n := 5) (pc := 74) dX14_feed_74 (axDy.ex h115) (axDy.sh h115) h116.1 h116.2 ?_
        refine x_istore (ls' := [some (vR 203), none, none, none, none, none, none, some (vR x7), some (vI x8), some (vI v9), some (vI (mI M x7 (Int.toNat v9))), none]) (pc := 75) dX14_feed_75 (Nat.le_of_ble_eq_true rfl) rfl rfl ?_
        refine x_bipush (pc := 77) dX14_feed_77 (by decide) ⟨by decide, by decide⟩ ?_
        refine x_istore (ls' := [some (vR 203), none, none, none, none, none, none, some (vR x7), some (vI x8), some (vI v9), some (vI (mI M x7 (Int.toNat v9))), some (vI 24)]) (pc := 79) dX14_feed_79 (Nat.le_of_ble_eq_true rfl) rfl rfl ?_
        obtain ⟨t120, t121, hf⟩ := bd1_some hf
        refine lp_ex (P := (fun s => ax_Ex G tX14_feed d 81 [some (vR 203), none, none, none, none, none, none, some (vR x7), some (vI x8), some (vI v9), some (vI (mI M x7 (Int.toNat v9))), some (vI s.1)] [] s.2 _ _)) (K := (fun t => ax_Ex G tX14_feed d 120 [some (vR 203), none, none, none, none, none, none, some (vR x7), some (vI x8), some (vI v9), some (vI (mI M x7 (Int.toNat v9))), none] [] t _ _)) (fun s y hy h1 h2 => B_X14_feed_81 (by omega) hG hy (fun s' e => h1 s' e) (fun t e => h2 t e)) _ _ _ t121 ?_
        refine x_iinc (z := (v9 + 1)) (ls' := [some (vR 203), none, none, none, none, none, none, some (vR x7), some (vI x8), some (vI (v9 + 1)), some (vI (mI M x7 (Int.toNat v9))), none]) (pc := 120) dX14_feed_120 rfl (Nat.le_of_ble_eq_true rfl) rfl rfl (ax_i (by omega) (by omega)) rfl ?_
        refine x_goto (tgt := 63) (pc := 123) dX14_feed_123 rfl ?_
        cases hf
        exact x_fgt (axS' (axN' (axN' (axN' (axN' (axN' (axN' (axS' (axS' (axS' (axN' (axN' axD)))))))))))) (h1 _ rfl)
      · replace hf := (if_neg h116).symm.trans hf
        cases hf
    · replace hf := (if_neg h115).symm.trans hf
      cases hf
theorem T_X14_feed {G : ax_G} {d : Nat} (hd : 1 ≤ d) (hG : axPs G 150 244) {M : ax_M} {a1 : Int} {a2 : Int} {a3 : Int} {a4 : Int} {a5 : Int} {r : Int} {M1 : ax_M} (hf : fX14_feed M a1 a2 a3 a4 a5 = some (r, M1)) : ax_Ex G tX14_feed d 0 (ax_args [vR 203, vI a1, vI a2, vI a3, vI a4, vI a5] ++ List.replicate 6 none) [] M (.inl (some (vI r))) M1 := by
  show ax_Ex G tX14_feed d 0 [some (vR 203), some (vI a1), some (vI a2), some (vI a3), some (vI a4), some (vI a5), none, none, none, none, none, none] [] M _ _
  unfold fX14_feed at hf
  refine x_aload_n (pc := 0) dX14_feed_0 rfl ?_
  refine x_iconst (pc := 1) dX14_feed_1 ⟨by decide, by decide⟩ ?_
  refine x_putI (t := 12) (j := 0) (pc := 2) dX14_feed_2 (axEx hG rfl) rfl (by decide) (by decide) rfl rfl WF_X14_73 ?_
  refine x_aload_n (pc := 5) dX14_feed_5 rfl ?_
  refine x_getI (t := 12) (j := 2) (pc := 6) dX14_feed_6 (axEx hG rfl) rfl (by decide) (by decide) rfl WF_X14_80 ?_
  refine x_bipush (pc := 9) dX14_feed_9 (by decide) ⟨by decide, by decide⟩ ?_
  refine x_iaddw (pc := 11) dX14_feed_11 ?_
  refine x_sipush (pc := 12) dX14_feed_12 (by decide) ⟨by decide, by decide⟩ ?_
  refine ax_cmp (fun b102a b102b b102c b102e => ?_)
  refine x_icmple (tgt := 24) (pc := 15) dX14_feed_15 rfl (fun h101 => ?_) (fun h101 => ?_)
  · replace hf := (if_neg (Int.not_lt.mpr h101)).symm.trans hf
    refine x_iconst (pc := 24) dX14_feed_24 ⟨by decide, by decide⟩ ?_
    by_cases h106 : 94 ≤ mSz (mUI M 203 0 0)
    · replace hf := (if_pos h106).symm.trans hf
      refine x_newI (N := 5) (pc := 25) dX14_feed_25 (by decide) (fun q => absurd q (by show ¬ 150 + _ < 244; omega)) WA_int ?_
      refine x_dup (pc := 27) dX14_feed_27 rfl ?_
      refine x_iconst (pc := 28) dX14_feed_28 ⟨by decide, by decide⟩ ?_
      refine x_iload_n (pc := 29) dX14_feed_29 rfl ?_
      by_cases h107 : axDy (mAl (mUI M 203 0 0) 32 5 5) (150 + mSz (mUI M 203 0 0)) 5
      · replace hf := (if_pos h107).symm.trans hf
        refine x_iast (j := 0) (n := 5) (pc := 30) dX14_feed_30 (axDy.ex h107) (axDy.sh h107) rfl (by decide) ?_
        refine x_dup (pc := 31) dX14_feed_31 rfl ?_
        refine x_iconst (pc := 32) dX14_feed_32 ⟨by decide, by decide⟩ ?_
        refine x_iload_n (pc := 33) dX14_feed_33 rfl ?_
        by_cases h108 : axDy (mUI (mAl (mUI M 203 0 0) 32 5 5) (150 + mSz (mUI M 203 0 0)) 0 a1) (150 + mSz (mUI M 203 0 0)) 5
        · replace hf := (if_pos h108).symm.trans hf
          refine x_iast (j := 1) (n := 5) (pc := 34) dX14_feed_34 (axDy.ex h108) (axDy.sh h108) rfl (by decide) ?_
          refine x_dup (pc := 35) dX14_feed_35 rfl ?_
          refine x_iconst (pc := 36) dX14_feed_36 ⟨by decide, by decide⟩ ?_
          refine x_iload_n (pc := 37) dX14_feed_37 rfl ?_
          by_cases h109 : axDy (mUI (mUI (mAl (mUI M 203 0 0) 32 5 5) (150 + mSz (mUI M 203 0 0)) 0 a1) (150 + mSz (mUI M 203 0 0)) 1 a2) (150 + mSz (mUI M 203 0 0)) 5
          · replace hf := (if_pos h109).symm.trans hf
            refine x_iast (j := 2) (n := 5) (pc := 38) dX14_feed_38 (axDy.ex h109) (axDy.sh h109) rfl (by decide) ?_
            refine x_dup (pc := 39) dX14_feed_39 rfl ?_
            refine x_iconst (pc := 40) dX14_feed_40 ⟨by decide, by decide⟩ ?_
            refine x_iload (pc := 41) dX14_feed_41 rfl ?_
            by_cases h110 : axDy (mUI (mUI (mUI (mAl (mUI M 203 0 0) 32 5 5) (150 + mSz (mUI M 203 0 0)) 0 a1) (150 + mSz (mUI M 203 0 0)) 1 a2) (150 + mSz (mUI M 203 0 0)) 2 a3) (150 + mSz (mUI M 203 0 0)) 5
            · replace hf := (if_pos h110).symm.trans hf
              refine x_iast (j := 3) (n := 5) (pc := 43) dX14_feed_43 (axDy.ex h110) (axDy.sh h110) rfl (by decide) ?_
              refine x_dup (pc := 44) dX14_feed_44 rfl ?_
              refine x_iconst (pc := 45) dX14_feed_45 ⟨by decide, by decide⟩ ?_
              refine x_iload (pc := 46) dX14_feed_46 rfl ?_
              by_cases h111 : axDy (mUI (mUI (mUI (mUI (mAl (mUI M 203 0 0) 32 5 5) (150 + mSz (mUI M 203 0 0)) 0 a1) (150 + mSz (mUI M 203 0 0)) 1 a2) (150 + mSz (mUI M 203 0 0)) 2 a3) (150 + mSz (mUI M 203 0 0)) 3 a4) (150 + mSz (mUI M 203 0 0)) 5
              · replace hf := (if_pos h111).symm.trans hf
                refine x_iast (j := 4) (n := 5) (pc := 48) dX14_feed_48 (axDy.ex h111) (axDy.sh h111) rfl (by decide) ?_
                refine x_astore (ls' := [some (vR 203), some (vI a1), some (vI a2), some (vI a3), some (vI a4), some (vI a5), some (vR (150 + mSz (mUI M 203 0 0))), none, none, none, none, none]) (pc := 49) dX14_feed_49 (Nat.le_of_ble_eq_true rfl) rfl rfl ?_
                refine x_aload (pc := 51) dX14_feed_51 rfl ?_
                refine x_astore (ls' := [some (vR 203), some (vI a1), some (vI a2), some (vI a3), some (vI a4), some (vI a5), some (vR (150 + mSz (mUI M 203 0 0))), some (vR (150 + mSz (mUI M 203 0 0))), none, none, none, none]) (pc := 53) dX14_feed_53 (Nat.le_of_ble_eq_true rfl) rfl rfl ?_
                refine x_aload (pc := 55) dX14_feed_55 rfl ?_
                by_cases h112 : axDy (mUI (mUI (mUI (mUI (mUI (mAl (mUI M 203 0 0) 32 5 5) (150 + mSz (mUI M 203 0 0)) 0 a1) (150 + mSz (mUI M 203 0 0)) 1 a2) (150 + mSz (mUI M 203 0 0)) 2 a3) (150 + mSz (mUI M 203 0 0)) 3 a4) (150 + mSz (mUI M 203 0 0)) 4 a5) (150 + mSz (mUI M 203 0 0)) 5
                · replace hf := (if_pos h112).symm.trans hf
                  refine x_alen (t := 0) (n := 5) (pc := 57) dX14_feed_57 (axDy.ex h112) (axDy.sh h112) (by decide) (by decide) ?_
                  refine x_istore (ls' := [some (vR 203), some (vI a1), some (vI a2), some (vI a3), some (vI a4), some (vI a5), some (vR (150 + mSz (mUI M 203 0 0))), some (vR (150 + mSz (mUI M 203 0 0))), some (vI 5), none, none, none]) (pc := 58) dX14_feed_58 (Nat.le_of_ble_eq_true rfl) rfl rfl ?_
                  refine x_iconst (pc := 60) dX14_feed_60 ⟨by decide, by decide⟩ ?_
                  refine x_istore (ls' := [some (vR 203), some (vI a1), some (vI a2), some (vI a3), some (vI a4), some (vI a5), some (vR (150 + mSz (mUI M 203 0 0))), some (vR (150 + mSz (mUI M 203 0 0))), some (vI 5), some (vI 0), none, none]) (pc := 61) dX14_feed_61 (Nat.le_of_ble_eq_true rfl) rfl rfl ?_
                  obtain ⟨t122, t123, hf⟩ := bd1_some hf
                  refine x_fgt (axS' (axN' (axN' (axN' (axN' (axN' (axN' (axS' (axS' (axS' (axN' (axN' axD)))))))))))) (lp_ex (P := (fun s => ax_Ex G tX14_feed d 63 [some (vR 203), none, none, none, none, none, none, some (vR (150 + mSz (mUI M 203 0 0))), some (vI 5), some (vI s.1), none, none] [] s.2 _ _)) (K := (fun t => ax_Ex G tX14_feed d 126 [some (vR 203), none, none, none, none, none, none, some (vR (150 + mSz (mUI M 203 0 0))), some (vI 5), none, none, none] [] t _ _)) (fun s y hy h1 h2 => B_X14_feed_63 (by omega) hG hy (fun s' e => h1 s' e) (fun t e => h2 t e)) _ _ _ t123 ?_)
                  refine x_aload_n (pc := 126) dX14_feed_126 rfl ?_
                  refine x_getI (t := 12) (j := 2) (pc := 127) dX14_feed_127 (axEx hG rfl) rfl (by decide) (by decide) rfl WF_X14_80 ?_
                  cases hf
                  exact x_retI (pc := 130) dX14_feed_130
                · replace hf := (if_neg h112).symm.trans hf
                  cases hf
              · replace hf := (if_neg h111).symm.trans hf
                cases hf
            · replace hf := (if_neg h110).symm.trans hf
              cases hf
          · replace hf := (if_neg h109).symm.trans hf
            cases hf
        · replace hf := (if_neg h108).symm.trans hf
          cases hf
      · replace hf := (if_neg h107).symm.trans hf
        cases hf
    · replace hf := (if_neg h106).symm.trans hf
      cases hf
  · replace hf := (if_pos h101).symm.trans hf
    refine x_aload_n (pc := 18) dX14_feed_18 rfl ?_
    refine x_iconst (pc := 19) dX14_feed_19 ⟨by decide, by decide⟩ ?_
    obtain ⟨v105, M104, r103, hf⟩ := bd2_some hf
    refine x_cr (v := vI v105) (vs := [vR 203, vI 1]) (rest := []) (k := 0) rfl (by omega) (ax_caV (pc := 20) dX14_feed_20 kX14_no rfl rfl WM_X14_250 WI_X14_no WS_X14_no WN_X14 (ax_rcO (t := 12) (axEx hG rfl) rfl (by decide)) (Nat.le_of_ble_eq_true rfl)) kX14_no rfl True.intro (T_X14_no (by omega) hG r103) ?_
    cases hf
    exact x_retI (pc := 23) dX14_feed_23
/- HexPondModel.trim(I)I -/
def fX14_trim (M : ax_M) (a1 : Int) : Option (Int × ax_M) :=
  (if (fX14_isIn (mUI M 203 0 0) a1 0 (mI (mUI M 203 0 0) 203 2)) = 0 then (bd2 (fX14_no (mUI M 203 0 0) 1) fun v104 M103 => (some (v104, M103))) else (some (a1, (mUI (mUI M 203 0 0) 203 2 a1))))
theorem T_X14_trim {G : ax_G} {d : Nat} (hd : 1 ≤ d) (hG : axPs G 150 244) {M : ax_M} {a1 : Int} {r : Int} {M1 : ax_M} (hf : fX14_trim M a1 = some (r, M1)) : ax_Ex G tX14_trim d 0 (ax_args [vR 203, vI a1] ++ List.replicate 0 none) [] M (.inl (some (vI r))) M1 := by
  show ax_Ex G tX14_trim d 0 [some (vR 203), some (vI a1)] [] M _ _
  unfold fX14_trim at hf
  refine x_aload_n (pc := 0) dX14_trim_0 rfl ?_
  refine x_iconst (pc := 1) dX14_trim_1 ⟨by decide, by decide⟩ ?_
  refine x_putI (t := 12) (j := 0) (pc := 2) dX14_trim_2 (axEx hG rfl) rfl (by decide) (by decide) rfl rfl WF_X14_73 ?_
  refine x_iload_n (pc := 5) dX14_trim_5 rfl ?_
  refine x_iconst (pc := 6) dX14_trim_6 ⟨by decide, by decide⟩ ?_
  refine x_aload_n (pc := 7) dX14_trim_7 rfl ?_
  refine x_getI (t := 12) (j := 2) (pc := 8) dX14_trim_8 (axEx hG rfl) rfl (by decide) (by decide) rfl WF_X14_80 ?_
  refine x_cr (v := vI (fX14_isIn (mUI M 203 0 0) a1 0 (mI (mUI M 203 0 0) 203 2))) (vs := [vI a1, vI 0, vI (mI (mUI M 203 0 0) 203 2)]) (rest := []) (k := 0) rfl (by omega) (ax_caS (pc := 11) dX14_trim_11 kX14_isIn rfl rfl WM_X14_76 WT_X14_isIn WN_X14 (Nat.le_of_ble_eq_true rfl)) kX14_isIn rfl (Z_X14_isIn rfl) (T_X14_isIn (by omega) hG rfl) ?_
  refine x_ifne (tgt := 23) (pc := 14) dX14_trim_14 rfl (fun h101 => ?_) (fun h101 => ?_)
  · replace hf := (if_neg h101).symm.trans hf
    refine x_aload_n (pc := 23) dX14_trim_23 rfl ?_
    refine x_iload_n (pc := 24) dX14_trim_24 rfl ?_
    refine x_putI (t := 12) (j := 2) (pc := 25) dX14_trim_25 (axEx hG rfl) rfl (by decide) (by decide) rfl rfl WF_X14_80 ?_
    refine x_iload_n (pc := 28) dX14_trim_28 rfl ?_
    cases hf
    exact x_retI (pc := 29) dX14_trim_29
  · replace hf := (if_pos h101).symm.trans hf
    refine x_aload_n (pc := 17) dX14_trim_17 rfl ?_
    refine x_iconst (pc := 18) dX14_trim_18 ⟨by decide, by decide⟩ ?_
    obtain ⟨v104, M103, r102, hf⟩ := bd2_some hf
    refine x_cr (v := vI v104) (vs := [vR 203, vI 1]) (rest := []) (k := 0) rfl (by omega) (ax_caV (pc := 19) dX14_trim_19 kX14_no rfl rfl WM_X14_250 WI_X14_no WS_X14_no WN_X14 (ax_rcO (t := 12) (axEx hG rfl) rfl (by decide)) (Nat.le_of_ble_eq_true rfl)) kX14_no rfl True.intro (T_X14_no (by omega) hG r102) ?_
    cases hf
    exact x_retI (pc := 22) dX14_trim_22
theorem WN_System : Cond.initialized "java/lang/System" ∈ ax_W := ax_tw (ax_t1 (List.mem_of_getElem? (i := 27) (by decide +kernel))) rfl
theorem T_X13_copy {G : ax_G} {d : Nat} (hd : 1 ≤ d) {M : ax_M} {a b n : Nat} (ha : ax_ex G M a) (hsa : ax_sh M a = (32, n)) (hb : ax_ex G M b) (hsb : ax_sh M b = (32, n)) (hn : n < 2147483648) : ax_Ex G tX13_copy d 0 (ax_args [vR a, vR b] ++ List.replicate 0 none) [] M (.inl none) (mCp M a b n) := by
  show ax_Ex G tX13_copy d 0 [some (vR a), some (vR b)] [] M _ _
  refine x_aload_n (pc := 0) dX13_copy_0 rfl ?_
  refine x_iconst (pc := 1) dX13_copy_1 ⟨by decide, by decide⟩ ?_
  refine x_aload_n (pc := 2) dX13_copy_2 rfl ?_
  refine x_iconst (pc := 3) dX13_copy_3 ⟨by decide, by decide⟩ ?_
  refine x_aload_n (pc := 4) dX13_copy_4 rfl ?_
  refine x_alen (t := 0) (n := n) (pc := 5) dX13_copy_5 hb hsb (by decide) hn ?_
  refine x_copy (n0 := n) (n := n) (pc := 6) dX13_copy_6 ha hsa hb hsb (Nat.le_refl _) hn WM_X13_58 WX_native WX_static WN_System (Nat.le_of_ble_eq_true rfl) (by omega) ?_
  exact x_retV (pc := 9) dX13_copy_9
/- HexPondModel$Told.begin()V -/
def fX13_begin_b24 (M : ax_M) (x0 : Nat) (v1 : Int) : Option ((Int × ax_M) ⊕ ax_M) :=
  (if v1 < 81 then (if 0 ≤ v1 ∧ v1 < 81 then (some (.inl ((v1 + 1), (mUI M (x0 + 1) (Int.toNat v1) (-1))))) else none) else (some (.inr M)))
def fX13_begin (M : ax_M) (this : Nat) : Option ax_M :=
  (bd1 (lp (fun s => fX13_begin_b24 s.2 this s.1) lpN (0, (mUI (mUI (mUI (mUI M this 0 7) this 1 7) this 3 0) this 11 0))) fun t104 => (some t104))
theorem B_X13_begin_24 {G : ax_G} {d : Nat} (hd : 0 ≤ d) (hG : axPs G 208 232) {M : ax_M} {x0 : Nat} {v1 : Int} (hy0 : (x0 = 208 ∨ x0 = 220)) {o : Option ax_V ⊕ String} {M' : ax_M} {y : (Int × ax_M) ⊕ ax_M} (hf : fX13_begin_b24 M x0 v1 = some y) (h1 : ∀ s', y = .inl s' → ax_Ex G tX13_begin d 24 [some (vR x0), some (vI s'.1)] [] s'.2 o M') (h2a : ∀ t, y = .inr t → ax_Ex G tX13_begin d 43 [some (vR x0), none] [] t o M') : ax_Ex G tX13_begin d 24 [some (vR x0), some (vI v1)] [] M o M' := by
  unfold fX13_begin_b24 at hf
  refine x_iload_n (pc := 24) dX13_begin_24 rfl ?_
  refine x_bipush (pc := 25) dX13_begin_25 (by decide) ⟨by decide, by decide⟩ ?_
  refine ax_cmp (fun b102a b102b b102c b102e => ?_)
  refine x_icmpge (tgt := 43) (pc := 27) dX13_begin_27 rfl (fun h101 => ?_) (fun h101 => ?_)
  · replace hf := (if_neg (Int.not_lt.mpr h101)).symm.trans hf
    cases hf
    exact x_fgt (axS' (axN' axD)) (h2a _ rfl)
  · replace hf := (if_pos h101).symm.trans hf
    refine x_aload_n (pc := 30) dX13_begin_30 rfl ?_
    refine x_getF (t := 11) (j := 2) (r := x0 + 1) (pc := 31) dX13_begin_31 (by rcases hy0 with rfl | rfl <;> exact axH hG rfl) (by rcases hy0 with rfl | rfl <;> exact axEx hG rfl) (by rcases hy0 with rfl | rfl <;> rfl) (by decide) (by decide) rfl (by rcases hy0 with rfl | rfl <;> rfl) WF_X13_18 ?_
    refine x_iload_n (pc := 34) dX13_begin_34 rfl ?_
    refine x_iconst (pc := 35) dX13_begin_35 ⟨by decide, by decide⟩ ?_
    by_cases h103 : 0 ≤ v1 ∧ v1 < 81
    · replace hf := (if_pos h103).symm.trans hf
      refine x_iast2 (n := 81) (pc := 36) dX13_begin_36 (by rcases hy0 with rfl | rfl <;> exact axEx hG rfl) (by rcases hy0 with rfl | rfl <;> rfl) h103.1 h103.2 ?_
      refine x_iinc (z := (v1 + 1)) (ls' := [some (vR x0), some (vI (v1 + 1))]) (pc := 37) dX13_begin_37 rfl (Nat.le_of_ble_eq_true rfl) rfl rfl (ax_i (by omega) (by omega)) rfl ?_
      refine x_goto (tgt := 24) (pc := 40) dX13_begin_40 rfl ?_
      cases hf
      exact h1 _ rfl
    · replace hf := (if_neg h103).symm.trans hf
      cases hf
set_option maxRecDepth 20000 in
theorem T_X13_begin {G : ax_G} {d : Nat} (hd : 0 ≤ d) (hG : axPs G 208 232) {M : ax_M} {this : Nat} (y_this : (this = 208 ∨ this = 220)) {M1 : ax_M} (hf : fX13_begin M this = some M1) : ax_Ex G tX13_begin d 0 (ax_args [vR this] ++ List.replicate 1 none) [] M (.inl none) M1 := by
  show ax_Ex G tX13_begin d 0 [some (vR this), none] [] M _ _
  unfold fX13_begin at hf
  refine x_aload_n (pc := 0) dX13_begin_0 rfl ?_
  refine x_bipush (pc := 1) dX13_begin_1 (by decide) ⟨by decide, by decide⟩ ?_
  refine x_putI (t := 11) (j := 0) (pc := 3) dX13_begin_3 (by rcases y_this with rfl | rfl <;> exact axEx hG rfl) (by rcases y_this with rfl | rfl <;> rfl) (by decide) (by decide) rfl rfl WF_X13_9 ?_
  refine x_aload_n (pc := 6) dX13_begin_6 rfl ?_
  refine x_bipush (pc := 7) dX13_begin_7 (by decide) ⟨by decide, by decide⟩ ?_
  refine x_putI (t := 11) (j := 1) (pc := 9) dX13_begin_9 (by rcases y_this with rfl | rfl <;> exact axEx hG rfl) (by rcases y_this with rfl | rfl <;> rfl) (by decide) (by decide) rfl rfl WF_X13_15 ?_
  refine x_aload_n (pc := 12) dX13_begin_12 rfl ?_
  refine x_iconst (pc := 13) dX13_begin_13 ⟨by decide, by decide⟩ ?_
  refine x_putI (t := 11) (j := 3) (pc := 14) dX13_begin_14 (by rcases y_this with rfl | rfl <;> exact axEx hG rfl) (by rcases y_this with rfl | rfl <;> rfl) (by decide) (by decide) rfl rfl WF_X13_52 ?_
  refine x_aload_n (pc := 17) dX13_begin_17 rfl ?_
  refine x_iconst (pc := 18) dX13_begin_18 ⟨by decide, by decide⟩ ?_
  refine x_putI (t := 11) (j := 11) (pc := 19) dX13_begin_19 (by rcases y_this with rfl | rfl <;> exact axEx hG rfl) (by rcases y_this with rfl | rfl <;> rfl) (by decide) (by decide) rfl rfl WF_X13_55 ?_
  refine x_iconst (pc := 22) dX13_begin_22 ⟨by decide, by decide⟩ ?_
  refine x_istore_n (ls' := [some (vR this), some (vI 0)]) (pc := 23) dX13_begin_23 (Nat.le_of_ble_eq_true rfl) rfl rfl ?_
  obtain ⟨t104, t105, hf⟩ := bd1_some hf
  refine lp_ex (P := (fun s => ax_Ex G tX13_begin d 24 [some (vR this), some (vI s.1)] [] s.2 _ _)) (K := (fun t => ax_Ex G tX13_begin d 43 [some (vR this), none] [] t _ _)) (fun s y hy h1 h2 => B_X13_begin_24 (by omega) hG y_this hy (fun s' e => h1 s' e) (fun t e => h2 t e)) _ _ _ t105 ?_
  cases hf
  exact x_retV (pc := 43) dX13_begin_43
/- HexPondModel$Told.become(LHexPondModel$Told;)V -/
def fX13_become (M : ax_M) : Option ax_M :=
  (some (mCp (mCp (mCp (mCp (mCp (mCp (mCp (mCp (mCp (mCp (mCp (mUI (mUI (mUI (mUI M 208 0 (mI M 220 0)) 208 1 (mI (mUI M 208 0 (mI M 220 0)) 220 1)) 208 3 (mI (mUI (mUI M 208 0 (mI M 220 0)) 208 1 (mI (mUI M 208 0 (mI M 220 0)) 220 1)) 220 3)) 208 11 (mI (mUI (mUI (mUI M 208 0 (mI M 220 0)) 208 1 (mI (mUI M 208 0 (mI M 220 0)) 220 1)) 208 3 (mI (mUI (mUI M 208 0 (mI M 220 0)) 208 1 (mI (mUI M 208 0 (mI M 220 0)) 220 1)) 220 3)) 220 11)) 221 209 81) 222 210 17) 223 211 17) 224 212 17) 225 213 17) 226 214 17) 227 215 17) 228 216 17) 229 217 800) 230 218 800) 231 219 800))
theorem T_X13_become {G : ax_G} {d : Nat} (hd : 2 ≤ d) (hG : axPs G 150 244) {M : ax_M} {M1 : ax_M} (hf : fX13_become M = some M1) : ax_Ex G tX13_become d 0 (ax_args [vR 208, vR 220] ++ List.replicate 0 none) [] M (.inl none) M1 := by
  show ax_Ex G tX13_become d 0 [some (vR 208), some (vR 220)] [] M _ _
  unfold fX13_become at hf
  refine x_aload_n (pc := 0) dX13_become_0 rfl ?_
  refine x_aload_n (pc := 1) dX13_become_1 rfl ?_
  refine x_getI (t := 11) (j := 0) (pc := 2) dX13_become_2 (axEx hG rfl) rfl (by decide) (by decide) rfl WF_X13_9 ?_
  refine x_putI (t := 11) (j := 0) (pc := 5) dX13_become_5 (axEx hG rfl) rfl (by decide) (by decide) rfl rfl WF_X13_9 ?_
  refine x_aload_n (pc := 8) dX13_become_8 rfl ?_
  refine x_aload_n (pc := 9) dX13_become_9 rfl ?_
  refine x_getI (t := 11) (j := 1) (pc := 10) dX13_become_10 (axEx hG rfl) rfl (by decide) (by decide) rfl WF_X13_15 ?_
  refine x_putI (t := 11) (j := 1) (pc := 13) dX13_become_13 (axEx hG rfl) rfl (by decide) (by decide) rfl rfl WF_X13_15 ?_
  refine x_aload_n (pc := 16) dX13_become_16 rfl ?_
  refine x_aload_n (pc := 17) dX13_become_17 rfl ?_
  refine x_getI (t := 11) (j := 3) (pc := 18) dX13_become_18 (axEx hG rfl) rfl (by decide) (by decide) rfl WF_X13_52 ?_
  refine x_putI (t := 11) (j := 3) (pc := 21) dX13_become_21 (axEx hG rfl) rfl (by decide) (by decide) rfl rfl WF_X13_52 ?_
  refine x_aload_n (pc := 24) dX13_become_24 rfl ?_
  refine x_aload_n (pc := 25) dX13_become_25 rfl ?_
  refine x_getI (t := 11) (j := 11) (pc := 26) dX13_become_26 (axEx hG rfl) rfl (by decide) (by decide) rfl WF_X13_55 ?_
  refine x_putI (t := 11) (j := 11) (pc := 29) dX13_become_29 (axEx hG rfl) rfl (by decide) (by decide) rfl rfl WF_X13_55 ?_
  refine x_aload_n (pc := 32) dX13_become_32 rfl ?_
  refine x_getF (t := 11) (j := 2) (r := 221) (pc := 33) dX13_become_33 (axH hG rfl) (axEx hG rfl) rfl (by decide) (by decide) rfl rfl WF_X13_18 ?_
  refine x_aload_n (pc := 36) dX13_become_36 rfl ?_
  refine x_getF (t := 11) (j := 2) (r := 209) (pc := 37) dX13_become_37 (axH hG rfl) (axEx hG rfl) rfl (by decide) (by decide) rfl rfl WF_X13_18 ?_
  refine x_cv (vs := [vR 221, vR 209]) (rest := []) (k := 0) rfl (by omega) (ax_caS (pc := 40) dX13_become_40 kX13_copy rfl rfl WM_X13_64 WT_X13_copy WN_X13 (Nat.le_of_ble_eq_true rfl)) kX13_copy rfl True.intro (T_X13_copy (n := 81) (by omega) (axEx hG rfl) rfl (axEx hG rfl) rfl (by decide)) ?_
  refine x_aload_n (pc := 43) dX13_become_43 rfl ?_
  refine x_getF (t := 11) (j := 4) (r := 222) (pc := 44) dX13_become_44 (axH hG rfl) (axEx hG rfl) rfl (by decide) (by decide) rfl rfl WF_X13_22 ?_
  refine x_aload_n (pc := 47) dX13_become_47 rfl ?_
  refine x_getF (t := 11) (j := 4) (r := 210) (pc := 48) dX13_become_48 (axH hG rfl) (axEx hG rfl) rfl (by decide) (by decide) rfl rfl WF_X13_22 ?_
  refine x_cv (vs := [vR 222, vR 210]) (rest := []) (k := 0) rfl (by omega) (ax_caS (pc := 51) dX13_become_51 kX13_copy rfl rfl WM_X13_64 WT_X13_copy WN_X13 (Nat.le_of_ble_eq_true rfl)) kX13_copy rfl True.intro (T_X13_copy (n := 17) (by omega) (axEx hG rfl) rfl (axEx hG rfl) rfl (by decide)) ?_
  refine x_aload_n (pc := 54) dX13_become_54 rfl ?_
  refine x_getF (t := 11) (j := 5) (r := 223) (pc := 55) dX13_become_55 (axH hG rfl) (axEx hG rfl) rfl (by decide) (by decide) rfl rfl WF_X13_25 ?_
  refine x_aload_n (pc := 58) dX13_become_58 rfl ?_
  refine x_getF (t := 11) (j := 5) (r := 211) (pc := 59) dX13_become_59 (axH hG rfl) (axEx hG rfl) rfl (by decide) (by decide) rfl rfl WF_X13_25 ?_
  refine x_cv (vs := [vR 223, vR 211]) (rest := []) (k := 0) rfl (by omega) (ax_caS (pc := 62) dX13_become_62 kX13_copy rfl rfl WM_X13_64 WT_X13_copy WN_X13 (Nat.le_of_ble_eq_true rfl)) kX13_copy rfl True.intro (T_X13_copy (n := 17) (by omega) (axEx hG rfl) rfl (axEx hG rfl) rfl (by decide)) ?_
  refine x_aload_n (pc := 65) dX13_become_65 rfl ?_
  refine x_getF (t := 11) (j := 6) (r := 224) (pc := 66) dX13_become_66 (axH hG rfl) (axEx hG rfl) rfl (by decide) (by decide) rfl rfl WF_X13_28 ?_
  refine x_aload_n (pc := 69) dX13_become_69 rfl ?_
  refine x_getF (t := 11) (j := 6) (r := 212) (pc := 70) dX13_become_70 (axH hG rfl) (axEx hG rfl) rfl (by decide) (by decide) rfl rfl WF_X13_28 ?_
  refine x_cv (vs := [vR 224, vR 212]) (rest := []) (k := 0) rfl (by omega) (ax_caS (pc := 73) dX13_become_73 kX13_copy rfl rfl WM_X13_64 WT_X13_copy WN_X13 (Nat.le_of_ble_eq_true rfl)) kX13_copy rfl True.intro (T_X13_copy (n := 17) (by omega) (axEx hG rfl) rfl (axEx hG rfl) rfl (by decide)) ?_
  refine x_aload_n (pc := 76) dX13_become_76 rfl ?_
  refine x_getF (t := 11) (j := 7) (r := 225) (pc := 77) dX13_become_77 (axH hG rfl) (axEx hG rfl) rfl (by decide) (by decide) rfl rfl WF_X13_31 ?_
  refine x_aload_n (pc := 80) dX13_become_80 rfl ?_
  refine x_getF (t := 11) (j := 7) (r := 213) (pc := 81) dX13_become_81 (axH hG rfl) (axEx hG rfl) rfl (by decide) (by decide) rfl rfl WF_X13_31 ?_
  refine x_cv (vs := [vR 225, vR 213]) (rest := []) (k := 0) rfl (by omega) (ax_caS (pc := 84) dX13_become_84 kX13_copy rfl rfl WM_X13_64 WT_X13_copy WN_X13 (Nat.le_of_ble_eq_true rfl)) kX13_copy rfl True.intro (T_X13_copy (n := 17) (by omega) (axEx hG rfl) rfl (axEx hG rfl) rfl (by decide)) ?_
  refine x_aload_n (pc := 87) dX13_become_87 rfl ?_
  refine x_getF (t := 11) (j := 8) (r := 226) (pc := 88) dX13_become_88 (axH hG rfl) (axEx hG rfl) rfl (by decide) (by decide) rfl rfl WF_X13_34 ?_
  refine x_aload_n (pc := 91) dX13_become_91 rfl ?_
  refine x_getF (t := 11) (j := 8) (r := 214) (pc := 92) dX13_become_92 (axH hG rfl) (axEx hG rfl) rfl (by decide) (by decide) rfl rfl WF_X13_34 ?_
  refine x_cv (vs := [vR 226, vR 214]) (rest := []) (k := 0) rfl (by omega) (ax_caS (pc := 95) dX13_become_95 kX13_copy rfl rfl WM_X13_64 WT_X13_copy WN_X13 (Nat.le_of_ble_eq_true rfl)) kX13_copy rfl True.intro (T_X13_copy (n := 17) (by omega) (axEx hG rfl) rfl (axEx hG rfl) rfl (by decide)) ?_
  refine x_aload_n (pc := 98) dX13_become_98 rfl ?_
  refine x_getF (t := 11) (j := 9) (r := 227) (pc := 99) dX13_become_99 (axH hG rfl) (axEx hG rfl) rfl (by decide) (by decide) rfl rfl WF_X13_37 ?_
  refine x_aload_n (pc := 102) dX13_become_102 rfl ?_
  refine x_getF (t := 11) (j := 9) (r := 215) (pc := 103) dX13_become_103 (axH hG rfl) (axEx hG rfl) rfl (by decide) (by decide) rfl rfl WF_X13_37 ?_
  refine x_cv (vs := [vR 227, vR 215]) (rest := []) (k := 0) rfl (by omega) (ax_caS (pc := 106) dX13_become_106 kX13_copy rfl rfl WM_X13_64 WT_X13_copy WN_X13 (Nat.le_of_ble_eq_true rfl)) kX13_copy rfl True.intro (T_X13_copy (n := 17) (by omega) (axEx hG rfl) rfl (axEx hG rfl) rfl (by decide)) ?_
  refine x_aload_n (pc := 109) dX13_become_109 rfl ?_
  refine x_getF (t := 11) (j := 10) (r := 228) (pc := 110) dX13_become_110 (axH hG rfl) (axEx hG rfl) rfl (by decide) (by decide) rfl rfl WF_X13_40 ?_
  refine x_aload_n (pc := 113) dX13_become_113 rfl ?_
  refine x_getF (t := 11) (j := 10) (r := 216) (pc := 114) dX13_become_114 (axH hG rfl) (axEx hG rfl) rfl (by decide) (by decide) rfl rfl WF_X13_40 ?_
  refine x_cv (vs := [vR 228, vR 216]) (rest := []) (k := 0) rfl (by omega) (ax_caS (pc := 117) dX13_become_117 kX13_copy rfl rfl WM_X13_64 WT_X13_copy WN_X13 (Nat.le_of_ble_eq_true rfl)) kX13_copy rfl True.intro (T_X13_copy (n := 17) (by omega) (axEx hG rfl) rfl (axEx hG rfl) rfl (by decide)) ?_
  refine x_aload_n (pc := 120) dX13_become_120 rfl ?_
  refine x_getF (t := 11) (j := 12) (r := 229) (pc := 121) dX13_become_121 (axH hG rfl) (axEx hG rfl) rfl (by decide) (by decide) rfl rfl WF_X13_43 ?_
  refine x_aload_n (pc := 124) dX13_become_124 rfl ?_
  refine x_getF (t := 11) (j := 12) (r := 217) (pc := 125) dX13_become_125 (axH hG rfl) (axEx hG rfl) rfl (by decide) (by decide) rfl rfl WF_X13_43 ?_
  refine x_cv (vs := [vR 229, vR 217]) (rest := []) (k := 0) rfl (by omega) (ax_caS (pc := 128) dX13_become_128 kX13_copy rfl rfl WM_X13_64 WT_X13_copy WN_X13 (Nat.le_of_ble_eq_true rfl)) kX13_copy rfl True.intro (T_X13_copy (n := 800) (by omega) (axEx hG rfl) rfl (axEx hG rfl) rfl (by decide)) ?_
  refine x_aload_n (pc := 131) dX13_become_131 rfl ?_
  refine x_getF (t := 11) (j := 13) (r := 230) (pc := 132) dX13_become_132 (axH hG rfl) (axEx hG rfl) rfl (by decide) (by decide) rfl rfl WF_X13_46 ?_
  refine x_aload_n (pc := 135) dX13_become_135 rfl ?_
  refine x_getF (t := 11) (j := 13) (r := 218) (pc := 136) dX13_become_136 (axH hG rfl) (axEx hG rfl) rfl (by decide) (by decide) rfl rfl WF_X13_46 ?_
  refine x_cv (vs := [vR 230, vR 218]) (rest := []) (k := 0) rfl (by omega) (ax_caS (pc := 139) dX13_become_139 kX13_copy rfl rfl WM_X13_64 WT_X13_copy WN_X13 (Nat.le_of_ble_eq_true rfl)) kX13_copy rfl True.intro (T_X13_copy (n := 800) (by omega) (axEx hG rfl) rfl (axEx hG rfl) rfl (by decide)) ?_
  refine x_aload_n (pc := 142) dX13_become_142 rfl ?_
  refine x_getF (t := 11) (j := 14) (r := 231) (pc := 143) dX13_become_143 (axH hG rfl) (axEx hG rfl) rfl (by decide) (by decide) rfl rfl WF_X13_49 ?_
  refine x_aload_n (pc := 146) dX13_become_146 rfl ?_
  refine x_getF (t := 11) (j := 14) (r := 219) (pc := 147) dX13_become_147 (axH hG rfl) (axEx hG rfl) rfl (by decide) (by decide) rfl rfl WF_X13_49 ?_
  refine x_cv (vs := [vR 231, vR 219]) (rest := []) (k := 0) rfl (by omega) (ax_caS (pc := 150) dX13_become_150 kX13_copy rfl rfl WM_X13_64 WT_X13_copy WN_X13 (Nat.le_of_ble_eq_true rfl)) kX13_copy rfl True.intro (T_X13_copy (n := 800) (by omega) (axEx hG rfl) rfl (axEx hG rfl) rfl (by decide)) ?_
  cases hf
  exact x_retV (pc := 153) dX13_become_153
/- HexPondModel.teach()I -/
def fX14_teach (M : ax_M) : Option (Int × ax_M) :=
  (bd1 (fX13_begin (mUI (mUI (mUI (mUI (mUI M 203 0 0) 203 7 0) 203 8 0) 203 9 0) 203 11 0) 220) fun M102 => (bd1 (fX14_readAll M102) fun M104 => (bd1 (fX14_game M104) fun M106 => (if (mI (mUI M106 203 2 0) 203 9) = 0 then (if (mI (mUI (mUI M106 203 2 0) 203 3 (-1)) 203 9) = 0 then (bd1 (fX13_become (mUI (mUI M106 203 2 0) 203 3 (-1))) fun M110 => (some (0, (mUI (mCp M110 209 233 81) 203 17 0)))) else (some ((mI (mUI (mUI M106 203 2 0) 203 3 (-1)) 203 9), (mUI (mUI M106 203 2 0) 203 3 (-1))))) else (if 0 ≤ (mI (mUI M106 203 2 0) 203 10) ∧ (mI (mUI M106 203 2 0) 203 10) < 402 then (if (mI (mUI (mUI M106 203 2 0) 203 3 (mI (mUI M106 203 2 0) 207 (Int.toNat (mI (mUI M106 203 2 0) 203 10)))) 203 9) = 0 then (bd1 (fX13_become (mUI (mUI M106 203 2 0) 203 3 (mI (mUI M106 203 2 0) 207 (Int.toNat (mI (mUI M106 203 2 0) 203 10))))) fun M114 => (some (0, (mUI (mCp M114 209 233 81) 203 17 0)))) else (some ((mI (mUI (mUI M106 203 2 0) 203 3 (mI (mUI M106 203 2 0) 207 (Int.toNat (mI (mUI M106 203 2 0) 203 10)))) 203 9), (mUI (mUI M106 203 2 0) 203 3 (mI (mUI M106 203 2 0) 207 (Int.toNat (mI (mUI M106 203 2 0) 203 10))))))) else none)))))
theorem T_X14_teach {G : ax_G} {d : Nat} (hd : 143 ≤ d) (hG : axPs G 150 244) {M : ax_M} {r : Int} {M1 : ax_M} (hf : fX14_teach M = some (r, M1)) : ax_Ex G tX14_teach d 0 (ax_args [vR 203] ++ List.replicate 0 none) [] M (.inl (some (vI r))) M1 := by
  show ax_Ex G tX14_teach d 0 [some (vR 203)] [] M _ _
  unfold fX14_teach at hf
  refine x_aload_n (pc := 0) dX14_teach_0 rfl ?_
  refine x_iconst (pc := 1) dX14_teach_1 ⟨by decide, by decide⟩ ?_
  refine x_putI (t := 12) (j := 0) (pc := 2) dX14_teach_2 (axEx hG rfl) rfl (by decide) (by decide) rfl rfl WF_X14_73 ?_
  refine x_aload_n (pc := 5) dX14_teach_5 rfl ?_
  refine x_iconst (pc := 6) dX14_teach_6 ⟨by decide, by decide⟩ ?_
  refine x_putI (t := 12) (j := 7) (pc := 7) dX14_teach_7 (axEx hG rfl) rfl (by decide) (by decide) rfl rfl WF_X14_129 ?_
  refine x_aload_n (pc := 10) dX14_teach_10 rfl ?_
  refine x_iconst (pc := 11) dX14_teach_11 ⟨by decide, by decide⟩ ?_
  refine x_putZ (t := 12) (j := 8) (pc := 12) dX14_teach_12 (axEx hG rfl) rfl (by decide) (by decide) rfl rfl WF_X14_125 (by decide) ?_
  refine x_aload_n (pc := 15) dX14_teach_15 rfl ?_
  refine x_iconst (pc := 16) dX14_teach_16 ⟨by decide, by decide⟩ ?_
  refine x_putI (t := 12) (j := 9) (pc := 17) dX14_teach_17 (axEx hG rfl) rfl (by decide) (by decide) rfl rfl WF_X14_132 ?_
  refine x_aload_n (pc := 20) dX14_teach_20 rfl ?_
  refine x_iconst (pc := 21) dX14_teach_21 ⟨by decide, by decide⟩ ?_
  refine x_putI (t := 12) (j := 11) (pc := 22) dX14_teach_22 (axEx hG rfl) rfl (by decide) (by decide) rfl rfl WF_X14_144 ?_
  refine x_aload_n (pc := 25) dX14_teach_25 rfl ?_
  refine x_getF (t := 12) (j := 13) (r := 220) (pc := 26) dX14_teach_26 (axH hG rfl) (axEx hG rfl) rfl (by decide) (by decide) rfl rfl WF_X14_33 ?_
  obtain ⟨M102, r101, hf⟩ := bd1_some hf
  refine x_cv (vs := [vR 220]) (rest := []) (k := 1) rfl (by omega) (ax_caV (pc := 29) dX14_teach_29 kX13_begin rfl rfl WM_X14_70 WI_X13_begin WS_X13_begin WN_X13 (ax_rcO (t := 11) (axEx hG rfl) rfl (by decide)) (Nat.le_of_ble_eq_true rfl)) kX13_begin rfl True.intro (T_X13_begin (by omega) (axPs.sub hG (Nat.le_of_ble_eq_true rfl) (Nat.le_of_ble_eq_true rfl)) (by decide) r101) ?_
  refine x_aload_n (pc := 32) dX14_teach_32 rfl ?_
  obtain ⟨M104, r103, hf⟩ := bd1_some hf
  refine x_cv (vs := [vR 203]) (rest := []) (k := 2) rfl (by omega) (ax_caV (pc := 33) dX14_teach_33 kX14_readAll rfl rfl WM_X14_253 WI_X14_readAll WS_X14_readAll WN_X14 (ax_rcO (t := 12) (axEx hG rfl) rfl (by decide)) (Nat.le_of_ble_eq_true rfl)) kX14_readAll rfl True.intro (T_X14_readAll (by omega) hG r103) ?_
  refine x_aload_n (pc := 36) dX14_teach_36 rfl ?_
  obtain ⟨M106, r105, hf⟩ := bd1_some hf
  refine x_cv (vs := [vR 203]) (rest := []) (k := 0) rfl (by omega) (ax_caV (pc := 37) dX14_teach_37 kX14_game rfl rfl WM_X14_256 WI_X14_game WS_X14_game WN_X14 (ax_rcO (t := 12) (axEx hG rfl) rfl (by decide)) (Nat.le_of_ble_eq_true rfl)) kX14_game rfl True.intro (T_X14_game (by omega) hG r105) ?_
  refine x_aload_n (pc := 40) dX14_teach_40 rfl ?_
  refine x_iconst (pc := 41) dX14_teach_41 ⟨by decide, by decide⟩ ?_
  refine x_putI (t := 12) (j := 2) (pc := 42) dX14_teach_42 (axEx hG rfl) rfl (by decide) (by decide) rfl rfl WF_X14_80 ?_
  refine x_aload_n (pc := 45) dX14_teach_45 rfl ?_
  refine x_aload_n (pc := 46) dX14_teach_46 rfl ?_
  refine x_getI (t := 12) (j := 9) (pc := 47) dX14_teach_47 (axEx hG rfl) rfl (by decide) (by decide) rfl WF_X14_132 ?_
  refine x_ifne (tgt := 57) (pc := 50) dX14_teach_50 rfl (fun h107 => ?_) (fun h107 => ?_)
  · replace hf := (if_neg h107).symm.trans hf
    refine x_aload_n (pc := 57) dX14_teach_57 rfl ?_
    refine x_getF (t := 12) (j := 6) (r := 207) (pc := 58) dX14_teach_58 (axH hG rfl) (axEx hG rfl) rfl (by decide) (by decide) rfl rfl WF_X14_23 ?_
    refine x_aload_n (pc := 61) dX14_teach_61 rfl ?_
    refine x_getI (t := 12) (j := 10) (pc := 62) dX14_teach_62 (axEx hG rfl) rfl (by decide) (by decide) rfl WF_X14_135 ?_
    by_cases h111 : 0 ≤ (mI (mUI M106 203 2 0) 203 10) ∧ (mI (mUI M106 203 2 0) 203 10) < 402
    · replace hf := (if_pos h111).symm.trans hf
      refine x_iald2 (n := 402) (pc := 65) dX14_teach_65 (axEx hG rfl) rfl h111.1 h111.2 ?_
      refine x_putI (t := 12) (j := 3) (pc := 66) dX14_teach_66 (axEx hG rfl) rfl (by decide) (by decide) rfl rfl WF_X14_13 ?_
      refine x_aload_n (pc := 69) dX14_teach_69 rfl ?_
      refine x_getI (t := 12) (j := 9) (pc := 70) dX14_teach_70 (axEx hG rfl) rfl (by decide) (by decide) rfl WF_X14_132 ?_
      refine x_ifeq (tgt := 81) (pc := 73) dX14_teach_73 rfl (fun h112 => ?_) (fun h112 => ?_)
      · replace hf := (if_pos h112).symm.trans hf
        refine x_aload_n (pc := 81) dX14_teach_81 rfl ?_
        refine x_getF (t := 12) (j := 12) (r := 208) (pc := 82) dX14_teach_82 (axH hG rfl) (axEx hG rfl) rfl (by decide) (by decide) rfl rfl WF_X14_29 ?_
        refine x_aload_n (pc := 85) dX14_teach_85 rfl ?_
        refine x_getF (t := 12) (j := 13) (r := 220) (pc := 86) dX14_teach_86 (axH hG rfl) (axEx hG rfl) rfl (by decide) (by decide) rfl rfl WF_X14_33 ?_
        obtain ⟨M114, r113, hf⟩ := bd1_some hf
        refine x_cv (vs := [vR 208, vR 220]) (rest := []) (k := 0) rfl (by omega) (ax_caV (pc := 89) dX14_teach_89 kX13_become rfl rfl WM_X14_259 WI_X13_become WS_X13_become WN_X13 (ax_rcO (t := 11) (axEx hG rfl) rfl (by decide)) (Nat.le_of_ble_eq_true rfl)) kX13_become rfl True.intro (T_X13_become (by omega) hG r113) ?_
        refine x_aload_n (pc := 92) dX14_teach_92 rfl ?_
        refine x_getF (t := 12) (j := 12) (r := 208) (pc := 93) dX14_teach_93 (axH hG rfl) (axEx hG rfl) rfl (by decide) (by decide) rfl rfl WF_X14_29 ?_
        refine x_getFN (t := 11) (j := 2) (r := 209) (pc := 96) dX14_teach_96 (axH hG rfl) (axEx hG rfl) rfl (by decide) (by decide) rfl rfl NF_X14_214 ?_
        refine x_iconst (pc := 99) dX14_teach_99 ⟨by decide, by decide⟩ ?_
        refine x_aload_n (pc := 100) dX14_teach_100 rfl ?_
        refine x_getF (t := 12) (j := 15) (r := 233) (pc := 101) dX14_teach_101 (axH hG rfl) (axEx hG rfl) rfl (by decide) (by decide) rfl rfl WF_X14_39 ?_
        refine x_iconst (pc := 104) dX14_teach_104 ⟨by decide, by decide⟩ ?_
        refine x_bipush (pc := 105) dX14_teach_105 (by decide) ⟨by decide, by decide⟩ ?_
        refine x_copy (n0 := 81) (n := 81) (pc := 107) dX14_teach_107 (axEx hG rfl) rfl (axEx hG rfl) rfl (by decide) (by decide) WM_X14_263 WX_native WX_static WN_System (Nat.le_of_ble_eq_true rfl) (by omega) ?_
        refine x_aload_n (pc := 110) dX14_teach_110 rfl ?_
        refine x_iconst (pc := 111) dX14_teach_111 ⟨by decide, by decide⟩ ?_
        refine x_putI (t := 12) (j := 17) (pc := 112) dX14_teach_112 (axEx hG rfl) rfl (by decide) (by decide) rfl rfl WF_X14_269 ?_
        refine x_iconst (pc := 115) dX14_teach_115 ⟨by decide, by decide⟩ ?_
        cases hf
        exact x_retI (pc := 116) dX14_teach_116
      · replace hf := (if_neg h112).symm.trans hf
        refine x_aload_n (pc := 76) dX14_teach_76 rfl ?_
        refine x_getI (t := 12) (j := 9) (pc := 77) dX14_teach_77 (axEx hG rfl) rfl (by decide) (by decide) rfl WF_X14_132 ?_
        cases hf
        exact x_retI (pc := 80) dX14_teach_80
    · replace hf := (if_neg h111).symm.trans hf
      cases hf
  · replace hf := (if_pos h107).symm.trans hf
    refine x_iconst (pc := 53) dX14_teach_53 ⟨by decide, by decide⟩ ?_
    refine x_goto (tgt := 66) (pc := 54) dX14_teach_54 rfl ?_
    refine x_putI (t := 12) (j := 3) (pc := 66) dX14_teach_66 (axEx hG rfl) rfl (by decide) (by decide) rfl rfl WF_X14_13 ?_
    refine x_aload_n (pc := 69) dX14_teach_69 rfl ?_
    refine x_getI (t := 12) (j := 9) (pc := 70) dX14_teach_70 (axEx hG rfl) rfl (by decide) (by decide) rfl WF_X14_132 ?_
    refine x_ifeq (tgt := 81) (pc := 73) dX14_teach_73 rfl (fun h108 => ?_) (fun h108 => ?_)
    · replace hf := (if_pos h108).symm.trans hf
      refine x_aload_n (pc := 81) dX14_teach_81 rfl ?_
      refine x_getF (t := 12) (j := 12) (r := 208) (pc := 82) dX14_teach_82 (axH hG rfl) (axEx hG rfl) rfl (by decide) (by decide) rfl rfl WF_X14_29 ?_
      refine x_aload_n (pc := 85) dX14_teach_85 rfl ?_
      refine x_getF (t := 12) (j := 13) (r := 220) (pc := 86) dX14_teach_86 (axH hG rfl) (axEx hG rfl) rfl (by decide) (by decide) rfl rfl WF_X14_33 ?_
      obtain ⟨M110, r109, hf⟩ := bd1_some hf
      refine x_cv (vs := [vR 208, vR 220]) (rest := []) (k := 0) rfl (by omega) (ax_caV (pc := 89) dX14_teach_89 kX13_become rfl rfl WM_X14_259 WI_X13_become WS_X13_become WN_X13 (ax_rcO (t := 11) (axEx hG rfl) rfl (by decide)) (Nat.le_of_ble_eq_true rfl)) kX13_become rfl True.intro (T_X13_become (by omega) hG r109) ?_
      refine x_aload_n (pc := 92) dX14_teach_92 rfl ?_
      refine x_getF (t := 12) (j := 12) (r := 208) (pc := 93) dX14_teach_93 (axH hG rfl) (axEx hG rfl) rfl (by decide) (by decide) rfl rfl WF_X14_29 ?_
      refine x_getFN (t := 11) (j := 2) (r := 209) (pc := 96) dX14_teach_96 (axH hG rfl) (axEx hG rfl) rfl (by decide) (by decide) rfl rfl NF_X14_214 ?_
      refine x_iconst (pc := 99) dX14_teach_99 ⟨by decide, by decide⟩ ?_
      refine x_aload_n (pc := 100) dX14_teach_100 rfl ?_
      refine x_getF (t := 12) (j := 15) (r := 233) (pc := 101) dX14_teach_101 (axH hG rfl) (axEx hG rfl) rfl (by decide) (by decide) rfl rfl WF_X14_39 ?_
      refine x_iconst (pc := 104) dX14_teach_104 ⟨by decide, by decide⟩ ?_
      refine x_bipush (pc := 105) dX14_teach_105 (by decide) ⟨by decide, by decide⟩ ?_
      refine x_copy (n0 := 81) (n := 81) (pc := 107) dX14_teach_107 (axEx hG rfl) rfl (axEx hG rfl) rfl (by decide) (by decide) WM_X14_263 WX_native WX_static WN_System (Nat.le_of_ble_eq_true rfl) (by omega) ?_
      refine x_aload_n (pc := 110) dX14_teach_110 rfl ?_
      refine x_iconst (pc := 111) dX14_teach_111 ⟨by decide, by decide⟩ ?_
      refine x_putI (t := 12) (j := 17) (pc := 112) dX14_teach_112 (axEx hG rfl) rfl (by decide) (by decide) rfl rfl WF_X14_269 ?_
      refine x_iconst (pc := 115) dX14_teach_115 ⟨by decide, by decide⟩ ?_
      cases hf
      exact x_retI (pc := 116) dX14_teach_116
    · replace hf := (if_neg h108).symm.trans hf
      refine x_aload_n (pc := 76) dX14_teach_76 rfl ?_
      refine x_getI (t := 12) (j := 9) (pc := 77) dX14_teach_77 (axEx hG rfl) rfl (by decide) (by decide) rfl WF_X14_132 ?_
      cases hf
      exact x_retI (pc := 80) dX14_teach_80
