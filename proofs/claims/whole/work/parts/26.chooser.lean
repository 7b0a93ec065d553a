/-! walks: Chooser -/
/- HexPond$Chooser.push(I)V -/
def fX2_push (M : ax_M) (a1 : Int) : Option ax_M :=
  (if (mI M 192 4) < 0 then (some M) else (if (mI M 192 4) < 400 then (some (mUI (mUI M 193 (Int.toNat (mI M 192 4)) a1) 192 4 (wr ((mI (mUI M 193 (Int.toNat (mI M 192 4)) a1) 192 4) + 1)))) else (some M)))
theorem T_X2_push {G : ax_G} {d : Nat} (hd : 0 ≤ d) (hG : axPs G 150 244) {M : ax_M} {a1 : Int} {M1 : ax_M} (hf : fX2_push M a1 = some M1) : ax_Ex G tX2_push d 0 (ax_args [vR 192, vI a1] ++ List.replicate 0 none) [] M (.inl none) M1 := by
  show ax_Ex G tX2_push d 0 [some (vR 192), some (vI a1)] [] M _ _
  unfold fX2_push at hf
  refine x_aload_n (pc := 0) dX2_push_0 rfl ?_
  refine x_getI (t := 1) (j := 4) (pc := 1) dX2_push_1 (axEx hG rfl) rfl (by decide) (by decide) rfl WF_X2_118 ?_
  refine ax_cmp1 (fun b2a b2b => ?_)
  refine x_iflt (tgt := 39) (pc := 4) dX2_push_4 rfl (fun h1 => ?_) (fun h1 => ?_)
  · replace hf := (if_pos h1).symm.trans hf
    cases hf
    exact x_retV (pc := 39) dX2_push_39
  · replace hf := (if_neg (Int.not_lt.mpr h1)).symm.trans hf
    refine x_aload_n (pc := 7) dX2_push_7 rfl ?_
    refine x_getI (t := 1) (j := 4) (pc := 8) dX2_push_8 (axEx hG rfl) rfl (by decide) (by decide) rfl WF_X2_118 ?_
    refine x_aload_n (pc := 11) dX2_push_11 rfl ?_
    refine x_getF (t := 1) (j := 3) (r := 193) (pc := 12) dX2_push_12 (axH hG rfl) (axEx hG rfl) rfl (by decide) (by decide) rfl rfl WF_X2_9 ?_
    refine x_alen (t := 0) (n := 400) (pc := 15) dX2_push_15 (axEx hG rfl) rfl (by decide) (by decide) ?_
    refine ax_cmp (fun b4a b4b b4c b4e => ?_)
    refine x_icmpge (tgt := 39) (pc := 16) dX2_push_16 rfl (fun h3 => ?_) (fun h3 => ?_)
    · replace hf := (if_neg (Int.not_lt.mpr h3)).symm.trans hf
      cases hf
      exact x_retV (pc := 39) dX2_push_39
    · replace hf := (if_pos h3).symm.trans hf
      refine x_aload_n (pc := 19) dX2_push_19 rfl ?_
      refine x_getF (t := 1) (j := 3) (r := 193) (pc := 20) dX2_push_20 (axH hG rfl) (axEx hG rfl) rfl (by decide) (by decide) rfl rfl WF_X2_9 ?_
      refine x_aload_n (pc := 23) dX2_push_23 rfl ?_
      refine x_getI (t := 1) (j := 4) (pc := 24) dX2_push_24 (axEx hG rfl) rfl (by decide) (by decide) rfl WF_X2_118 ?_
      refine x_iload_n (pc := 27) dX2_push_27 rfl ?_
      refine x_iast2 (n := 400) (pc := 28) dX2_push_28 (axEx hG rfl) rfl (by omega) (by omega) ?_
      refine x_aload_n (pc := 29) dX2_push_29 rfl ?_
      refine x_dup (pc := 30) dX2_push_30 rfl ?_
      refine x_getI (t := 1) (j := 4) (pc := 31) dX2_push_31 (axEx hG rfl) rfl (by decide) (by decide) rfl WF_X2_118 ?_
      refine x_iconst (pc := 34) dX2_push_34 ⟨by decide, by decide⟩ ?_
      refine x_iaddw (pc := 35) dX2_push_35 ?_
      refine x_putI (t := 1) (j := 4) (pc := 36) dX2_push_36 (axEx hG rfl) rfl (by decide) (by decide) rfl rfl WF_X2_118 ?_
      cases hf
      exact x_retV (pc := 39) dX2_push_39
/- HexPond$Chooser.pop()I -/
def fX2_pop (M : ax_M) : Option (Int × ax_M) :=
  (if 0 < (mI M 192 4) then (if 400 < (mI M 192 4) then (some (0, M)) else (if 0 ≤ (mI (mUI M 192 4 ((mI M 192 4) - 1)) 192 4) ∧ (mI (mUI M 192 4 ((mI M 192 4) - 1)) 192 4) < 400 then (some ((mI (mUI M 192 4 ((mI M 192 4) - 1)) 193 (Int.toNat (mI (mUI M 192 4 ((mI M 192 4) - 1)) 192 4))), (mUI M 192 4 ((mI M 192 4) - 1)))) else none)) else (some (0, M)))
theorem T_X2_pop {G : ax_G} {d : Nat} (hd : 0 ≤ d) (hG : axPs G 150 244) {M : ax_M} {r : Int} {M1 : ax_M} (hf : fX2_pop M = some (r, M1)) : ax_Ex G tX2_pop d 0 (ax_args [vR 192] ++ List.replicate 0 none) [] M (.inl (some (vI r))) M1 := by
  show ax_Ex G tX2_pop d 0 [some (vR 192)] [] M _ _
  unfold fX2_pop at hf
  refine x_aload_n (pc := 0) dX2_pop_0 rfl ?_
  refine x_getI (t := 1) (j := 4) (pc := 1) dX2_pop_1 (axEx hG rfl) rfl (by decide) (by decide) rfl WF_X2_118 ?_
  refine ax_cmp1 (fun b2a b2b => ?_)
  refine x_ifle (tgt := 19) (pc := 4) dX2_pop_4 rfl (fun h1 => ?_) (fun h1 => ?_)
  · replace hf := (if_neg (Int.not_lt.mpr h1)).symm.trans hf
    refine x_iconst (pc := 19) dX2_pop_19 ⟨by decide, by decide⟩ ?_
    cases hf
    exact x_retI (pc := 20) dX2_pop_20
  · replace hf := (if_pos h1).symm.trans hf
    refine x_aload_n (pc := 7) dX2_pop_7 rfl ?_
    refine x_getI (t := 1) (j := 4) (pc := 8) dX2_pop_8 (axEx hG rfl) rfl (by decide) (by decide) rfl WF_X2_118 ?_
    refine x_aload_n (pc := 11) dX2_pop_11 rfl ?_
    refine x_getF (t := 1) (j := 3) (r := 193) (pc := 12) dX2_pop_12 (axH hG rfl) (axEx hG rfl) rfl (by decide) (by decide) rfl rfl WF_X2_9 ?_
    refine x_alen (t := 0) (n := 400) (pc := 15) dX2_pop_15 (axEx hG rfl) rfl (by decide) (by decide) ?_
    refine ax_cmp (fun b4a b4b b4c b4e => ?_)
    refine x_icmple (tgt := 21) (pc := 16) dX2_pop_16 rfl (fun h3 => ?_) (fun h3 => ?_)
    · replace hf := (if_neg (Int.not_lt.mpr h3)).symm.trans hf
      refine x_aload_n (pc := 21) dX2_pop_21 rfl ?_
      refine x_dup (pc := 22) dX2_pop_22 rfl ?_
      refine x_getI (t := 1) (j := 4) (pc := 23) dX2_pop_23 (axEx hG rfl) rfl (by decide) (by decide) rfl WF_X2_118 ?_
      refine x_iconst (pc := 26) dX2_pop_26 ⟨by decide, by decide⟩ ?_
      refine x_isub (z := ((mI M 192 4) - 1)) (pc := 27) dX2_pop_27 rfl (ax_i (by omega) (by omega)) ?_
      refine x_putI (t := 1) (j := 4) (pc := 28) dX2_pop_28 (axEx hG rfl) rfl (by decide) (by decide) rfl rfl WF_X2_118 ?_
      refine x_aload_n (pc := 31) dX2_pop_31 rfl ?_
      refine x_getF (t := 1) (j := 3) (r := 193) (pc := 32) dX2_pop_32 (axH hG rfl) (axEx hG rfl) rfl (by decide) (by decide) rfl rfl WF_X2_9 ?_
      refine x_aload_n (pc := 35) dX2_pop_35 rfl ?_
      refine x_getI (t := 1) (j := 4) (pc := 36) dX2_pop_36 (axEx hG rfl) rfl (by decide) (by decide) rfl WF_X2_118 ?_
      by_cases h5 : 0 ≤ (mI (mUI M 192 4 ((mI M 192 4) - 1)) 192 4) ∧ (mI (mUI M 192 4 ((mI M 192 4) - 1)) 192 4) < 400
      · replace hf := (if_pos h5).symm.trans hf
        refine x_iald2 (n := 400) (pc := 39) dX2_pop_39 (axEx hG rfl) rfl h5.1 h5.2 ?_
        cases hf
        exact x_retI (pc := 40) dX2_pop_40
      · replace hf := (if_neg h5).symm.trans hf
        cases hf
    · replace hf := (if_pos h3).symm.trans hf
      refine x_iconst (pc := 19) dX2_pop_19 ⟨by decide, by decide⟩ ?_
      cases hf
      exact x_retI (pc := 20) dX2_pop_20
/- HexPond$Chooser.joined(LHexPond$Kind;II)I -/
def fX2_joined (M : ax_M) (a1 : Nat) (a2 : Int) (a3 : Int) : Int :=
  (if (cA5.getD (Int.toNat ((a1 - 10 : Nat) : Int)) 0) = 15 then ((wr (a2 + a3))) else (if (cA5.getD (Int.toNat ((a1 - 10 : Nat) : Int)) 0) = 16 then ((wr (a2 - a3))) else (if (cA5.getD (Int.toNat ((a1 - 10 : Nat) : Int)) 0) = 17 then ((wr (a2 * a3))) else (if (cA5.getD (Int.toNat ((a1 - 10 : Nat) : Int)) 0) = 18 then (if a3 = 0 then (0) else ((wr (Int.tdiv a2 a3)))) else (if (cA5.getD (Int.toNat ((a1 - 10 : Nat) : Int)) 0) = 19 then ((fJ9_min_7cf53 M a2 a3)) else (if (cA5.getD (Int.toNat ((a1 - 10 : Nat) : Int)) 0) = 20 then ((fJ9_max_7cf53 M a2 a3)) else (if (cA5.getD (Int.toNat ((a1 - 10 : Nat) : Int)) 0) = 21 then (if a2 < a3 then (1) else (0)) else (if (cA5.getD (Int.toNat ((a1 - 10 : Nat) : Int)) 0) = 22 then (if a3 < a2 then (1) else (0)) else (if (cA5.getD (Int.toNat ((a1 - 10 : Nat) : Int)) 0) = 23 then (if a2 = a3 then (1) else (0)) else (if (cA5.getD (Int.toNat ((a1 - 10 : Nat) : Int)) 0) = 24 then (if a3 < a2 then (0) else (1)) else (if (cA5.getD (Int.toNat ((a1 - 10 : Nat) : Int)) 0) = 25 then (if a2 < a3 then (0) else (1)) else (if (cA5.getD (Int.toNat ((a1 - 10 : Nat) : Int)) 0) = 26 then ((iand a2 a3)) else (if (cA5.getD (Int.toNat ((a1 - 10 : Nat) : Int)) 0) = 27 then ((ior a2 a3)) else (0))))))))))))))
theorem T_X2_joined {G : ax_G} {d : Nat} (hd : 1 ≤ d) (hG : axPs G 150 244) {M : ax_M} {a1 : Nat} {a2 : Int} {a3 : Int} (y_a1 : 10 ≤ a1 ∧ a1 < 52) {r : Int} (hf : fX2_joined M a1 a2 a3 = r) : ax_Ex G tX2_joined d 0 (ax_args [vR a1, vI a2, vI a3] ++ List.replicate 0 none) [] M (.inl (some (vI r))) M := by
  show ax_Ex G tX2_joined d 0 [some (vR a1), some (vI a2), some (vI a3)] [] M _ _
  unfold fX2_joined at hf
  refine x_gets (v := vR 5) _ (pc := 0) dX2_joined_0 (axS_mem (n := 4) rfl) rfl trivial WF_X2_63 ?_
  refine x_aload_n (pc := 3) dX2_joined_3 rfl ?_
  refine x_cr (v := vI ((a1 - 10 : Nat) : Int)) (vs := [vR a1]) (rest := [vR 5]) (k := 0) rfl (by omega) (ax_caU (pc := 4) dX2_joined_4 kJx29ce0_ordinal_8abf5 rfl rfl rfl WM_X2_72 WX_same WX_sel WX_ins WN_Jx29ce0 (ax_rcK (axKc_kind y_a1)) (Nat.le_of_ble_eq_true rfl)) kJx29ce0_ordinal_8abf5 rfl True.intro (T_ord y_a1) ?_
  refine x_cald2 cA5 (pc := 7) dX2_joined_7 cA5_K cA5_in (by omega) (by have e9 : (cA5.length : Int) = 42 := rfl; omega) ?_
  by_cases h1 : (cA5.getD (Int.toNat ((a1 - 10 : Nat) : Int)) 0) = 15
  · replace hf := (if_pos h1).symm.trans hf
    refine x_tabIn (tgt := 76) 15 (pc := 8) dX2_joined_8 h1 (by decide) (by decide) rfl rfl ?_
    refine x_iload_n (pc := 76) dX2_joined_76 rfl ?_
    refine x_iload_n (pc := 77) dX2_joined_77 rfl ?_
    refine x_iaddw (pc := 78) dX2_joined_78 ?_
    subst hf
    exact x_retI (pc := 79) dX2_joined_79
  replace hf := (if_neg h1).symm.trans hf
  by_cases h2 : (cA5.getD (Int.toNat ((a1 - 10 : Nat) : Int)) 0) = 16
  · replace hf := (if_pos h2).symm.trans hf
    refine x_tabIn (tgt := 80) 16 (pc := 8) dX2_joined_8 h2 (by decide) (by decide) rfl rfl ?_
    refine x_iload_n (pc := 80) dX2_joined_80 rfl ?_
    refine x_iload_n (pc := 81) dX2_joined_81 rfl ?_
    refine x_isubw (pc := 82) dX2_joined_82 ?_
    subst hf
    exact x_retI (pc := 83) dX2_joined_83
  replace hf := (if_neg h2).symm.trans hf
  by_cases h3 : (cA5.getD (Int.toNat ((a1 - 10 : Nat) : Int)) 0) = 17
  · replace hf := (if_pos h3).symm.trans hf
    refine x_tabIn (tgt := 84) 17 (pc := 8) dX2_joined_8 h3 (by decide) (by decide) rfl rfl ?_
    refine x_iload_n (pc := 84) dX2_joined_84 rfl ?_
    refine x_iload_n (pc := 85) dX2_joined_85 rfl ?_
    refine x_imulw (pc := 86) dX2_joined_86 ?_
    subst hf
    exact x_retI (pc := 87) dX2_joined_87
  replace hf := (if_neg h3).symm.trans hf
  by_cases h4 : (cA5.getD (Int.toNat ((a1 - 10 : Nat) : Int)) 0) = 18
  · replace hf := (if_pos h4).symm.trans hf
    refine x_tabIn (tgt := 88) 18 (pc := 8) dX2_joined_8 h4 (by decide) (by decide) rfl rfl ?_
    refine x_iload_n (pc := 88) dX2_joined_88 rfl ?_
    refine x_ifne (tgt := 96) (pc := 89) dX2_joined_89 rfl (fun h5 => ?_) (fun h5 => ?_)
    · replace hf := (if_neg h5).symm.trans hf
      refine x_iload_n (pc := 96) dX2_joined_96 rfl ?_
      refine x_iload_n (pc := 97) dX2_joined_97 rfl ?_
      refine x_idivT (pc := 98) dX2_joined_98 (by omega) ?_
      subst hf
      exact x_retI (pc := 99) dX2_joined_99
    · replace hf := (if_pos h5).symm.trans hf
      refine x_iconst (pc := 92) dX2_joined_92 ⟨by decide, by decide⟩ ?_
      refine x_goto (tgt := 99) (pc := 93) dX2_joined_93 rfl ?_
      subst hf
      exact x_retI (pc := 99) dX2_joined_99
  replace hf := (if_neg h4).symm.trans hf
  by_cases h6 : (cA5.getD (Int.toNat ((a1 - 10 : Nat) : Int)) 0) = 19
  · replace hf := (if_pos h6).symm.trans hf
    refine x_tabIn (tgt := 100) 19 (pc := 8) dX2_joined_8 h6 (by decide) (by decide) rfl rfl ?_
    refine x_iload_n (pc := 100) dX2_joined_100 rfl ?_
    refine x_iload_n (pc := 101) dX2_joined_101 rfl ?_
    refine x_cr (v := vI (fJ9_min_7cf53 M a2 a3)) (vs := [vI a2, vI a3]) (rest := []) (k := 0) rfl (by omega) (ax_caS (pc := 102) dX2_joined_102 kJ9_min_7cf53 rfl rfl WM_X2_154 WT_J9_min_7cf53 WN_J9 (Nat.le_of_ble_eq_true rfl)) kJ9_min_7cf53 rfl True.intro (T_J9_min_7cf53 (by omega) rfl) ?_
    subst hf
    exact x_retI (pc := 105) dX2_joined_105
  replace hf := (if_neg h6).symm.trans hf
  by_cases h7 : (cA5.getD (Int.toNat ((a1 - 10 : Nat) : Int)) 0) = 20
  · replace hf := (if_pos h7).symm.trans hf
    refine x_tabIn (tgt := 106) 20 (pc := 8) dX2_joined_8 h7 (by decide) (by decide) rfl rfl ?_
    refine x_iload_n (pc := 106) dX2_joined_106 rfl ?_
    refine x_iload_n (pc := 107) dX2_joined_107 rfl ?_
    refine x_cr (v := vI (fJ9_max_7cf53 M a2 a3)) (vs := [vI a2, vI a3]) (rest := []) (k := 0) rfl (by omega) (ax_caS (pc := 108) dX2_joined_108 kJ9_max_7cf53 rfl rfl WM_X2_157 WT_J9_max_7cf53 WN_J9 (Nat.le_of_ble_eq_true rfl)) kJ9_max_7cf53 rfl True.intro (T_J9_max_7cf53 (by omega) rfl) ?_
    subst hf
    exact x_retI (pc := 111) dX2_joined_111
  replace hf := (if_neg h7).symm.trans hf
  by_cases h8 : (cA5.getD (Int.toNat ((a1 - 10 : Nat) : Int)) 0) = 21
  · replace hf := (if_pos h8).symm.trans hf
    refine x_tabIn (tgt := 112) 21 (pc := 8) dX2_joined_8 h8 (by decide) (by decide) rfl rfl ?_
    refine x_iload_n (pc := 112) dX2_joined_112 rfl ?_
    refine x_iload_n (pc := 113) dX2_joined_113 rfl ?_
    refine ax_cmp (fun b10a b10b b10c b10e => ?_)
    refine x_icmpge (tgt := 121) (pc := 114) dX2_joined_114 rfl (fun h9 => ?_) (fun h9 => ?_)
    · replace hf := (if_neg (Int.not_lt.mpr h9)).symm.trans hf
      refine x_iconst (pc := 121) dX2_joined_121 ⟨by decide, by decide⟩ ?_
      subst hf
      exact x_retI (pc := 122) dX2_joined_122
    · replace hf := (if_pos h9).symm.trans hf
      refine x_iconst (pc := 117) dX2_joined_117 ⟨by decide, by decide⟩ ?_
      refine x_goto (tgt := 122) (pc := 118) dX2_joined_118 rfl ?_
      subst hf
      exact x_retI (pc := 122) dX2_joined_122
  replace hf := (if_neg h8).symm.trans hf
  by_cases h11 : (cA5.getD (Int.toNat ((a1 - 10 : Nat) : Int)) 0) = 22
  · replace hf := (if_pos h11).symm.trans hf
    refine x_tabIn (tgt := 123) 22 (pc := 8) dX2_joined_8 h11 (by decide) (by decide) rfl rfl ?_
    refine x_iload_n (pc := 123) dX2_joined_123 rfl ?_
    refine x_iload_n (pc := 124) dX2_joined_124 rfl ?_
    refine ax_cmp (fun b13a b13b b13c b13e => ?_)
    refine x_icmple (tgt := 132) (pc := 125) dX2_joined_125 rfl (fun h12 => ?_) (fun h12 => ?_)
    · replace hf := (if_neg (Int.not_lt.mpr h12)).symm.trans hf
      refine x_iconst (pc := 132) dX2_joined_132 ⟨by decide, by decide⟩ ?_
      subst hf
      exact x_retI (pc := 133) dX2_joined_133
    · replace hf := (if_pos h12).symm.trans hf
      refine x_iconst (pc := 128) dX2_joined_128 ⟨by decide, by decide⟩ ?_
      refine x_goto (tgt := 133) (pc := 129) dX2_joined_129 rfl ?_
      subst hf
      exact x_retI (pc := 133) dX2_joined_133
  replace hf := (if_neg h11).symm.trans hf
  by_cases h14 : (cA5.getD (Int.toNat ((a1 - 10 : Nat) : Int)) 0) = 23
  · replace hf := (if_pos h14).symm.trans hf
    refine x_tabIn (tgt := 134) 23 (pc := 8) dX2_joined_8 h14 (by decide) (by decide) rfl rfl ?_
    refine x_iload_n (pc := 134) dX2_joined_134 rfl ?_
    refine x_iload_n (pc := 135) dX2_joined_135 rfl ?_
    refine x_icmpne (tgt := 143) (pc := 136) dX2_joined_136 rfl (fun h15 => ?_) (fun h15 => ?_)
    · replace hf := (if_neg h15).symm.trans hf
      refine x_iconst (pc := 143) dX2_joined_143 ⟨by decide, by decide⟩ ?_
      subst hf
      exact x_retI (pc := 144) dX2_joined_144
    · replace hf := (if_pos h15).symm.trans hf
      refine x_iconst (pc := 139) dX2_joined_139 ⟨by decide, by decide⟩ ?_
      refine x_goto (tgt := 144) (pc := 140) dX2_joined_140 rfl ?_
      subst hf
      exact x_retI (pc := 144) dX2_joined_144
  replace hf := (if_neg h14).symm.trans hf
  by_cases h16 : (cA5.getD (Int.toNat ((a1 - 10 : Nat) : Int)) 0) = 24
  · replace hf := (if_pos h16).symm.trans hf
    refine x_tabIn (tgt := 145) 24 (pc := 8) dX2_joined_8 h16 (by decide) (by decide) rfl rfl ?_
    refine x_iload_n (pc := 145) dX2_joined_145 rfl ?_
    refine x_iload_n (pc := 146) dX2_joined_146 rfl ?_
    refine ax_cmp (fun b18a b18b b18c b18e => ?_)
    refine x_icmpgt (tgt := 154) (pc := 147) dX2_joined_147 rfl (fun h17 => ?_) (fun h17 => ?_)
    · replace hf := (if_pos h17).symm.trans hf
      refine x_iconst (pc := 154) dX2_joined_154 ⟨by decide, by decide⟩ ?_
      subst hf
      exact x_retI (pc := 155) dX2_joined_155
    · replace hf := (if_neg (Int.not_lt.mpr h17)).symm.trans hf
      refine x_iconst (pc := 150) dX2_joined_150 ⟨by decide, by decide⟩ ?_
      refine x_goto (tgt := 155) (pc := 151) dX2_joined_151 rfl ?_
      subst hf
      exact x_retI (pc := 155) dX2_joined_155
  replace hf := (if_neg h16).symm.trans hf
  by_cases h19 : (cA5.getD (Int.toNat ((a1 - 10 : Nat) : Int)) 0) = 25
  · replace hf := (if_pos h19).symm.trans hf
    refine x_tabIn (tgt := 156) 25 (pc := 8) dX2_joined_8 h19 (by decide) (by decide) rfl rfl ?_
    refine x_iload_n (pc := 156) dX2_joined_156 rfl ?_
    refine x_iload_n (pc := 157) dX2_joined_157 rfl ?_
    refine ax_cmp (fun b21a b21b b21c b21e => ?_)
    refine x_icmplt (tgt := 165) (pc := 158) dX2_joined_158 rfl (fun h20 => ?_) (fun h20 => ?_)
    · replace hf := (if_pos h20).symm.trans hf
      refine x_iconst (pc := 165) dX2_joined_165 ⟨by decide, by decide⟩ ?_
      subst hf
      exact x_retI (pc := 166) dX2_joined_166
    · replace hf := (if_neg (Int.not_lt.mpr h20)).symm.trans hf
      refine x_iconst (pc := 161) dX2_joined_161 ⟨by decide, by decide⟩ ?_
      refine x_goto (tgt := 166) (pc := 162) dX2_joined_162 rfl ?_
      subst hf
      exact x_retI (pc := 166) dX2_joined_166
  replace hf := (if_neg h19).symm.trans hf
  by_cases h22 : (cA5.getD (Int.toNat ((a1 - 10 : Nat) : Int)) 0) = 26
  · replace hf := (if_pos h22).symm.trans hf
    refine x_tabIn (tgt := 167) 26 (pc := 8) dX2_joined_8 h22 (by decide) (by decide) rfl rfl ?_
    refine x_iload_n (pc := 167) dX2_joined_167 rfl ?_
    refine x_iload_n (pc := 168) dX2_joined_168 rfl ?_
    refine x_iand (z := (iand a2 a3)) (pc := 169) dX2_joined_169 rfl ?_
    subst hf
    exact x_retI (pc := 170) dX2_joined_170
  replace hf := (if_neg h22).symm.trans hf
  by_cases h23 : (cA5.getD (Int.toNat ((a1 - 10 : Nat) : Int)) 0) = 27
  · replace hf := (if_pos h23).symm.trans hf
    refine x_tabIn (tgt := 171) 27 (pc := 8) dX2_joined_8 h23 (by decide) (by decide) rfl rfl ?_
    refine x_iload_n (pc := 171) dX2_joined_171 rfl ?_
    refine x_iload_n (pc := 172) dX2_joined_172 rfl ?_
    refine x_ior (z := (ior a2 a3)) (pc := 173) dX2_joined_173 rfl ?_
    subst hf
    exact x_retI (pc := 174) dX2_joined_174
  replace hf := (if_neg h23).symm.trans hf
  refine x_tabOut (tgt := 175) (pc := 8) dX2_joined_8 (by omega) rfl ?_
  refine x_iconst (pc := 175) dX2_joined_175 ⟨by decide, by decide⟩ ?_
  subst hf
  exact x_retI (pc := 176) dX2_joined_176
/- HexPond$Chooser.remainder(II)I -/
def fX2_remainder (M : ax_M) (a1 : Int) (a2 : Int) : Option Int :=
  (if 0 < a2 then (bd1 (fJ9_floorMod_7cf53 M a1 a2) fun v4 => (some v4)) else (some 0))
theorem T_X2_remainder {G : ax_G} {d : Nat} (hd : 1 ≤ d) (hG : axPs G 150 244) {M : ax_M} {a1 : Int} {a2 : Int} {r : Int} (hf : fX2_remainder M a1 a2 = some r) : ax_Ex G tX2_remainder d 0 (ax_args [vI a1, vI a2] ++ List.replicate 0 none) [] M (.inl (some (vI r))) M := by
  show ax_Ex G tX2_remainder d 0 [some (vI a1), some (vI a2)] [] M _ _
  unfold fX2_remainder at hf
  refine x_iload_n (pc := 0) dX2_remainder_0 rfl ?_
  refine ax_cmp1 (fun b2a b2b => ?_)
  refine x_ifle (tgt := 12) (pc := 1) dX2_remainder_1 rfl (fun h1 => ?_) (fun h1 => ?_)
  · replace hf := (if_neg (Int.not_lt.mpr h1)).symm.trans hf
    refine x_iconst (pc := 12) dX2_remainder_12 ⟨by decide, by decide⟩ ?_
    cases hf
    exact x_retI (pc := 13) dX2_remainder_13
  · replace hf := (if_pos h1).symm.trans hf
    refine x_iload_n (pc := 4) dX2_remainder_4 rfl ?_
    refine x_iload_n (pc := 5) dX2_remainder_5 rfl ?_
    obtain ⟨v4, r3, hf⟩ := bd1_some hf
    refine x_cr (v := vI v4) (vs := [vI a1, vI a2]) (rest := []) (k := 1) rfl (by omega) (ax_caS (pc := 6) dX2_remainder_6 kJ9_floorMod_7cf53 rfl rfl WM_X2_113 WT_J9_floorMod_7cf53 WN_J9 (Nat.le_of_ble_eq_true rfl)) kJ9_floorMod_7cf53 rfl True.intro (T_J9_floorMod_7cf53 (by omega) r3) ?_
    refine x_goto (tgt := 13) (pc := 9) dX2_remainder_9 rfl ?_
    cases hf
    exact x_retI (pc := 13) dX2_remainder_13
/- HexPond$Chooser.reckon(LHexPond$Plans;II)I -/
def fX2_reckon_b8 (M : ax_M) (x1 : Nat) (x3 : Int) (v4 : Int) : Option ((Int × ax_M) ⊕ ax_M) :=
  (if v4 < x3 then (if (cA5.getD (Int.toNat (((fX7_opAt M x1 v4) - 10 : Nat) : Int)) 0) = 6 then (bd1 (fX2_push M (fX7_operandAt M x1 v4)) fun M7 => (some (.inl ((v4 + 1), M7)))) else (if (cA5.getD (Int.toNat (((fX7_opAt M x1 v4) - 10 : Nat) : Int)) 0) = 7 then (bd1 (fX2_push M (fX8_stones M)) fun M10 => (some (.inl ((v4 + 1), M10)))) else (if (cA5.getD (Int.toNat (((fX7_opAt M x1 v4) - 10 : Nat) : Int)) 0) = 8 then (bd1 (fX2_push M (fX8_freeCells M)) fun M13 => (some (.inl ((v4 + 1), M13)))) else (if (cA5.getD (Int.toNat (((fX7_opAt M x1 v4) - 10 : Nat) : Int)) 0) = 9 then (bd1 (fX2_push M (fX8_stonesOf M (fX7_operandAt M x1 v4))) fun M16 => (some (.inl ((v4 + 1), M16)))) else (if (cA5.getD (Int.toNat (((fX7_opAt M x1 v4) - 10 : Nat) : Int)) 0) = 10 then (bd1 (fX2_push M (fX1_whole M (fX7_operandAt M x1 v4))) fun M19 => (some (.inl ((v4 + 1), M19)))) else (if (cA5.getD (Int.toNat (((fX7_opAt M x1 v4) - 10 : Nat) : Int)) 0) = 11 then (bd1 (fX2_push M (fX11_needed M (fX7_operandAt M x1 v4))) fun M22 => (some (.inl ((v4 + 1), M22)))) else (if (cA5.getD (Int.toNat (((fX7_opAt M x1 v4) - 10 : Nat) : Int)) 0) = 12 then (if (fX11_needed M (fX7_operandAt M x1 v4)) = 0 then (bd1 (fX2_push M 1) fun M26 => (some (.inl ((v4 + 1), M26)))) else (bd1 (fX2_push M 0) fun M28 => (some (.inl ((v4 + 1), M28))))) else (if (cA5.getD (Int.toNat (((fX7_opAt M x1 v4) - 10 : Nat) : Int)) 0) = 13 then (bd2 (fX2_pop M) fun v32 M31 => (bd1 (fX2_push M31 (wr (-v32))) fun M34 => (some (.inl ((v4 + 1), M34))))) else (if (cA5.getD (Int.toNat (((fX7_opAt M x1 v4) - 10 : Nat) : Int)) 0) = 14 then (bd2 (fX2_pop M) fun v38 M37 => (bd1 (fX2_push M37 (wr (1 - v38))) fun M40 => (some (.inl ((v4 + 1), M40))))) else (bd2 (fX2_pop M) fun v43 M42 => (bd2 (fX2_pop M42) fun v46 M45 => (bd1 (fX2_push M45 (fX2_joined M45 (fX7_opAt M x1 v4) v46 v43)) fun M48 => (some (.inl ((v4 + 1), M48))))))))))))))) else (some (.inr M)))
def fX2_reckon (M : ax_M) (a1 : Nat) (a2 : Int) (a3 : Int) : Option (Int × ax_M) :=
  (bd1 (lp (fun s => fX2_reckon_b8 s.2 a1 a3 s.1) lpN (a2, (mUI M 192 4 0))) fun t49 => (bd2 (fX2_pop t49) fun v53 M52 => (some (v53, M52))))
theorem B_X2_reckon_8 {G : ax_G} {d : Nat} (hd : 2 ≤ d) (hG : axPs G 150 244) {M : ax_M} {x1 : Nat} {x3 : Int} {v4 : Int} (hy1 : (x1 = 157 ∨ x1 = 194)) {o : Option ax_V ⊕ String} {M' : ax_M} {y : (Int × ax_M) ⊕ ax_M} (hf : fX2_reckon_b8 M x1 x3 v4 = some y) (h1 : ∀ s', y = .inl s' → ax_Ex G tX2_reckon d 8 [some (vR 192), some (vR x1), none, some (vI x3), some (vI s'.1), none, none, none, none] [] s'.2 o M') (h2a : ∀ t, y = .inr t → ax_Ex G tX2_reckon d 253 [some (vR 192), some (vR x1), none, some (vI x3), none, none, none, none, none] [] t o M') : ax_Ex G tX2_reckon d 8 [some (vR 192), some (vR x1), none, some (vI x3), some (vI v4), none, none, none, none] [] M o M' := by
  unfold fX2_reckon_b8 at hf
  refine x_iload (pc := 8) dX2_reckon_8 rfl ?_
  refine x_iload_n (pc := 10) dX2_reckon_10 rfl ?_
  refine ax_cmp (fun b2a b2b b2c b2e => ?_)
  refine x_icmpge (tgt := 253) (pc := 11) dX2_reckon_11 rfl (fun h1 => ?_) (fun h1 => ?_)
  · replace hf := (if_neg (Int.not_lt.mpr h1)).symm.trans hf
    cases hf
    exact x_fgt (axS' (axS' (axN' (axS' (axN' (axN' (axN' (axN' (axN' axD))))))))) (h2a _ rfl)
  · replace hf := (if_pos h1).symm.trans hf
    refine x_aload_n (pc := 14) dX2_reckon_14 rfl ?_
    refine x_iload (pc := 15) dX2_reckon_15 rfl ?_
    refine ax_know (fun g3 _ _ => ?_)
    have q4 := R_X7_opAt g3 hy1 (r := (fX7_opAt M x1 v4)) rfl
    refine x_cr (v := vR (fX7_opAt M x1 v4)) (vs := [vR x1, vI v4]) (rest := []) (k := 1) rfl (by omega) (ax_caV (pc := 17) dX2_reckon_17 kX7_opAt rfl rfl WM_X2_122 WI_X7_opAt WS_X7_opAt WN_X7 (ax_rcO (t := 5) (by rcases hy1 with rfl | rfl <;> exact axEx hG rfl) (by rcases hy1 with rfl | rfl <;> rfl) (by decide)) (Nat.le_of_ble_eq_true rfl)) kX7_opAt rfl True.intro (T_X7_opAt (by omega) hG hy1 rfl) ?_
    refine x_astore (ls' := [some (vR 192), some (vR x1), none, some (vI x3), some (vI v4), some (vR (fX7_opAt M x1 v4)), none, none, none]) (pc := 20) dX2_reckon_20 (Nat.le_of_ble_eq_true rfl) rfl rfl ?_
    refine x_aload_n (pc := 22) dX2_reckon_22 rfl ?_
    refine x_iload (pc := 23) dX2_reckon_23 rfl ?_
    refine x_cr (v := vI (fX7_operandAt M x1 v4)) (vs := [vR x1, vI v4]) (rest := []) (k := 0) rfl (by omega) (ax_caV (pc := 25) dX2_reckon_25 kX7_operandAt rfl rfl WM_X2_125 WI_X7_operandAt WS_X7_operandAt WN_X7 (ax_rcO (t := 5) (by rcases hy1 with rfl | rfl <;> exact axEx hG rfl) (by rcases hy1 with rfl | rfl <;> rfl) (by decide)) (Nat.le_of_ble_eq_true rfl)) kX7_operandAt rfl True.intro (T_X7_operandAt (by omega) hG hy1 rfl) ?_
    refine x_istore (ls' := [some (vR 192), some (vR x1), none, some (vI x3), some (vI v4), some (vR (fX7_opAt M x1 v4)), some (vI (fX7_operandAt M x1 v4)), none, none]) (pc := 28) dX2_reckon_28 (Nat.le_of_ble_eq_true rfl) rfl rfl ?_
    refine x_gets (v := vR 5) _ (pc := 30) dX2_reckon_30 (axS_mem (n := 4) rfl) rfl trivial WF_X2_63 ?_
    refine x_aload (pc := 33) dX2_reckon_33 rfl ?_
    refine x_cr (v := vI (((fX7_opAt M x1 v4) - 10 : Nat) : Int)) (vs := [vR (fX7_opAt M x1 v4)]) (rest := [vR 5]) (k := 0) rfl (by omega) (ax_caU (pc := 35) dX2_reckon_35 kJx29ce0_ordinal_8abf5 rfl rfl rfl WM_X2_72 WX_same WX_sel WX_ins WN_Jx29ce0 (ax_rcK (axKc_kind q4)) (Nat.le_of_ble_eq_true rfl)) kJx29ce0_ordinal_8abf5 rfl True.intro (T_ord q4) ?_
    refine x_cald2 cA5 (pc := 38) dX2_reckon_38 cA5_K cA5_in (by omega) (by have e9 : (cA5.length : Int) = 42 := rfl; omega) ?_
    by_cases h5 : (cA5.getD (Int.toNat (((fX7_opAt M x1 v4) - 10 : Nat) : Int)) 0) = 6
    · replace hf := (if_pos h5).symm.trans hf
      refine x_tabIn (tgt := 88) 6 (pc := 39) dX2_reckon_39 h5 (by decide) (by decide) rfl rfl ?_
      refine x_aload_n (pc := 88) dX2_reckon_88 rfl ?_
      refine x_iload (pc := 89) dX2_reckon_89 rfl ?_
      obtain ⟨M7, r6, hf⟩ := bd1_some hf
      refine x_cv (vs := [vR 192, vI (fX7_operandAt M x1 v4)]) (rest := []) (k := 0) rfl (by omega) (ax_caV (pc := 91) dX2_reckon_91 kX2_push rfl rfl WM_X2_128 WI_X2_push WS_X2_push WN_X2 (ax_rcO (t := 1) (axEx hG rfl) rfl (by decide)) (Nat.le_of_ble_eq_true rfl)) kX2_push rfl True.intro (T_X2_push (by omega) hG r6) ?_
      refine x_goto (tgt := 247) (pc := 94) dX2_reckon_94 rfl ?_
      refine x_iinc (z := (v4 + 1)) (ls' := [some (vR 192), some (vR x1), none, some (vI x3), some (vI (v4 + 1)), some (vR (fX7_opAt M x1 v4)), some (vI (fX7_operandAt M x1 v4)), none, none]) (pc := 247) dX2_reckon_247 rfl (Nat.le_of_ble_eq_true rfl) rfl rfl (ax_i (by omega) (by omega)) rfl ?_
      refine x_goto (tgt := 8) (pc := 250) dX2_reckon_250 rfl ?_
      cases hf
      exact x_fgt (axS' (axS' (axN' (axS' (axS' (axN' (axN' (axN' (axN' axD))))))))) (h1 _ rfl)
    replace hf := (if_neg h5).symm.trans hf
    by_cases h8 : (cA5.getD (Int.toNat (((fX7_opAt M x1 v4) - 10 : Nat) : Int)) 0) = 7
    · replace hf := (if_pos h8).symm.trans hf
      refine x_tabIn (tgt := 97) 7 (pc := 39) dX2_reckon_39 h8 (by decide) (by decide) rfl rfl ?_
      refine x_aload_n (pc := 97) dX2_reckon_97 rfl ?_
      refine x_aload_n (pc := 98) dX2_reckon_98 rfl ?_
      refine x_getF (t := 1) (j := 0) (r := 169) (pc := 99) dX2_reckon_99 (axH hG rfl) (axEx hG rfl) rfl (by decide) (by decide) rfl rfl WF_X2_15 ?_
      refine x_cr (v := vI (fX8_stones M)) (vs := [vR 169]) (rest := [vR 192]) (k := 0) rfl (by omega) (ax_caV (pc := 102) dX2_reckon_102 kX8_stones rfl rfl WM_X2_132 WI_X8_stones WS_X8_stones WN_X8 (ax_rcO (t := 6) (axEx hG rfl) rfl (by decide)) (Nat.le_of_ble_eq_true rfl)) kX8_stones rfl True.intro (T_X8_stones (by omega) (axPs.sub hG (Nat.le_of_ble_eq_true rfl) (Nat.le_of_ble_eq_true rfl)) rfl) ?_
      obtain ⟨M10, r9, hf⟩ := bd1_some hf
      refine x_cv (vs := [vR 192, vI (fX8_stones M)]) (rest := []) (k := 0) rfl (by omega) (ax_caV (pc := 105) dX2_reckon_105 kX2_push rfl rfl WM_X2_128 WI_X2_push WS_X2_push WN_X2 (ax_rcO (t := 1) (axEx hG rfl) rfl (by decide)) (Nat.le_of_ble_eq_true rfl)) kX2_push rfl True.intro (T_X2_push (by omega) hG r9) ?_
      refine x_goto (tgt := 247) (pc := 108) dX2_reckon_108 rfl ?_
      refine x_iinc (z := (v4 + 1)) (ls' := [some (vR 192), some (vR x1), none, some (vI x3), some (vI (v4 + 1)), some (vR (fX7_opAt M x1 v4)), some (vI (fX7_operandAt M x1 v4)), none, none]) (pc := 247) dX2_reckon_247 rfl (Nat.le_of_ble_eq_true rfl) rfl rfl (ax_i (by omega) (by omega)) rfl ?_
      refine x_goto (tgt := 8) (pc := 250) dX2_reckon_250 rfl ?_
      cases hf
      exact x_fgt (axS' (axS' (axN' (axS' (axS' (axN' (axN' (axN' (axN' axD))))))))) (h1 _ rfl)
    replace hf := (if_neg h8).symm.trans hf
    by_cases h11 : (cA5.getD (Int.toNat (((fX7_opAt M x1 v4) - 10 : Nat) : Int)) 0) = 8
    · replace hf := (if_pos h11).symm.trans hf
      refine x_tabIn (tgt := 111) 8 (pc := 39) dX2_reckon_39 h11 (by decide) (by decide) rfl rfl ?_
      refine x_aload_n (pc := 111) dX2_reckon_111 rfl ?_
      refine x_aload_n (pc := 112) dX2_reckon_112 rfl ?_
      refine x_getF (t := 1) (j := 0) (r := 169) (pc := 113) dX2_reckon_113 (axH hG rfl) (axEx hG rfl) rfl (by decide) (by decide) rfl rfl WF_X2_15 ?_
      refine x_cr (v := vI (fX8_freeCells M)) (vs := [vR 169]) (rest := [vR 192]) (k := 0) rfl (by omega) (ax_caV (pc := 116) dX2_reckon_116 kX8_freeCells rfl rfl WM_X2_135 WI_X8_freeCells WS_X8_freeCells WN_X8 (ax_rcO (t := 6) (axEx hG rfl) rfl (by decide)) (Nat.le_of_ble_eq_true rfl)) kX8_freeCells rfl True.intro (T_X8_freeCells (by omega) (axPs.sub hG (Nat.le_of_ble_eq_true rfl) (Nat.le_of_ble_eq_true rfl)) rfl) ?_
      obtain ⟨M13, r12, hf⟩ := bd1_some hf
      refine x_cv (vs := [vR 192, vI (fX8_freeCells M)]) (rest := []) (k := 0) rfl (by omega) (ax_caV (pc := 119) dX2_reckon_119 kX2_push rfl rfl WM_X2_128 WI_X2_push WS_X2_push WN_X2 (ax_rcO (t := 1) (axEx hG rfl) rfl (by decide)) (Nat.le_of_ble_eq_true rfl)) kX2_push rfl True.intro (T_X2_push (by omega) hG r12) ?_
      refine x_goto (tgt := 247) (pc := 122) dX2_reckon_122 rfl ?_
      refine x_iinc (z := (v4 + 1)) (ls' := [some (vR 192), some (vR x1), none, some (vI x3), some (vI (v4 + 1)), some (vR (fX7_opAt M x1 v4)), some (vI (fX7_operandAt M x1 v4)), none, none]) (pc := 247) dX2_reckon_247 rfl (Nat.le_of_ble_eq_true rfl) rfl rfl (ax_i (by omega) (by omega)) rfl ?_
      refine x_goto (tgt := 8) (pc := 250) dX2_reckon_250 rfl ?_
      cases hf
      exact x_fgt (axS' (axS' (axN' (axS' (axS' (axN' (axN' (axN' (axN' axD))))))))) (h1 _ rfl)
    replace hf := (if_neg h11).symm.trans hf
    by_cases h14 : (cA5.getD (Int.toNat (((fX7_opAt M x1 v4) - 10 : Nat) : Int)) 0) = 9
    · replace hf := (if_pos h14).symm.trans hf
      refine x_tabIn (tgt := 125) 9 (pc := 39) dX2_reckon_39 h14 (by decide) (by decide) rfl rfl ?_
      refine x_aload_n (pc := 125) dX2_reckon_125 rfl ?_
      refine x_aload_n (pc := 126) dX2_reckon_126 rfl ?_
      refine x_getF (t := 1) (j := 0) (r := 169) (pc := 127) dX2_reckon_127 (axH hG rfl) (axEx hG rfl) rfl (by decide) (by decide) rfl rfl WF_X2_15 ?_
      refine x_iload (pc := 130) dX2_reckon_130 rfl ?_
      refine x_cr (v := vI (fX8_stonesOf M (fX7_operandAt M x1 v4))) (vs := [vR 169, vI (fX7_operandAt M x1 v4)]) (rest := [vR 192]) (k := 0) rfl (by omega) (ax_caV (pc := 132) dX2_reckon_132 kX8_stonesOf rfl rfl WM_X2_138 WI_X8_stonesOf WS_X8_stonesOf WN_X8 (ax_rcO (t := 6) (axEx hG rfl) rfl (by decide)) (Nat.le_of_ble_eq_true rfl)) kX8_stonesOf rfl True.intro (T_X8_stonesOf (by omega) (axPs.sub hG (Nat.le_of_ble_eq_true rfl) (Nat.le_of_ble_eq_true rfl)) rfl) ?_
      obtain ⟨M16, r15, hf⟩ := bd1_some hf
      refine x_cv (vs := [vR 192, vI (fX8_stonesOf M (fX7_operandAt M x1 v4))]) (rest := []) (k := 0) rfl (by omega) (ax_caV (pc := 135) dX2_reckon_135 kX2_push rfl rfl WM_X2_128 WI_X2_push WS_X2_push WN_X2 (ax_rcO (t := 1) (axEx hG rfl) rfl (by decide)) (Nat.le_of_ble_eq_true rfl)) kX2_push rfl True.intro (T_X2_push (by omega) hG r15) ?_
      refine x_goto (tgt := 247) (pc := 138) dX2_reckon_138 rfl ?_
      refine x_iinc (z := (v4 + 1)) (ls' := [some (vR 192), some (vR x1), none, some (vI x3), some (vI (v4 + 1)), some (vR (fX7_opAt M x1 v4)), some (vI (fX7_operandAt M x1 v4)), none, none]) (pc := 247) dX2_reckon_247 rfl (Nat.le_of_ble_eq_true rfl) rfl rfl (ax_i (by omega) (by omega)) rfl ?_
      refine x_goto (tgt := 8) (pc := 250) dX2_reckon_250 rfl ?_
      cases hf
      exact x_fgt (axS' (axS' (axN' (axS' (axS' (axN' (axN' (axN' (axN' axD))))))))) (h1 _ rfl)
    replace hf := (if_neg h14).symm.trans hf
    by_cases h17 : (cA5.getD (Int.toNat (((fX7_opAt M x1 v4) - 10 : Nat) : Int)) 0) = 10
    · replace hf := (if_pos h17).symm.trans hf
      refine x_tabIn (tgt := 141) 10 (pc := 39) dX2_reckon_39 h17 (by decide) (by decide) rfl rfl ?_
      refine x_aload_n (pc := 141) dX2_reckon_141 rfl ?_
      refine x_aload_n (pc := 142) dX2_reckon_142 rfl ?_
      refine x_getF (t := 1) (j := 1) (r := 179) (pc := 143) dX2_reckon_143 (axH hG rfl) (axEx hG rfl) rfl (by decide) (by decide) rfl rfl WF_X2_19 ?_
      refine x_iload (pc := 146) dX2_reckon_146 rfl ?_
      refine x_cr (v := vI (fX1_whole M (fX7_operandAt M x1 v4))) (vs := [vR 179, vI (fX7_operandAt M x1 v4)]) (rest := [vR 192]) (k := 0) rfl (by omega) (ax_caV (pc := 148) dX2_reckon_148 kX1_whole rfl rfl WM_X2_141 WI_X1_whole WS_X1_whole WN_X1 (ax_rcO (t := 0) (axEx hG rfl) rfl (by decide)) (Nat.le_of_ble_eq_true rfl)) kX1_whole rfl True.intro (T_X1_whole (by omega) hG rfl) ?_
      obtain ⟨M19, r18, hf⟩ := bd1_some hf
      refine x_cv (vs := [vR 192, vI (fX1_whole M (fX7_operandAt M x1 v4))]) (rest := []) (k := 0) rfl (by omega) (ax_caV (pc := 151) dX2_reckon_151 kX2_push rfl rfl WM_X2_128 WI_X2_push WS_X2_push WN_X2 (ax_rcO (t := 1) (axEx hG rfl) rfl (by decide)) (Nat.le_of_ble_eq_true rfl)) kX2_push rfl True.intro (T_X2_push (by omega) hG r18) ?_
      refine x_goto (tgt := 247) (pc := 154) dX2_reckon_154 rfl ?_
      refine x_iinc (z := (v4 + 1)) (ls' := [some (vR 192), some (vR x1), none, some (vI x3), some (vI (v4 + 1)), some (vR (fX7_opAt M x1 v4)), some (vI (fX7_operandAt M x1 v4)), none, none]) (pc := 247) dX2_reckon_247 rfl (Nat.le_of_ble_eq_true rfl) rfl rfl (ax_i (by omega) (by omega)) rfl ?_
      refine x_goto (tgt := 8) (pc := 250) dX2_reckon_250 rfl ?_
      cases hf
      exact x_fgt (axS' (axS' (axN' (axS' (axS' (axN' (axN' (axN' (axN' axD))))))))) (h1 _ rfl)
    replace hf := (if_neg h17).symm.trans hf
    by_cases h20 : (cA5.getD (Int.toNat (((fX7_opAt M x1 v4) - 10 : Nat) : Int)) 0) = 11
    · replace hf := (if_pos h20).symm.trans hf
      refine x_tabIn (tgt := 157) 11 (pc := 39) dX2_reckon_39 h20 (by decide) (by decide) rfl rfl ?_
      refine x_aload_n (pc := 157) dX2_reckon_157 rfl ?_
      refine x_aload_n (pc := 158) dX2_reckon_158 rfl ?_
      refine x_getF (t := 1) (j := 2) (r := 183) (pc := 159) dX2_reckon_159 (axH hG rfl) (axEx hG rfl) rfl (by decide) (by decide) rfl rfl WF_X2_23 ?_
      refine x_iload (pc := 162) dX2_reckon_162 rfl ?_
      refine x_cr (v := vI (fX11_needed M (fX7_operandAt M x1 v4))) (vs := [vR 183, vI (fX7_operandAt M x1 v4)]) (rest := [vR 192]) (k := 0) rfl (by omega) (ax_caV (pc := 164) dX2_reckon_164 kX11_needed rfl rfl WM_X2_144 WI_X11_needed WS_X11_needed WN_X11 (ax_rcO (t := 9) (axEx hG rfl) rfl (by decide)) (Nat.le_of_ble_eq_true rfl)) kX11_needed rfl True.intro (T_X11_needed (by omega) hG rfl) ?_
      obtain ⟨M22, r21, hf⟩ := bd1_some hf
      refine x_cv (vs := [vR 192, vI (fX11_needed M (fX7_operandAt M x1 v4))]) (rest := []) (k := 0) rfl (by omega) (ax_caV (pc := 167) dX2_reckon_167 kX2_push rfl rfl WM_X2_128 WI_X2_push WS_X2_push WN_X2 (ax_rcO (t := 1) (axEx hG rfl) rfl (by decide)) (Nat.le_of_ble_eq_true rfl)) kX2_push rfl True.intro (T_X2_push (by omega) hG r21) ?_
      refine x_goto (tgt := 247) (pc := 170) dX2_reckon_170 rfl ?_
      refine x_iinc (z := (v4 + 1)) (ls' := [some (vR 192), some (vR x1), none, some (vI x3), some (vI (v4 + 1)), some (vR (fX7_opAt M x1 v4)), some (vI (fX7_operandAt M x1 v4)), none, none]) (pc := 247) dX2_reckon_247 rfl (Nat.le_of_ble_eq_true rfl) rfl rfl (ax_i (by omega) (by omega)) rfl ?_
      refine x_goto (tgt := 8) (pc := 250) dX2_reckon_250 rfl ?_
      cases hf
      exact x_fgt (axS' (axS' (axN' (axS' (axS' (axN' (axN' (axN' (axN' axD))))))))) (h1 _ rfl)
    replace hf := (if_neg h20).symm.trans hf
    by_cases h23 : (cA5.getD (Int.toNat (((fX7_opAt M x1 v4) - 10 : Nat) : Int)) 0) = 12
    · replace hf := (if_pos h23).symm.trans hf
      refine x_tabIn (tgt := 173) 12 (pc := 39) dX2_reckon_39 h23 (by decide) (by decide) rfl rfl ?_
      refine x_aload_n (pc := 173) dX2_reckon_173 rfl ?_
      refine x_aload_n (pc := 174) dX2_reckon_174 rfl ?_
      refine x_getF (t := 1) (j := 2) (r := 183) (pc := 175) dX2_reckon_175 (axH hG rfl) (axEx hG rfl) rfl (by decide) (by decide) rfl rfl WF_X2_23 ?_
      refine x_iload (pc := 178) dX2_reckon_178 rfl ?_
      refine x_cr (v := vI (fX11_needed M (fX7_operandAt M x1 v4))) (vs := [vR 183, vI (fX7_operandAt M x1 v4)]) (rest := [vR 192]) (k := 0) rfl (by omega) (ax_caV (pc := 180) dX2_reckon_180 kX11_needed rfl rfl WM_X2_144 WI_X11_needed WS_X11_needed WN_X11 (ax_rcO (t := 9) (axEx hG rfl) rfl (by decide)) (Nat.le_of_ble_eq_true rfl)) kX11_needed rfl True.intro (T_X11_needed (by omega) hG rfl) ?_
      refine x_ifne (tgt := 190) (pc := 183) dX2_reckon_183 rfl (fun h24 => ?_) (fun h24 => ?_)
      · replace hf := (if_neg h24).symm.trans hf
        refine x_iconst (pc := 190) dX2_reckon_190 ⟨by decide, by decide⟩ ?_
        obtain ⟨M28, r27, hf⟩ := bd1_some hf
        refine x_cv (vs := [vR 192, vI 0]) (rest := []) (k := 0) rfl (by omega) (ax_caV (pc := 191) dX2_reckon_191 kX2_push rfl rfl WM_X2_128 WI_X2_push WS_X2_push WN_X2 (ax_rcO (t := 1) (axEx hG rfl) rfl (by decide)) (Nat.le_of_ble_eq_true rfl)) kX2_push rfl True.intro (T_X2_push (by omega) hG r27) ?_
        refine x_goto (tgt := 247) (pc := 194) dX2_reckon_194 rfl ?_
        refine x_iinc (z := (v4 + 1)) (ls' := [some (vR 192), some (vR x1), none, some (vI x3), some (vI (v4 + 1)), some (vR (fX7_opAt M x1 v4)), some (vI (fX7_operandAt M x1 v4)), none, none]) (pc := 247) dX2_reckon_247 rfl (Nat.le_of_ble_eq_true rfl) rfl rfl (ax_i (by omega) (by omega)) rfl ?_
        refine x_goto (tgt := 8) (pc := 250) dX2_reckon_250 rfl ?_
        cases hf
        exact x_fgt (axS' (axS' (axN' (axS' (axS' (axN' (axN' (axN' (axN' axD))))))))) (h1 _ rfl)
      · replace hf := (if_pos h24).symm.trans hf
        refine x_iconst (pc := 186) dX2_reckon_186 ⟨by decide, by decide⟩ ?_
        refine x_goto (tgt := 191) (pc := 187) dX2_reckon_187 rfl ?_
        obtain ⟨M26, r25, hf⟩ := bd1_some hf
        refine x_cv (vs := [vR 192, vI 1]) (rest := []) (k := 0) rfl (by omega) (ax_caV (pc := 191) dX2_reckon_191 kX2_push rfl rfl WM_X2_128 WI_X2_push WS_X2_push WN_X2 (ax_rcO (t := 1) (axEx hG rfl) rfl (by decide)) (Nat.le_of_ble_eq_true rfl)) kX2_push rfl True.intro (T_X2_push (by omega) hG r25) ?_
        refine x_goto (tgt := 247) (pc := 194) dX2_reckon_194 rfl ?_
        refine x_iinc (z := (v4 + 1)) (ls' := [some (vR 192), some (vR x1), none, some (vI x3), some (vI (v4 + 1)), some (vR (fX7_opAt M x1 v4)), some (vI (fX7_operandAt M x1 v4)), none, none]) (pc := 247) dX2_reckon_247 rfl (Nat.le_of_ble_eq_true rfl) rfl rfl (ax_i (by omega) (by omega)) rfl ?_
        refine x_goto (tgt := 8) (pc := 250) dX2_reckon_250 rfl ?_
        cases hf
        exact x_fgt (axS' (axS' (axN' (axS' (axS' (axN' (axN' (axN' (axN' axD))))))))) (h1 _ rfl)
    replace hf := (if_neg h23).symm.trans hf
    by_cases h29 : (cA5.getD (Int.toNat (((fX7_opAt M x1 v4) - 10 : Nat) : Int)) 0) = 13
    · replace hf := (if_pos h29).symm.trans hf
      refine x_tabIn (tgt := 197) 13 (pc := 39) dX2_reckon_39 h29 (by decide) (by decide) rfl rfl ?_
      refine x_aload_n (pc := 197) dX2_reckon_197 rfl ?_
      refine x_aload_n (pc := 198) dX2_reckon_198 rfl ?_
      obtain ⟨v32, M31, r30, hf⟩ := bd2_some hf
      refine x_cr (v := vI v32) (vs := [vR 192]) (rest := [vR 192]) (k := 0) rfl (by omega) (ax_caV (pc := 199) dX2_reckon_199 kX2_pop rfl rfl WM_X2_147 WI_X2_pop WS_X2_pop WN_X2 (ax_rcO (t := 1) (axEx hG rfl) rfl (by decide)) (Nat.le_of_ble_eq_true rfl)) kX2_pop rfl True.intro (T_X2_pop (by omega) hG r30) ?_
      refine x_ineg (pc := 202) dX2_reckon_202 ?_
      obtain ⟨M34, r33, hf⟩ := bd1_some hf
      refine x_cv (vs := [vR 192, vI (wr (-v32))]) (rest := []) (k := 0) rfl (by omega) (ax_caV (pc := 203) dX2_reckon_203 kX2_push rfl rfl WM_X2_128 WI_X2_push WS_X2_push WN_X2 (ax_rcO (t := 1) (axEx hG rfl) rfl (by decide)) (Nat.le_of_ble_eq_true rfl)) kX2_push rfl True.intro (T_X2_push (by omega) hG r33) ?_
      refine x_goto (tgt := 247) (pc := 206) dX2_reckon_206 rfl ?_
      refine x_iinc (z := (v4 + 1)) (ls' := [some (vR 192), some (vR x1), none, some (vI x3), some (vI (v4 + 1)), some (vR (fX7_opAt M x1 v4)), some (vI (fX7_operandAt M x1 v4)), none, none]) (pc := 247) dX2_reckon_247 rfl (Nat.le_of_ble_eq_true rfl) rfl rfl (ax_i (by omega) (by omega)) rfl ?_
      refine x_goto (tgt := 8) (pc := 250) dX2_reckon_250 rfl ?_
      cases hf
      exact x_fgt (axS' (axS' (axN' (axS' (axS' (axN' (axN' (axN' (axN' axD))))))))) (h1 _ rfl)
    replace hf := (if_neg h29).symm.trans hf
    by_cases h35 : (cA5.getD (Int.toNat (((fX7_opAt M x1 v4) - 10 : Nat) : Int)) 0) = 14
    · replace hf := (if_pos h35).symm.trans hf
      refine x_tabIn (tgt := 209) 14 (pc := 39) dX2_reckon_39 h35 (by decide) (by decide) rfl rfl ?_
      refine x_aload_n (pc := 209) dX2_reckon_209 rfl ?_
      refine x_iconst (pc := 210) dX2_reckon_210 ⟨by decide, by decide⟩ ?_
      refine x_aload_n (pc := 211) dX2_reckon_211 rfl ?_
      obtain ⟨v38, M37, r36, hf⟩ := bd2_some hf
      refine x_cr (v := vI v38) (vs := [vR 192]) (rest := [vI 1, vR 192]) (k := 0) rfl (by omega) (ax_caV (pc := 212) dX2_reckon_212 kX2_pop rfl rfl WM_X2_147 WI_X2_pop WS_X2_pop WN_X2 (ax_rcO (t := 1) (axEx hG rfl) rfl (by decide)) (Nat.le_of_ble_eq_true rfl)) kX2_pop rfl True.intro (T_X2_pop (by omega) hG r36) ?_
      refine x_isubw (pc := 215) dX2_reckon_215 ?_
      obtain ⟨M40, r39, hf⟩ := bd1_some hf
      refine x_cv (vs := [vR 192, vI (wr (1 - v38))]) (rest := []) (k := 0) rfl (by omega) (ax_caV (pc := 216) dX2_reckon_216 kX2_push rfl rfl WM_X2_128 WI_X2_push WS_X2_push WN_X2 (ax_rcO (t := 1) (axEx hG rfl) rfl (by decide)) (Nat.le_of_ble_eq_true rfl)) kX2_push rfl True.intro (T_X2_push (by omega) hG r39) ?_
      refine x_goto (tgt := 247) (pc := 219) dX2_reckon_219 rfl ?_
      refine x_iinc (z := (v4 + 1)) (ls' := [some (vR 192), some (vR x1), none, some (vI x3), some (vI (v4 + 1)), some (vR (fX7_opAt M x1 v4)), some (vI (fX7_operandAt M x1 v4)), none, none]) (pc := 247) dX2_reckon_247 rfl (Nat.le_of_ble_eq_true rfl) rfl rfl (ax_i (by omega) (by omega)) rfl ?_
      refine x_goto (tgt := 8) (pc := 250) dX2_reckon_250 rfl ?_
      cases hf
      exact x_fgt (axS' (axS' (axN' (axS' (axS' (axN' (axN' (axN' (axN' axD))))))))) (h1 _ rfl)
    replace hf := (if_neg h35).symm.trans hf
    refine x_tabOut (tgt := 222) (pc := 39) dX2_reckon_39 (by omega) rfl ?_
    refine x_aload_n (pc := 222) dX2_reckon_222 rfl ?_
    obtain ⟨v43, M42, r41, hf⟩ := bd2_some hf
    refine x_cr (v := vI v43) (vs := [vR 192]) (rest := []) (k := 0) rfl (by omega) (ax_caV (pc := 223) dX2_reckon_223 kX2_pop rfl rfl WM_X2_147 WI_X2_pop WS_X2_pop WN_X2 (ax_rcO (t := 1) (axEx hG rfl) rfl (by decide)) (Nat.le_of_ble_eq_true rfl)) kX2_pop rfl True.intro (T_X2_pop (by omega) hG r41) ?_
    refine x_istore (ls' := [some (vR 192), some (vR x1), none, some (vI x3), some (vI v4), some (vR (fX7_opAt M x1 v4)), some (vI (fX7_operandAt M x1 v4)), some (vI v43), none]) (pc := 226) dX2_reckon_226 (Nat.le_of_ble_eq_true rfl) rfl rfl ?_
    refine x_aload_n (pc := 228) dX2_reckon_228 rfl ?_
    obtain ⟨v46, M45, r44, hf⟩ := bd2_some hf
    refine x_cr (v := vI v46) (vs := [vR 192]) (rest := []) (k := 0) rfl (by omega) (ax_caV (pc := 229) dX2_reckon_229 kX2_pop rfl rfl WM_X2_147 WI_X2_pop WS_X2_pop WN_X2 (ax_rcO (t := 1) (axEx hG rfl) rfl (by decide)) (Nat.le_of_ble_eq_true rfl)) kX2_pop rfl True.intro (T_X2_pop (by omega) hG r44) ?_
    refine x_istore (ls' := [some (vR 192), some (vR x1), none, some (vI x3), some (vI v4), some (vR (fX7_opAt M x1 v4)), some (vI (fX7_operandAt M x1 v4)), some (vI v43), some (vI v46)]) (pc := 232) dX2_reckon_232 (Nat.le_of_ble_eq_true rfl) rfl rfl ?_
    refine x_aload_n (pc := 234) dX2_reckon_234 rfl ?_
    refine x_aload (pc := 235) dX2_reckon_235 rfl ?_
    refine x_iload (pc := 237) dX2_reckon_237 rfl ?_
    refine x_iload (pc := 239) dX2_reckon_239 rfl ?_
    refine x_cr (v := vI (fX2_joined M45 (fX7_opAt M x1 v4) v46 v43)) (vs := [vR (fX7_opAt M x1 v4), vI v46, vI v43]) (rest := [vR 192]) (k := 0) rfl (by omega) (ax_caS (pc := 241) dX2_reckon_241 kX2_joined rfl rfl WM_X2_150 WT_X2_joined WN_X2 (Nat.le_of_ble_eq_true rfl)) kX2_joined rfl True.intro (T_X2_joined (by omega) hG q4 rfl) ?_
    obtain ⟨M48, r47, hf⟩ := bd1_some hf
    refine x_cv (vs := [vR 192, vI (fX2_joined M45 (fX7_opAt M x1 v4) v46 v43)]) (rest := []) (k := 0) rfl (by omega) (ax_caV (pc := 244) dX2_reckon_244 kX2_push rfl rfl WM_X2_128 WI_X2_push WS_X2_push WN_X2 (ax_rcO (t := 1) (axEx hG rfl) rfl (by decide)) (Nat.le_of_ble_eq_true rfl)) kX2_push rfl True.intro (T_X2_push (by omega) hG r47) ?_
    refine x_iinc (z := (v4 + 1)) (ls' := [some (vR 192), some (vR x1), none, some (vI x3), some (vI (v4 + 1)), some (vR (fX7_opAt M x1 v4)), some (vI (fX7_operandAt M x1 v4)), some (vI v43), some (vI v46)]) (pc := 247) dX2_reckon_247 rfl (Nat.le_of_ble_eq_true rfl) rfl rfl (ax_i (by omega) (by omega)) rfl ?_
    refine x_goto (tgt := 8) (pc := 250) dX2_reckon_250 rfl ?_
    cases hf
    exact x_fgt (axS' (axS' (axN' (axS' (axS' (axN' (axN' (axN' (axN' axD))))))))) (h1 _ rfl)
theorem T_X2_reckon {G : ax_G} {d : Nat} (hd : 2 ≤ d) (hG : axPs G 150 244) {M : ax_M} {a1 : Nat} {a2 : Int} {a3 : Int} (y_a1 : (a1 = 157 ∨ a1 = 194)) {r : Int} {M1 : ax_M} (hf : fX2_reckon M a1 a2 a3 = some (r, M1)) : ax_Ex G tX2_reckon d 0 (ax_args [vR 192, vR a1, vI a2, vI a3] ++ List.replicate 5 none) [] M (.inl (some (vI r))) M1 := by
  show ax_Ex G tX2_reckon d 0 [some (vR 192), some (vR a1), some (vI a2), some (vI a3), none, none, none, none, none] [] M _ _
  unfold fX2_reckon at hf
  refine x_aload_n (pc := 0) dX2_reckon_0 rfl ?_
  refine x_iconst (pc := 1) dX2_reckon_1 ⟨by decide, by decide⟩ ?_
  refine x_putI (t := 1) (j := 4) (pc := 2) dX2_reckon_2 (axEx hG rfl) rfl (by decide) (by decide) rfl rfl WF_X2_118 ?_
  refine x_iload_n (pc := 5) dX2_reckon_5 rfl ?_
  refine x_istore (ls' := [some (vR 192), some (vR a1), some (vI a2), some (vI a3), some (vI a2), none, none, none, none]) (pc := 6) dX2_reckon_6 (Nat.le_of_ble_eq_true rfl) rfl rfl ?_
  obtain ⟨t49, t50, hf⟩ := bd1_some hf
  refine x_fgt (axS' (axS' (axN' (axS' (axS' (axN' (axN' (axN' (axN' axD))))))))) (lp_ex (P := (fun s => ax_Ex G tX2_reckon d 8 [some (vR 192), some (vR a1), none, some (vI a3), some (vI s.1), none, none, none, none] [] s.2 _ _)) (K := (fun t => ax_Ex G tX2_reckon d 253 [some (vR 192), some (vR a1), none, some (vI a3), none, none, none, none, none] [] t _ _)) (fun s y hy h1 h2 => B_X2_reckon_8 (by omega) hG y_a1 hy (fun s' e => h1 s' e) (fun t e => h2 t e)) _ _ _ t50 ?_)
  refine x_aload_n (pc := 253) dX2_reckon_253 rfl ?_
  obtain ⟨v53, M52, r51, hf⟩ := bd2_some hf
  refine x_cr (v := vI v53) (vs := [vR 192]) (rest := []) (k := 0) rfl (by omega) (ax_caV (pc := 254) dX2_reckon_254 kX2_pop rfl rfl WM_X2_147 WI_X2_pop WS_X2_pop WN_X2 (ax_rcO (t := 1) (axEx hG rfl) rfl (by decide)) (Nat.le_of_ble_eq_true rfl)) kX2_pop rfl True.intro (T_X2_pop (by omega) hG r51) ?_
  cases hf
  exact x_retI (pc := 257) dX2_reckon_257
/- HexPond$Chooser.holds(LHexPond$Plans;I)Z -/
def fX2_holds (M : ax_M) (a1 : Nat) (a2 : Int) : Option (Int × ax_M) :=
  (bd1 (fX7_testStart M a1 a2) fun v2 => (bd1 (fX7_end M a1 a2) fun v4 => (if v2 = v4 then (some (1, M)) else (bd2 (fX2_reckon M a1 v2 v4) fun v8 M7 => (if v8 = 0 then (some (0, M7)) else (some (1, M7)))))))
theorem T_X2_holds {G : ax_G} {d : Nat} (hd : 3 ≤ d) (hG : axPs G 150 244) {M : ax_M} {a1 : Nat} {a2 : Int} (y_a1 : (a1 = 157 ∨ a1 = 194)) {r : Int} {M1 : ax_M} (hf : fX2_holds M a1 a2 = some (r, M1)) : ax_Ex G tX2_holds d 0 (ax_args [vR 192, vR a1, vI a2] ++ List.replicate 2 none) [] M (.inl (some (vI r))) M1 := by
  show ax_Ex G tX2_holds d 0 [some (vR 192), some (vR a1), some (vI a2), none, none] [] M _ _
  unfold fX2_holds at hf
  refine x_aload_n (pc := 0) dX2_holds_0 rfl ?_
  refine x_iload_n (pc := 1) dX2_holds_1 rfl ?_
  obtain ⟨v2, r1, hf⟩ := bd1_some hf
  refine x_cr (v := vI v2) (vs := [vR a1, vI a2]) (rest := []) (k := 0) rfl (by omega) (ax_caV (pc := 2) dX2_holds_2 kX7_testStart rfl rfl WM_X2_53 WI_X7_testStart WS_X7_testStart WN_X7 (ax_rcO (t := 5) (by rcases y_a1 with rfl | rfl <;> exact axEx hG rfl) (by rcases y_a1 with rfl | rfl <;> rfl) (by decide)) (Nat.le_of_ble_eq_true rfl)) kX7_testStart rfl True.intro (T_X7_testStart (by omega) hG y_a1 r1) ?_
  refine x_istore_n (ls' := [some (vR 192), some (vR a1), some (vI a2), some (vI v2), none]) (pc := 5) dX2_holds_5 (Nat.le_of_ble_eq_true rfl) rfl rfl ?_
  refine x_aload_n (pc := 6) dX2_holds_6 rfl ?_
  refine x_iload_n (pc := 7) dX2_holds_7 rfl ?_
  obtain ⟨v4, r3, hf⟩ := bd1_some hf
  refine x_cr (v := vI v4) (vs := [vR a1, vI a2]) (rest := []) (k := 0) rfl (by omega) (ax_caV (pc := 8) dX2_holds_8 kX7_end rfl rfl WM_X2_56 WI_X7_end WS_X7_end WN_X7 (ax_rcO (t := 5) (by rcases y_a1 with rfl | rfl <;> exact axEx hG rfl) (by rcases y_a1 with rfl | rfl <;> rfl) (by decide)) (Nat.le_of_ble_eq_true rfl)) kX7_end rfl True.intro (T_X7_end (by omega) hG y_a1 r3) ?_
  refine x_istore (ls' := [some (vR 192), some (vR a1), some (vI a2), some (vI v2), some (vI v4)]) (pc := 11) dX2_holds_11 (Nat.le_of_ble_eq_true rfl) rfl rfl ?_
  refine x_iload_n (pc := 13) dX2_holds_13 rfl ?_
  refine x_iload (pc := 14) dX2_holds_14 rfl ?_
  refine x_icmpeq (tgt := 30) (pc := 16) dX2_holds_16 rfl (fun h5 => ?_) (fun h5 => ?_)
  · replace hf := (if_pos h5).symm.trans hf
    refine x_iconst (pc := 30) dX2_holds_30 ⟨by decide, by decide⟩ ?_
    refine x_goto (tgt := 35) (pc := 31) dX2_holds_31 rfl ?_
    cases hf
    exact x_retI (pc := 35) dX2_holds_35
  · replace hf := (if_neg h5).symm.trans hf
    refine x_aload_n (pc := 19) dX2_holds_19 rfl ?_
    refine x_aload_n (pc := 20) dX2_holds_20 rfl ?_
    refine x_iload_n (pc := 21) dX2_holds_21 rfl ?_
    refine x_iload (pc := 22) dX2_holds_22 rfl ?_
    obtain ⟨v8, M7, r6, hf⟩ := bd2_some hf
    refine x_cr (v := vI v8) (vs := [vR 192, vR a1, vI v2, vI v4]) (rest := []) (k := 5) rfl (by omega) (ax_caV (pc := 24) dX2_holds_24 kX2_reckon rfl rfl WM_X2_59 WI_X2_reckon WS_X2_reckon WN_X2 (ax_rcO (t := 1) (axEx hG rfl) rfl (by decide)) (Nat.le_of_ble_eq_true rfl)) kX2_reckon rfl True.intro (T_X2_reckon (by omega) hG y_a1 r6) ?_
    refine x_ifeq (tgt := 34) (pc := 27) dX2_holds_27 rfl (fun h9 => ?_) (fun h9 => ?_)
    · replace hf := (if_pos h9).symm.trans hf
      refine x_iconst (pc := 34) dX2_holds_34 ⟨by decide, by decide⟩ ?_
      cases hf
      exact x_retI (pc := 35) dX2_holds_35
    · replace hf := (if_neg h9).symm.trans hf
      refine x_iconst (pc := 30) dX2_holds_30 ⟨by decide, by decide⟩ ?_
      refine x_goto (tgt := 35) (pc := 31) dX2_holds_31 rfl ?_
      cases hf
      exact x_retI (pc := 35) dX2_holds_35
theorem Z_X2_holds {M : ax_M} {a1 : Nat} {a2 : Int} {r : Int} {M1 : ax_M} (hf : fX2_holds M a1 a2 = some (r, M1)) : r = 0 ∨ r = 1 := by
  unfold fX2_holds at hf
  obtain ⟨v2, r1, hf⟩ := bd1_some hf
  obtain ⟨v4, r3, hf⟩ := bd1_some hf
  by_cases h5 : v2 = v4
  · replace hf := (if_pos h5).symm.trans hf
    cases hf
    exact Or.inr rfl
  · replace hf := (if_neg h5).symm.trans hf
    obtain ⟨v8, M7, r6, hf⟩ := bd2_some hf
    by_cases h9 : v8 = 0
    · replace hf := (if_pos h9).symm.trans hf
      cases hf
      exact Or.inl rfl
    · replace hf := (if_neg h9).symm.trans hf
      cases hf
      exact Or.inr rfl
/- HexPond$Chooser.toldCell(LHexPond$Plans;I)I -/
def fX2_toldCell (M : ax_M) (a1 : Nat) (a2 : Int) : Option (Int × ax_M) :=
  (bd1 (fX7_columnStart M a1 a2) fun v2 => (bd1 (fX7_rowStart M a1 a2) fun v4 => (bd2 (fX2_reckon M a1 v2 v4) fun v7 M6 => (bd1 (fX7_rowStart M6 a1 a2) fun v9 => (bd1 (fX7_testStart M6 a1 a2) fun v11 => (bd2 (fX2_reckon M6 a1 v9 v11) fun v14 M13 => (bd1 (fX2_remainder M13 v7 (fX8_columns M13)) fun v16 => (bd1 (fX2_remainder M13 v14 (fX8_rows M13)) fun v18 => (if (fX8_ownerAt M13 (fX8_cellAt M13 v16 v18)) = 0 then (some ((fX8_cellAt M13 v16 v18), M13)) else (some ((-1), M13)))))))))))
theorem T_X2_toldCell {G : ax_G} {d : Nat} (hd : 3 ≤ d) (hG : axPs G 150 244) {M : ax_M} {a1 : Nat} {a2 : Int} (y_a1 : (a1 = 157 ∨ a1 = 194)) {r : Int} {M1 : ax_M} (hf : fX2_toldCell M a1 a2 = some (r, M1)) : ax_Ex G tX2_toldCell d 0 (ax_args [vR 192, vR a1, vI a2] ++ List.replicate 3 none) [] M (.inl (some (vI r))) M1 := by
  show ax_Ex G tX2_toldCell d 0 [some (vR 192), some (vR a1), some (vI a2), none, none, none] [] M _ _
  unfold fX2_toldCell at hf
  refine x_aload_n (pc := 0) dX2_toldCell_0 rfl ?_
  refine x_aload_n (pc := 1) dX2_toldCell_1 rfl ?_
  refine x_aload_n (pc := 2) dX2_toldCell_2 rfl ?_
  refine x_iload_n (pc := 3) dX2_toldCell_3 rfl ?_
  obtain ⟨v2, r1, hf⟩ := bd1_some hf
  refine x_cr (v := vI v2) (vs := [vR a1, vI a2]) (rest := [vR a1, vR 192]) (k := 0) rfl (by omega) (ax_caV (pc := 4) dX2_toldCell_4 kX7_columnStart rfl rfl WM_X2_89 WI_X7_columnStart WS_X7_columnStart WN_X7 (ax_rcO (t := 5) (by rcases y_a1 with rfl | rfl <;> exact axEx hG rfl) (by rcases y_a1 with rfl | rfl <;> rfl) (by decide)) (Nat.le_of_ble_eq_true rfl)) kX7_columnStart rfl True.intro (T_X7_columnStart (by omega) hG y_a1 r1) ?_
  refine x_aload_n (pc := 7) dX2_toldCell_7 rfl ?_
  refine x_iload_n (pc := 8) dX2_toldCell_8 rfl ?_
  obtain ⟨v4, r3, hf⟩ := bd1_some hf
  refine x_cr (v := vI v4) (vs := [vR a1, vI a2]) (rest := [vI v2, vR a1, vR 192]) (k := 0) rfl (by omega) (ax_caV (pc := 9) dX2_toldCell_9 kX7_rowStart rfl rfl WM_X2_92 WI_X7_rowStart WS_X7_rowStart WN_X7 (ax_rcO (t := 5) (by rcases y_a1 with rfl | rfl <;> exact axEx hG rfl) (by rcases y_a1 with rfl | rfl <;> rfl) (by decide)) (Nat.le_of_ble_eq_true rfl)) kX7_rowStart rfl True.intro (T_X7_rowStart (by omega) hG y_a1 r3) ?_
  obtain ⟨v7, M6, r5, hf⟩ := bd2_some hf
  refine x_cr (v := vI v7) (vs := [vR 192, vR a1, vI v2, vI v4]) (rest := []) (k := 5) rfl (by omega) (ax_caV (pc := 12) dX2_toldCell_12 kX2_reckon rfl rfl WM_X2_59 WI_X2_reckon WS_X2_reckon WN_X2 (ax_rcO (t := 1) (axEx hG rfl) rfl (by decide)) (Nat.le_of_ble_eq_true rfl)) kX2_reckon rfl True.intro (T_X2_reckon (by omega) hG y_a1 r5) ?_
  refine x_istore_n (ls' := [some (vR 192), some (vR a1), some (vI a2), some (vI v7), none, none]) (pc := 15) dX2_toldCell_15 (Nat.le_of_ble_eq_true rfl) rfl rfl ?_
  refine x_aload_n (pc := 16) dX2_toldCell_16 rfl ?_
  refine x_aload_n (pc := 17) dX2_toldCell_17 rfl ?_
  refine x_aload_n (pc := 18) dX2_toldCell_18 rfl ?_
  refine x_iload_n (pc := 19) dX2_toldCell_19 rfl ?_
  obtain ⟨v9, r8, hf⟩ := bd1_some hf
  refine x_cr (v := vI v9) (vs := [vR a1, vI a2]) (rest := [vR a1, vR 192]) (k := 0) rfl (by omega) (ax_caV (pc := 20) dX2_toldCell_20 kX7_rowStart rfl rfl WM_X2_92 WI_X7_rowStart WS_X7_rowStart WN_X7 (ax_rcO (t := 5) (by rcases y_a1 with rfl | rfl <;> exact axEx hG rfl) (by rcases y_a1 with rfl | rfl <;> rfl) (by decide)) (Nat.le_of_ble_eq_true rfl)) kX7_rowStart rfl True.intro (T_X7_rowStart (by omega) hG y_a1 r8) ?_
  refine x_aload_n (pc := 23) dX2_toldCell_23 rfl ?_
  refine x_iload_n (pc := 24) dX2_toldCell_24 rfl ?_
  obtain ⟨v11, r10, hf⟩ := bd1_some hf
  refine x_cr (v := vI v11) (vs := [vR a1, vI a2]) (rest := [vI v9, vR a1, vR 192]) (k := 0) rfl (by omega) (ax_caV (pc := 25) dX2_toldCell_25 kX7_testStart rfl rfl WM_X2_53 WI_X7_testStart WS_X7_testStart WN_X7 (ax_rcO (t := 5) (by rcases y_a1 with rfl | rfl <;> exact axEx hG rfl) (by rcases y_a1 with rfl | rfl <;> rfl) (by decide)) (Nat.le_of_ble_eq_true rfl)) kX7_testStart rfl True.intro (T_X7_testStart (by omega) hG y_a1 r10) ?_
  obtain ⟨v14, M13, r12, hf⟩ := bd2_some hf
  refine x_cr (v := vI v14) (vs := [vR 192, vR a1, vI v9, vI v11]) (rest := []) (k := 5) rfl (by omega) (ax_caV (pc := 28) dX2_toldCell_28 kX2_reckon rfl rfl WM_X2_59 WI_X2_reckon WS_X2_reckon WN_X2 (ax_rcO (t := 1) (axEx hG rfl) rfl (by decide)) (Nat.le_of_ble_eq_true rfl)) kX2_reckon rfl True.intro (T_X2_reckon (by omega) hG y_a1 r12) ?_
  refine x_istore (ls' := [some (vR 192), some (vR a1), some (vI a2), some (vI v7), some (vI v14), none]) (pc := 31) dX2_toldCell_31 (Nat.le_of_ble_eq_true rfl) rfl rfl ?_
  refine x_aload_n (pc := 33) dX2_toldCell_33 rfl ?_
  refine x_getF (t := 1) (j := 0) (r := 169) (pc := 34) dX2_toldCell_34 (axH hG rfl) (axEx hG rfl) rfl (by decide) (by decide) rfl rfl WF_X2_15 ?_
  refine x_iload_n (pc := 37) dX2_toldCell_37 rfl ?_
  refine x_aload_n (pc := 38) dX2_toldCell_38 rfl ?_
  refine x_getF (t := 1) (j := 0) (r := 169) (pc := 39) dX2_toldCell_39 (axH hG rfl) (axEx hG rfl) rfl (by decide) (by decide) rfl rfl WF_X2_15 ?_
  refine x_cr (v := vI (fX8_columns M13)) (vs := [vR 169]) (rest := [vI v7, vR 169]) (k := 0) rfl (by omega) (ax_caV (pc := 42) dX2_toldCell_42 kX8_columns rfl rfl WM_X2_95 WI_X8_columns WS_X8_columns WN_X8 (ax_rcO (t := 6) (axEx hG rfl) rfl (by decide)) (Nat.le_of_ble_eq_true rfl)) kX8_columns rfl True.intro (T_X8_columns (by omega) (axPs.sub hG (Nat.le_of_ble_eq_true rfl) (Nat.le_of_ble_eq_true rfl)) rfl) ?_
  obtain ⟨v16, r15, hf⟩ := bd1_some hf
  refine x_cr (v := vI v16) (vs := [vI v7, vI (fX8_columns M13)]) (rest := [vR 169]) (k := 0) rfl (by omega) (ax_caS (pc := 45) dX2_toldCell_45 kX2_remainder rfl rfl WM_X2_100 WT_X2_remainder WN_X2 (Nat.le_of_ble_eq_true rfl)) kX2_remainder rfl True.intro (T_X2_remainder (by omega) hG r15) ?_
  refine x_iload (pc := 48) dX2_toldCell_48 rfl ?_
  refine x_aload_n (pc := 50) dX2_toldCell_50 rfl ?_
  refine x_getF (t := 1) (j := 0) (r := 169) (pc := 51) dX2_toldCell_51 (axH hG rfl) (axEx hG rfl) rfl (by decide) (by decide) rfl rfl WF_X2_15 ?_
  refine x_cr (v := vI (fX8_rows M13)) (vs := [vR 169]) (rest := [vI v14, vI v16, vR 169]) (k := 0) rfl (by omega) (ax_caV (pc := 54) dX2_toldCell_54 kX8_rows rfl rfl WM_X2_104 WI_X8_rows WS_X8_rows WN_X8 (ax_rcO (t := 6) (axEx hG rfl) rfl (by decide)) (Nat.le_of_ble_eq_true rfl)) kX8_rows rfl True.intro (T_X8_rows (by omega) (axPs.sub hG (Nat.le_of_ble_eq_true rfl) (Nat.le_of_ble_eq_true rfl)) rfl) ?_
  obtain ⟨v18, r17, hf⟩ := bd1_some hf
  refine x_cr (v := vI v18) (vs := [vI v14, vI (fX8_rows M13)]) (rest := [vI v16, vR 169]) (k := 0) rfl (by omega) (ax_caS (pc := 57) dX2_toldCell_57 kX2_remainder rfl rfl WM_X2_100 WT_X2_remainder WN_X2 (Nat.le_of_ble_eq_true rfl)) kX2_remainder rfl True.intro (T_X2_remainder (by omega) hG r17) ?_
  refine x_cr (v := vI (fX8_cellAt M13 v16 v18)) (vs := [vR 169, vI v16, vI v18]) (rest := []) (k := 1) rfl (by omega) (ax_caV (pc := 60) dX2_toldCell_60 kX8_cellAt rfl rfl WM_X2_107 WI_X8_cellAt WS_X8_cellAt WN_X8 (ax_rcO (t := 6) (axEx hG rfl) rfl (by decide)) (Nat.le_of_ble_eq_true rfl)) kX8_cellAt rfl True.intro (T_X8_cellAt (by omega) (axPs.sub hG (Nat.le_of_ble_eq_true rfl) (Nat.le_of_ble_eq_true rfl)) rfl) ?_
  refine x_istore (ls' := [some (vR 192), some (vR a1), some (vI a2), some (vI v7), some (vI v14), some (vI (fX8_cellAt M13 v16 v18))]) (pc := 63) dX2_toldCell_63 (Nat.le_of_ble_eq_true rfl) rfl rfl ?_
  refine x_aload_n (pc := 65) dX2_toldCell_65 rfl ?_
  refine x_getF (t := 1) (j := 0) (r := 169) (pc := 66) dX2_toldCell_66 (axH hG rfl) (axEx hG rfl) rfl (by decide) (by decide) rfl rfl WF_X2_15 ?_
  refine x_iload (pc := 69) dX2_toldCell_69 rfl ?_
  refine x_cr (v := vI (fX8_ownerAt M13 (fX8_cellAt M13 v16 v18))) (vs := [vR 169, vI (fX8_cellAt M13 v16 v18)]) (rest := []) (k := 0) rfl (by omega) (ax_caV (pc := 71) dX2_toldCell_71 kX8_ownerAt rfl rfl WM_X2_110 WI_X8_ownerAt WS_X8_ownerAt WN_X8 (ax_rcO (t := 6) (axEx hG rfl) rfl (by decide)) (Nat.le_of_ble_eq_true rfl)) kX8_ownerAt rfl True.intro (T_X8_ownerAt (by omega) (axPs.sub hG (Nat.le_of_ble_eq_true rfl) (Nat.le_of_ble_eq_true rfl)) rfl) ?_
  refine x_ifne (tgt := 82) (pc := 74) dX2_toldCell_74 rfl (fun h19 => ?_) (fun h19 => ?_)
  · replace hf := (if_neg h19).symm.trans hf
    refine x_iconst (pc := 82) dX2_toldCell_82 ⟨by decide, by decide⟩ ?_
    cases hf
    exact x_retI (pc := 83) dX2_toldCell_83
  · replace hf := (if_pos h19).symm.trans hf
    refine x_iload (pc := 77) dX2_toldCell_77 rfl ?_
    refine x_goto (tgt := 83) (pc := 79) dX2_toldCell_79 rfl ?_
    cases hf
    exact x_retI (pc := 83) dX2_toldCell_83
/- HexPond$Chooser.cellBy(LHexPond$Plans;I)I -/
def fX2_cellBy (M : ax_M) (a1 : Nat) (a2 : Int) : Option (Int × ax_M) :=
  (bd1 (fX7_playerOf M a1 a2) fun v2 => (bd1 (fX7_moveOf M a1 a2) fun v4 => (if (cA5.getD (Int.toNat ((v4 - 10 : Nat) : Int)) 0) = 1 then (bd1 (fX11_firstWinning M v2) fun v9 => (some (v9, M))) else (if (cA5.getD (Int.toNat ((v4 - 10 : Nat) : Int)) 0) = 2 then (bd1 (fX11_firstWinning M (wr (1 - v2))) fun v12 => (some (v12, M))) else (if (cA5.getD (Int.toNat ((v4 - 10 : Nat) : Int)) 0) = 3 then (some ((fX1_saving M v2), M)) else (if (cA5.getD (Int.toNat ((v4 - 10 : Nat) : Int)) 0) = 4 then (bd1 (fX11_nearest M v2) fun v16 => (some (v16, M))) else (if (cA5.getD (Int.toNat ((v4 - 10 : Nat) : Int)) 0) = 5 then (bd2 (fX2_toldCell M a1 a2) fun v20 M19 => (some (v20, M19))) else (some ((-1), M)))))))))
theorem T_X2_cellBy {G : ax_G} {d : Nat} (hd : 4 ≤ d) (hG : axPs G 150 244) {M : ax_M} {a1 : Nat} {a2 : Int} (y_a1 : (a1 = 157 ∨ a1 = 194)) {r : Int} {M1 : ax_M} (hf : fX2_cellBy M a1 a2 = some (r, M1)) : ax_Ex G tX2_cellBy d 0 (ax_args [vR 192, vR a1, vI a2] ++ List.replicate 1 none) [] M (.inl (some (vI r))) M1 := by
  show ax_Ex G tX2_cellBy d 0 [some (vR 192), some (vR a1), some (vI a2), none] [] M _ _
  unfold fX2_cellBy at hf
  refine x_aload_n (pc := 0) dX2_cellBy_0 rfl ?_
  refine x_iload_n (pc := 1) dX2_cellBy_1 rfl ?_
  obtain ⟨v2, r1, hf⟩ := bd1_some hf
  refine x_cr (v := vI v2) (vs := [vR a1, vI a2]) (rest := []) (k := 0) rfl (by omega) (ax_caV (pc := 2) dX2_cellBy_2 kX7_playerOf rfl rfl WM_X2_41 WI_X7_playerOf WS_X7_playerOf WN_X7 (ax_rcO (t := 5) (by rcases y_a1 with rfl | rfl <;> exact axEx hG rfl) (by rcases y_a1 with rfl | rfl <;> rfl) (by decide)) (Nat.le_of_ble_eq_true rfl)) kX7_playerOf rfl True.intro (T_X7_playerOf (by omega) hG y_a1 r1) ?_
  refine x_istore_n (ls' := [some (vR 192), some (vR a1), some (vI a2), some (vI v2)]) (pc := 5) dX2_cellBy_5 (Nat.le_of_ble_eq_true rfl) rfl rfl ?_
  refine x_gets (v := vR 5) _ (pc := 6) dX2_cellBy_6 (axS_mem (n := 4) rfl) rfl trivial WF_X2_63 ?_
  refine x_aload_n (pc := 9) dX2_cellBy_9 rfl ?_
  refine x_iload_n (pc := 10) dX2_cellBy_10 rfl ?_
  obtain ⟨v4, r3, hf⟩ := bd1_some hf
  refine ax_know (fun g5 _ _ => ?_)
  have q6 := R_X7_moveOf g5 y_a1 r3
  refine x_cr (v := vR v4) (vs := [vR a1, vI a2]) (rest := [vR 5]) (k := 1) rfl (by omega) (ax_caV (pc := 11) dX2_cellBy_11 kX7_moveOf rfl rfl WM_X2_68 WI_X7_moveOf WS_X7_moveOf WN_X7 (ax_rcO (t := 5) (by rcases y_a1 with rfl | rfl <;> exact axEx hG rfl) (by rcases y_a1 with rfl | rfl <;> rfl) (by decide)) (Nat.le_of_ble_eq_true rfl)) kX7_moveOf rfl True.intro (T_X7_moveOf (by omega) hG y_a1 r3) ?_
  refine x_cr (v := vI ((v4 - 10 : Nat) : Int)) (vs := [vR v4]) (rest := [vR 5]) (k := 0) rfl (by omega) (ax_caU (pc := 14) dX2_cellBy_14 kJx29ce0_ordinal_8abf5 rfl rfl rfl WM_X2_72 WX_same WX_sel WX_ins WN_Jx29ce0 (ax_rcK (axKc_kind q6)) (Nat.le_of_ble_eq_true rfl)) kJx29ce0_ordinal_8abf5 rfl True.intro (T_ord q6) ?_
  refine x_cald2 cA5 (pc := 17) dX2_cellBy_17 cA5_K cA5_in (by omega) (by have e9 : (cA5.length : Int) = 42 := rfl; omega) ?_
  by_cases h7 : (cA5.getD (Int.toNat ((v4 - 10 : Nat) : Int)) 0) = 1
  · replace hf := (if_pos h7).symm.trans hf
    refine x_tabIn (tgt := 52) 1 (pc := 18) dX2_cellBy_18 h7 (by decide) (by decide) rfl rfl ?_
    refine x_aload_n (pc := 52) dX2_cellBy_52 rfl ?_
    refine x_getF (t := 1) (j := 2) (r := 183) (pc := 53) dX2_cellBy_53 (axH hG rfl) (axEx hG rfl) rfl (by decide) (by decide) rfl rfl WF_X2_23 ?_
    refine x_iload_n (pc := 56) dX2_cellBy_56 rfl ?_
    obtain ⟨v9, r8, hf⟩ := bd1_some hf
    refine x_cr (v := vI v9) (vs := [vR 183, vI v2]) (rest := []) (k := 1) rfl (by omega) (ax_caV (pc := 57) dX2_cellBy_57 kX11_firstWinning rfl rfl WM_X2_77 WI_X11_firstWinning WS_X11_firstWinning WN_X11 (ax_rcO (t := 9) (axEx hG rfl) rfl (by decide)) (Nat.le_of_ble_eq_true rfl)) kX11_firstWinning rfl True.intro (T_X11_firstWinning (by omega) hG r8) ?_
    cases hf
    exact x_retI (pc := 60) dX2_cellBy_60
  replace hf := (if_neg h7).symm.trans hf
  by_cases h10 : (cA5.getD (Int.toNat ((v4 - 10 : Nat) : Int)) 0) = 2
  · replace hf := (if_pos h10).symm.trans hf
    refine x_tabIn (tgt := 61) 2 (pc := 18) dX2_cellBy_18 h10 (by decide) (by decide) rfl rfl ?_
    refine x_aload_n (pc := 61) dX2_cellBy_61 rfl ?_
    refine x_getF (t := 1) (j := 2) (r := 183) (pc := 62) dX2_cellBy_62 (axH hG rfl) (axEx hG rfl) rfl (by decide) (by decide) rfl rfl WF_X2_23 ?_
    refine x_iconst (pc := 65) dX2_cellBy_65 ⟨by decide, by decide⟩ ?_
    refine x_iload_n (pc := 66) dX2_cellBy_66 rfl ?_
    refine x_isubw (pc := 67) dX2_cellBy_67 ?_
    obtain ⟨v12, r11, hf⟩ := bd1_some hf
    refine x_cr (v := vI v12) (vs := [vR 183, vI (wr (1 - v2))]) (rest := []) (k := 1) rfl (by omega) (ax_caV (pc := 68) dX2_cellBy_68 kX11_firstWinning rfl rfl WM_X2_77 WI_X11_firstWinning WS_X11_firstWinning WN_X11 (ax_rcO (t := 9) (axEx hG rfl) rfl (by decide)) (Nat.le_of_ble_eq_true rfl)) kX11_firstWinning rfl True.intro (T_X11_firstWinning (by omega) hG r11) ?_
    cases hf
    exact x_retI (pc := 71) dX2_cellBy_71
  replace hf := (if_neg h10).symm.trans hf
  by_cases h13 : (cA5.getD (Int.toNat ((v4 - 10 : Nat) : Int)) 0) = 3
  · replace hf := (if_pos h13).symm.trans hf
    refine x_tabIn (tgt := 72) 3 (pc := 18) dX2_cellBy_18 h13 (by decide) (by decide) rfl rfl ?_
    refine x_aload_n (pc := 72) dX2_cellBy_72 rfl ?_
    refine x_getF (t := 1) (j := 1) (r := 179) (pc := 73) dX2_cellBy_73 (axH hG rfl) (axEx hG rfl) rfl (by decide) (by decide) rfl rfl WF_X2_19 ?_
    refine x_iload_n (pc := 76) dX2_cellBy_76 rfl ?_
    refine x_cr (v := vI (fX1_saving M v2)) (vs := [vR 179, vI v2]) (rest := []) (k := 0) rfl (by omega) (ax_caV (pc := 77) dX2_cellBy_77 kX1_saving rfl rfl WM_X2_80 WI_X1_saving WS_X1_saving WN_X1 (ax_rcO (t := 0) (axEx hG rfl) rfl (by decide)) (Nat.le_of_ble_eq_true rfl)) kX1_saving rfl True.intro (T_X1_saving (by omega) hG rfl) ?_
    cases hf
    exact x_retI (pc := 80) dX2_cellBy_80
  replace hf := (if_neg h13).symm.trans hf
  by_cases h14 : (cA5.getD (Int.toNat ((v4 - 10 : Nat) : Int)) 0) = 4
  · replace hf := (if_pos h14).symm.trans hf
    refine x_tabIn (tgt := 81) 4 (pc := 18) dX2_cellBy_18 h14 (by decide) (by decide) rfl rfl ?_
    refine x_aload_n (pc := 81) dX2_cellBy_81 rfl ?_
    refine x_getF (t := 1) (j := 2) (r := 183) (pc := 82) dX2_cellBy_82 (axH hG rfl) (axEx hG rfl) rfl (by decide) (by decide) rfl rfl WF_X2_23 ?_
    refine x_iload_n (pc := 85) dX2_cellBy_85 rfl ?_
    obtain ⟨v16, r15, hf⟩ := bd1_some hf
    refine x_cr (v := vI v16) (vs := [vR 183, vI v2]) (rest := []) (k := 4) rfl (by omega) (ax_caV (pc := 86) dX2_cellBy_86 kX11_nearest rfl rfl WM_X2_83 WI_X11_nearest WS_X11_nearest WN_X11 (ax_rcO (t := 9) (axEx hG rfl) rfl (by decide)) (Nat.le_of_ble_eq_true rfl)) kX11_nearest rfl True.intro (T_X11_nearest (by omega) hG r15) ?_
    cases hf
    exact x_retI (pc := 89) dX2_cellBy_89
  replace hf := (if_neg h14).symm.trans hf
  by_cases h17 : (cA5.getD (Int.toNat ((v4 - 10 : Nat) : Int)) 0) = 5
  · replace hf := (if_pos h17).symm.trans hf
    refine x_tabIn (tgt := 90) 5 (pc := 18) dX2_cellBy_18 h17 (by decide) (by decide) rfl rfl ?_
    refine x_aload_n (pc := 90) dX2_cellBy_90 rfl ?_
    refine x_aload_n (pc := 91) dX2_cellBy_91 rfl ?_
    refine x_iload_n (pc := 92) dX2_cellBy_92 rfl ?_
    obtain ⟨v20, M19, r18, hf⟩ := bd2_some hf
    refine x_cr (v := vI v20) (vs := [vR 192, vR a1, vI a2]) (rest := []) (k := 3) rfl (by omega) (ax_caV (pc := 93) dX2_cellBy_93 kX2_toldCell rfl rfl WM_X2_86 WI_X2_toldCell WS_X2_toldCell WN_X2 (ax_rcO (t := 1) (axEx hG rfl) rfl (by decide)) (Nat.le_of_ble_eq_true rfl)) kX2_toldCell rfl True.intro (T_X2_toldCell (by omega) hG y_a1 r18) ?_
    cases hf
    exact x_retI (pc := 96) dX2_cellBy_96
  replace hf := (if_neg h17).symm.trans hf
  refine x_tabOut (tgt := 97) (pc := 18) dX2_cellBy_18 (by omega) rfl ?_
  refine x_iconst (pc := 97) dX2_cellBy_97 ⟨by decide, by decide⟩ ?_
  cases hf
  exact x_retI (pc := 98) dX2_cellBy_98
/- HexPond$Chooser.choose(LHexPond$Plans;I)I -/
def fX2_choose_b16 (M : ax_M) (x1 : Nat) (x2 : Int) (v3 : Int) : Option ((Int × ax_M) ⊕ ((Int × ax_M) ⊕ ax_M)) :=
  (if v3 < (fX7_count M x1) then (bd1 (fX7_playerOf M x1 v3) fun v8 => (if v8 = x2 then (bd2 (fX2_holds M x1 v3) fun v12 M11 => (if v12 = 0 then (some (.inl ((v3 + 1), M11))) else (bd2 (fX2_cellBy M11 x1 v3) fun v16 M15 => (if v16 = (-1) then (some (.inl ((v3 + 1), M15))) else (some (.inr (.inl (v16, M15)))))))) else (some (.inl ((v3 + 1), M))))) else (some (.inr (.inr M))))
def fX2_choose (M : ax_M) (a1 : Nat) (a2 : Int) : Option (Int × ax_M) :=
  (bd1 (fX1_look M) fun M2 => (bd1 (fX11_look M2) fun M4 => (bdS (lp (fun s => fX2_choose_b16 s.2 a1 a2 s.1) lpN (0, M4)) (fun t18 => (some (t18.1, t18.2))) (fun t20 => (some ((-1), t20))))))
theorem B_X2_choose_16 {G : ax_G} {d : Nat} (hd : 5 ≤ d) (hG : axPs G 150 244) {M : ax_M} {x1 : Nat} {x2 : Int} {v3 : Int} (hy1 : (x1 = 157 ∨ x1 = 194)) {o : Option ax_V ⊕ String} {M' : ax_M} {y : (Int × ax_M) ⊕ ((Int × ax_M) ⊕ ax_M)} (hf : fX2_choose_b16 M x1 x2 v3 = some y) (h1 : ∀ s', y = .inl s' → ax_Ex G tX2_choose d 16 [some (vR 192), some (vR x1), some (vI x2), some (vI s'.1), none] [] s'.2 o M') (h2a : ∀ t, y = .inr (.inl t) → ax_Ex G tX2_choose d 56 [some (vR 192), some (vR x1), some (vI x2), none, some (vI t.1)] [] t.2 o M') (h2b : ∀ t, y = .inr (.inr t) → ax_Ex G tX2_choose d 65 [some (vR 192), some (vR x1), some (vI x2), none, none] [] t o M') : ax_Ex G tX2_choose d 16 [some (vR 192), some (vR x1), some (vI x2), some (vI v3), none] [] M o M' := by
  unfold fX2_choose_b16 at hf
  refine x_iload_n (pc := 16) dX2_choose_16 rfl ?_
  refine x_aload_n (pc := 17) dX2_choose_17 rfl ?_
  refine x_cr (v := vI (fX7_count M x1)) (vs := [vR x1]) (rest := [vI v3]) (k := 0) rfl (by omega) (ax_caV (pc := 18) dX2_choose_18 kX7_count rfl rfl WM_X2_35 WI_X7_count WS_X7_count WN_X7 (ax_rcO (t := 5) (by rcases hy1 with rfl | rfl <;> exact axEx hG rfl) (by rcases hy1 with rfl | rfl <;> rfl) (by decide)) (Nat.le_of_ble_eq_true rfl)) kX7_count rfl True.intro (T_X7_count (by omega) hG hy1 rfl) ?_
  refine ax_cmp (fun b6a b6b b6c b6e => ?_)
  refine x_icmpge (tgt := 65) (pc := 21) dX2_choose_21 rfl (fun h5 => ?_) (fun h5 => ?_)
  · replace hf := (if_neg (Int.not_lt.mpr h5)).symm.trans hf
    cases hf
    exact x_fgt (axS' (axS' (axS' (axN' (axN' axD))))) (h2b _ rfl)
  · replace hf := (if_pos h5).symm.trans hf
    refine x_aload_n (pc := 24) dX2_choose_24 rfl ?_
    refine x_iload_n (pc := 25) dX2_choose_25 rfl ?_
    obtain ⟨v8, r7, hf⟩ := bd1_some hf
    refine x_cr (v := vI v8) (vs := [vR x1, vI v3]) (rest := []) (k := 0) rfl (by omega) (ax_caV (pc := 26) dX2_choose_26 kX7_playerOf rfl rfl WM_X2_41 WI_X7_playerOf WS_X7_playerOf WN_X7 (ax_rcO (t := 5) (by rcases hy1 with rfl | rfl <;> exact axEx hG rfl) (by rcases hy1 with rfl | rfl <;> rfl) (by decide)) (Nat.le_of_ble_eq_true rfl)) kX7_playerOf rfl True.intro (T_X7_playerOf (by omega) hG hy1 r7) ?_
    refine x_iload_n (pc := 29) dX2_choose_29 rfl ?_
    refine x_icmpne (tgt := 59) (pc := 30) dX2_choose_30 rfl (fun h9 => ?_) (fun h9 => ?_)
    · replace hf := (if_neg h9).symm.trans hf
      refine x_iinc (z := (v3 + 1)) (ls' := [some (vR 192), some (vR x1), some (vI x2), some (vI (v3 + 1)), none]) (pc := 59) dX2_choose_59 rfl (Nat.le_of_ble_eq_true rfl) rfl rfl (ax_i (by omega) (by omega)) rfl ?_
      refine x_goto (tgt := 16) (pc := 62) dX2_choose_62 rfl ?_
      cases hf
      exact h1 _ rfl
    · replace hf := (if_pos h9).symm.trans hf
      refine x_aload_n (pc := 33) dX2_choose_33 rfl ?_
      refine x_aload_n (pc := 34) dX2_choose_34 rfl ?_
      refine x_iload_n (pc := 35) dX2_choose_35 rfl ?_
      obtain ⟨v12, M11, r10, hf⟩ := bd2_some hf
      refine x_cr (v := vI v12) (vs := [vR 192, vR x1, vI v3]) (rest := []) (k := 2) rfl (by omega) (ax_caV (pc := 36) dX2_choose_36 kX2_holds rfl rfl WM_X2_45 WI_X2_holds WS_X2_holds WN_X2 (ax_rcO (t := 1) (axEx hG rfl) rfl (by decide)) (Nat.le_of_ble_eq_true rfl)) kX2_holds rfl (Z_X2_holds r10) (T_X2_holds (by omega) hG hy1 r10) ?_
      refine x_ifeq (tgt := 59) (pc := 39) dX2_choose_39 rfl (fun h13 => ?_) (fun h13 => ?_)
      · replace hf := (if_pos h13).symm.trans hf
        refine x_iinc (z := (v3 + 1)) (ls' := [some (vR 192), some (vR x1), some (vI x2), some (vI (v3 + 1)), none]) (pc := 59) dX2_choose_59 rfl (Nat.le_of_ble_eq_true rfl) rfl rfl (ax_i (by omega) (by omega)) rfl ?_
        refine x_goto (tgt := 16) (pc := 62) dX2_choose_62 rfl ?_
        cases hf
        exact h1 _ rfl
      · replace hf := (if_neg h13).symm.trans hf
        refine x_aload_n (pc := 42) dX2_choose_42 rfl ?_
        refine x_aload_n (pc := 43) dX2_choose_43 rfl ?_
        refine x_iload_n (pc := 44) dX2_choose_44 rfl ?_
        obtain ⟨v16, M15, r14, hf⟩ := bd2_some hf
        refine x_cr (v := vI v16) (vs := [vR 192, vR x1, vI v3]) (rest := []) (k := 1) rfl (by omega) (ax_caV (pc := 45) dX2_choose_45 kX2_cellBy rfl rfl WM_X2_49 WI_X2_cellBy WS_X2_cellBy WN_X2 (ax_rcO (t := 1) (axEx hG rfl) rfl (by decide)) (Nat.le_of_ble_eq_true rfl)) kX2_cellBy rfl True.intro (T_X2_cellBy (by omega) hG hy1 r14) ?_
        refine x_istore (ls' := [some (vR 192), some (vR x1), some (vI x2), some (vI v3), some (vI v16)]) (pc := 48) dX2_choose_48 (Nat.le_of_ble_eq_true rfl) rfl rfl ?_
        refine x_iload (pc := 50) dX2_choose_50 rfl ?_
        refine x_iconst (pc := 52) dX2_choose_52 ⟨by decide, by decide⟩ ?_
        refine x_icmpeq (tgt := 59) (pc := 53) dX2_choose_53 rfl (fun h17 => ?_) (fun h17 => ?_)
        · replace hf := (if_pos h17).symm.trans hf
          refine x_iinc (z := (v3 + 1)) (ls' := [some (vR 192), some (vR x1), some (vI x2), some (vI (v3 + 1)), some (vI v16)]) (pc := 59) dX2_choose_59 rfl (Nat.le_of_ble_eq_true rfl) rfl rfl (ax_i (by omega) (by omega)) rfl ?_
          refine x_goto (tgt := 16) (pc := 62) dX2_choose_62 rfl ?_
          cases hf
          exact x_fgt (axS' (axS' (axS' (axS' (axN' axD))))) (h1 _ rfl)
        · replace hf := (if_neg h17).symm.trans hf
          cases hf
          exact x_fgt (axS' (axS' (axS' (axN' (axS' axD))))) (h2a _ rfl)
theorem T_X2_choose {G : ax_G} {d : Nat} (hd : 5 ≤ d) (hG : axPs G 150 244) {M : ax_M} {a1 : Nat} {a2 : Int} (y_a1 : (a1 = 157 ∨ a1 = 194)) {r : Int} {M1 : ax_M} (hf : fX2_choose M a1 a2 = some (r, M1)) : ax_Ex G tX2_choose d 0 (ax_args [vR 192, vR a1, vI a2] ++ List.replicate 2 none) [] M (.inl (some (vI r))) M1 := by
  show ax_Ex G tX2_choose d 0 [some (vR 192), some (vR a1), some (vI a2), none, none] [] M _ _
  unfold fX2_choose at hf
  refine x_aload_n (pc := 0) dX2_choose_0 rfl ?_
  refine x_getF (t := 1) (j := 1) (r := 179) (pc := 1) dX2_choose_1 (axH hG rfl) (axEx hG rfl) rfl (by decide) (by decide) rfl rfl WF_X2_19 ?_
  obtain ⟨M2, r1, hf⟩ := bd1_some hf
  refine x_cv (vs := [vR 179]) (rest := []) (k := 2) rfl (by omega) (ax_caV (pc := 4) dX2_choose_4 kX1_look rfl rfl WM_X2_27 WI_X1_look WS_X1_look WN_X1 (ax_rcO (t := 0) (axEx hG rfl) rfl (by decide)) (Nat.le_of_ble_eq_true rfl)) kX1_look rfl True.intro (T_X1_look (by omega) hG r1) ?_
  refine x_aload_n (pc := 7) dX2_choose_7 rfl ?_
  refine x_getF (t := 1) (j := 2) (r := 183) (pc := 8) dX2_choose_8 (axH hG rfl) (axEx hG rfl) rfl (by decide) (by decide) rfl rfl WF_X2_23 ?_
  obtain ⟨M4, r3, hf⟩ := bd1_some hf
  refine x_cv (vs := [vR 183]) (rest := []) (k := 1) rfl (by omega) (ax_caV (pc := 11) dX2_choose_11 kX11_look rfl rfl WM_X2_32 WI_X11_look WS_X11_look WN_X11 (ax_rcO (t := 9) (axEx hG rfl) rfl (by decide)) (Nat.le_of_ble_eq_true rfl)) kX11_look rfl True.intro (T_X11_look (by omega) hG r3) ?_
  refine x_iconst (pc := 14) dX2_choose_14 ⟨by decide, by decide⟩ ?_
  refine x_istore_n (ls' := [some (vR 192), some (vR a1), some (vI a2), some (vI 0), none]) (pc := 15) dX2_choose_15 (Nat.le_of_ble_eq_true rfl) rfl rfl ?_
  rcases bdS_some hf with ⟨t18, t19, hf⟩ | ⟨t20, t21, hf⟩
  · refine lp_ex (P := (fun s => ax_Ex G tX2_choose d 16 [some (vR 192), some (vR a1), some (vI a2), some (vI s.1), none] [] s.2 _ _)) (K := (fun r => (∀ t, r = .inl t → ax_Ex G tX2_choose d 56 [some (vR 192), some (vR a1), some (vI a2), none, some (vI t.1)] [] t.2 _ _) ∧ (∀ t, r = .inr t → ax_Ex G tX2_choose d 65 [some (vR 192), some (vR a1), some (vI a2), none, none] [] t _ _))) (fun s y hy h1 h2 => B_X2_choose_16 (by omega) hG y_a1 hy (fun s' e => h1 s' e) (fun t e => (h2 _ e).1 t rfl) (fun t e => (h2 _ e).2 t rfl)) _ _ _ t19 ?_
    refine ⟨fun t e => ?_, fun t e => (by cases e)⟩
    cases e
    refine x_iload (pc := 56) dX2_choose_56 rfl ?_
    cases hf
    exact x_retI (pc := 58) dX2_choose_58
  · refine lp_ex (P := (fun s => ax_Ex G tX2_choose d 16 [some (vR 192), some (vR a1), some (vI a2), some (vI s.1), none] [] s.2 _ _)) (K := (fun r => (∀ t, r = .inl t → ax_Ex G tX2_choose d 56 [some (vR 192), some (vR a1), some (vI a2), none, some (vI t.1)] [] t.2 _ _) ∧ (∀ t, r = .inr t → ax_Ex G tX2_choose d 65 [some (vR 192), some (vR a1), some (vI a2), none, none] [] t _ _))) (fun s y hy h1 h2 => B_X2_choose_16 (by omega) hG y_a1 hy (fun s' e => h1 s' e) (fun t e => (h2 _ e).1 t rfl) (fun t e => (h2 _ e).2 t rfl)) _ _ _ t21 ?_
    refine ⟨fun t e => (by cases e), fun t e => ?_⟩
    cases e
    refine x_iconst (pc := 65) dX2_choose_65 ⟨by decide, by decide⟩ ?_
    cases hf
    exact x_retI (pc := 66) dX2_choose_66
