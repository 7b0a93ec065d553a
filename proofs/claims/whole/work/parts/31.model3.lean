/-! walks: HexPondModel, what it answers -/
/- HexPondModel.compared(III)Z -/
def fX14_compared (M : ax_M) (a1 : Int) (a2 : Int) (a3 : Int) : Int :=
  (if a1 = 44 then (if a2 < a3 then (1) else (0)) else (if a1 = 45 then (if a3 < a2 then (1) else (0)) else (if a1 = 46 then (if a2 = a3 then (1) else (0)) else (if a1 = 47 then (if a3 < a2 then (0) else (1)) else (if a2 < a3 then (0) else (1))))))
theorem T_X14_compared {G : ax_G} {d : Nat} (hd : 0 ≤ d) (hG : axPs G 150 244) {M : ax_M} {a1 : Int} {a2 : Int} {a3 : Int} {r : Int} (hf : fX14_compared M a1 a2 a3 = r) : ax_Ex G tX14_compared d 0 (ax_args [vI a1, vI a2, vI a3] ++ List.replicate 0 none) [] M (.inl (some (vI r))) M := by
  show ax_Ex G tX14_compared d 0 [some (vI a1), some (vI a2), some (vI a3)] [] M _ _
  unfold fX14_compared at hf
  refine x_iload_n (pc := 0) dX14_compared_0 rfl ?_
  by_cases h101 : a1 = 44
  · replace hf := (if_pos h101).symm.trans hf
    refine x_tabIn (tgt := 32) 44 (pc := 1) dX14_compared_1 h101 (by decide) (by decide) rfl rfl ?_
    refine x_iload_n (pc := 32) dX14_compared_32 rfl ?_
    refine x_iload_n (pc := 33) dX14_compared_33 rfl ?_
    refine ax_cmp (fun b103a b103b b103c b103e => ?_)
    refine x_icmpge (tgt := 41) (pc := 34) dX14_compared_34 rfl (fun h102 => ?_) (fun h102 => ?_)
    · replace hf := (if_neg (Int.not_lt.mpr h102)).symm.trans hf
      refine x_iconst (pc := 41) dX14_compared_41 ⟨by decide, by decide⟩ ?_
      subst hf
      exact x_retI (pc := 42) dX14_compared_42
    · replace hf := (if_pos h102).symm.trans hf
      refine x_iconst (pc := 37) dX14_compared_37 ⟨by decide, by decide⟩ ?_
      refine x_goto (tgt := 42) (pc := 38) dX14_compared_38 rfl ?_
      subst hf
      exact x_retI (pc := 42) dX14_compared_42
  replace hf := (if_neg h101).symm.trans hf
  by_cases h104 : a1 = 45
  · replace hf := (if_pos h104).symm.trans hf
    refine x_tabIn (tgt := 43) 45 (pc := 1) dX14_compared_1 h104 (by decide) (by decide) rfl rfl ?_
    refine x_iload_n (pc := 43) dX14_compared_43 rfl ?_
    refine x_iload_n (pc := 44) dX14_compared_44 rfl ?_
    refine ax_cmp (fun b106a b106b b106c b106e => ?_)
    refine x_icmple (tgt := 52) (pc := 45) dX14_compared_45 rfl (fun h105 => ?_) (fun h105 => ?_)
    · replace hf := (if_neg (Int.not_lt.mpr h105)).symm.trans hf
      refine x_iconst (pc := 52) dX14_compared_52 ⟨by decide, by decide⟩ ?_
      subst hf
      exact x_retI (pc := 53) dX14_compared_53
    · replace hf := (if_pos h105).symm.trans hf
      refine x_iconst (pc := 48) dX14_compared_48 ⟨by decide, by decide⟩ ?_
      refine x_goto (tgt := 53) (pc := 49) dX14_compared_49 rfl ?_
      subst hf
      exact x_retI (pc := 53) dX14_compared_53
  replace hf := (if_neg h104).symm.trans hf
  by_cases h107 : a1 = 46
  · replace hf := (if_pos h107).symm.trans hf
    refine x_tabIn (tgt := 54) 46 (pc := 1) dX14_compared_1 h107 (by decide) (by decide) rfl rfl ?_
    refine x_iload_n (pc := 54) dX14_compared_54 rfl ?_
    refine x_iload_n (pc := 55) dX14_compared_55 rfl ?_
    refine x_icmpne (tgt := 63) (pc := 56) dX14_compared_56 rfl (fun h108 => ?_) (fun h108 => ?_)
    · replace hf := (if_neg h108).symm.trans hf
      refine x_iconst (pc := 63) dX14_compared_63 ⟨by decide, by decide⟩ ?_
      subst hf
      exact x_retI (pc := 64) dX14_compared_64
    · replace hf := (if_pos h108).symm.trans hf
      refine x_iconst (pc := 59) dX14_compared_59 ⟨by decide, by decide⟩ ?_
      refine x_goto (tgt := 64) (pc := 60) dX14_compared_60 rfl ?_
      subst hf
      exact x_retI (pc := 64) dX14_compared_64
  replace hf := (if_neg h107).symm.trans hf
  by_cases h109 : a1 = 47
  · replace hf := (if_pos h109).symm.trans hf
    refine x_tabIn (tgt := 65) 47 (pc := 1) dX14_compared_1 h109 (by decide) (by decide) rfl rfl ?_
    refine x_iload_n (pc := 65) dX14_compared_65 rfl ?_
    refine x_iload_n (pc := 66) dX14_compared_66 rfl ?_
    refine ax_cmp (fun b111a b111b b111c b111e => ?_)
    refine x_icmpgt (tgt := 74) (pc := 67) dX14_compared_67 rfl (fun h110 => ?_) (fun h110 => ?_)
    · replace hf := (if_pos h110).symm.trans hf
      refine x_iconst (pc := 74) dX14_compared_74 ⟨by decide, by decide⟩ ?_
      subst hf
      exact x_retI (pc := 75) dX14_compared_75
    · replace hf := (if_neg (Int.not_lt.mpr h110)).symm.trans hf
      refine x_iconst (pc := 70) dX14_compared_70 ⟨by decide, by decide⟩ ?_
      refine x_goto (tgt := 75) (pc := 71) dX14_compared_71 rfl ?_
      subst hf
      exact x_retI (pc := 75) dX14_compared_75
  replace hf := (if_neg h109).symm.trans hf
  refine x_tabOut (tgt := 76) (pc := 1) dX14_compared_1 (by omega) rfl ?_
  refine x_iload_n (pc := 76) dX14_compared_76 rfl ?_
  refine x_iload_n (pc := 77) dX14_compared_77 rfl ?_
  refine ax_cmp (fun b113a b113b b113c b113e => ?_)
  refine x_icmplt (tgt := 85) (pc := 78) dX14_compared_78 rfl (fun h112 => ?_) (fun h112 => ?_)
  · replace hf := (if_pos h112).symm.trans hf
    refine x_iconst (pc := 85) dX14_compared_85 ⟨by decide, by decide⟩ ?_
    subst hf
    exact x_retI (pc := 86) dX14_compared_86
  · replace hf := (if_neg (Int.not_lt.mpr h112)).symm.trans hf
    refine x_iconst (pc := 81) dX14_compared_81 ⟨by decide, by decide⟩ ?_
    refine x_goto (tgt := 86) (pc := 82) dX14_compared_82 rfl ?_
    subst hf
    exact x_retI (pc := 86) dX14_compared_86
theorem Z_X14_compared {M : ax_M} {a1 : Int} {a2 : Int} {a3 : Int} {r : Int} (hf : fX14_compared M a1 a2 a3 = r) : r = 0 ∨ r = 1 := by
  unfold fX14_compared at hf
  by_cases h101 : a1 = 44
  · replace hf := (if_pos h101).symm.trans hf
    by_cases h102 : a2 < a3
    · replace hf := (if_pos h102).symm.trans hf
      subst hf
      exact Or.inr rfl
    · replace hf := (if_neg h102).symm.trans hf
      subst hf
      exact Or.inl rfl
  replace hf := (if_neg h101).symm.trans hf
  by_cases h104 : a1 = 45
  · replace hf := (if_pos h104).symm.trans hf
    by_cases h105 : a3 < a2
    · replace hf := (if_pos h105).symm.trans hf
      subst hf
      exact Or.inr rfl
    · replace hf := (if_neg h105).symm.trans hf
      subst hf
      exact Or.inl rfl
  replace hf := (if_neg h104).symm.trans hf
  by_cases h107 : a1 = 46
  · replace hf := (if_pos h107).symm.trans hf
    by_cases h108 : a2 = a3
    · replace hf := (if_pos h108).symm.trans hf
      subst hf
      exact Or.inr rfl
    · replace hf := (if_neg h108).symm.trans hf
      subst hf
      exact Or.inl rfl
  replace hf := (if_neg h107).symm.trans hf
  by_cases h109 : a1 = 47
  · replace hf := (if_pos h109).symm.trans hf
    by_cases h110 : a3 < a2
    · replace hf := (if_pos h110).symm.trans hf
      subst hf
      exact Or.inl rfl
    · replace hf := (if_neg h110).symm.trans hf
      subst hf
      exact Or.inr rfl
  replace hf := (if_neg h109).symm.trans hf
  by_cases h112 : a2 < a3
  · replace hf := (if_pos h112).symm.trans hf
    subst hf
    exact Or.inl rfl
  · replace hf := (if_neg h112).symm.trans hf
    subst hf
    exact Or.inr rfl
/- HexPondModel.reckon(III)I -/
def fX14_reckon (M : ax_M) (a1 : Int) (a2 : Int) (a3 : Int) : Option (Int × ax_M) :=
  (if a1 = 12 then (bd1 (fX14_count M 0) fun v103 => (bd1 (fX14_count M 1) fun v105 => (some ((wr (v103 + v105)), M)))) else (if a1 = 13 then (bd1 (fX14_count M a2) fun v108 => (some (v108, M))) else (if a1 = 14 then (bd1 (fX14_bridges M a2 1) fun v111 => (some (v111, M))) else (if a1 = 15 then (bd1 (fX14_count M (-1)) fun v114 => (some (v114, M))) else (if a1 = 16 then (bd2 (fX14_needs M a2) fun v118 M117 => (some (v118, M117))) else (if a1 = 17 then (bd2 (fX14_won M a2) fun v122 M121 => (if v122 = 0 then (some (0, M121)) else (some (1, M121)))) else (if a1 = 18 then (if 0 ≤ a2 ∧ a2 < 800 then (some ((wr (1 - (mI M 232 (Int.toNat a2)))), M)) else none) else (if a1 = 19 then (if 0 ≤ a2 ∧ a2 < 800 then (if 0 ≤ a3 ∧ a3 < 800 then (some ((iand (mI M 232 (Int.toNat a2)) (mI M 232 (Int.toNat a3))), M)) else none) else none) else (if a1 = 20 then (if 0 ≤ a2 ∧ a2 < 800 then (if 0 ≤ a3 ∧ a3 < 800 then (some ((ior (mI M 232 (Int.toNat a2)) (mI M 232 (Int.toNat a3))), M)) else none) else none) else (if a1 = 21 then (if 0 ≤ a2 ∧ a2 < 800 then (if 0 ≤ a3 ∧ a3 < 800 then (some ((fJ9_min_7cf53 M (mI M 232 (Int.toNat a2)) (mI M 232 (Int.toNat a3))), M)) else none) else none) else (if a1 = 22 then (if 0 ≤ a2 ∧ a2 < 800 then (if 0 ≤ a3 ∧ a3 < 800 then (some ((fJ9_max_7cf53 M (mI M 232 (Int.toNat a2)) (mI M 232 (Int.toNat a3))), M)) else none) else none) else (if a1 = 31 then (some (a2, M)) else (if a1 = 40 then (if 0 ≤ a2 ∧ a2 < 800 then (if 0 ≤ a3 ∧ a3 < 800 then (some ((wr ((mI M 232 (Int.toNat a2)) + (mI M 232 (Int.toNat a3)))), M)) else none) else none) else (if a1 = 41 then (if 0 ≤ a2 ∧ a2 < 800 then (if 0 ≤ a3 ∧ a3 < 800 then (some ((wr ((mI M 232 (Int.toNat a2)) - (mI M 232 (Int.toNat a3)))), M)) else none) else none) else (if a1 = 42 then (if 0 ≤ a2 ∧ a2 < 800 then (if 0 ≤ a3 ∧ a3 < 800 then (some ((wr ((mI M 232 (Int.toNat a2)) * (mI M 232 (Int.toNat a3)))), M)) else none) else none) else (if a1 = 43 then (if 0 ≤ a3 ∧ a3 < 800 then (if (mI M 232 (Int.toNat a3)) = 0 then (some (0, M)) else (if 0 ≤ a2 ∧ a2 < 800 then (some ((wr (Int.tdiv (mI M 232 (Int.toNat a2)) (mI M 232 (Int.toNat a3)))), M)) else none)) else none) else (if a1 = 60 then (if 0 ≤ a2 ∧ a2 < 800 then (some ((wr (-(mI M 232 (Int.toNat a2)))), M)) else none) else (if 0 ≤ a2 ∧ a2 < 800 then (if 0 ≤ a3 ∧ a3 < 800 then (if (fX14_compared M a1 (mI M 232 (Int.toNat a2)) (mI M 232 (Int.toNat a3))) = 0 then (some (0, M)) else (some (1, M))) else none) else none))))))))))))))))))
theorem T_X14_reckon {G : ax_G} {d : Nat} (hd : 6 ≤ d) (hG : axPs G 150 244) {M : ax_M} {a1 : Int} {a2 : Int} {a3 : Int} {r : Int} {M1 : ax_M} (hf : fX14_reckon M a1 a2 a3 = some (r, M1)) : ax_Ex G tX14_reckon d 0 (ax_args [vR 203, vI a1, vI a2, vI a3] ++ List.replicate 0 none) [] M (.inl (some (vI r))) M1 := by
  show ax_Ex G tX14_reckon d 0 [some (vR 203), some (vI a1), some (vI a2), some (vI a3)] [] M _ _
  unfold fX14_reckon at hf
  refine x_iload_n (pc := 0) dX14_reckon_0 rfl ?_
  by_cases h101 : a1 = 12
  · replace hf := (if_pos h101).symm.trans hf
    refine x_tabIn (tgt := 214) 12 (pc := 1) dX14_reckon_1 h101 (by decide) (by decide) rfl rfl ?_
    refine x_aload_n (pc := 214) dX14_reckon_214 rfl ?_
    refine x_iconst (pc := 215) dX14_reckon_215 ⟨by decide, by decide⟩ ?_
    obtain ⟨v103, r102, hf⟩ := bd1_some hf
    refine x_cr (v := vI v103) (vs := [vR 203, vI 0]) (rest := []) (k := 2) rfl (by omega) (ax_caV (pc := 216) dX14_reckon_216 kX14_count rfl rfl WM_X14_307 WI_X14_count WS_X14_count WN_X14 (ax_rcO (t := 12) (axEx hG rfl) rfl (by decide)) (Nat.le_of_ble_eq_true rfl)) kX14_count rfl True.intro (T_X14_count (by omega) hG r102) ?_
    refine x_aload_n (pc := 219) dX14_reckon_219 rfl ?_
    refine x_iconst (pc := 220) dX14_reckon_220 ⟨by decide, by decide⟩ ?_
    obtain ⟨v105, r104, hf⟩ := bd1_some hf
    refine x_cr (v := vI v105) (vs := [vR 203, vI 1]) (rest := [vI v103]) (k := 2) rfl (by omega) (ax_caV (pc := 221) dX14_reckon_221 kX14_count rfl rfl WM_X14_307 WI_X14_count WS_X14_count WN_X14 (ax_rcO (t := 12) (axEx hG rfl) rfl (by decide)) (Nat.le_of_ble_eq_true rfl)) kX14_count rfl True.intro (T_X14_count (by omega) hG r104) ?_
    refine x_iaddw (pc := 224) dX14_reckon_224 ?_
    cases hf
    exact x_retI (pc := 225) dX14_reckon_225
  replace hf := (if_neg h101).symm.trans hf
  by_cases h106 : a1 = 13
  · replace hf := (if_pos h106).symm.trans hf
    refine x_tabIn (tgt := 232) 13 (pc := 1) dX14_reckon_1 h106 (by decide) (by decide) rfl rfl ?_
    refine x_aload_n (pc := 232) dX14_reckon_232 rfl ?_
    refine x_iload_n (pc := 233) dX14_reckon_233 rfl ?_
    obtain ⟨v108, r107, hf⟩ := bd1_some hf
    refine x_cr (v := vI v108) (vs := [vR 203, vI a2]) (rest := []) (k := 2) rfl (by omega) (ax_caV (pc := 234) dX14_reckon_234 kX14_count rfl rfl WM_X14_307 WI_X14_count WS_X14_count WN_X14 (ax_rcO (t := 12) (axEx hG rfl) rfl (by decide)) (Nat.le_of_ble_eq_true rfl)) kX14_count rfl True.intro (T_X14_count (by omega) hG r107) ?_
    cases hf
    exact x_retI (pc := 237) dX14_reckon_237
  replace hf := (if_neg h106).symm.trans hf
  by_cases h109 : a1 = 14
  · replace hf := (if_pos h109).symm.trans hf
    refine x_tabIn (tgt := 238) 14 (pc := 1) dX14_reckon_1 h109 (by decide) (by decide) rfl rfl ?_
    refine x_aload_n (pc := 238) dX14_reckon_238 rfl ?_
    refine x_iload_n (pc := 239) dX14_reckon_239 rfl ?_
    refine x_iconst (pc := 240) dX14_reckon_240 ⟨by decide, by decide⟩ ?_
    obtain ⟨v111, r110, hf⟩ := bd1_some hf
    refine x_cr (v := vI v111) (vs := [vR 203, vI a2, vI 1]) (rest := []) (k := 3) rfl (by omega) (ax_caV (pc := 241) dX14_reckon_241 kX14_bridges rfl rfl WM_X14_339 WI_X14_bridges WS_X14_bridges WN_X14 (ax_rcO (t := 12) (axEx hG rfl) rfl (by decide)) (Nat.le_of_ble_eq_true rfl)) kX14_bridges rfl True.intro (T_X14_bridges (by omega) hG r110) ?_
    cases hf
    exact x_retI (pc := 244) dX14_reckon_244
  replace hf := (if_neg h109).symm.trans hf
  by_cases h112 : a1 = 15
  · replace hf := (if_pos h112).symm.trans hf
    refine x_tabIn (tgt := 226) 15 (pc := 1) dX14_reckon_1 h112 (by decide) (by decide) rfl rfl ?_
    refine x_aload_n (pc := 226) dX14_reckon_226 rfl ?_
    refine x_iconst (pc := 227) dX14_reckon_227 ⟨by decide, by decide⟩ ?_
    obtain ⟨v114, r113, hf⟩ := bd1_some hf
    refine x_cr (v := vI v114) (vs := [vR 203, vI (-1)]) (rest := []) (k := 2) rfl (by omega) (ax_caV (pc := 228) dX14_reckon_228 kX14_count rfl rfl WM_X14_307 WI_X14_count WS_X14_count WN_X14 (ax_rcO (t := 12) (axEx hG rfl) rfl (by decide)) (Nat.le_of_ble_eq_true rfl)) kX14_count rfl True.intro (T_X14_count (by omega) hG r113) ?_
    cases hf
    exact x_retI (pc := 231) dX14_reckon_231
  replace hf := (if_neg h112).symm.trans hf
  by_cases h115 : a1 = 16
  · replace hf := (if_pos h115).symm.trans hf
    refine x_tabIn (tgt := 245) 16 (pc := 1) dX14_reckon_1 h115 (by decide) (by decide) rfl rfl ?_
    refine x_aload_n (pc := 245) dX14_reckon_245 rfl ?_
    refine x_iload_n (pc := 246) dX14_reckon_246 rfl ?_
    obtain ⟨v118, M117, r116, hf⟩ := bd2_some hf
    refine x_cr (v := vI v118) (vs := [vR 203, vI a2]) (rest := []) (k := 2) rfl (by omega) (ax_caV (pc := 247) dX14_reckon_247 kX14_needs rfl rfl WM_X14_342 WI_X14_needs WS_X14_needs WN_X14 (ax_rcO (t := 12) (axEx hG rfl) rfl (by decide)) (Nat.le_of_ble_eq_true rfl)) kX14_needs rfl True.intro (T_X14_needs (by omega) hG r116) ?_
    cases hf
    exact x_retI (pc := 250) dX14_reckon_250
  replace hf := (if_neg h115).symm.trans hf
  by_cases h119 : a1 = 17
  · replace hf := (if_pos h119).symm.trans hf
    refine x_tabIn (tgt := 251) 17 (pc := 1) dX14_reckon_1 h119 (by decide) (by decide) rfl rfl ?_
    refine x_aload_n (pc := 251) dX14_reckon_251 rfl ?_
    refine x_iload_n (pc := 252) dX14_reckon_252 rfl ?_
    obtain ⟨v122, M121, r120, hf⟩ := bd2_some hf
    refine x_cr (v := vI v122) (vs := [vR 203, vI a2]) (rest := []) (k := 4) rfl (by omega) (ax_caV (pc := 253) dX14_reckon_253 kX14_won rfl rfl WM_X14_304 WI_X14_won WS_X14_won WN_X14 (ax_rcO (t := 12) (axEx hG rfl) rfl (by decide)) (Nat.le_of_ble_eq_true rfl)) kX14_won rfl (Z_X14_won r120) (T_X14_won (by omega) hG r120) ?_
    refine x_ifeq (tgt := 263) (pc := 256) dX14_reckon_256 rfl (fun h123 => ?_) (fun h123 => ?_)
    · replace hf := (if_pos h123).symm.trans hf
      refine x_iconst (pc := 263) dX14_reckon_263 ⟨by decide, by decide⟩ ?_
      cases hf
      exact x_retI (pc := 264) dX14_reckon_264
    · replace hf := (if_neg h123).symm.trans hf
      refine x_iconst (pc := 259) dX14_reckon_259 ⟨by decide, by decide⟩ ?_
      refine x_goto (tgt := 264) (pc := 260) dX14_reckon_260 rfl ?_
      cases hf
      exact x_retI (pc := 264) dX14_reckon_264
  replace hf := (if_neg h119).symm.trans hf
  by_cases h124 : a1 = 18
  · replace hf := (if_pos h124).symm.trans hf
    refine x_tabIn (tgt := 273) 18 (pc := 1) dX14_reckon_1 h124 (by decide) (by decide) rfl rfl ?_
    refine x_iconst (pc := 273) dX14_reckon_273 ⟨by decide, by decide⟩ ?_
    refine x_aload_n (pc := 274) dX14_reckon_274 rfl ?_
    refine x_getF (t := 12) (j := 14) (r := 232) (pc := 275) dX14_reckon_275 (axH hG rfl) (axEx hG rfl) rfl (by decide) (by decide) rfl rfl WF_X14_36 ?_
    refine x_iload_n (pc := 278) dX14_reckon_278 rfl ?_
    by_cases h125 : 0 ≤ a2 ∧ a2 < 800
    · replace hf := (if_pos h125).symm.trans hf
      refine x_iald2 (n := 800) (pc := 279) dX14_reckon_279 (axEx hG rfl) rfl h125.1 h125.2 ?_
      refine x_isubw (pc := 280) dX14_reckon_280 ?_
      cases hf
      exact x_retI (pc := 281) dX14_reckon_281
    · replace hf := (if_neg h125).symm.trans hf
      cases hf
  replace hf := (if_neg h124).symm.trans hf
  by_cases h126 : a1 = 19
  · replace hf := (if_pos h126).symm.trans hf
    refine x_tabIn (tgt := 383) 19 (pc := 1) dX14_reckon_1 h126 (by decide) (by decide) rfl rfl ?_
    refine x_aload_n (pc := 383) dX14_reckon_383 rfl ?_
    refine x_getF (t := 12) (j := 14) (r := 232) (pc := 384) dX14_reckon_384 (axH hG rfl) (axEx hG rfl) rfl (by decide) (by decide) rfl rfl WF_X14_36 ?_
    refine x_iload_n (pc := 387) dX14_reckon_387 rfl ?_
    by_cases h127 : 0 ≤ a2 ∧ a2 < 800
    · replace hf := (if_pos h127).symm.trans hf
      refine x_iald2 (n := 800) (pc := 388) dX14_reckon_388 (axEx hG rfl) rfl h127.1 h127.2 ?_
      refine x_aload_n (pc := 389) dX14_reckon_389 rfl ?_
      refine x_getF (t := 12) (j := 14) (r := 232) (pc := 390) dX14_reckon_390 (axH hG rfl) (axEx hG rfl) rfl (by decide) (by decide) rfl rfl WF_X14_36 ?_
      refine x_iload_n (pc := 393) dX14_reckon_393 rfl ?_
      by_cases h128 : 0 ≤ a3 ∧ a3 < 800
      · replace hf := (if_pos h128).symm.trans hf
        refine x_iald2 (n := 800) (pc := 394) dX14_reckon_394 (axEx hG rfl) rfl h128.1 h128.2 ?_
        refine x_iand (z := (iand (mI M 232 (Int.toNat a2)) (mI M 232 (Int.toNat a3)))) (pc := 395) dX14_reckon_395 rfl ?_
        cases hf
        exact x_retI (pc := 396) dX14_reckon_396
      · replace hf := (if_neg h128).symm.trans hf
        cases hf
    · replace hf := (if_neg h127).symm.trans hf
      cases hf
  replace hf := (if_neg h126).symm.trans hf
  by_cases h129 : a1 = 20
  · replace hf := (if_pos h129).symm.trans hf
    refine x_tabIn (tgt := 397) 20 (pc := 1) dX14_reckon_1 h129 (by decide) (by decide) rfl rfl ?_
    refine x_aload_n (pc := 397) dX14_reckon_397 rfl ?_
    refine x_getF (t := 12) (j := 14) (r := 232) (pc := 398) dX14_reckon_398 (axH hG rfl) (axEx hG rfl) rfl (by decide) (by decide) rfl rfl WF_X14_36 ?_
    refine x_iload_n (pc := 401) dX14_reckon_401 rfl ?_
    by_cases h130 : 0 ≤ a2 ∧ a2 < 800
    · replace hf := (if_pos h130).symm.trans hf
      refine x_iald2 (n := 800) (pc := 402) dX14_reckon_402 (axEx hG rfl) rfl h130.1 h130.2 ?_
      refine x_aload_n (pc := 403) dX14_reckon_403 rfl ?_
      refine x_getF (t := 12) (j := 14) (r := 232) (pc := 404) dX14_reckon_404 (axH hG rfl) (axEx hG rfl) rfl (by decide) (by decide) rfl rfl WF_X14_36 ?_
      refine x_iload_n (pc := 407) dX14_reckon_407 rfl ?_
      by_cases h131 : 0 ≤ a3 ∧ a3 < 800
      · replace hf := (if_pos h131).symm.trans hf
        refine x_iald2 (n := 800) (pc := 408) dX14_reckon_408 (axEx hG rfl) rfl h131.1 h131.2 ?_
        refine x_ior (z := (ior (mI M 232 (Int.toNat a2)) (mI M 232 (Int.toNat a3)))) (pc := 409) dX14_reckon_409 rfl ?_
        cases hf
        exact x_retI (pc := 410) dX14_reckon_410
      · replace hf := (if_neg h131).symm.trans hf
        cases hf
    · replace hf := (if_neg h130).symm.trans hf
      cases hf
  replace hf := (if_neg h129).symm.trans hf
  by_cases h132 : a1 = 21
  · replace hf := (if_pos h132).symm.trans hf
    refine x_tabIn (tgt := 351) 21 (pc := 1) dX14_reckon_1 h132 (by decide) (by decide) rfl rfl ?_
    refine x_aload_n (pc := 351) dX14_reckon_351 rfl ?_
    refine x_getF (t := 12) (j := 14) (r := 232) (pc := 352) dX14_reckon_352 (axH hG rfl) (axEx hG rfl) rfl (by decide) (by decide) rfl rfl WF_X14_36 ?_
    refine x_iload_n (pc := 355) dX14_reckon_355 rfl ?_
    by_cases h133 : 0 ≤ a2 ∧ a2 < 800
    · replace hf := (if_pos h133).symm.trans hf
      refine x_iald2 (n := 800) (pc := 356) dX14_reckon_356 (axEx hG rfl) rfl h133.1 h133.2 ?_
      refine x_aload_n (pc := 357) dX14_reckon_357 rfl ?_
      refine x_getF (t := 12) (j := 14) (r := 232) (pc := 358) dX14_reckon_358 (axH hG rfl) (axEx hG rfl) rfl (by decide) (by decide) rfl rfl WF_X14_36 ?_
      refine x_iload_n (pc := 361) dX14_reckon_361 rfl ?_
      by_cases h134 : 0 ≤ a3 ∧ a3 < 800
      · replace hf := (if_pos h134).symm.trans hf
        refine x_iald2 (n := 800) (pc := 362) dX14_reckon_362 (axEx hG rfl) rfl h134.1 h134.2 ?_
        refine x_cr (v := vI (fJ9_min_7cf53 M (mI M 232 (Int.toNat a2)) (mI M 232 (Int.toNat a3)))) (vs := [vI (mI M 232 (Int.toNat a2)), vI (mI M 232 (Int.toNat a3))]) (rest := []) (k := 0) rfl (by omega) (ax_caS (pc := 363) dX14_reckon_363 kJ9_min_7cf53 rfl rfl WM_X14_218 WT_J9_min_7cf53 WN_J9 (Nat.le_of_ble_eq_true rfl)) kJ9_min_7cf53 rfl True.intro (T_J9_min_7cf53 (by omega) rfl) ?_
        cases hf
        exact x_retI (pc := 366) dX14_reckon_366
      · replace hf := (if_neg h134).symm.trans hf
        cases hf
    · replace hf := (if_neg h133).symm.trans hf
      cases hf
  replace hf := (if_neg h132).symm.trans hf
  by_cases h135 : a1 = 22
  · replace hf := (if_pos h135).symm.trans hf
    refine x_tabIn (tgt := 367) 22 (pc := 1) dX14_reckon_1 h135 (by decide) (by decide) rfl rfl ?_
    refine x_aload_n (pc := 367) dX14_reckon_367 rfl ?_
    refine x_getF (t := 12) (j := 14) (r := 232) (pc := 368) dX14_reckon_368 (axH hG rfl) (axEx hG rfl) rfl (by decide) (by decide) rfl rfl WF_X14_36 ?_
    refine x_iload_n (pc := 371) dX14_reckon_371 rfl ?_
    by_cases h136 : 0 ≤ a2 ∧ a2 < 800
    · replace hf := (if_pos h136).symm.trans hf
      refine x_iald2 (n := 800) (pc := 372) dX14_reckon_372 (axEx hG rfl) rfl h136.1 h136.2 ?_
      refine x_aload_n (pc := 373) dX14_reckon_373 rfl ?_
      refine x_getF (t := 12) (j := 14) (r := 232) (pc := 374) dX14_reckon_374 (axH hG rfl) (axEx hG rfl) rfl (by decide) (by decide) rfl rfl WF_X14_36 ?_
      refine x_iload_n (pc := 377) dX14_reckon_377 rfl ?_
      by_cases h137 : 0 ≤ a3 ∧ a3 < 800
      · replace hf := (if_pos h137).symm.trans hf
        refine x_iald2 (n := 800) (pc := 378) dX14_reckon_378 (axEx hG rfl) rfl h137.1 h137.2 ?_
        refine x_cr (v := vI (fJ9_max_7cf53 M (mI M 232 (Int.toNat a2)) (mI M 232 (Int.toNat a3)))) (vs := [vI (mI M 232 (Int.toNat a2)), vI (mI M 232 (Int.toNat a3))]) (rest := []) (k := 0) rfl (by omega) (ax_caS (pc := 379) dX14_reckon_379 kJ9_max_7cf53 rfl rfl WM_X14_345 WT_J9_max_7cf53 WN_J9 (Nat.le_of_ble_eq_true rfl)) kJ9_max_7cf53 rfl True.intro (T_J9_max_7cf53 (by omega) rfl) ?_
        cases hf
        exact x_retI (pc := 382) dX14_reckon_382
      · replace hf := (if_neg h137).symm.trans hf
        cases hf
    · replace hf := (if_neg h136).symm.trans hf
      cases hf
  replace hf := (if_neg h135).symm.trans hf
  by_cases h138 : a1 = 31
  · replace hf := (if_pos h138).symm.trans hf
    refine x_tabIn (tgt := 212) 31 (pc := 1) dX14_reckon_1 h138 (by decide) (by decide) rfl rfl ?_
    refine x_iload_n (pc := 212) dX14_reckon_212 rfl ?_
    cases hf
    exact x_retI (pc := 213) dX14_reckon_213
  replace hf := (if_neg h138).symm.trans hf
  by_cases h139 : a1 = 40
  · replace hf := (if_pos h139).symm.trans hf
    refine x_tabIn (tgt := 282) 40 (pc := 1) dX14_reckon_1 h139 (by decide) (by decide) rfl rfl ?_
    refine x_aload_n (pc := 282) dX14_reckon_282 rfl ?_
    refine x_getF (t := 12) (j := 14) (r := 232) (pc := 283) dX14_reckon_283 (axH hG rfl) (axEx hG rfl) rfl (by decide) (by decide) rfl rfl WF_X14_36 ?_
    refine x_iload_n (pc := 286) dX14_reckon_286 rfl ?_
    by_cases h140 : 0 ≤ a2 ∧ a2 < 800
    · replace hf := (if_pos h140).symm.trans hf
      refine x_iald2 (n := 800) (pc := 287) dX14_reckon_287 (axEx hG rfl) rfl h140.1 h140.2 ?_
      refine x_aload_n (pc := 288) dX14_reckon_288 rfl ?_
      refine x_getF (t := 12) (j := 14) (r := 232) (pc := 289) dX14_reckon_289 (axH hG rfl) (axEx hG rfl) rfl (by decide) (by decide) rfl rfl WF_X14_36 ?_
      refine x_iload_n (pc := 292) dX14_reckon_292 rfl ?_
      by_cases h141 : 0 ≤ a3 ∧ a3 < 800
      · replace hf := (if_pos h141).symm.trans hf
        refine x_iald2 (n := 800) (pc := 293) dX14_reckon_293 (axEx hG rfl) rfl h141.1 h141.2 ?_
        refine x_iaddw (pc := 294) dX14_reckon_294 ?_
        cases hf
        exact x_retI (pc := 295) dX14_reckon_295
      · replace hf := (if_neg h141).symm.trans hf
        cases hf
    · replace hf := (if_neg h140).symm.trans hf
      cases hf
  replace hf := (if_neg h139).symm.trans hf
  by_cases h142 : a1 = 41
  · replace hf := (if_pos h142).symm.trans hf
    refine x_tabIn (tgt := 296) 41 (pc := 1) dX14_reckon_1 h142 (by decide) (by decide) rfl rfl ?_
    refine x_aload_n (pc := 296) dX14_reckon_296 rfl ?_
    refine x_getF (t := 12) (j := 14) (r := 232) (pc := 297) dX14_reckon_297 (axH hG rfl) (axEx hG rfl) rfl (by decide) (by decide) rfl rfl WF_X14_36 ?_
    refine x_iload_n (pc := 300) dX14_reckon_300 rfl ?_
    by_cases h143 : 0 ≤ a2 ∧ a2 < 800
    · replace hf := (if_pos h143).symm.trans hf
      refine x_iald2 (n := 800) (pc := 301) dX14_reckon_301 (axEx hG rfl) rfl h143.1 h143.2 ?_
      refine x_aload_n (pc := 302) dX14_reckon_302 rfl ?_
      refine x_getF (t := 12) (j := 14) (r := 232) (pc := 303) dX14_reckon_303 (axH hG rfl) (axEx hG rfl) rfl (by decide) (by decide) rfl rfl WF_X14_36 ?_
      refine x_iload_n (pc := 306) dX14_reckon_306 rfl ?_
      by_cases h144 : 0 ≤ a3 ∧ a3 < 800
      · replace hf := (if_pos h144).symm.trans hf
        refine x_iald2 (n := 800) (pc := 307) dX14_reckon_307 (axEx hG rfl) rfl h144.1 h144.2 ?_
        refine x_isubw (pc := 308) dX14_reckon_308 ?_
        cases hf
        exact x_retI (pc := 309) dX14_reckon_309
      · replace hf := (if_neg h144).symm.trans hf
        cases hf
    · replace hf := (if_neg h143).symm.trans hf
      cases hf
  replace hf := (if_neg h142).symm.trans hf
  by_cases h145 : a1 = 42
  · replace hf := (if_pos h145).symm.trans hf
    refine x_tabIn (tgt := 310) 42 (pc := 1) dX14_reckon_1 h145 (by decide) (by decide) rfl rfl ?_
    refine x_aload_n (pc := 310) dX14_reckon_310 rfl ?_
    refine x_getF (t := 12) (j := 14) (r := 232) (pc := 311) dX14_reckon_311 (axH hG rfl) (axEx hG rfl) rfl (by decide) (by decide) rfl rfl WF_X14_36 ?_
    refine x_iload_n (pc := 314) dX14_reckon_314 rfl ?_
    by_cases h146 : 0 ≤ a2 ∧ a2 < 800
    · replace hf := (if_pos h146).symm.trans hf
      refine x_iald2 (n := 800) (pc := 315) dX14_reckon_315 (axEx hG rfl) rfl h146.1 h146.2 ?_
      refine x_aload_n (pc := 316) dX14_reckon_316 rfl ?_
      refine x_getF (t := 12) (j := 14) (r := 232) (pc := 317) dX14_reckon_317 (axH hG rfl) (axEx hG rfl) rfl (by decide) (by decide) rfl rfl WF_X14_36 ?_
      refine x_iload_n (pc := 320) dX14_reckon_320 rfl ?_
      by_cases h147 : 0 ≤ a3 ∧ a3 < 800
      · replace hf := (if_pos h147).symm.trans hf
        refine x_iald2 (n := 800) (pc := 321) dX14_reckon_321 (axEx hG rfl) rfl h147.1 h147.2 ?_
        refine x_imulw (pc := 322) dX14_reckon_322 ?_
        cases hf
        exact x_retI (pc := 323) dX14_reckon_323
      · replace hf := (if_neg h147).symm.trans hf
        cases hf
    · replace hf := (if_neg h146).symm.trans hf
      cases hf
  replace hf := (if_neg h145).symm.trans hf
  by_cases h148 : a1 = 43
  · replace hf := (if_pos h148).symm.trans hf
    refine x_tabIn (tgt := 324) 43 (pc := 1) dX14_reckon_1 h148 (by decide) (by decide) rfl rfl ?_
    refine x_aload_n (pc := 324) dX14_reckon_324 rfl ?_
    refine x_getF (t := 12) (j := 14) (r := 232) (pc := 325) dX14_reckon_325 (axH hG rfl) (axEx hG rfl) rfl (by decide) (by decide) rfl rfl WF_X14_36 ?_
    refine x_iload_n (pc := 328) dX14_reckon_328 rfl ?_
    by_cases h149 : 0 ≤ a3 ∧ a3 < 800
    · replace hf := (if_pos h149).symm.trans hf
      refine x_iald2 (n := 800) (pc := 329) dX14_reckon_329 (axEx hG rfl) rfl h149.1 h149.2 ?_
      refine x_ifne (tgt := 337) (pc := 330) dX14_reckon_330 rfl (fun h150 => ?_) (fun h150 => ?_)
      · replace hf := (if_neg h150).symm.trans hf
        refine x_aload_n (pc := 337) dX14_reckon_337 rfl ?_
        refine x_getF (t := 12) (j := 14) (r := 232) (pc := 338) dX14_reckon_338 (axH hG rfl) (axEx hG rfl) rfl (by decide) (by decide) rfl rfl WF_X14_36 ?_
        refine x_iload_n (pc := 341) dX14_reckon_341 rfl ?_
        by_cases h151 : 0 ≤ a2 ∧ a2 < 800
        · replace hf := (if_pos h151).symm.trans hf
          refine x_iald2 (n := 800) (pc := 342) dX14_reckon_342 (axEx hG rfl) rfl h151.1 h151.2 ?_
          refine x_aload_n (pc := 343) dX14_reckon_343 rfl ?_
          refine x_getF (t := 12) (j := 14) (r := 232) (pc := 344) dX14_reckon_344 (axH hG rfl) (axEx hG rfl) rfl (by decide) (by decide) rfl rfl WF_X14_36 ?_
          refine x_iload_n (pc := 347) dX14_reckon_347 rfl ?_
          refine x_iald2 (n := 800) (pc := 348) dX14_reckon_348 (axEx hG rfl) rfl (by omega) (by omega) ?_
          refine x_idivT (pc := 349) dX14_reckon_349 (by omega) ?_
          cases hf
          exact x_retI (pc := 350) dX14_reckon_350
        · replace hf := (if_neg h151).symm.trans hf
          cases hf
      · replace hf := (if_pos h150).symm.trans hf
        refine x_iconst (pc := 333) dX14_reckon_333 ⟨by decide, by decide⟩ ?_
        refine x_goto (tgt := 350) (pc := 334) dX14_reckon_334 rfl ?_
        cases hf
        exact x_retI (pc := 350) dX14_reckon_350
    · replace hf := (if_neg h149).symm.trans hf
      cases hf
  replace hf := (if_neg h148).symm.trans hf
  by_cases h152 : a1 = 60
  · replace hf := (if_pos h152).symm.trans hf
    refine x_tabIn (tgt := 265) 60 (pc := 1) dX14_reckon_1 h152 (by decide) (by decide) rfl rfl ?_
    refine x_aload_n (pc := 265) dX14_reckon_265 rfl ?_
    refine x_getF (t := 12) (j := 14) (r := 232) (pc := 266) dX14_reckon_266 (axH hG rfl) (axEx hG rfl) rfl (by decide) (by decide) rfl rfl WF_X14_36 ?_
    refine x_iload_n (pc := 269) dX14_reckon_269 rfl ?_
    by_cases h153 : 0 ≤ a2 ∧ a2 < 800
    · replace hf := (if_pos h153).symm.trans hf
      refine x_iald2 (n := 800) (pc := 270) dX14_reckon_270 (axEx hG rfl) rfl h153.1 h153.2 ?_
      refine x_ineg (pc := 271) dX14_reckon_271 ?_
      cases hf
      exact x_retI (pc := 272) dX14_reckon_272
    · replace hf := (if_neg h153).symm.trans hf
      cases hf
  replace hf := (if_neg h152).symm.trans hf
  refine x_tabD (tgt := 411) [12, 13, 14, 15, 16, 17, 18, 19, 20, 21, 22, 31, 40, 41, 42, 43, 60] (pc := 1) dX14_reckon_1 rfl rfl (by decide) (by intro v hv; simp only [List.mem_cons, List.mem_nil_iff, or_false] at hv; omega) ?_
  refine x_iload_n (pc := 411) dX14_reckon_411 rfl ?_
  refine x_aload_n (pc := 412) dX14_reckon_412 rfl ?_
  refine x_getF (t := 12) (j := 14) (r := 232) (pc := 413) dX14_reckon_413 (axH hG rfl) (axEx hG rfl) rfl (by decide) (by decide) rfl rfl WF_X14_36 ?_
  refine x_iload_n (pc := 416) dX14_reckon_416 rfl ?_
  by_cases h154 : 0 ≤ a2 ∧ a2 < 800
  · replace hf := (if_pos h154).symm.trans hf
    refine x_iald2 (n := 800) (pc := 417) dX14_reckon_417 (axEx hG rfl) rfl h154.1 h154.2 ?_
    refine x_aload_n (pc := 418) dX14_reckon_418 rfl ?_
    refine x_getF (t := 12) (j := 14) (r := 232) (pc := 419) dX14_reckon_419 (axH hG rfl) (axEx hG rfl) rfl (by decide) (by decide) rfl rfl WF_X14_36 ?_
    refine x_iload_n (pc := 422) dX14_reckon_422 rfl ?_
    by_cases h155 : 0 ≤ a3 ∧ a3 < 800
    · replace hf := (if_pos h155).symm.trans hf
      refine x_iald2 (n := 800) (pc := 423) dX14_reckon_423 (axEx hG rfl) rfl h155.1 h155.2 ?_
      refine x_cr (v := vI (fX14_compared M a1 (mI M 232 (Int.toNat a2)) (mI M 232 (Int.toNat a3)))) (vs := [vI a1, vI (mI M 232 (Int.toNat a2)), vI (mI M 232 (Int.toNat a3))]) (rest := []) (k := 0) rfl (by omega) (ax_caS (pc := 424) dX14_reckon_424 kX14_compared rfl rfl WM_X14_348 WT_X14_compared WN_X14 (Nat.le_of_ble_eq_true rfl)) kX14_compared rfl (Z_X14_compared rfl) (T_X14_compared (by omega) hG rfl) ?_
      refine x_ifeq (tgt := 434) (pc := 427) dX14_reckon_427 rfl (fun h156 => ?_) (fun h156 => ?_)
      · replace hf := (if_pos h156).symm.trans hf
        refine x_iconst (pc := 434) dX14_reckon_434 ⟨by decide, by decide⟩ ?_
        cases hf
        exact x_retI (pc := 435) dX14_reckon_435
      · replace hf := (if_neg h156).symm.trans hf
        refine x_iconst (pc := 430) dX14_reckon_430 ⟨by decide, by decide⟩ ?_
        refine x_goto (tgt := 435) (pc := 431) dX14_reckon_431 rfl ?_
        cases hf
        exact x_retI (pc := 435) dX14_reckon_435
    · replace hf := (if_neg h155).symm.trans hf
      cases hf
  · replace hf := (if_neg h154).symm.trans hf
    cases hf
/- HexPondModel.saved(I)I -/
def fX14_saved_b17 (M : ax_M) (x1 : Int) (x3 : Int) (v2 : Int) (v4 : Int) : Option ((Int × Int) ⊕ Int) :=
  (if v4 < (fX14_cells M) then (bd1 (fX14_bridge M x3 v4 x1) fun v106 => (if v106 = 2 then (bd1 (fX14_between M x3 v4 0) fun v109 => (if 0 ≤ v109 ∧ v109 < 81 then (if (mI M 233 (Int.toNat v109)) = (-1) then (if v2 = (-1) then (some (.inl (v109, (v4 + 1)))) else (some (.inl ((fJ9_min_7cf53 M v2 v109), (v4 + 1))))) else (bd1 (fX14_between M x3 v4 1) fun v114 => (if v2 = (-1) then (some (.inl (v114, (v4 + 1)))) else (some (.inl ((fJ9_min_7cf53 M v2 v114), (v4 + 1))))))) else none)) else (some (.inl (v2, (v4 + 1)))))) else (some (.inr v2)))
def fX14_saved_b4 (M : ax_M) (x1 : Int) (v2 : Int) (v3 : Int) : Option ((Int × Int) ⊕ Int) :=
  (if v3 < (fX14_cells M) then (bd1 (lp (fun s => fX14_saved_b17 M x1 v3 s.1 s.2) lpN (v2, (v3 + 1))) fun t116 => (some (.inl (t116, (v3 + 1))))) else (some (.inr v2)))
def fX14_saved (M : ax_M) (a1 : Int) : Option Int :=
  (bd1 (lp (fun s => fX14_saved_b4 M a1 s.1 s.2) lpN ((-1), 0)) fun t118 => (some t118))
theorem B_X14_saved_17 {G : ax_G} {d : Nat} (hd : 5 ≤ d) (hG : axPs G 150 244) {M : ax_M} {x1 : Int} {x3 : Int} {v2 : Int} {v4 : Int} {o : Option ax_V ⊕ String} {M' : ax_M} {y : (Int × Int) ⊕ Int} (hf : fX14_saved_b17 M x1 x3 v2 v4 = some y) (h1 : ∀ s', y = .inl s' → ax_Ex G tX14_saved d 17 [some (vR 203), some (vI x1), some (vI s'.1), some (vI x3), some (vI s'.2), none, none] [] M o M') (h2a : ∀ t, y = .inr t → ax_Ex G tX14_saved d 100 [some (vR 203), some (vI x1), some (vI t), some (vI x3), none, none, none] [] M o M') : ax_Ex G tX14_saved d 17 [some (vR 203), some (vI x1), some (vI v2), some (vI x3), some (vI v4), none, none] [] M o M' := by
  unfold fX14_saved_b17 at hf
  refine x_iload (pc := 17) dX14_saved_17 rfl ?_
  refine x_aload_n (pc := 19) dX14_saved_19 rfl ?_
  refine x_cr (v := vI (fX14_cells M)) (vs := [vR 203]) (rest := [vI v4]) (k := 0) rfl (by omega) (ax_caV (pc := 20) dX14_saved_20 kX14_cells rfl rfl WM_X14_275 WI_X14_cells WS_X14_cells WN_X14 (ax_rcO (t := 12) (axEx hG rfl) rfl (by decide)) (Nat.le_of_ble_eq_true rfl)) kX14_cells rfl True.intro (T_X14_cells (by omega) hG rfl) ?_
  refine ax_cmp (fun b104a b104b b104c b104e => ?_)
  refine x_icmpge (tgt := 100) (pc := 23) dX14_saved_23 rfl (fun h103 => ?_) (fun h103 => ?_)
  · replace hf := (if_neg (Int.not_lt.mpr h103)).symm.trans hf
    cases hf
    exact x_fgt (axS' (axS' (axS' (axS' (axN' (axN' (axN' axD))))))) (h2a _ rfl)
  · replace hf := (if_pos h103).symm.trans hf
    refine x_aload_n (pc := 26) dX14_saved_26 rfl ?_
    refine x_iload_n (pc := 27) dX14_saved_27 rfl ?_
    refine x_iload (pc := 28) dX14_saved_28 rfl ?_
    refine x_iload_n (pc := 30) dX14_saved_30 rfl ?_
    obtain ⟨v106, r105, hf⟩ := bd1_some hf
    refine x_cr (v := vI v106) (vs := [vR 203, vI x3, vI v4, vI x1]) (rest := []) (k := 2) rfl (by omega) (ax_caV (pc := 31) dX14_saved_31 kX14_bridge rfl rfl WM_X14_314 WI_X14_bridge WS_X14_bridge WN_X14 (ax_rcO (t := 12) (axEx hG rfl) rfl (by decide)) (Nat.le_of_ble_eq_true rfl)) kX14_bridge rfl True.intro (T_X14_bridge (by omega) hG r105) ?_
    refine x_iconst (pc := 34) dX14_saved_34 ⟨by decide, by decide⟩ ?_
    refine x_icmpeq (tgt := 41) (pc := 35) dX14_saved_35 rfl (fun h107 => ?_) (fun h107 => ?_)
    · replace hf := (if_pos h107).symm.trans hf
      refine x_aload_n (pc := 41) dX14_saved_41 rfl ?_
      refine x_iload_n (pc := 42) dX14_saved_42 rfl ?_
      refine x_iload (pc := 43) dX14_saved_43 rfl ?_
      refine x_iconst (pc := 45) dX14_saved_45 ⟨by decide, by decide⟩ ?_
      obtain ⟨v109, r108, hf⟩ := bd1_some hf
      refine x_cr (v := vI v109) (vs := [vR 203, vI x3, vI v4, vI 0]) (rest := []) (k := 5) rfl (by omega) (ax_caV (pc := 46) dX14_saved_46 kX14_between rfl rfl WM_X14_310 WI_X14_between WS_X14_between WN_X14 (ax_rcO (t := 12) (axEx hG rfl) rfl (by decide)) (Nat.le_of_ble_eq_true rfl)) kX14_between rfl True.intro (T_X14_between (by omega) hG r108) ?_
      refine x_istore (ls' := [some (vR 203), some (vI x1), some (vI v2), some (vI x3), some (vI v4), some (vI v109), none]) (pc := 49) dX14_saved_49 (Nat.le_of_ble_eq_true rfl) rfl rfl ?_
      refine x_aload_n (pc := 51) dX14_saved_51 rfl ?_
      refine x_getF (t := 12) (j := 15) (r := 233) (pc := 52) dX14_saved_52 (axH hG rfl) (axEx hG rfl) rfl (by decide) (by decide) rfl rfl WF_X14_39 ?_
      refine x_iload (pc := 55) dX14_saved_55 rfl ?_
      by_cases h110 : 0 ≤ v109 ∧ v109 < 81
      · replace hf := (if_pos h110).symm.trans hf
        refine x_iald2 (n := 81) (pc := 57) dX14_saved_57 (axEx hG rfl) rfl h110.1 h110.2 ?_
        refine x_iconst (pc := 58) dX14_saved_58 ⟨by decide, by decide⟩ ?_
        refine x_icmpne (tgt := 67) (pc := 59) dX14_saved_59 rfl (fun h111 => ?_) (fun h111 => ?_)
        · replace hf := (if_neg h111).symm.trans hf
          refine x_aload_n (pc := 67) dX14_saved_67 rfl ?_
          refine x_iload_n (pc := 68) dX14_saved_68 rfl ?_
          refine x_iload (pc := 69) dX14_saved_69 rfl ?_
          refine x_iconst (pc := 71) dX14_saved_71 ⟨by decide, by decide⟩ ?_
          obtain ⟨v114, r113, hf⟩ := bd1_some hf
          refine x_cr (v := vI v114) (vs := [vR 203, vI x3, vI v4, vI 1]) (rest := []) (k := 5) rfl (by omega) (ax_caV (pc := 72) dX14_saved_72 kX14_between rfl rfl WM_X14_310 WI_X14_between WS_X14_between WN_X14 (ax_rcO (t := 12) (axEx hG rfl) rfl (by decide)) (Nat.le_of_ble_eq_true rfl)) kX14_between rfl True.intro (T_X14_between (by omega) hG r113) ?_
          refine x_istore (ls' := [some (vR 203), some (vI x1), some (vI v2), some (vI x3), some (vI v4), some (vI v109), some (vI v114)]) (pc := 75) dX14_saved_75 (Nat.le_of_ble_eq_true rfl) rfl rfl ?_
          refine x_iload_n (pc := 77) dX14_saved_77 rfl ?_
          refine x_iconst (pc := 78) dX14_saved_78 ⟨by decide, by decide⟩ ?_
          refine x_icmpne (tgt := 87) (pc := 79) dX14_saved_79 rfl (fun h115 => ?_) (fun h115 => ?_)
          · replace hf := (if_neg h115).symm.trans hf
            refine x_iload_n (pc := 87) dX14_saved_87 rfl ?_
            refine x_iload (pc := 88) dX14_saved_88 rfl ?_
            refine x_cr (v := vI (fJ9_min_7cf53 M v2 v114)) (vs := [vI v2, vI v114]) (rest := []) (k := 0) rfl (by omega) (ax_caS (pc := 90) dX14_saved_90 kJ9_min_7cf53 rfl rfl WM_X14_218 WT_J9_min_7cf53 WN_J9 (Nat.le_of_ble_eq_true rfl)) kJ9_min_7cf53 rfl True.intro (T_J9_min_7cf53 (by omega) rfl) ?_
            refine x_istore_n (ls' := [some (vR 203), some (vI x1), some (vI (fJ9_min_7cf53 M v2 v114)), some (vI x3), some (vI v4), some (vI v109), some (vI v114)]) (pc := 93) dX14_saved_93 (Nat.le_of_ble_eq_true rfl) rfl rfl ?_
            refine x_iinc (z := (v4 + 1)) (ls' := [some (vR 203), some (vI x1), some (vI (fJ9_min_7cf53 M v2 v114)), some (vI x3), some (vI (v4 + 1)), some (vI v109), some (vI v114)]) (pc := 94) dX14_saved_94 rfl (Nat.le_of_ble_eq_true rfl) rfl rfl (ax_i (by omega) (by omega)) rfl ?_
            refine x_goto (tgt := 17) (pc := 97) dX14_saved_97 rfl ?_
            cases hf
            exact x_fgt (axS' (axS' (axS' (axS' (axS' (axN' (axN' axD))))))) (h1 _ rfl)
          · replace hf := (if_pos h115).symm.trans hf
            refine x_iload (pc := 82) dX14_saved_82 rfl ?_
            refine x_goto (tgt := 93) (pc := 84) dX14_saved_84 rfl ?_
            refine x_istore_n (ls' := [some (vR 203), some (vI x1), some (vI v114), some (vI x3), some (vI v4), some (vI v109), some (vI v114)]) (pc := 93) dX14_saved_93 (Nat.le_of_ble_eq_true rfl) rfl rfl ?_
            refine x_iinc (z := (v4 + 1)) (ls' := [some (vR 203), some (vI x1), some (vI v114), some (vI x3), some (vI (v4 + 1)), some (vI v109), some (vI v114)]) (pc := 94) dX14_saved_94 rfl (Nat.le_of_ble_eq_true rfl) rfl rfl (ax_i (by omega) (by omega)) rfl ?_
            refine x_goto (tgt := 17) (pc := 97) dX14_saved_97 rfl ?_
            cases hf
            exact x_fgt (axS' (axS' (axS' (axS' (axS' (axN' (axN' axD))))))) (h1 _ rfl)
        · replace hf := (if_pos h111).symm.trans hf
          refine x_iload (pc := 62) dX14_saved_62 rfl ?_
          refine x_goto (tgt := 75) (pc := 64) dX14_saved_64 rfl ?_
          refine x_istore (ls' := [some (vR 203), some (vI x1), some (vI v2), some (vI x3), some (vI v4), some (vI v109), some (vI v109)]) (pc := 75) dX14_saved_75 (Nat.le_of_ble_eq_true rfl) rfl rfl ?_
          refine x_iload_n (pc := 77) dX14_saved_77 rfl ?_
          refine x_iconst (pc := 78) dX14_saved_78 ⟨by decide, by decide⟩ ?_
          refine x_icmpne (tgt := 87) (pc := 79) dX14_saved_79 rfl (fun h112 => ?_) (fun h112 => ?_)
          · replace hf := (if_neg h112).symm.trans hf
            refine x_iload_n (pc := 87) dX14_saved_87 rfl ?_
            refine x_iload (pc := 88) dX14_saved_88 rfl ?_
            refine x_cr (v := vI (fJ9_min_7cf53 M v2 v109)) (vs := [vI v2, vI v109]) (rest := []) (k := 0) rfl (by omega) (ax_caS (pc := 90) dX14_saved_90 kJ9_min_7cf53 rfl rfl WM_X14_218 WT_J9_min_7cf53 WN_J9 (Nat.le_of_ble_eq_true rfl)) kJ9_min_7cf53 rfl True.intro (T_J9_min_7cf53 (by omega) rfl) ?_
            refine x_istore_n (ls' := [some (vR 203), some (vI x1), some (vI (fJ9_min_7cf53 M v2 v109)), some (vI x3), some (vI v4), some (vI v109), some (vI v109)]) (pc := 93) dX14_saved_93 (Nat.le_of_ble_eq_true rfl) rfl rfl ?_
            refine x_iinc (z := (v4 + 1)) (ls' := [some (vR 203), some (vI x1), some (vI (fJ9_min_7cf53 M v2 v109)), some (vI x3), some (vI (v4 + 1)), some (vI v109), some (vI v109)]) (pc := 94) dX14_saved_94 rfl (Nat.le_of_ble_eq_true rfl) rfl rfl (ax_i (by omega) (by omega)) rfl ?_
            refine x_goto (tgt := 17) (pc := 97) dX14_saved_97 rfl ?_
            cases hf
            exact x_fgt (axS' (axS' (axS' (axS' (axS' (axN' (axN' axD))))))) (h1 _ rfl)
          · replace hf := (if_pos h112).symm.trans hf
            refine x_iload (pc := 82) dX14_saved_82 rfl ?_
            refine x_goto (tgt := 93) (pc := 84) dX14_saved_84 rfl ?_
            refine x_istore_n (ls' := [some (vR 203), some (vI x1), some (vI v109), some (vI x3), some (vI v4), some (vI v109), some (vI v109)]) (pc := 93) dX14_saved_93 (Nat.le_of_ble_eq_true rfl) rfl rfl ?_
            refine x_iinc (z := (v4 + 1)) (ls' := [some (vR 203), some (vI x1), some (vI v109), some (vI x3), some (vI (v4 + 1)), some (vI v109), some (vI v109)]) (pc := 94) dX14_saved_94 rfl (Nat.le_of_ble_eq_true rfl) rfl rfl (ax_i (by omega) (by omega)) rfl ?_
            refine x_goto (tgt := 17) (pc := 97) dX14_saved_97 rfl ?_
            cases hf
            exact x_fgt (axS' (axS' (axS' (axS' (axS' (axN' (axN' axD))))))) (h1 _ rfl)
      · replace hf := (if_neg h110).symm.trans hf
        cases hf
    · replace hf := (if_neg h107).symm.trans hf
      refine x_goto (tgt := 94) (pc := 38) dX14_saved_38 rfl ?_
      refine x_iinc (z := (v4 + 1)) (ls' := [some (vR 203), some (vI x1), some (vI v2), some (vI x3), some (vI (v4 + 1)), none, none]) (pc := 94) dX14_saved_94 rfl (Nat.le_of_ble_eq_true rfl) rfl rfl (ax_i (by omega) (by omega)) rfl ?_
      refine x_goto (tgt := 17) (pc := 97) dX14_saved_97 rfl ?_
      cases hf
      exact h1 _ rfl
theorem B_X14_saved_4 {G : ax_G} {d : Nat} (hd : 5 ≤ d) (hG : axPs G 150 244) {M : ax_M} {x1 : Int} {v2 : Int} {v3 : Int} {o : Option ax_V ⊕ String} {M' : ax_M} {y : (Int × Int) ⊕ Int} (hf : fX14_saved_b4 M x1 v2 v3 = some y) (h1 : ∀ s', y = .inl s' → ax_Ex G tX14_saved d 4 [some (vR 203), some (vI x1), some (vI s'.1), some (vI s'.2), none, none, none] [] M o M') (h2a : ∀ t, y = .inr t → ax_Ex G tX14_saved d 106 [some (vR 203), some (vI x1), some (vI t), none, none, none, none] [] M o M') : ax_Ex G tX14_saved d 4 [some (vR 203), some (vI x1), some (vI v2), some (vI v3), none, none, none] [] M o M' := by
  unfold fX14_saved_b4 at hf
  refine x_iload_n (pc := 4) dX14_saved_4 rfl ?_
  refine x_aload_n (pc := 5) dX14_saved_5 rfl ?_
  refine x_cr (v := vI (fX14_cells M)) (vs := [vR 203]) (rest := [vI v3]) (k := 0) rfl (by omega) (ax_caV (pc := 6) dX14_saved_6 kX14_cells rfl rfl WM_X14_275 WI_X14_cells WS_X14_cells WN_X14 (ax_rcO (t := 12) (axEx hG rfl) rfl (by decide)) (Nat.le_of_ble_eq_true rfl)) kX14_cells rfl True.intro (T_X14_cells (by omega) hG rfl) ?_
  refine ax_cmp (fun b102a b102b b102c b102e => ?_)
  refine x_icmpge (tgt := 106) (pc := 9) dX14_saved_9 rfl (fun h101 => ?_) (fun h101 => ?_)
  · replace hf := (if_neg (Int.not_lt.mpr h101)).symm.trans hf
    cases hf
    exact x_fgt (axS' (axS' (axS' (axN' (axN' (axN' (axN' axD))))))) (h2a _ rfl)
  · replace hf := (if_pos h101).symm.trans hf
    refine x_iload_n (pc := 12) dX14_saved_12 rfl ?_
    refine x_iconst (pc := 13) dX14_saved_13 ⟨by decide, by decide⟩ ?_
    refine x_iadd (z := (v3 + 1)) (pc := 14) dX14_saved_14 rfl (ax_i (by omega) (by omega)) ?_
    refine x_istore (ls' := [some (vR 203), some (vI x1), some (vI v2), some (vI v3), some (vI (v3 + 1)), none, none]) (pc := 15) dX14_saved_15 (Nat.le_of_ble_eq_true rfl) rfl rfl ?_
    obtain ⟨t116, t117, hf⟩ := bd1_some hf
    refine lp_ex (P := (fun s => ax_Ex G tX14_saved d 17 [some (vR 203), some (vI x1), some (vI s.1), some (vI v3), some (vI s.2), none, none] [] M _ _)) (K := (fun t => ax_Ex G tX14_saved d 100 [some (vR 203), some (vI x1), some (vI t), some (vI v3), none, none, none] [] M _ _)) (fun s y hy h1 h2 => B_X14_saved_17 (by omega) hG hy (fun s' e => h1 s' e) (fun t e => h2 t e)) _ _ _ t117 ?_
    refine x_iinc (z := (v3 + 1)) (ls' := [some (vR 203), some (vI x1), some (vI t116), some (vI (v3 + 1)), none, none, none]) (pc := 100) dX14_saved_100 rfl (Nat.le_of_ble_eq_true rfl) rfl rfl (ax_i (by omega) (by omega)) rfl ?_
    refine x_goto (tgt := 4) (pc := 103) dX14_saved_103 rfl ?_
    cases hf
    exact h1 _ rfl
theorem T_X14_saved {G : ax_G} {d : Nat} (hd : 5 ≤ d) (hG : axPs G 150 244) {M : ax_M} {a1 : Int} {r : Int} (hf : fX14_saved M a1 = some r) : ax_Ex G tX14_saved d 0 (ax_args [vR 203, vI a1] ++ List.replicate 5 none) [] M (.inl (some (vI r))) M := by
  show ax_Ex G tX14_saved d 0 [some (vR 203), some (vI a1), none, none, none, none, none] [] M _ _
  unfold fX14_saved at hf
  refine x_iconst (pc := 0) dX14_saved_0 ⟨by decide, by decide⟩ ?_
  refine x_istore_n (ls' := [some (vR 203), some (vI a1), some (vI (-1)), none, none, none, none]) (pc := 1) dX14_saved_1 (Nat.le_of_ble_eq_true rfl) rfl rfl ?_
  refine x_iconst (pc := 2) dX14_saved_2 ⟨by decide, by decide⟩ ?_
  refine x_istore_n (ls' := [some (vR 203), some (vI a1), some (vI (-1)), some (vI 0), none, none, none]) (pc := 3) dX14_saved_3 (Nat.le_of_ble_eq_true rfl) rfl rfl ?_
  obtain ⟨t118, t119, hf⟩ := bd1_some hf
  refine lp_ex (P := (fun s => ax_Ex G tX14_saved d 4 [some (vR 203), some (vI a1), some (vI s.1), some (vI s.2), none, none, none] [] M _ _)) (K := (fun t => ax_Ex G tX14_saved d 106 [some (vR 203), some (vI a1), some (vI t), none, none, none, none] [] M _ _)) (fun s y hy h1 h2 => B_X14_saved_4 (by omega) hG hy (fun s' e => h1 s' e) (fun t e => h2 t e)) _ _ _ t119 ?_
  refine x_iload_n (pc := 106) dX14_saved_106 rfl ?_
  cases hf
  exact x_retI (pc := 107) dX14_saved_107
/- HexPondModel.nearest(I)I -/
def fX14_nearest_b14 (M : ax_M) (v2 : Int) (v3 : Int) (v4 : Int) : Option ((Int × Int × Int) ⊕ Int) :=
  (if v4 < (fX14_cells M) then (if 0 ≤ v4 ∧ v4 < 81 then (if (mI M 233 (Int.toNat v4)) = (-1) then (bd1 (fX14_throughThen M v4) fun v108 => (if v108 < v3 then (bd1 (fX14_throughThen M v4) fun v112 => (some (.inl (v4, v112, (v4 + 1))))) else (some (.inl (v2, v3, (v4 + 1)))))) else (some (.inl (v2, v3, (v4 + 1))))) else none) else (some (.inr v2)))
def fX14_nearest (M : ax_M) (a1 : Int) : Option (Int × ax_M) :=
  (bd1 (fX14_reachBoth M a1) fun M102 => (bd1 (lp (fun s => fX14_nearest_b14 M102 s.1 s.2.1 s.2.2) lpN ((-1), 9999, 0)) fun t113 => (some (t113, M102))))
theorem B_X14_nearest_14 {G : ax_G} {d : Nat} (hd : 5 ≤ d) (hG : axPs G 150 244) {M : ax_M} {v2 : Int} {v3 : Int} {v4 : Int} {o : Option ax_V ⊕ String} {M' : ax_M} {y : (Int × Int × Int) ⊕ Int} (hf : fX14_nearest_b14 M v2 v3 v4 = some y) (h1 : ∀ s', y = .inl s' → ax_Ex G tX14_nearest d 14 [some (vR 203), none, some (vI s'.1), some (vI s'.2.1), some (vI s'.2.2)] [] M o M') (h2a : ∀ t, y = .inr t → ax_Ex G tX14_nearest d 63 [some (vR 203), none, some (vI t), none, none] [] M o M') : ax_Ex G tX14_nearest d 14 [some (vR 203), none, some (vI v2), some (vI v3), some (vI v4)] [] M o M' := by
  unfold fX14_nearest_b14 at hf
  refine x_iload (pc := 14) dX14_nearest_14 rfl ?_
  refine x_aload_n (pc := 16) dX14_nearest_16 rfl ?_
  refine x_cr (v := vI (fX14_cells M)) (vs := [vR 203]) (rest := [vI v4]) (k := 0) rfl (by omega) (ax_caV (pc := 17) dX14_nearest_17 kX14_cells rfl rfl WM_X14_275 WI_X14_cells WS_X14_cells WN_X14 (ax_rcO (t := 12) (axEx hG rfl) rfl (by decide)) (Nat.le_of_ble_eq_true rfl)) kX14_cells rfl True.intro (T_X14_cells (by omega) hG rfl) ?_
  refine ax_cmp (fun b104a b104b b104c b104e => ?_)
  refine x_icmpge (tgt := 63) (pc := 20) dX14_nearest_20 rfl (fun h103 => ?_) (fun h103 => ?_)
  · replace hf := (if_neg (Int.not_lt.mpr h103)).symm.trans hf
    cases hf
    exact x_fgt (axS' (axN' (axS' (axN' (axN' axD))))) (h2a _ rfl)
  · replace hf := (if_pos h103).symm.trans hf
    refine x_aload_n (pc := 23) dX14_nearest_23 rfl ?_
    refine x_getF (t := 12) (j := 15) (r := 233) (pc := 24) dX14_nearest_24 (axH hG rfl) (axEx hG rfl) rfl (by decide) (by decide) rfl rfl WF_X14_39 ?_
    refine x_iload (pc := 27) dX14_nearest_27 rfl ?_
    by_cases h105 : 0 ≤ v4 ∧ v4 < 81
    · replace hf := (if_pos h105).symm.trans hf
      refine x_iald2 (n := 81) (pc := 29) dX14_nearest_29 (axEx hG rfl) rfl h105.1 h105.2 ?_
      refine x_iconst (pc := 30) dX14_nearest_30 ⟨by decide, by decide⟩ ?_
      refine x_icmpne (tgt := 57) (pc := 31) dX14_nearest_31 rfl (fun h106 => ?_) (fun h106 => ?_)
      · replace hf := (if_neg h106).symm.trans hf
        refine x_iinc (z := (v4 + 1)) (ls' := [some (vR 203), none, some (vI v2), some (vI v3), some (vI (v4 + 1))]) (pc := 57) dX14_nearest_57 rfl (Nat.le_of_ble_eq_true rfl) rfl rfl (ax_i (by omega) (by omega)) rfl ?_
        refine x_goto (tgt := 14) (pc := 60) dX14_nearest_60 rfl ?_
        cases hf
        exact h1 _ rfl
      · replace hf := (if_pos h106).symm.trans hf
        refine x_aload_n (pc := 34) dX14_nearest_34 rfl ?_
        refine x_iload (pc := 35) dX14_nearest_35 rfl ?_
        obtain ⟨v108, r107, hf⟩ := bd1_some hf
        refine x_cr (v := vI v108) (vs := [vR 203, vI v4]) (rest := []) (k := 0) rfl (by omega) (ax_caV (pc := 37) dX14_nearest_37 kX14_throughThen rfl rfl WM_X14_333 WI_X14_throughThen WS_X14_throughThen WN_X14 (ax_rcO (t := 12) (axEx hG rfl) rfl (by decide)) (Nat.le_of_ble_eq_true rfl)) kX14_throughThen rfl True.intro (T_X14_throughThen (by omega) hG r107) ?_
        refine x_iload_n (pc := 40) dX14_nearest_40 rfl ?_
        refine ax_cmp (fun b110a b110b b110c b110e => ?_)
        refine x_icmplt (tgt := 47) (pc := 41) dX14_nearest_41 rfl (fun h109 => ?_) (fun h109 => ?_)
        · replace hf := (if_pos h109).symm.trans hf
          refine x_iload (pc := 47) dX14_nearest_47 rfl ?_
          refine x_istore_n (ls' := [some (vR 203), none, some (vI v4), some (vI v3), some (vI v4)]) (pc := 49) dX14_nearest_49 (Nat.le_of_ble_eq_true rfl) rfl rfl ?_
          refine x_aload_n (pc := 50) dX14_nearest_50 rfl ?_
          refine x_iload (pc := 51) dX14_nearest_51 rfl ?_
          obtain ⟨v112, r111, hf⟩ := bd1_some hf
          refine x_cr (v := vI v112) (vs := [vR 203, vI v4]) (rest := []) (k := 0) rfl (by omega) (ax_caV (pc := 53) dX14_nearest_53 kX14_throughThen rfl rfl WM_X14_333 WI_X14_throughThen WS_X14_throughThen WN_X14 (ax_rcO (t := 12) (axEx hG rfl) rfl (by decide)) (Nat.le_of_ble_eq_true rfl)) kX14_throughThen rfl True.intro (T_X14_throughThen (by omega) hG r111) ?_
          refine x_istore_n (ls' := [some (vR 203), none, some (vI v4), some (vI v112), some (vI v4)]) (pc := 56) dX14_nearest_56 (Nat.le_of_ble_eq_true rfl) rfl rfl ?_
          refine x_iinc (z := (v4 + 1)) (ls' := [some (vR 203), none, some (vI v4), some (vI v112), some (vI (v4 + 1))]) (pc := 57) dX14_nearest_57 rfl (Nat.le_of_ble_eq_true rfl) rfl rfl (ax_i (by omega) (by omega)) rfl ?_
          refine x_goto (tgt := 14) (pc := 60) dX14_nearest_60 rfl ?_
          cases hf
          exact h1 _ rfl
        · replace hf := (if_neg (Int.not_lt.mpr h109)).symm.trans hf
          refine x_goto (tgt := 57) (pc := 44) dX14_nearest_44 rfl ?_
          refine x_iinc (z := (v4 + 1)) (ls' := [some (vR 203), none, some (vI v2), some (vI v3), some (vI (v4 + 1))]) (pc := 57) dX14_nearest_57 rfl (Nat.le_of_ble_eq_true rfl) rfl rfl (ax_i (by omega) (by omega)) rfl ?_
          refine x_goto (tgt := 14) (pc := 60) dX14_nearest_60 rfl ?_
          cases hf
          exact h1 _ rfl
    · replace hf := (if_neg h105).symm.trans hf
      cases hf
theorem T_X14_nearest {G : ax_G} {d : Nat} (hd : 5 ≤ d) (hG : axPs G 150 244) {M : ax_M} {a1 : Int} {r : Int} {M1 : ax_M} (hf : fX14_nearest M a1 = some (r, M1)) : ax_Ex G tX14_nearest d 0 (ax_args [vR 203, vI a1] ++ List.replicate 3 none) [] M (.inl (some (vI r))) M1 := by
  show ax_Ex G tX14_nearest d 0 [some (vR 203), some (vI a1), none, none, none] [] M _ _
  unfold fX14_nearest at hf
  refine x_aload_n (pc := 0) dX14_nearest_0 rfl ?_
  refine x_iload_n (pc := 1) dX14_nearest_1 rfl ?_
  obtain ⟨M102, r101, hf⟩ := bd1_some hf
  refine x_cv (vs := [vR 203, vI a1]) (rest := []) (k := 0) rfl (by omega) (ax_caV (pc := 2) dX14_nearest_2 kX14_reachBoth rfl rfl WM_X14_330 WI_X14_reachBoth WS_X14_reachBoth WN_X14 (ax_rcO (t := 12) (axEx hG rfl) rfl (by decide)) (Nat.le_of_ble_eq_true rfl)) kX14_reachBoth rfl True.intro (T_X14_reachBoth (by omega) hG r101) ?_
  refine x_iconst (pc := 5) dX14_nearest_5 ⟨by decide, by decide⟩ ?_
  refine x_istore_n (ls' := [some (vR 203), some (vI a1), some (vI (-1)), none, none]) (pc := 6) dX14_nearest_6 (Nat.le_of_ble_eq_true rfl) rfl rfl ?_
  refine x_sipush (pc := 7) dX14_nearest_7 (by decide) ⟨by decide, by decide⟩ ?_
  refine x_istore_n (ls' := [some (vR 203), some (vI a1), some (vI (-1)), some (vI 9999), none]) (pc := 10) dX14_nearest_10 (Nat.le_of_ble_eq_true rfl) rfl rfl ?_
  refine x_iconst (pc := 11) dX14_nearest_11 ⟨by decide, by decide⟩ ?_
  refine x_istore (ls' := [some (vR 203), some (vI a1), some (vI (-1)), some (vI 9999), some (vI 0)]) (pc := 12) dX14_nearest_12 (Nat.le_of_ble_eq_true rfl) rfl rfl ?_
  obtain ⟨t113, t114, hf⟩ := bd1_some hf
  refine x_fgt (axS' (axN' (axS' (axS' (axS' axD))))) (lp_ex (P := (fun s => ax_Ex G tX14_nearest d 14 [some (vR 203), none, some (vI s.1), some (vI s.2.1), some (vI s.2.2)] [] M102 _ _)) (K := (fun t => ax_Ex G tX14_nearest d 63 [some (vR 203), none, some (vI t), none, none] [] M102 _ _)) (fun s y hy h1 h2 => B_X14_nearest_14 (by omega) hG hy (fun s' e => h1 s' e) (fun t e => h2 t e)) _ _ _ t114 ?_)
  refine x_iload_n (pc := 63) dX14_nearest_63 rfl ?_
  cases hf
  exact x_retI (pc := 64) dX14_nearest_64
/- HexPondModel.found(I)I -/
def fX14_found (M : ax_M) (a1 : Int) : Option (Int × ax_M) :=
  (if 0 ≤ a1 ∧ a1 < 17 then (if (mI M 211 (Int.toNat a1)) = 6 then (bd2 (fX14_winning M (mI M 210 (Int.toNat a1)) 1) fun v105 M104 => (some (v105, M104))) else (if (mI M 211 (Int.toNat a1)) = 7 then (bd2 (fX14_winning M (wr (1 - (mI M 210 (Int.toNat a1)))) 1) fun v109 M108 => (some (v109, M108))) else (if (mI M 211 (Int.toNat a1)) = 8 then (bd1 (fX14_saved M (mI M 210 (Int.toNat a1))) fun v112 => (some (v112, M))) else (if (mI M 211 (Int.toNat a1)) = 9 then (bd2 (fX14_nearest M (mI M 210 (Int.toNat a1))) fun v116 M115 => (some (v116, M115))) else (if 0 ≤ (mI M 214 (Int.toNat a1)) ∧ (mI M 214 (Int.toNat a1)) < 800 then (bd1 (fJ9_floorMod_7cf53 M (mI M 232 (Int.toNat (mI M 214 (Int.toNat a1)))) (mI M 208 0)) fun v119 => (if 0 ≤ (mI M 215 (Int.toNat a1)) ∧ (mI M 215 (Int.toNat a1)) < 800 then (bd1 (fJ9_floorMod_7cf53 M (mI M 232 (Int.toNat (mI M 215 (Int.toNat a1)))) (mI M 208 1)) fun v122 => (if 0 ≤ (fX14_at M v119 v122) ∧ (fX14_at M v119 v122) < 81 then (if (mI M 233 (Int.toNat (fX14_at M v119 v122))) = (-1) then (some ((fX14_at M v119 v122), M)) else (some ((-1), M))) else none)) else none)) else none))))) else none)
theorem T_X14_found {G : ax_G} {d : Nat} (hd : 6 ≤ d) (hG : axPs G 150 244) {M : ax_M} {a1 : Int} {r : Int} {M1 : ax_M} (hf : fX14_found M a1 = some (r, M1)) : ax_Ex G tX14_found d 0 (ax_args [vR 203, vI a1] ++ List.replicate 2 none) [] M (.inl (some (vI r))) M1 := by
  show ax_Ex G tX14_found d 0 [some (vR 203), some (vI a1), none, none] [] M _ _
  unfold fX14_found at hf
  refine x_aload_n (pc := 0) dX14_found_0 rfl ?_
  refine x_getF (t := 12) (j := 12) (r := 208) (pc := 1) dX14_found_1 (axH hG rfl) (axEx hG rfl) rfl (by decide) (by decide) rfl rfl WF_X14_29 ?_
  refine x_getFN (t := 11) (j := 4) (r := 210) (pc := 4) dX14_found_4 (axH hG rfl) (axEx hG rfl) rfl (by decide) (by decide) rfl rfl NF_X14_226 ?_
  refine x_iload_n (pc := 7) dX14_found_7 rfl ?_
  by_cases h101 : 0 ≤ a1 ∧ a1 < 17
  · replace hf := (if_pos h101).symm.trans hf
    refine x_iald2 (n := 17) (pc := 8) dX14_found_8 (axEx hG rfl) rfl h101.1 h101.2 ?_
    refine x_istore_n (ls' := [some (vR 203), some (vI a1), some (vI (mI M 210 (Int.toNat a1))), none]) (pc := 9) dX14_found_9 (Nat.le_of_ble_eq_true rfl) rfl rfl ?_
    refine x_aload_n (pc := 10) dX14_found_10 rfl ?_
    refine x_getF (t := 12) (j := 12) (r := 208) (pc := 11) dX14_found_11 (axH hG rfl) (axEx hG rfl) rfl (by decide) (by decide) rfl rfl WF_X14_29 ?_
    refine x_getFN (t := 11) (j := 5) (r := 211) (pc := 14) dX14_found_14 (axH hG rfl) (axEx hG rfl) rfl (by decide) (by decide) rfl rfl NF_X14_228 ?_
    refine x_iload_n (pc := 17) dX14_found_17 rfl ?_
    refine x_iald2 (n := 17) (pc := 18) dX14_found_18 (axEx hG rfl) rfl (by omega) (by omega) ?_
    by_cases h102 : (mI M 211 (Int.toNat a1)) = 6
    · replace hf := (if_pos h102).symm.trans hf
      refine x_tabIn (tgt := 48) 6 (pc := 19) dX14_found_19 h102 (by decide) (by decide) rfl rfl ?_
      refine x_aload_n (pc := 48) dX14_found_48 rfl ?_
      refine x_iload_n (pc := 49) dX14_found_49 rfl ?_
      refine x_iconst (pc := 50) dX14_found_50 ⟨by decide, by decide⟩ ?_
      obtain ⟨v105, M104, r103, hf⟩ := bd2_some hf
      refine x_cr (v := vI v105) (vs := [vR 203, vI (mI M 210 (Int.toNat a1)), vI 1]) (rest := []) (k := 2) rfl (by omega) (ax_caV (pc := 51) dX14_found_51 kX14_winning rfl rfl WM_X14_351 WI_X14_winning WS_X14_winning WN_X14 (ax_rcO (t := 12) (axEx hG rfl) rfl (by decide)) (Nat.le_of_ble_eq_true rfl)) kX14_winning rfl True.intro (T_X14_winning (by omega) hG r103) ?_
      cases hf
      exact x_retI (pc := 54) dX14_found_54
    replace hf := (if_neg h102).symm.trans hf
    by_cases h106 : (mI M 211 (Int.toNat a1)) = 7
    · replace hf := (if_pos h106).symm.trans hf
      refine x_tabIn (tgt := 55) 7 (pc := 19) dX14_found_19 h106 (by decide) (by decide) rfl rfl ?_
      refine x_aload_n (pc := 55) dX14_found_55 rfl ?_
      refine x_iconst (pc := 56) dX14_found_56 ⟨by decide, by decide⟩ ?_
      refine x_iload_n (pc := 57) dX14_found_57 rfl ?_
      refine x_isubw (pc := 58) dX14_found_58 ?_
      refine x_iconst (pc := 59) dX14_found_59 ⟨by decide, by decide⟩ ?_
      obtain ⟨v109, M108, r107, hf⟩ := bd2_some hf
      refine x_cr (v := vI v109) (vs := [vR 203, vI (wr (1 - (mI M 210 (Int.toNat a1)))), vI 1]) (rest := []) (k := 2) rfl (by omega) (ax_caV (pc := 60) dX14_found_60 kX14_winning rfl rfl WM_X14_351 WI_X14_winning WS_X14_winning WN_X14 (ax_rcO (t := 12) (axEx hG rfl) rfl (by decide)) (Nat.le_of_ble_eq_true rfl)) kX14_winning rfl True.intro (T_X14_winning (by omega) hG r107) ?_
      cases hf
      exact x_retI (pc := 63) dX14_found_63
    replace hf := (if_neg h106).symm.trans hf
    by_cases h110 : (mI M 211 (Int.toNat a1)) = 8
    · replace hf := (if_pos h110).symm.trans hf
      refine x_tabIn (tgt := 64) 8 (pc := 19) dX14_found_19 h110 (by decide) (by decide) rfl rfl ?_
      refine x_aload_n (pc := 64) dX14_found_64 rfl ?_
      refine x_iload_n (pc := 65) dX14_found_65 rfl ?_
      obtain ⟨v112, r111, hf⟩ := bd1_some hf
      refine x_cr (v := vI v112) (vs := [vR 203, vI (mI M 210 (Int.toNat a1))]) (rest := []) (k := 5) rfl (by omega) (ax_caV (pc := 66) dX14_found_66 kX14_saved rfl rfl WM_X14_355 WI_X14_saved WS_X14_saved WN_X14 (ax_rcO (t := 12) (axEx hG rfl) rfl (by decide)) (Nat.le_of_ble_eq_true rfl)) kX14_saved rfl True.intro (T_X14_saved (by omega) hG r111) ?_
      cases hf
      exact x_retI (pc := 69) dX14_found_69
    replace hf := (if_neg h110).symm.trans hf
    by_cases h113 : (mI M 211 (Int.toNat a1)) = 9
    · replace hf := (if_pos h113).symm.trans hf
      refine x_tabIn (tgt := 70) 9 (pc := 19) dX14_found_19 h113 (by decide) (by decide) rfl rfl ?_
      refine x_aload_n (pc := 70) dX14_found_70 rfl ?_
      refine x_iload_n (pc := 71) dX14_found_71 rfl ?_
      obtain ⟨v116, M115, r114, hf⟩ := bd2_some hf
      refine x_cr (v := vI v116) (vs := [vR 203, vI (mI M 210 (Int.toNat a1))]) (rest := []) (k := 3) rfl (by omega) (ax_caV (pc := 72) dX14_found_72 kX14_nearest rfl rfl WM_X14_358 WI_X14_nearest WS_X14_nearest WN_X14 (ax_rcO (t := 12) (axEx hG rfl) rfl (by decide)) (Nat.le_of_ble_eq_true rfl)) kX14_nearest rfl True.intro (T_X14_nearest (by omega) hG r114) ?_
      cases hf
      exact x_retI (pc := 75) dX14_found_75
    replace hf := (if_neg h113).symm.trans hf
    refine x_tabOut (tgt := 76) (pc := 19) dX14_found_19 (by omega) rfl ?_
    refine x_aload_n (pc := 76) dX14_found_76 rfl ?_
    refine x_aload_n (pc := 77) dX14_found_77 rfl ?_
    refine x_getF (t := 12) (j := 14) (r := 232) (pc := 78) dX14_found_78 (axH hG rfl) (axEx hG rfl) rfl (by decide) (by decide) rfl rfl WF_X14_36 ?_
    refine x_aload_n (pc := 81) dX14_found_81 rfl ?_
    refine x_getF (t := 12) (j := 12) (r := 208) (pc := 82) dX14_found_82 (axH hG rfl) (axEx hG rfl) rfl (by decide) (by decide) rfl rfl WF_X14_29 ?_
    refine x_getFN (t := 11) (j := 8) (r := 214) (pc := 85) dX14_found_85 (axH hG rfl) (axEx hG rfl) rfl (by decide) (by decide) rfl rfl NF_X14_231 ?_
    refine x_iload_n (pc := 88) dX14_found_88 rfl ?_
    refine x_iald2 (n := 17) (pc := 89) dX14_found_89 (axEx hG rfl) rfl (by omega) (by omega) ?_
    by_cases h117 : 0 ≤ (mI M 214 (Int.toNat a1)) ∧ (mI M 214 (Int.toNat a1)) < 800
    · replace hf := (if_pos h117).symm.trans hf
      refine x_iald2 (n := 800) (pc := 90) dX14_found_90 (axEx hG rfl) rfl h117.1 h117.2 ?_
      refine x_aload_n (pc := 91) dX14_found_91 rfl ?_
      refine x_getF (t := 12) (j := 12) (r := 208) (pc := 92) dX14_found_92 (axH hG rfl) (axEx hG rfl) rfl (by decide) (by decide) rfl rfl WF_X14_29 ?_
      refine x_getIN (t := 11) (j := 0) (pc := 95) dX14_found_95 (axEx hG rfl) rfl (by decide) (by decide) rfl NF_X14_208 ?_
      obtain ⟨v119, r118, hf⟩ := bd1_some hf
      refine x_cr (v := vI v119) (vs := [vI (mI M 232 (Int.toNat (mI M 214 (Int.toNat a1)))), vI (mI M 208 0)]) (rest := [vR 203]) (k := 1) rfl (by omega) (ax_caS (pc := 98) dX14_found_98 kJ9_floorMod_7cf53 rfl rfl WM_X14_361 WT_J9_floorMod_7cf53 WN_J9 (Nat.le_of_ble_eq_true rfl)) kJ9_floorMod_7cf53 rfl True.intro (T_J9_floorMod_7cf53 (by omega) r118) ?_
      refine x_aload_n (pc := 101) dX14_found_101 rfl ?_
      refine x_getF (t := 12) (j := 14) (r := 232) (pc := 102) dX14_found_102 (axH hG rfl) (axEx hG rfl) rfl (by decide) (by decide) rfl rfl WF_X14_36 ?_
      refine x_aload_n (pc := 105) dX14_found_105 rfl ?_
      refine x_getF (t := 12) (j := 12) (r := 208) (pc := 106) dX14_found_106 (axH hG rfl) (axEx hG rfl) rfl (by decide) (by decide) rfl rfl WF_X14_29 ?_
      refine x_getFN (t := 11) (j := 9) (r := 215) (pc := 109) dX14_found_109 (axH hG rfl) (axEx hG rfl) rfl (by decide) (by decide) rfl rfl NF_X14_234 ?_
      refine x_iload_n (pc := 112) dX14_found_112 rfl ?_
      refine x_iald2 (n := 17) (pc := 113) dX14_found_113 (axEx hG rfl) rfl (by omega) (by omega) ?_
      by_cases h120 : 0 ≤ (mI M 215 (Int.toNat a1)) ∧ (mI M 215 (Int.toNat a1)) < 800
      · replace hf := (if_pos h120).symm.trans hf
        refine x_iald2 (n := 800) (pc := 114) dX14_found_114 (axEx hG rfl) rfl h120.1 h120.2 ?_
        refine x_aload_n (pc := 115) dX14_found_115 rfl ?_
        refine x_getF (t := 12) (j := 12) (r := 208) (pc := 116) dX14_found_116 (axH hG rfl) (axEx hG rfl) rfl (by decide) (by decide) rfl rfl WF_X14_29 ?_
        refine x_getIN (t := 11) (j := 1) (pc := 119) dX14_found_119 (axEx hG rfl) rfl (by decide) (by decide) rfl NF_X14_211 ?_
        obtain ⟨v122, r121, hf⟩ := bd1_some hf
        refine x_cr (v := vI v122) (vs := [vI (mI M 232 (Int.toNat (mI M 215 (Int.toNat a1)))), vI (mI M 208 1)]) (rest := [vI v119, vR 203]) (k := 1) rfl (by omega) (ax_caS (pc := 122) dX14_found_122 kJ9_floorMod_7cf53 rfl rfl WM_X14_361 WT_J9_floorMod_7cf53 WN_J9 (Nat.le_of_ble_eq_true rfl)) kJ9_floorMod_7cf53 rfl True.intro (T_J9_floorMod_7cf53 (by omega) r121) ?_
        refine x_cr (v := vI (fX14_at M v119 v122)) (vs := [vR 203, vI v119, vI v122]) (rest := []) (k := 0) rfl (by omega) (ax_caV (pc := 125) dX14_found_125 kX14_at rfl rfl WM_X14_288 WI_X14_at WS_X14_at WN_X14 (ax_rcO (t := 12) (axEx hG rfl) rfl (by decide)) (Nat.le_of_ble_eq_true rfl)) kX14_at rfl True.intro (T_X14_at (by omega) hG rfl) ?_
        refine x_istore_n (ls' := [some (vR 203), some (vI a1), some (vI (mI M 210 (Int.toNat a1))), some (vI (fX14_at M v119 v122))]) (pc := 128) dX14_found_128 (Nat.le_of_ble_eq_true rfl) rfl rfl ?_
        refine x_aload_n (pc := 129) dX14_found_129 rfl ?_
        refine x_getF (t := 12) (j := 15) (r := 233) (pc := 130) dX14_found_130 (axH hG rfl) (axEx hG rfl) rfl (by decide) (by decide) rfl rfl WF_X14_39 ?_
        refine x_iload_n (pc := 133) dX14_found_133 rfl ?_
        by_cases h123 : 0 ≤ (fX14_at M v119 v122) ∧ (fX14_at M v119 v122) < 81
        · replace hf := (if_pos h123).symm.trans hf
          refine x_iald2 (n := 81) (pc := 134) dX14_found_134 (axEx hG rfl) rfl h123.1 h123.2 ?_
          refine x_iconst (pc := 135) dX14_found_135 ⟨by decide, by decide⟩ ?_
          refine x_icmpne (tgt := 143) (pc := 136) dX14_found_136 rfl (fun h124 => ?_) (fun h124 => ?_)
          · replace hf := (if_neg h124).symm.trans hf
            refine x_iconst (pc := 143) dX14_found_143 ⟨by decide, by decide⟩ ?_
            cases hf
            exact x_retI (pc := 144) dX14_found_144
          · replace hf := (if_pos h124).symm.trans hf
            refine x_iload_n (pc := 139) dX14_found_139 rfl ?_
            refine x_goto (tgt := 144) (pc := 140) dX14_found_140 rfl ?_
            cases hf
            exact x_retI (pc := 144) dX14_found_144
        · replace hf := (if_neg h123).symm.trans hf
          cases hf
      · replace hf := (if_neg h120).symm.trans hf
        cases hf
    · replace hf := (if_neg h117).symm.trans hf
      cases hf
  · replace hf := (if_neg h101).symm.trans hf
    cases hf
/- HexPondModel.planned(I)I -/
def fX14_planned_b39 (M : ax_M) (x1 : Int) (x2 : Int) (v3 : Int) : Option ((Int × ax_M) ⊕ ax_M) :=
  (if 0 ≤ x2 ∧ x2 < 17 then (if v3 < (mI M 213 (Int.toNat x2)) then (if 0 ≤ v3 ∧ v3 < 800 then (bd2 (fX14_reckon M (mI M 217 (Int.toNat v3)) (mI M 218 (Int.toNat v3)) (mI M 219 (Int.toNat v3))) fun v111 M110 => (some (.inl ((v3 + 1), (mUI M110 232 (Int.toNat v3) v111))))) else none) else (some (.inr M))) else none)
def fX14_planned_b2 (M : ax_M) (x1 : Int) (v2 : Int) : Option ((Int × ax_M) ⊕ ((Int × ax_M) ⊕ ax_M)) :=
  (if v2 < (mI M 208 3) then (if 0 ≤ v2 ∧ v2 < 17 then (if (mI M 210 (Int.toNat v2)) = x1 then (bd1 (lp (fun s => fX14_planned_b39 s.2 x1 v2 s.1) lpN ((mI M 212 (Int.toNat v2)), M)) fun t112 => (if (mI t112 216 (Int.toNat v2)) = (-1) then (bd2 (fX14_found t112 v2) fun v117 M116 => (if v117 = (-1) then (some (.inl ((v2 + 1), M116))) else (some (.inr (.inl (v117, M116)))))) else (if 0 ≤ (mI t112 216 (Int.toNat v2)) ∧ (mI t112 216 (Int.toNat v2)) < 800 then (if (mI t112 232 (Int.toNat (mI t112 216 (Int.toNat v2)))) = 0 then (some (.inl ((v2 + 1), t112))) else (bd2 (fX14_found t112 v2) fun v123 M122 => (if v123 = (-1) then (some (.inl ((v2 + 1), M122))) else (some (.inr (.inl (v123, M122))))))) else none))) else (some (.inl ((v2 + 1), M)))) else none) else (some (.inr (.inr M))))
def fX14_planned (M : ax_M) (a1 : Int) : Option (Int × ax_M) :=
  (bdS (lp (fun s => fX14_planned_b2 s.2 a1 s.1) lpN (0, M)) (fun t125 => (some (t125.1, t125.2))) (fun t127 => (some ((-1), t127))))
theorem B_X14_planned_39 {G : ax_G} {d : Nat} (hd : 7 ≤ d) (hG : axPs G 150 244) {M : ax_M} {x1 : Int} {x2 : Int} {v3 : Int} {o : Option ax_V ⊕ String} {M' : ax_M} {y : (Int × ax_M) ⊕ ax_M} (hf : fX14_planned_b39 M x1 x2 v3 = some y) (h1 : ∀ s', y = .inl s' → ax_Ex G tX14_planned d 39 [some (vR 203), some (vI x1), some (vI x2), some (vI s'.1)] [] s'.2 o M') (h2a : ∀ t, y = .inr t → ax_Ex G tX14_planned d 95 [some (vR 203), some (vI x1), some (vI x2), none] [] t o M') : ax_Ex G tX14_planned d 39 [some (vR 203), some (vI x1), some (vI x2), some (vI v3)] [] M o M' := by
  unfold fX14_planned_b39 at hf
  refine x_iload_n (pc := 39) dX14_planned_39 rfl ?_
  refine x_aload_n (pc := 40) dX14_planned_40 rfl ?_
  refine x_getF (t := 12) (j := 12) (r := 208) (pc := 41) dX14_planned_41 (axH hG rfl) (axEx hG rfl) rfl (by decide) (by decide) rfl rfl WF_X14_29 ?_
  refine x_getFN (t := 11) (j := 7) (r := 213) (pc := 44) dX14_planned_44 (axH hG rfl) (axEx hG rfl) rfl (by decide) (by decide) rfl rfl NF_X14_239 ?_
  refine x_iload_n (pc := 47) dX14_planned_47 rfl ?_
  by_cases h105 : 0 ≤ x2 ∧ x2 < 17
  · replace hf := (if_pos h105).symm.trans hf
    refine x_iald2 (n := 17) (pc := 48) dX14_planned_48 (axEx hG rfl) rfl h105.1 h105.2 ?_
    refine ax_cmp (fun b107a b107b b107c b107e => ?_)
    refine x_icmpge (tgt := 95) (pc := 49) dX14_planned_49 rfl (fun h106 => ?_) (fun h106 => ?_)
    · replace hf := (if_neg (Int.not_lt.mpr h106)).symm.trans hf
      cases hf
      exact x_fgt (axS' (axS' (axS' (axN' axD)))) (h2a _ rfl)
    · replace hf := (if_pos h106).symm.trans hf
      refine x_aload_n (pc := 52) dX14_planned_52 rfl ?_
      refine x_getF (t := 12) (j := 14) (r := 232) (pc := 53) dX14_planned_53 (axH hG rfl) (axEx hG rfl) rfl (by decide) (by decide) rfl rfl WF_X14_36 ?_
      refine x_iload_n (pc := 56) dX14_planned_56 rfl ?_
      refine x_aload_n (pc := 57) dX14_planned_57 rfl ?_
      refine x_aload_n (pc := 58) dX14_planned_58 rfl ?_
      refine x_getF (t := 12) (j := 12) (r := 208) (pc := 59) dX14_planned_59 (axH hG rfl) (axEx hG rfl) rfl (by decide) (by decide) rfl rfl WF_X14_29 ?_
      refine x_getFN (t := 11) (j := 12) (r := 217) (pc := 62) dX14_planned_62 (axH hG rfl) (axEx hG rfl) rfl (by decide) (by decide) rfl rfl NF_X14_150 ?_
      refine x_iload_n (pc := 65) dX14_planned_65 rfl ?_
      by_cases h108 : 0 ≤ v3 ∧ v3 < 800
      · replace hf := (if_pos h108).symm.trans hf
        refine x_iald2 (n := 800) (pc := 66) dX14_planned_66 (axEx hG rfl) rfl h108.1 h108.2 ?_
        refine x_aload_n (pc := 67) dX14_planned_67 rfl ?_
        refine x_getF (t := 12) (j := 12) (r := 208) (pc := 68) dX14_planned_68 (axH hG rfl) (axEx hG rfl) rfl (by decide) (by decide) rfl rfl WF_X14_29 ?_
        refine x_getFN (t := 11) (j := 13) (r := 218) (pc := 71) dX14_planned_71 (axH hG rfl) (axEx hG rfl) rfl (by decide) (by decide) rfl rfl NF_X14_153 ?_
        refine x_iload_n (pc := 74) dX14_planned_74 rfl ?_
        refine x_iald2 (n := 800) (pc := 75) dX14_planned_75 (axEx hG rfl) rfl (by omega) (by omega) ?_
        refine x_aload_n (pc := 76) dX14_planned_76 rfl ?_
        refine x_getF (t := 12) (j := 12) (r := 208) (pc := 77) dX14_planned_77 (axH hG rfl) (axEx hG rfl) rfl (by decide) (by decide) rfl rfl WF_X14_29 ?_
        refine x_getFN (t := 11) (j := 14) (r := 219) (pc := 80) dX14_planned_80 (axH hG rfl) (axEx hG rfl) rfl (by decide) (by decide) rfl rfl NF_X14_156 ?_
        refine x_iload_n (pc := 83) dX14_planned_83 rfl ?_
        refine x_iald2 (n := 800) (pc := 84) dX14_planned_84 (axEx hG rfl) rfl (by omega) (by omega) ?_
        obtain ⟨v111, M110, r109, hf⟩ := bd2_some hf
        refine x_cr (v := vI v111) (vs := [vR 203, vI (mI M 217 (Int.toNat v3)), vI (mI M 218 (Int.toNat v3)), vI (mI M 219 (Int.toNat v3))]) (rest := [vI v3, vR 232]) (k := 0) rfl (by omega) (ax_caV (pc := 85) dX14_planned_85 kX14_reckon rfl rfl WM_X14_364 WI_X14_reckon WS_X14_reckon WN_X14 (ax_rcO (t := 12) (axEx hG rfl) rfl (by decide)) (Nat.le_of_ble_eq_true rfl)) kX14_reckon rfl True.intro (T_X14_reckon (by omega) hG r109) ?_
        refine x_iast2 (n := 800) (pc := 88) dX14_planned_88 (axEx hG rfl) rfl (by omega) (by omega) ?_
        refine x_iinc (z := (v3 + 1)) (ls' := [some (vR 203), some (vI x1), some (vI x2), some (vI (v3 + 1))]) (pc := 89) dX14_planned_89 rfl (Nat.le_of_ble_eq_true rfl) rfl rfl (ax_i (by omega) (by omega)) rfl ?_
        refine x_goto (tgt := 39) (pc := 92) dX14_planned_92 rfl ?_
        cases hf
        exact h1 _ rfl
      · replace hf := (if_neg h108).symm.trans hf
        cases hf
  · replace hf := (if_neg h105).symm.trans hf
    cases hf
theorem B_X14_planned_2 {G : ax_G} {d : Nat} (hd : 7 ≤ d) (hG : axPs G 150 244) {M : ax_M} {x1 : Int} {v2 : Int} {o : Option ax_V ⊕ String} {M' : ax_M} {y : (Int × ax_M) ⊕ ((Int × ax_M) ⊕ ax_M)} (hf : fX14_planned_b2 M x1 v2 = some y) (h1 : ∀ s', y = .inl s' → ax_Ex G tX14_planned d 2 [some (vR 203), some (vI x1), some (vI s'.1), none] [] s'.2 o M') (h2a : ∀ t, y = .inr (.inl t) → ax_Ex G tX14_planned d 139 [some (vR 203), some (vI x1), none, some (vI t.1)] [] t.2 o M') (h2b : ∀ t, y = .inr (.inr t) → ax_Ex G tX14_planned d 147 [some (vR 203), some (vI x1), none, none] [] t o M') : ax_Ex G tX14_planned d 2 [some (vR 203), some (vI x1), some (vI v2), none] [] M o M' := by
  unfold fX14_planned_b2 at hf
  refine x_iload_n (pc := 2) dX14_planned_2 rfl ?_
  refine x_aload_n (pc := 3) dX14_planned_3 rfl ?_
  refine x_getF (t := 12) (j := 12) (r := 208) (pc := 4) dX14_planned_4 (axH hG rfl) (axEx hG rfl) rfl (by decide) (by decide) rfl rfl WF_X14_29 ?_
  refine x_getIN (t := 11) (j := 3) (pc := 7) dX14_planned_7 (axEx hG rfl) rfl (by decide) (by decide) rfl NF_X14_215 ?_
  refine ax_cmp (fun b102a b102b b102c b102e => ?_)
  refine x_icmpge (tgt := 147) (pc := 10) dX14_planned_10 rfl (fun h101 => ?_) (fun h101 => ?_)
  · replace hf := (if_neg (Int.not_lt.mpr h101)).symm.trans hf
    cases hf
    exact x_fgt (axS' (axS' (axN' (axN' axD)))) (h2b _ rfl)
  · replace hf := (if_pos h101).symm.trans hf
    refine x_aload_n (pc := 13) dX14_planned_13 rfl ?_
    refine x_getF (t := 12) (j := 12) (r := 208) (pc := 14) dX14_planned_14 (axH hG rfl) (axEx hG rfl) rfl (by decide) (by decide) rfl rfl WF_X14_29 ?_
    refine x_getFN (t := 11) (j := 4) (r := 210) (pc := 17) dX14_planned_17 (axH hG rfl) (axEx hG rfl) rfl (by decide) (by decide) rfl rfl NF_X14_226 ?_
    refine x_iload_n (pc := 20) dX14_planned_20 rfl ?_
    by_cases h103 : 0 ≤ v2 ∧ v2 < 17
    · replace hf := (if_pos h103).symm.trans hf
      refine x_iald2 (n := 17) (pc := 21) dX14_planned_21 (axEx hG rfl) rfl h103.1 h103.2 ?_
      refine x_iload_n (pc := 22) dX14_planned_22 rfl ?_
      refine x_icmpeq (tgt := 29) (pc := 23) dX14_planned_23 rfl (fun h104 => ?_) (fun h104 => ?_)
      · replace hf := (if_pos h104).symm.trans hf
        refine x_aload_n (pc := 29) dX14_planned_29 rfl ?_
        refine x_getF (t := 12) (j := 12) (r := 208) (pc := 30) dX14_planned_30 (axH hG rfl) (axEx hG rfl) rfl (by decide) (by decide) rfl rfl WF_X14_29 ?_
        refine x_getFN (t := 11) (j := 6) (r := 212) (pc := 33) dX14_planned_33 (axH hG rfl) (axEx hG rfl) rfl (by decide) (by decide) rfl rfl NF_X14_223 ?_
        refine x_iload_n (pc := 36) dX14_planned_36 rfl ?_
        refine x_iald2 (n := 17) (pc := 37) dX14_planned_37 (axEx hG rfl) rfl (by omega) (by omega) ?_
        refine x_istore_n (ls' := [some (vR 203), some (vI x1), some (vI v2), some (vI (mI M 212 (Int.toNat v2)))]) (pc := 38) dX14_planned_38 (Nat.le_of_ble_eq_true rfl) rfl rfl ?_
        obtain ⟨t112, t113, hf⟩ := bd1_some hf
        refine lp_ex (P := (fun s => ax_Ex G tX14_planned d 39 [some (vR 203), some (vI x1), some (vI v2), some (vI s.1)] [] s.2 _ _)) (K := (fun t => ax_Ex G tX14_planned d 95 [some (vR 203), some (vI x1), some (vI v2), none] [] t _ _)) (fun s y hy h1 h2 => B_X14_planned_39 (by omega) hG hy (fun s' e => h1 s' e) (fun t e => h2 t e)) _ _ _ t113 ?_
        refine x_aload_n (pc := 95) dX14_planned_95 rfl ?_
        refine x_getF (t := 12) (j := 12) (r := 208) (pc := 96) dX14_planned_96 (axH hG rfl) (axEx hG rfl) rfl (by decide) (by decide) rfl rfl WF_X14_29 ?_
        refine x_getFN (t := 11) (j := 10) (r := 216) (pc := 99) dX14_planned_99 (axH hG rfl) (axEx hG rfl) rfl (by decide) (by decide) rfl rfl NF_X14_237 ?_
        refine x_iload_n (pc := 102) dX14_planned_102 rfl ?_
        refine x_iald2 (n := 17) (pc := 103) dX14_planned_103 (axEx hG rfl) rfl (by omega) (by omega) ?_
        refine x_iconst (pc := 104) dX14_planned_104 ⟨by decide, by decide⟩ ?_
        refine x_icmpeq (tgt := 128) (pc := 105) dX14_planned_105 rfl (fun h114 => ?_) (fun h114 => ?_)
        · replace hf := (if_pos h114).symm.trans hf
          refine x_aload_n (pc := 128) dX14_planned_128 rfl ?_
          refine x_iload_n (pc := 129) dX14_planned_129 rfl ?_
          obtain ⟨v117, M116, r115, hf⟩ := bd2_some hf
          refine x_cr (v := vI v117) (vs := [vR 203, vI v2]) (rest := []) (k := 2) rfl (by omega) (ax_caV (pc := 130) dX14_planned_130 kX14_found rfl rfl WM_X14_367 WI_X14_found WS_X14_found WN_X14 (ax_rcO (t := 12) (axEx hG rfl) rfl (by decide)) (Nat.le_of_ble_eq_true rfl)) kX14_found rfl True.intro (T_X14_found (by omega) hG r115) ?_
          refine x_istore_n (ls' := [some (vR 203), some (vI x1), some (vI v2), some (vI v117)]) (pc := 133) dX14_planned_133 (Nat.le_of_ble_eq_true rfl) rfl rfl ?_
          refine x_iload_n (pc := 134) dX14_planned_134 rfl ?_
          refine x_iconst (pc := 135) dX14_planned_135 ⟨by decide, by decide⟩ ?_
          refine x_icmpeq (tgt := 141) (pc := 136) dX14_planned_136 rfl (fun h118 => ?_) (fun h118 => ?_)
          · replace hf := (if_pos h118).symm.trans hf
            refine x_iinc (z := (v2 + 1)) (ls' := [some (vR 203), some (vI x1), some (vI (v2 + 1)), some (vI v117)]) (pc := 141) dX14_planned_141 rfl (Nat.le_of_ble_eq_true rfl) rfl rfl (ax_i (by omega) (by omega)) rfl ?_
            refine x_goto (tgt := 2) (pc := 144) dX14_planned_144 rfl ?_
            cases hf
            exact x_fgt (axS' (axS' (axS' (axN' axD)))) (h1 _ rfl)
          · replace hf := (if_neg h118).symm.trans hf
            cases hf
            exact x_fgt (axS' (axS' (axN' (axS' axD)))) (h2a _ rfl)
        · replace hf := (if_neg h114).symm.trans hf
          refine x_aload_n (pc := 108) dX14_planned_108 rfl ?_
          refine x_getF (t := 12) (j := 14) (r := 232) (pc := 109) dX14_planned_109 (axH hG rfl) (axEx hG rfl) rfl (by decide) (by decide) rfl rfl WF_X14_36 ?_
          refine x_aload_n (pc := 112) dX14_planned_112 rfl ?_
          refine x_getF (t := 12) (j := 12) (r := 208) (pc := 113) dX14_planned_113 (axH hG rfl) (axEx hG rfl) rfl (by decide) (by decide) rfl rfl WF_X14_29 ?_
          refine x_getFN (t := 11) (j := 10) (r := 216) (pc := 116) dX14_planned_116 (axH hG rfl) (axEx hG rfl) rfl (by decide) (by decide) rfl rfl NF_X14_237 ?_
          refine x_iload_n (pc := 119) dX14_planned_119 rfl ?_
          refine x_iald2 (n := 17) (pc := 120) dX14_planned_120 (axEx hG rfl) rfl (by omega) (by omega) ?_
          by_cases h119 : 0 ≤ (mI t112 216 (Int.toNat v2)) ∧ (mI t112 216 (Int.toNat v2)) < 800
          · replace hf := (if_pos h119).symm.trans hf
            refine x_iald2 (n := 800) (pc := 121) dX14_planned_121 (axEx hG rfl) rfl h119.1 h119.2 ?_
            refine x_ifne (tgt := 128) (pc := 122) dX14_planned_122 rfl (fun h120 => ?_) (fun h120 => ?_)
            · replace hf := (if_neg h120).symm.trans hf
              refine x_aload_n (pc := 128) dX14_planned_128 rfl ?_
              refine x_iload_n (pc := 129) dX14_planned_129 rfl ?_
              obtain ⟨v123, M122, r121, hf⟩ := bd2_some hf
              refine x_cr (v := vI v123) (vs := [vR 203, vI v2]) (rest := []) (k := 2) rfl (by omega) (ax_caV (pc := 130) dX14_planned_130 kX14_found rfl rfl WM_X14_367 WI_X14_found WS_X14_found WN_X14 (ax_rcO (t := 12) (axEx hG rfl) rfl (by decide)) (Nat.le_of_ble_eq_true rfl)) kX14_found rfl True.intro (T_X14_found (by omega) hG r121) ?_
              refine x_istore_n (ls' := [some (vR 203), some (vI x1), some (vI v2), some (vI v123)]) (pc := 133) dX14_planned_133 (Nat.le_of_ble_eq_true rfl) rfl rfl ?_
              refine x_iload_n (pc := 134) dX14_planned_134 rfl ?_
              refine x_iconst (pc := 135) dX14_planned_135 ⟨by decide, by decide⟩ ?_
              refine x_icmpeq (tgt := 141) (pc := 136) dX14_planned_136 rfl (fun h124 => ?_) (fun h124 => ?_)
              · replace hf := (if_pos h124).symm.trans hf
                refine x_iinc (z := (v2 + 1)) (ls' := [some (vR 203), some (vI x1), some (vI (v2 + 1)), some (vI v123)]) (pc := 141) dX14_planned_141 rfl (Nat.le_of_ble_eq_true rfl) rfl rfl (ax_i (by omega) (by omega)) rfl ?_
                refine x_goto (tgt := 2) (pc := 144) dX14_planned_144 rfl ?_
                cases hf
                exact x_fgt (axS' (axS' (axS' (axN' axD)))) (h1 _ rfl)
              · replace hf := (if_neg h124).symm.trans hf
                cases hf
                exact x_fgt (axS' (axS' (axN' (axS' axD)))) (h2a _ rfl)
            · replace hf := (if_pos h120).symm.trans hf
              refine x_goto (tgt := 141) (pc := 125) dX14_planned_125 rfl ?_
              refine x_iinc (z := (v2 + 1)) (ls' := [some (vR 203), some (vI x1), some (vI (v2 + 1)), none]) (pc := 141) dX14_planned_141 rfl (Nat.le_of_ble_eq_true rfl) rfl rfl (ax_i (by omega) (by omega)) rfl ?_
              refine x_goto (tgt := 2) (pc := 144) dX14_planned_144 rfl ?_
              cases hf
              exact h1 _ rfl
          · replace hf := (if_neg h119).symm.trans hf
            cases hf
      · replace hf := (if_neg h104).symm.trans hf
        refine x_goto (tgt := 141) (pc := 26) dX14_planned_26 rfl ?_
        refine x_iinc (z := (v2 + 1)) (ls' := [some (vR 203), some (vI x1), some (vI (v2 + 1)), none]) (pc := 141) dX14_planned_141 rfl (Nat.le_of_ble_eq_true rfl) rfl rfl (ax_i (by omega) (by omega)) rfl ?_
        refine x_goto (tgt := 2) (pc := 144) dX14_planned_144 rfl ?_
        cases hf
        exact h1 _ rfl
    · replace hf := (if_neg h103).symm.trans hf
      cases hf
theorem T_X14_planned {G : ax_G} {d : Nat} (hd : 7 ≤ d) (hG : axPs G 150 244) {M : ax_M} {a1 : Int} {r : Int} {M1 : ax_M} (hf : fX14_planned M a1 = some (r, M1)) : ax_Ex G tX14_planned d 0 (ax_args [vR 203, vI a1] ++ List.replicate 2 none) [] M (.inl (some (vI r))) M1 := by
  show ax_Ex G tX14_planned d 0 [some (vR 203), some (vI a1), none, none] [] M _ _
  unfold fX14_planned at hf
  refine x_iconst (pc := 0) dX14_planned_0 ⟨by decide, by decide⟩ ?_
  refine x_istore_n (ls' := [some (vR 203), some (vI a1), some (vI 0), none]) (pc := 1) dX14_planned_1 (Nat.le_of_ble_eq_true rfl) rfl rfl ?_
  rcases bdS_some hf with ⟨t125, t126, hf⟩ | ⟨t127, t128, hf⟩
  · refine lp_ex (P := (fun s => ax_Ex G tX14_planned d 2 [some (vR 203), some (vI a1), some (vI s.1), none] [] s.2 _ _)) (K := (fun r => (∀ t, r = .inl t → ax_Ex G tX14_planned d 139 [some (vR 203), some (vI a1), none, some (vI t.1)] [] t.2 _ _) ∧ (∀ t, r = .inr t → ax_Ex G tX14_planned d 147 [some (vR 203), some (vI a1), none, none] [] t _ _))) (fun s y hy h1 h2 => B_X14_planned_2 (by omega) hG hy (fun s' e => h1 s' e) (fun t e => (h2 _ e).1 t rfl) (fun t e => (h2 _ e).2 t rfl)) _ _ _ t126 ?_
    refine ⟨fun t e => ?_, fun t e => (by cases e)⟩
    cases e
    refine x_iload_n (pc := 139) dX14_planned_139 rfl ?_
    cases hf
    exact x_retI (pc := 140) dX14_planned_140
  · refine lp_ex (P := (fun s => ax_Ex G tX14_planned d 2 [some (vR 203), some (vI a1), some (vI s.1), none] [] s.2 _ _)) (K := (fun r => (∀ t, r = .inl t → ax_Ex G tX14_planned d 139 [some (vR 203), some (vI a1), none, some (vI t.1)] [] t.2 _ _) ∧ (∀ t, r = .inr t → ax_Ex G tX14_planned d 147 [some (vR 203), some (vI a1), none, none] [] t _ _))) (fun s y hy h1 h2 => B_X14_planned_2 (by omega) hG hy (fun s' e => h1 s' e) (fun t e => (h2 _ e).1 t rfl) (fun t e => (h2 _ e).2 t rfl)) _ _ _ t128 ?_
    refine ⟨fun t e => (by cases e), fun t e => ?_⟩
    cases e
    refine x_iconst (pc := 147) dX14_planned_147 ⟨by decide, by decide⟩ ?_
    cases hf
    exact x_retI (pc := 148) dX14_planned_148
/- HexPondModel.play(IZ)I -/
def fX14_play_b2 (M : ax_M) (x1 : Int) (x2 : Int) (v3 : Int) : Option ((Int × ax_M) ⊕ ((Int × ax_M) ⊕ (Int × ax_M))) :=
  (if v3 < x1 then (bd2 (fX14_over M) fun v105 M104 => (if v105 = 0 then (bd1 (fX14_inTurn M104) fun v108 => (bd2 (fX14_planned M104 v108) fun v111 M110 => (if v111 = (-1) then (some (.inr (.inl (v3, M110)))) else (if 0 ≤ v111 ∧ v111 < 81 then (if x2 = 0 then (some (.inl ((v3 + 1), (mUI M110 233 (Int.toNat v111) v108)))) else (if 0 ≤ (mI (mUI M110 233 (Int.toNat v111) v108) 203 17) ∧ (mI (mUI M110 233 (Int.toNat v111) v108) 203 17) < 81 then (some (.inl ((v3 + 1), (mUI (mUI (mUI M110 233 (Int.toNat v111) v108) 234 (Int.toNat (mI (mUI M110 233 (Int.toNat v111) v108) 203 17)) v111) 203 17 (wr ((mI (mUI (mUI M110 233 (Int.toNat v111) v108) 234 (Int.toNat (mI (mUI M110 233 (Int.toNat v111) v108) 203 17)) v111) 203 17) + 1)))))) else none)) else none)))) else (some (.inr (.inr ((v3, M104))))))) else (some (.inr (.inr ((v3, M))))))
def fX14_play (M : ax_M) (a1 : Int) (a2 : Int) : Option (Int × ax_M) :=
  (bdS (lp (fun s => fX14_play_b2 s.2 a1 a2 s.1) lpN (0, M)) (fun t116 => (some (t116.1, t116.2))) (fun t118 => (some (t118.1, t118.2))))
theorem B_X14_play_2 {G : ax_G} {d : Nat} (hd : 8 ≤ d) (hG : axPs G 150 244) {M : ax_M} {x1 : Int} {x2 : Int} {v3 : Int} {o : Option ax_V ⊕ String} {M' : ax_M} {y : (Int × ax_M) ⊕ ((Int × ax_M) ⊕ (Int × ax_M))} (hf : fX14_play_b2 M x1 x2 v3 = some y) (h1 : ∀ s', y = .inl s' → ax_Ex G tX14_play d 2 [some (vR 203), some (vI x1), some (vI x2), some (vI s'.1), none, none] [] s'.2 o M') (h2a : ∀ t, y = .inr (.inl t) → ax_Ex G tX14_play d 34 [some (vR 203), some (vI x1), some (vI x2), some (vI t.1), none, none] [] t.2 o M') (h2b : ∀ t, y = .inr (.inr t) → ax_Ex G tX14_play d 79 [some (vR 203), some (vI x1), some (vI x2), some (vI t.1), none, none] [] t.2 o M') : ax_Ex G tX14_play d 2 [some (vR 203), some (vI x1), some (vI x2), some (vI v3), none, none] [] M o M' := by
  unfold fX14_play_b2 at hf
  refine x_iload_n (pc := 2) dX14_play_2 rfl ?_
  refine x_iload_n (pc := 3) dX14_play_3 rfl ?_
  refine ax_cmp (fun b102a b102b b102c b102e => ?_)
  refine x_icmpge (tgt := 79) (pc := 4) dX14_play_4 rfl (fun h101 => ?_) (fun h101 => ?_)
  · replace hf := (if_neg (Int.not_lt.mpr h101)).symm.trans hf
    cases hf
    exact h2b _ rfl
  · replace hf := (if_pos h101).symm.trans hf
    refine x_aload_n (pc := 7) dX14_play_7 rfl ?_
    obtain ⟨v105, M104, r103, hf⟩ := bd2_some hf
    refine x_cr (v := vI v105) (vs := [vR 203]) (rest := []) (k := 0) rfl (by omega) (ax_caV (pc := 8) dX14_play_8 kX14_over rfl rfl WM_X14_370 WI_X14_over WS_X14_over WN_X14 (ax_rcO (t := 12) (axEx hG rfl) rfl (by decide)) (Nat.le_of_ble_eq_true rfl)) kX14_over rfl (Z_X14_over r103) (T_X14_over (by omega) hG r103) ?_
    refine x_ifne (tgt := 79) (pc := 11) dX14_play_11 rfl (fun h106 => ?_) (fun h106 => ?_)
    · replace hf := (if_neg h106).symm.trans hf
      cases hf
      exact h2b _ rfl
    · replace hf := (if_pos h106).symm.trans hf
      refine x_aload_n (pc := 14) dX14_play_14 rfl ?_
      obtain ⟨v108, r107, hf⟩ := bd1_some hf
      refine x_cr (v := vI v108) (vs := [vR 203]) (rest := []) (k := 0) rfl (by omega) (ax_caV (pc := 15) dX14_play_15 kX14_inTurn rfl rfl WM_X14_374 WI_X14_inTurn WS_X14_inTurn WN_X14 (ax_rcO (t := 12) (axEx hG rfl) rfl (by decide)) (Nat.le_of_ble_eq_true rfl)) kX14_inTurn rfl True.intro (T_X14_inTurn (by omega) hG r107) ?_
      refine x_istore (ls' := [some (vR 203), some (vI x1), some (vI x2), some (vI v3), some (vI v108), none]) (pc := 18) dX14_play_18 (Nat.le_of_ble_eq_true rfl) rfl rfl ?_
      refine x_aload_n (pc := 20) dX14_play_20 rfl ?_
      refine x_iload (pc := 21) dX14_play_21 rfl ?_
      obtain ⟨v111, M110, r109, hf⟩ := bd2_some hf
      refine x_cr (v := vI v111) (vs := [vR 203, vI v108]) (rest := []) (k := 2) rfl (by omega) (ax_caV (pc := 23) dX14_play_23 kX14_planned rfl rfl WM_X14_377 WI_X14_planned WS_X14_planned WN_X14 (ax_rcO (t := 12) (axEx hG rfl) rfl (by decide)) (Nat.le_of_ble_eq_true rfl)) kX14_planned rfl True.intro (T_X14_planned (by omega) hG r109) ?_
      refine x_istore (ls' := [some (vR 203), some (vI x1), some (vI x2), some (vI v3), some (vI v108), some (vI v111)]) (pc := 26) dX14_play_26 (Nat.le_of_ble_eq_true rfl) rfl rfl ?_
      refine x_iload (pc := 28) dX14_play_28 rfl ?_
      refine x_iconst (pc := 30) dX14_play_30 ⟨by decide, by decide⟩ ?_
      refine x_icmpne (tgt := 36) (pc := 31) dX14_play_31 rfl (fun h112 => ?_) (fun h112 => ?_)
      · replace hf := (if_neg h112).symm.trans hf
        refine x_aload_n (pc := 36) dX14_play_36 rfl ?_
        refine x_getF (t := 12) (j := 15) (r := 233) (pc := 37) dX14_play_37 (axH hG rfl) (axEx hG rfl) rfl (by decide) (by decide) rfl rfl WF_X14_39 ?_
        refine x_iload (pc := 40) dX14_play_40 rfl ?_
        refine x_iload (pc := 42) dX14_play_42 rfl ?_
        by_cases h113 : 0 ≤ v111 ∧ v111 < 81
        · replace hf := (if_pos h113).symm.trans hf
          refine x_iast2 (n := 81) (pc := 44) dX14_play_44 (axEx hG rfl) rfl h113.1 h113.2 ?_
          refine x_iinc (z := (v3 + 1)) (ls' := [some (vR 203), some (vI x1), some (vI x2), some (vI (v3 + 1)), some (vI v108), some (vI v111)]) (pc := 45) dX14_play_45 rfl (Nat.le_of_ble_eq_true rfl) rfl rfl (ax_i (by omega) (by omega)) rfl ?_
          refine x_iload_n (pc := 48) dX14_play_48 rfl ?_
          refine x_ifne (tgt := 55) (pc := 49) dX14_play_49 rfl (fun h114 => ?_) (fun h114 => ?_)
          · replace hf := (if_neg h114).symm.trans hf
            refine x_aload_n (pc := 55) dX14_play_55 rfl ?_
            refine x_getF (t := 12) (j := 16) (r := 234) (pc := 56) dX14_play_56 (axH hG rfl) (axEx hG rfl) rfl (by decide) (by decide) rfl rfl WF_X14_42 ?_
            refine x_aload_n (pc := 59) dX14_play_59 rfl ?_
            refine x_getI (t := 12) (j := 17) (pc := 60) dX14_play_60 (axEx hG rfl) rfl (by decide) (by decide) rfl WF_X14_269 ?_
            refine x_iload (pc := 63) dX14_play_63 rfl ?_
            by_cases h115 : 0 ≤ (mI (mUI M110 233 (Int.toNat v111) v108) 203 17) ∧ (mI (mUI M110 233 (Int.toNat v111) v108) 203 17) < 81
            · replace hf := (if_pos h115).symm.trans hf
              refine x_iast2 (n := 81) (pc := 65) dX14_play_65 (axEx hG rfl) rfl h115.1 h115.2 ?_
              refine x_aload_n (pc := 66) dX14_play_66 rfl ?_
              refine x_dup (pc := 67) dX14_play_67 rfl ?_
              refine x_getI (t := 12) (j := 17) (pc := 68) dX14_play_68 (axEx hG rfl) rfl (by decide) (by decide) rfl WF_X14_269 ?_
              refine x_iconst (pc := 71) dX14_play_71 ⟨by decide, by decide⟩ ?_
              refine x_iaddw (pc := 72) dX14_play_72 ?_
              refine x_putI (t := 12) (j := 17) (pc := 73) dX14_play_73 (axEx hG rfl) rfl (by decide) (by decide) rfl rfl WF_X14_269 ?_
              refine x_goto (tgt := 2) (pc := 76) dX14_play_76 rfl ?_
              cases hf
              exact x_fgt (axS' (axS' (axS' (axS' (axN' (axN' axD)))))) (h1 _ rfl)
            · replace hf := (if_neg h115).symm.trans hf
              cases hf
          · replace hf := (if_pos h114).symm.trans hf
            refine x_goto (tgt := 2) (pc := 52) dX14_play_52 rfl ?_
            cases hf
            exact x_fgt (axS' (axS' (axS' (axS' (axN' (axN' axD)))))) (h1 _ rfl)
        · replace hf := (if_neg h113).symm.trans hf
          cases hf
      · replace hf := (if_pos h112).symm.trans hf
        cases hf
        exact x_fgt (axS' (axS' (axS' (axS' (axN' (axN' axD)))))) (h2a _ rfl)
theorem T_X14_play {G : ax_G} {d : Nat} (hd : 8 ≤ d) (hG : axPs G 150 244) {M : ax_M} {a1 : Int} {a2 : Int} {r : Int} {M1 : ax_M} (hf : fX14_play M a1 a2 = some (r, M1)) : ax_Ex G tX14_play d 0 (ax_args [vR 203, vI a1, vI a2] ++ List.replicate 3 none) [] M (.inl (some (vI r))) M1 := by
  show ax_Ex G tX14_play d 0 [some (vR 203), some (vI a1), some (vI a2), none, none, none] [] M _ _
  unfold fX14_play at hf
  refine x_iconst (pc := 0) dX14_play_0 ⟨by decide, by decide⟩ ?_
  refine x_istore_n (ls' := [some (vR 203), some (vI a1), some (vI a2), some (vI 0), none, none]) (pc := 1) dX14_play_1 (Nat.le_of_ble_eq_true rfl) rfl rfl ?_
  rcases bdS_some hf with ⟨t116, t117, hf⟩ | ⟨t118, t119, hf⟩
  · refine lp_ex (P := (fun s => ax_Ex G tX14_play d 2 [some (vR 203), some (vI a1), some (vI a2), some (vI s.1), none, none] [] s.2 _ _)) (K := (fun r => (∀ t, r = .inl t → ax_Ex G tX14_play d 34 [some (vR 203), some (vI a1), some (vI a2), some (vI t.1), none, none] [] t.2 _ _) ∧ (∀ t, r = .inr t → ax_Ex G tX14_play d 79 [some (vR 203), some (vI a1), some (vI a2), some (vI t.1), none, none] [] t.2 _ _))) (fun s y hy h1 h2 => B_X14_play_2 (by omega) hG hy (fun s' e => h1 s' e) (fun t e => (h2 _ e).1 t rfl) (fun t e => (h2 _ e).2 t rfl)) _ _ _ t117 ?_
    refine ⟨fun t e => ?_, fun t e => (by cases e)⟩
    cases e
    refine x_iload_n (pc := 34) dX14_play_34 rfl ?_
    cases hf
    exact x_retI (pc := 35) dX14_play_35
  · refine lp_ex (P := (fun s => ax_Ex G tX14_play d 2 [some (vR 203), some (vI a1), some (vI a2), some (vI s.1), none, none] [] s.2 _ _)) (K := (fun r => (∀ t, r = .inl t → ax_Ex G tX14_play d 34 [some (vR 203), some (vI a1), some (vI a2), some (vI t.1), none, none] [] t.2 _ _) ∧ (∀ t, r = .inr t → ax_Ex G tX14_play d 79 [some (vR 203), some (vI a1), some (vI a2), some (vI t.1), none, none] [] t.2 _ _))) (fun s y hy h1 h2 => B_X14_play_2 (by omega) hG hy (fun s' e => h1 s' e) (fun t e => (h2 _ e).1 t rfl) (fun t e => (h2 _ e).2 t rfl)) _ _ _ t119 ?_
    refine ⟨fun t e => (by cases e), fun t e => ?_⟩
    cases e
    refine x_iload_n (pc := 79) dX14_play_79 rfl ?_
    cases hf
    exact x_retI (pc := 80) dX14_play_80
/- HexPondModel.keep()V -/
def fX14_keep (M : ax_M) : Option ax_M :=
  (some (mCp M 233 235 81))
theorem T_X14_keep {G : ax_G} {d : Nat} (hd : 1 ≤ d) (hG : axPs G 150 244) {M : ax_M} {M1 : ax_M} (hf : fX14_keep M = some M1) : ax_Ex G tX14_keep d 0 (ax_args [vR 203] ++ List.replicate 0 none) [] M (.inl none) M1 := by
  show ax_Ex G tX14_keep d 0 [some (vR 203)] [] M _ _
  unfold fX14_keep at hf
  refine x_aload_n (pc := 0) dX14_keep_0 rfl ?_
  refine x_getF (t := 12) (j := 15) (r := 233) (pc := 1) dX14_keep_1 (axH hG rfl) (axEx hG rfl) rfl (by decide) (by decide) rfl rfl WF_X14_39 ?_
  refine x_iconst (pc := 4) dX14_keep_4 ⟨by decide, by decide⟩ ?_
  refine x_aload_n (pc := 5) dX14_keep_5 rfl ?_
  refine x_getF (t := 12) (j := 18) (r := 235) (pc := 6) dX14_keep_6 (axH hG rfl) (axEx hG rfl) rfl (by decide) (by decide) rfl rfl WF_X14_45 ?_
  refine x_iconst (pc := 9) dX14_keep_9 ⟨by decide, by decide⟩ ?_
  refine x_bipush (pc := 10) dX14_keep_10 (by decide) ⟨by decide, by decide⟩ ?_
  refine x_copy (n0 := 81) (n := 81) (pc := 12) dX14_keep_12 (axEx hG rfl) rfl (axEx hG rfl) rfl (by decide) (by decide) WM_X14_263 WX_native WX_static WN_System (Nat.le_of_ble_eq_true rfl) (by omega) ?_
  cases hf
  exact x_retV (pc := 15) dX14_keep_15
/- HexPondModel.bringBack()V -/
def fX14_bringBack (M : ax_M) : Option ax_M :=
  (some (mCp M 235 233 81))
theorem T_X14_bringBack {G : ax_G} {d : Nat} (hd : 1 ≤ d) (hG : axPs G 150 244) {M : ax_M} {M1 : ax_M} (hf : fX14_bringBack M = some M1) : ax_Ex G tX14_bringBack d 0 (ax_args [vR 203] ++ List.replicate 0 none) [] M (.inl none) M1 := by
  show ax_Ex G tX14_bringBack d 0 [some (vR 203)] [] M _ _
  unfold fX14_bringBack at hf
  refine x_aload_n (pc := 0) dX14_bringBack_0 rfl ?_
  refine x_getF (t := 12) (j := 18) (r := 235) (pc := 1) dX14_bringBack_1 (axH hG rfl) (axEx hG rfl) rfl (by decide) (by decide) rfl rfl WF_X14_45 ?_
  refine x_iconst (pc := 4) dX14_bringBack_4 ⟨by decide, by decide⟩ ?_
  refine x_aload_n (pc := 5) dX14_bringBack_5 rfl ?_
  refine x_getF (t := 12) (j := 15) (r := 233) (pc := 6) dX14_bringBack_6 (axH hG rfl) (axEx hG rfl) rfl (by decide) (by decide) rfl rfl WF_X14_39 ?_
  refine x_iconst (pc := 9) dX14_bringBack_9 ⟨by decide, by decide⟩ ?_
  refine x_bipush (pc := 10) dX14_bringBack_10 (by decide) ⟨by decide, by decide⟩ ?_
  refine x_copy (n0 := 81) (n := 81) (pc := 12) dX14_bringBack_12 (axEx hG rfl) rfl (axEx hG rfl) rfl (by decide) (by decide) WM_X14_263 WX_native WX_static WN_System (Nat.le_of_ble_eq_true rfl) (by omega) ?_
  cases hf
  exact x_retV (pc := 15) dX14_bringBack_15
/- HexPondModel.columns()I -/
def fX14_columns (M : ax_M) : Option (Int × ax_M) :=
  (bd2 (fX14_ok M (mI M 208 0)) fun v103 M102 => (some (v103, M102)))
theorem T_X14_columns {G : ax_G} {d : Nat} (hd : 1 ≤ d) (hG : axPs G 150 244) {M : ax_M} {r : Int} {M1 : ax_M} (hf : fX14_columns M = some (r, M1)) : ax_Ex G tX14_columns d 0 (ax_args [vR 203] ++ List.replicate 0 none) [] M (.inl (some (vI r))) M1 := by
  show ax_Ex G tX14_columns d 0 [some (vR 203)] [] M _ _
  unfold fX14_columns at hf
  refine x_aload_n (pc := 0) dX14_columns_0 rfl ?_
  refine x_aload_n (pc := 1) dX14_columns_1 rfl ?_
  refine x_getF (t := 12) (j := 12) (r := 208) (pc := 2) dX14_columns_2 (axH hG rfl) (axEx hG rfl) rfl (by decide) (by decide) rfl rfl WF_X14_29 ?_
  refine x_getIN (t := 11) (j := 0) (pc := 5) dX14_columns_5 (axEx hG rfl) rfl (by decide) (by decide) rfl NF_X14_208 ?_
  obtain ⟨v103, M102, r101, hf⟩ := bd2_some hf
  refine x_cr (v := vI v103) (vs := [vR 203, vI (mI M 208 0)]) (rest := []) (k := 0) rfl (by omega) (ax_caV (pc := 8) dX14_columns_8 kX14_ok rfl rfl WM_X14_272 WI_X14_ok WS_X14_ok WN_X14 (ax_rcO (t := 12) (axEx hG rfl) rfl (by decide)) (Nat.le_of_ble_eq_true rfl)) kX14_ok rfl True.intro (T_X14_ok (by omega) hG r101) ?_
  cases hf
  exact x_retI (pc := 11) dX14_columns_11
/- HexPondModel.rows()I -/
def fX14_rows (M : ax_M) : Option (Int × ax_M) :=
  (bd2 (fX14_ok M (mI M 208 1)) fun v103 M102 => (some (v103, M102)))
theorem T_X14_rows {G : ax_G} {d : Nat} (hd : 1 ≤ d) (hG : axPs G 150 244) {M : ax_M} {r : Int} {M1 : ax_M} (hf : fX14_rows M = some (r, M1)) : ax_Ex G tX14_rows d 0 (ax_args [vR 203] ++ List.replicate 0 none) [] M (.inl (some (vI r))) M1 := by
  show ax_Ex G tX14_rows d 0 [some (vR 203)] [] M _ _
  unfold fX14_rows at hf
  refine x_aload_n (pc := 0) dX14_rows_0 rfl ?_
  refine x_aload_n (pc := 1) dX14_rows_1 rfl ?_
  refine x_getF (t := 12) (j := 12) (r := 208) (pc := 2) dX14_rows_2 (axH hG rfl) (axEx hG rfl) rfl (by decide) (by decide) rfl rfl WF_X14_29 ?_
  refine x_getIN (t := 11) (j := 1) (pc := 5) dX14_rows_5 (axEx hG rfl) rfl (by decide) (by decide) rfl NF_X14_211 ?_
  obtain ⟨v103, M102, r101, hf⟩ := bd2_some hf
  refine x_cr (v := vI v103) (vs := [vR 203, vI (mI M 208 1)]) (rest := []) (k := 0) rfl (by omega) (ax_caV (pc := 8) dX14_rows_8 kX14_ok rfl rfl WM_X14_272 WI_X14_ok WS_X14_ok WN_X14 (ax_rcO (t := 12) (axEx hG rfl) rfl (by decide)) (Nat.le_of_ble_eq_true rfl)) kX14_ok rfl True.intro (T_X14_ok (by omega) hG r101) ?_
  cases hf
  exact x_retI (pc := 11) dX14_rows_11
/- HexPondModel.plans()I -/
def fX14_plans (M : ax_M) : Option (Int × ax_M) :=
  (bd2 (fX14_ok M (mI M 208 3)) fun v103 M102 => (some (v103, M102)))
theorem T_X14_plans {G : ax_G} {d : Nat} (hd : 1 ≤ d) (hG : axPs G 150 244) {M : ax_M} {r : Int} {M1 : ax_M} (hf : fX14_plans M = some (r, M1)) : ax_Ex G tX14_plans d 0 (ax_args [vR 203] ++ List.replicate 0 none) [] M (.inl (some (vI r))) M1 := by
  show ax_Ex G tX14_plans d 0 [some (vR 203)] [] M _ _
  unfold fX14_plans at hf
  refine x_aload_n (pc := 0) dX14_plans_0 rfl ?_
  refine x_aload_n (pc := 1) dX14_plans_1 rfl ?_
  refine x_getF (t := 12) (j := 12) (r := 208) (pc := 2) dX14_plans_2 (axH hG rfl) (axEx hG rfl) rfl (by decide) (by decide) rfl rfl WF_X14_29 ?_
  refine x_getIN (t := 11) (j := 3) (pc := 5) dX14_plans_5 (axEx hG rfl) rfl (by decide) (by decide) rfl NF_X14_215 ?_
  obtain ⟨v103, M102, r101, hf⟩ := bd2_some hf
  refine x_cr (v := vI v103) (vs := [vR 203, vI (mI M 208 3)]) (rest := []) (k := 0) rfl (by omega) (ax_caV (pc := 8) dX14_plans_8 kX14_ok rfl rfl WM_X14_272 WI_X14_ok WS_X14_ok WN_X14 (ax_rcO (t := 12) (axEx hG rfl) rfl (by decide)) (Nat.le_of_ble_eq_true rfl)) kX14_ok rfl True.intro (T_X14_ok (by omega) hG r101) ?_
  cases hf
  exact x_retI (pc := 11) dX14_plans_11
/- HexPondModel.stonesToTakeBack()I -/
def fX14_stonesToTakeBack (M : ax_M) : Option (Int × ax_M) :=
  (bd2 (fX14_ok M (mI M 203 17)) fun v103 M102 => (some (v103, M102)))
theorem T_X14_stonesToTakeBack {G : ax_G} {d : Nat} (hd : 1 ≤ d) (hG : axPs G 150 244) {M : ax_M} {r : Int} {M1 : ax_M} (hf : fX14_stonesToTakeBack M = some (r, M1)) : ax_Ex G tX14_stonesToTakeBack d 0 (ax_args [vR 203] ++ List.replicate 0 none) [] M (.inl (some (vI r))) M1 := by
  show ax_Ex G tX14_stonesToTakeBack d 0 [some (vR 203)] [] M _ _
  unfold fX14_stonesToTakeBack at hf
  refine x_aload_n (pc := 0) dX14_stonesToTakeBack_0 rfl ?_
  refine x_aload_n (pc := 1) dX14_stonesToTakeBack_1 rfl ?_
  refine x_getI (t := 12) (j := 17) (pc := 2) dX14_stonesToTakeBack_2 (axEx hG rfl) rfl (by decide) (by decide) rfl WF_X14_269 ?_
  obtain ⟨v103, M102, r101, hf⟩ := bd2_some hf
  refine x_cr (v := vI v103) (vs := [vR 203, vI (mI M 203 17)]) (rest := []) (k := 0) rfl (by omega) (ax_caV (pc := 5) dX14_stonesToTakeBack_5 kX14_ok rfl rfl WM_X14_272 WI_X14_ok WS_X14_ok WN_X14 (ax_rcO (t := 12) (axEx hG rfl) rfl (by decide)) (Nat.le_of_ble_eq_true rfl)) kX14_ok rfl True.intro (T_X14_ok (by omega) hG r101) ?_
  cases hf
  exact x_retI (pc := 8) dX14_stonesToTakeBack_8
/- HexPondModel.tapeBytes()I -/
def fX14_tapeBytes (M : ax_M) : Option (Int × ax_M) :=
  (bd2 (fX14_ok M (mI M 203 2)) fun v103 M102 => (some (v103, M102)))
theorem T_X14_tapeBytes {G : ax_G} {d : Nat} (hd : 1 ≤ d) (hG : axPs G 150 244) {M : ax_M} {r : Int} {M1 : ax_M} (hf : fX14_tapeBytes M = some (r, M1)) : ax_Ex G tX14_tapeBytes d 0 (ax_args [vR 203] ++ List.replicate 0 none) [] M (.inl (some (vI r))) M1 := by
  show ax_Ex G tX14_tapeBytes d 0 [some (vR 203)] [] M _ _
  unfold fX14_tapeBytes at hf
  refine x_aload_n (pc := 0) dX14_tapeBytes_0 rfl ?_
  refine x_aload_n (pc := 1) dX14_tapeBytes_1 rfl ?_
  refine x_getI (t := 12) (j := 2) (pc := 2) dX14_tapeBytes_2 (axEx hG rfl) rfl (by decide) (by decide) rfl WF_X14_80 ?_
  obtain ⟨v103, M102, r101, hf⟩ := bd2_some hf
  refine x_cr (v := vI v103) (vs := [vR 203, vI (mI M 203 2)]) (rest := []) (k := 0) rfl (by omega) (ax_caV (pc := 5) dX14_tapeBytes_5 kX14_ok rfl rfl WM_X14_272 WI_X14_ok WS_X14_ok WN_X14 (ax_rcO (t := 12) (axEx hG rfl) rfl (by decide)) (Nat.le_of_ble_eq_true rfl)) kX14_ok rfl True.intro (T_X14_ok (by omega) hG r101) ?_
  cases hf
  exact x_retI (pc := 8) dX14_tapeBytes_8
/- HexPondModel.emptyCells()I -/
def fX14_emptyCells (M : ax_M) : Option (Int × ax_M) :=
  (bd1 (fX14_count M (-1)) fun v102 => (bd2 (fX14_ok M v102) fun v105 M104 => (some (v105, M104))))
theorem T_X14_emptyCells {G : ax_G} {d : Nat} (hd : 2 ≤ d) (hG : axPs G 150 244) {M : ax_M} {r : Int} {M1 : ax_M} (hf : fX14_emptyCells M = some (r, M1)) : ax_Ex G tX14_emptyCells d 0 (ax_args [vR 203] ++ List.replicate 0 none) [] M (.inl (some (vI r))) M1 := by
  show ax_Ex G tX14_emptyCells d 0 [some (vR 203)] [] M _ _
  unfold fX14_emptyCells at hf
  refine x_aload_n (pc := 0) dX14_emptyCells_0 rfl ?_
  refine x_aload_n (pc := 1) dX14_emptyCells_1 rfl ?_
  refine x_iconst (pc := 2) dX14_emptyCells_2 ⟨by decide, by decide⟩ ?_
  obtain ⟨v102, r101, hf⟩ := bd1_some hf
  refine x_cr (v := vI v102) (vs := [vR 203, vI (-1)]) (rest := [vR 203]) (k := 2) rfl (by omega) (ax_caV (pc := 3) dX14_emptyCells_3 kX14_count rfl rfl WM_X14_307 WI_X14_count WS_X14_count WN_X14 (ax_rcO (t := 12) (axEx hG rfl) rfl (by decide)) (Nat.le_of_ble_eq_true rfl)) kX14_count rfl True.intro (T_X14_count (by omega) hG r101) ?_
  obtain ⟨v105, M104, r103, hf⟩ := bd2_some hf
  refine x_cr (v := vI v105) (vs := [vR 203, vI v102]) (rest := []) (k := 0) rfl (by omega) (ax_caV (pc := 6) dX14_emptyCells_6 kX14_ok rfl rfl WM_X14_272 WI_X14_ok WS_X14_ok WN_X14 (ax_rcO (t := 12) (axEx hG rfl) rfl (by decide)) (Nat.le_of_ble_eq_true rfl)) kX14_ok rfl True.intro (T_X14_ok (by omega) hG r103) ?_
  cases hf
  exact x_retI (pc := 9) dX14_emptyCells_9
/- HexPondModel.stonesOf(I)I -/
def fX14_stonesOf (M : ax_M) (a1 : Int) : Option (Int × ax_M) :=
  (if (fX14_isPlayer (mUI M 203 0 0) a1) = 0 then (bd2 (fX14_no (mUI M 203 0 0) 1) fun v104 M103 => (some (v104, M103))) else (bd1 (fX14_count (mUI M 203 0 0) a1) fun v106 => (some (v106, (mUI M 203 0 0)))))
theorem T_X14_stonesOf {G : ax_G} {d : Nat} (hd : 2 ≤ d) (hG : axPs G 150 244) {M : ax_M} {a1 : Int} {r : Int} {M1 : ax_M} (hf : fX14_stonesOf M a1 = some (r, M1)) : ax_Ex G tX14_stonesOf d 0 (ax_args [vR 203, vI a1] ++ List.replicate 0 none) [] M (.inl (some (vI r))) M1 := by
  show ax_Ex G tX14_stonesOf d 0 [some (vR 203), some (vI a1)] [] M _ _
  unfold fX14_stonesOf at hf
  refine x_aload_n (pc := 0) dX14_stonesOf_0 rfl ?_
  refine x_iconst (pc := 1) dX14_stonesOf_1 ⟨by decide, by decide⟩ ?_
  refine x_putI (t := 12) (j := 0) (pc := 2) dX14_stonesOf_2 (axEx hG rfl) rfl (by decide) (by decide) rfl rfl WF_X14_73 ?_
  refine x_iload_n (pc := 5) dX14_stonesOf_5 rfl ?_
  refine x_cr (v := vI (fX14_isPlayer (mUI M 203 0 0) a1)) (vs := [vI a1]) (rest := []) (k := 0) rfl (by omega) (ax_caS (pc := 6) dX14_stonesOf_6 kX14_isPlayer rfl rfl WM_X14_380 WT_X14_isPlayer WN_X14 (Nat.le_of_ble_eq_true rfl)) kX14_isPlayer rfl (Z_X14_isPlayer rfl) (T_X14_isPlayer (by omega) hG rfl) ?_
  refine x_ifeq (tgt := 20) (pc := 9) dX14_stonesOf_9 rfl (fun h101 => ?_) (fun h101 => ?_)
  · replace hf := (if_pos h101).symm.trans hf
    refine x_aload_n (pc := 20) dX14_stonesOf_20 rfl ?_
    refine x_iconst (pc := 21) dX14_stonesOf_21 ⟨by decide, by decide⟩ ?_
    obtain ⟨v104, M103, r102, hf⟩ := bd2_some hf
    refine x_cr (v := vI v104) (vs := [vR 203, vI 1]) (rest := []) (k := 0) rfl (by omega) (ax_caV (pc := 22) dX14_stonesOf_22 kX14_no rfl rfl WM_X14_250 WI_X14_no WS_X14_no WN_X14 (ax_rcO (t := 12) (axEx hG rfl) rfl (by decide)) (Nat.le_of_ble_eq_true rfl)) kX14_no rfl True.intro (T_X14_no (by omega) hG r102) ?_
    cases hf
    exact x_retI (pc := 25) dX14_stonesOf_25
  · replace hf := (if_neg h101).symm.trans hf
    refine x_aload_n (pc := 12) dX14_stonesOf_12 rfl ?_
    refine x_iload_n (pc := 13) dX14_stonesOf_13 rfl ?_
    obtain ⟨v106, r105, hf⟩ := bd1_some hf
    refine x_cr (v := vI v106) (vs := [vR 203, vI a1]) (rest := []) (k := 2) rfl (by omega) (ax_caV (pc := 14) dX14_stonesOf_14 kX14_count rfl rfl WM_X14_307 WI_X14_count WS_X14_count WN_X14 (ax_rcO (t := 12) (axEx hG rfl) rfl (by decide)) (Nat.le_of_ble_eq_true rfl)) kX14_count rfl True.intro (T_X14_count (by omega) hG r105) ?_
    refine x_goto (tgt := 25) (pc := 17) dX14_stonesOf_17 rfl ?_
    cases hf
    exact x_retI (pc := 25) dX14_stonesOf_25
/- HexPondModel.isEmpty(II)Z -/
def fX14_isEmpty (M : ax_M) (a1 : Int) (a2 : Int) : Option (Int × ax_M) :=
  (if (fX14_isOn (mUI M 203 0 0) a1 a2) = 0 then (bd2 (fX14_isNot (mUI M 203 0 0) 1) fun v104 M103 => (some (v104, M103))) else (if 0 ≤ (fX14_at (mUI M 203 0 0) a1 a2) ∧ (fX14_at (mUI M 203 0 0) a1 a2) < 81 then (if (mI (mUI M 203 0 0) 233 (Int.toNat (fX14_at (mUI M 203 0 0) a1 a2))) = (-1) then (some (1, (mUI M 203 0 0))) else (some (0, (mUI M 203 0 0)))) else none))
theorem T_X14_isEmpty {G : ax_G} {d : Nat} (hd : 2 ≤ d) (hG : axPs G 150 244) {M : ax_M} {a1 : Int} {a2 : Int} {r : Int} {M1 : ax_M} (hf : fX14_isEmpty M a1 a2 = some (r, M1)) : ax_Ex G tX14_isEmpty d 0 (ax_args [vR 203, vI a1, vI a2] ++ List.replicate 0 none) [] M (.inl (some (vI r))) M1 := by
  show ax_Ex G tX14_isEmpty d 0 [some (vR 203), some (vI a1), some (vI a2)] [] M _ _
  unfold fX14_isEmpty at hf
  refine x_aload_n (pc := 0) dX14_isEmpty_0 rfl ?_
  refine x_iconst (pc := 1) dX14_isEmpty_1 ⟨by decide, by decide⟩ ?_
  refine x_putI (t := 12) (j := 0) (pc := 2) dX14_isEmpty_2 (axEx hG rfl) rfl (by decide) (by decide) rfl rfl WF_X14_73 ?_
  refine x_aload_n (pc := 5) dX14_isEmpty_5 rfl ?_
  refine x_iload_n (pc := 6) dX14_isEmpty_6 rfl ?_
  refine x_iload_n (pc := 7) dX14_isEmpty_7 rfl ?_
  refine x_cr (v := vI (fX14_isOn (mUI M 203 0 0) a1 a2)) (vs := [vR 203, vI a1, vI a2]) (rest := []) (k := 0) rfl (by omega) (ax_caV (pc := 8) dX14_isEmpty_8 kX14_isOn rfl rfl WM_X14_284 WI_X14_isOn WS_X14_isOn WN_X14 (ax_rcO (t := 12) (axEx hG rfl) rfl (by decide)) (Nat.le_of_ble_eq_true rfl)) kX14_isOn rfl (Z_X14_isOn rfl) (T_X14_isOn (by omega) hG rfl) ?_
  refine x_ifeq (tgt := 37) (pc := 11) dX14_isEmpty_11 rfl (fun h101 => ?_) (fun h101 => ?_)
  · replace hf := (if_pos h101).symm.trans hf
    refine x_aload_n (pc := 37) dX14_isEmpty_37 rfl ?_
    refine x_iconst (pc := 38) dX14_isEmpty_38 ⟨by decide, by decide⟩ ?_
    obtain ⟨v104, M103, r102, hf⟩ := bd2_some hf
    refine x_cr (v := vI v104) (vs := [vR 203, vI 1]) (rest := []) (k := 0) rfl (by omega) (ax_caV (pc := 39) dX14_isEmpty_39 kX14_isNot rfl rfl WM_X14_383 WI_X14_isNot WS_X14_isNot WN_X14 (ax_rcO (t := 12) (axEx hG rfl) rfl (by decide)) (Nat.le_of_ble_eq_true rfl)) kX14_isNot rfl (Z_X14_isNot r102) (T_X14_isNot (by omega) hG r102) ?_
    cases hf
    exact x_retI (pc := 42) dX14_isEmpty_42
  · replace hf := (if_neg h101).symm.trans hf
    refine x_aload_n (pc := 14) dX14_isEmpty_14 rfl ?_
    refine x_getF (t := 12) (j := 15) (r := 233) (pc := 15) dX14_isEmpty_15 (axH hG rfl) (axEx hG rfl) rfl (by decide) (by decide) rfl rfl WF_X14_39 ?_
    refine x_aload_n (pc := 18) dX14_isEmpty_18 rfl ?_
    refine x_iload_n (pc := 19) dX14_isEmpty_19 rfl ?_
    refine x_iload_n (pc := 20) dX14_isEmpty_20 rfl ?_
    refine x_cr (v := vI (fX14_at (mUI M 203 0 0) a1 a2)) (vs := [vR 203, vI a1, vI a2]) (rest := [vR 233]) (k := 0) rfl (by omega) (ax_caV (pc := 21) dX14_isEmpty_21 kX14_at rfl rfl WM_X14_288 WI_X14_at WS_X14_at WN_X14 (ax_rcO (t := 12) (axEx hG rfl) rfl (by decide)) (Nat.le_of_ble_eq_true rfl)) kX14_at rfl True.intro (T_X14_at (by omega) hG rfl) ?_
    by_cases h105 : 0 ≤ (fX14_at (mUI M 203 0 0) a1 a2) ∧ (fX14_at (mUI M 203 0 0) a1 a2) < 81
    · replace hf := (if_pos h105).symm.trans hf
      refine x_iald2 (n := 81) (pc := 24) dX14_isEmpty_24 (axEx hG rfl) rfl h105.1 h105.2 ?_
      refine x_iconst (pc := 25) dX14_isEmpty_25 ⟨by decide, by decide⟩ ?_
      refine x_icmpne (tgt := 33) (pc := 26) dX14_isEmpty_26 rfl (fun h106 => ?_) (fun h106 => ?_)
      · replace hf := (if_neg h106).symm.trans hf
        refine x_iconst (pc := 33) dX14_isEmpty_33 ⟨by decide, by decide⟩ ?_
        refine x_goto (tgt := 42) (pc := 34) dX14_isEmpty_34 rfl ?_
        cases hf
        exact x_retI (pc := 42) dX14_isEmpty_42
      · replace hf := (if_pos h106).symm.trans hf
        refine x_iconst (pc := 29) dX14_isEmpty_29 ⟨by decide, by decide⟩ ?_
        refine x_goto (tgt := 42) (pc := 30) dX14_isEmpty_30 rfl ?_
        cases hf
        exact x_retI (pc := 42) dX14_isEmpty_42
    · replace hf := (if_neg h105).symm.trans hf
      cases hf
theorem Z_X14_isEmpty {M : ax_M} {a1 : Int} {a2 : Int} {r : Int} {M1 : ax_M} (hf : fX14_isEmpty M a1 a2 = some (r, M1)) : r = 0 ∨ r = 1 := by
  unfold fX14_isEmpty at hf
  by_cases h101 : (fX14_isOn (mUI M 203 0 0) a1 a2) = 0
  · replace hf := (if_pos h101).symm.trans hf
    obtain ⟨v104, M103, r102, hf⟩ := bd2_some hf
    cases hf
    exact (Z_X14_isNot r102)
  · replace hf := (if_neg h101).symm.trans hf
    by_cases h105 : 0 ≤ (fX14_at (mUI M 203 0 0) a1 a2) ∧ (fX14_at (mUI M 203 0 0) a1 a2) < 81
    · replace hf := (if_pos h105).symm.trans hf
      by_cases h106 : (mI (mUI M 203 0 0) 233 (Int.toNat (fX14_at (mUI M 203 0 0) a1 a2))) = (-1)
      · replace hf := (if_pos h106).symm.trans hf
        cases hf
        exact Or.inr rfl
      · replace hf := (if_neg h106).symm.trans hf
        cases hf
        exact Or.inl rfl
    · replace hf := (if_neg h105).symm.trans hf
      cases hf
/- HexPondModel.stoneAt(II)I -/
def fX14_stoneAt (M : ax_M) (a1 : Int) (a2 : Int) : Option (Int × ax_M) :=
  (if (fX14_isOn M a1 a2) = 0 then (if (mI (mUI M 203 0 1) 203 0) = 0 then (if 0 ≤ (fX14_at (mUI M 203 0 1) a1 a2) ∧ (fX14_at (mUI M 203 0 1) a1 a2) < 81 then (some ((mI (mUI M 203 0 1) 233 (Int.toNat (fX14_at (mUI M 203 0 1) a1 a2))), (mUI M 203 0 1))) else none) else (some (0, (mUI M 203 0 1)))) else (if 0 ≤ (fX14_at M a1 a2) ∧ (fX14_at M a1 a2) < 81 then (if (mI M 233 (Int.toNat (fX14_at M a1 a2))) = (-1) then (if (mI (mUI M 203 0 2) 203 0) = 0 then (if 0 ≤ (fX14_at (mUI M 203 0 2) a1 a2) ∧ (fX14_at (mUI M 203 0 2) a1 a2) < 81 then (some ((mI (mUI M 203 0 2) 233 (Int.toNat (fX14_at (mUI M 203 0 2) a1 a2))), (mUI M 203 0 2))) else none) else (some (0, (mUI M 203 0 2)))) else (if (mI (mUI M 203 0 0) 203 0) = 0 then (if 0 ≤ (fX14_at (mUI M 203 0 0) a1 a2) ∧ (fX14_at (mUI M 203 0 0) a1 a2) < 81 then (some ((mI (mUI M 203 0 0) 233 (Int.toNat (fX14_at (mUI M 203 0 0) a1 a2))), (mUI M 203 0 0))) else none) else (some (0, (mUI M 203 0 0))))) else none))
theorem T_X14_stoneAt {G : ax_G} {d : Nat} (hd : 2 ≤ d) (hG : axPs G 150 244) {M : ax_M} {a1 : Int} {a2 : Int} {r : Int} {M1 : ax_M} (hf : fX14_stoneAt M a1 a2 = some (r, M1)) : ax_Ex G tX14_stoneAt d 0 (ax_args [vR 203, vI a1, vI a2] ++ List.replicate 0 none) [] M (.inl (some (vI r))) M1 := by
  show ax_Ex G tX14_stoneAt d 0 [some (vR 203), some (vI a1), some (vI a2)] [] M _ _
  unfold fX14_stoneAt at hf
  refine x_aload_n (pc := 0) dX14_stoneAt_0 rfl ?_
  refine x_aload_n (pc := 1) dX14_stoneAt_1 rfl ?_
  refine x_iload_n (pc := 2) dX14_stoneAt_2 rfl ?_
  refine x_iload_n (pc := 3) dX14_stoneAt_3 rfl ?_
  refine x_cr (v := vI (fX14_isOn M a1 a2)) (vs := [vR 203, vI a1, vI a2]) (rest := [vR 203]) (k := 0) rfl (by omega) (ax_caV (pc := 4) dX14_stoneAt_4 kX14_isOn rfl rfl WM_X14_284 WI_X14_isOn WS_X14_isOn WN_X14 (ax_rcO (t := 12) (axEx hG rfl) rfl (by decide)) (Nat.le_of_ble_eq_true rfl)) kX14_isOn rfl (Z_X14_isOn rfl) (T_X14_isOn (by omega) hG rfl) ?_
  refine x_ifne (tgt := 14) (pc := 7) dX14_stoneAt_7 rfl (fun h101 => ?_) (fun h101 => ?_)
  · replace hf := (if_neg h101).symm.trans hf
    refine x_aload_n (pc := 14) dX14_stoneAt_14 rfl ?_
    refine x_getF (t := 12) (j := 15) (r := 233) (pc := 15) dX14_stoneAt_15 (axH hG rfl) (axEx hG rfl) rfl (by decide) (by decide) rfl rfl WF_X14_39 ?_
    refine x_aload_n (pc := 18) dX14_stoneAt_18 rfl ?_
    refine x_iload_n (pc := 19) dX14_stoneAt_19 rfl ?_
    refine x_iload_n (pc := 20) dX14_stoneAt_20 rfl ?_
    refine x_cr (v := vI (fX14_at M a1 a2)) (vs := [vR 203, vI a1, vI a2]) (rest := [vR 233, vR 203]) (k := 0) rfl (by omega) (ax_caV (pc := 21) dX14_stoneAt_21 kX14_at rfl rfl WM_X14_288 WI_X14_at WS_X14_at WN_X14 (ax_rcO (t := 12) (axEx hG rfl) rfl (by decide)) (Nat.le_of_ble_eq_true rfl)) kX14_at rfl True.intro (T_X14_at (by omega) hG rfl) ?_
    by_cases h104 : 0 ≤ (fX14_at M a1 a2) ∧ (fX14_at M a1 a2) < 81
    · replace hf := (if_pos h104).symm.trans hf
      refine x_iald2 (n := 81) (pc := 24) dX14_stoneAt_24 (axEx hG rfl) rfl h104.1 h104.2 ?_
      refine x_iconst (pc := 25) dX14_stoneAt_25 ⟨by decide, by decide⟩ ?_
      refine x_icmpne (tgt := 33) (pc := 26) dX14_stoneAt_26 rfl (fun h105 => ?_) (fun h105 => ?_)
      · replace hf := (if_neg h105).symm.trans hf
        refine x_iconst (pc := 33) dX14_stoneAt_33 ⟨by decide, by decide⟩ ?_
        refine x_putI (t := 12) (j := 0) (pc := 34) dX14_stoneAt_34 (axEx hG rfl) rfl (by decide) (by decide) rfl rfl WF_X14_73 ?_
        refine x_aload_n (pc := 37) dX14_stoneAt_37 rfl ?_
        refine x_getI (t := 12) (j := 0) (pc := 38) dX14_stoneAt_38 (axEx hG rfl) rfl (by decide) (by decide) rfl WF_X14_73 ?_
        refine x_ifne (tgt := 58) (pc := 41) dX14_stoneAt_41 rfl (fun h108 => ?_) (fun h108 => ?_)
        · replace hf := (if_neg h108).symm.trans hf
          refine x_iconst (pc := 58) dX14_stoneAt_58 ⟨by decide, by decide⟩ ?_
          cases hf
          exact x_retI (pc := 59) dX14_stoneAt_59
        · replace hf := (if_pos h108).symm.trans hf
          refine x_aload_n (pc := 44) dX14_stoneAt_44 rfl ?_
          refine x_getF (t := 12) (j := 15) (r := 233) (pc := 45) dX14_stoneAt_45 (axH hG rfl) (axEx hG rfl) rfl (by decide) (by decide) rfl rfl WF_X14_39 ?_
          refine x_aload_n (pc := 48) dX14_stoneAt_48 rfl ?_
          refine x_iload_n (pc := 49) dX14_stoneAt_49 rfl ?_
          refine x_iload_n (pc := 50) dX14_stoneAt_50 rfl ?_
          refine x_cr (v := vI (fX14_at (mUI M 203 0 0) a1 a2)) (vs := [vR 203, vI a1, vI a2]) (rest := [vR 233]) (k := 0) rfl (by omega) (ax_caV (pc := 51) dX14_stoneAt_51 kX14_at rfl rfl WM_X14_288 WI_X14_at WS_X14_at WN_X14 (ax_rcO (t := 12) (axEx hG rfl) rfl (by decide)) (Nat.le_of_ble_eq_true rfl)) kX14_at rfl True.intro (T_X14_at (by omega) hG rfl) ?_
          by_cases h109 : 0 ≤ (fX14_at (mUI M 203 0 0) a1 a2) ∧ (fX14_at (mUI M 203 0 0) a1 a2) < 81
          · replace hf := (if_pos h109).symm.trans hf
            refine x_iald2 (n := 81) (pc := 54) dX14_stoneAt_54 (axEx hG rfl) rfl h109.1 h109.2 ?_
            refine x_goto (tgt := 59) (pc := 55) dX14_stoneAt_55 rfl ?_
            cases hf
            exact x_retI (pc := 59) dX14_stoneAt_59
          · replace hf := (if_neg h109).symm.trans hf
            cases hf
      · replace hf := (if_pos h105).symm.trans hf
        refine x_iconst (pc := 29) dX14_stoneAt_29 ⟨by decide, by decide⟩ ?_
        refine x_goto (tgt := 34) (pc := 30) dX14_stoneAt_30 rfl ?_
        refine x_putI (t := 12) (j := 0) (pc := 34) dX14_stoneAt_34 (axEx hG rfl) rfl (by decide) (by decide) rfl rfl WF_X14_73 ?_
        refine x_aload_n (pc := 37) dX14_stoneAt_37 rfl ?_
        refine x_getI (t := 12) (j := 0) (pc := 38) dX14_stoneAt_38 (axEx hG rfl) rfl (by decide) (by decide) rfl WF_X14_73 ?_
        refine x_ifne (tgt := 58) (pc := 41) dX14_stoneAt_41 rfl (fun h106 => ?_) (fun h106 => ?_)
        · replace hf := (if_neg h106).symm.trans hf
          refine x_iconst (pc := 58) dX14_stoneAt_58 ⟨by decide, by decide⟩ ?_
          cases hf
          exact x_retI (pc := 59) dX14_stoneAt_59
        · replace hf := (if_pos h106).symm.trans hf
          refine x_aload_n (pc := 44) dX14_stoneAt_44 rfl ?_
          refine x_getF (t := 12) (j := 15) (r := 233) (pc := 45) dX14_stoneAt_45 (axH hG rfl) (axEx hG rfl) rfl (by decide) (by decide) rfl rfl WF_X14_39 ?_
          refine x_aload_n (pc := 48) dX14_stoneAt_48 rfl ?_
          refine x_iload_n (pc := 49) dX14_stoneAt_49 rfl ?_
          refine x_iload_n (pc := 50) dX14_stoneAt_50 rfl ?_
          refine x_cr (v := vI (fX14_at (mUI M 203 0 2) a1 a2)) (vs := [vR 203, vI a1, vI a2]) (rest := [vR 233]) (k := 0) rfl (by omega) (ax_caV (pc := 51) dX14_stoneAt_51 kX14_at rfl rfl WM_X14_288 WI_X14_at WS_X14_at WN_X14 (ax_rcO (t := 12) (axEx hG rfl) rfl (by decide)) (Nat.le_of_ble_eq_true rfl)) kX14_at rfl True.intro (T_X14_at (by omega) hG rfl) ?_
          by_cases h107 : 0 ≤ (fX14_at (mUI M 203 0 2) a1 a2) ∧ (fX14_at (mUI M 203 0 2) a1 a2) < 81
          · replace hf := (if_pos h107).symm.trans hf
            refine x_iald2 (n := 81) (pc := 54) dX14_stoneAt_54 (axEx hG rfl) rfl h107.1 h107.2 ?_
            refine x_goto (tgt := 59) (pc := 55) dX14_stoneAt_55 rfl ?_
            cases hf
            exact x_retI (pc := 59) dX14_stoneAt_59
          · replace hf := (if_neg h107).symm.trans hf
            cases hf
    · replace hf := (if_neg h104).symm.trans hf
      cases hf
  · replace hf := (if_pos h101).symm.trans hf
    refine x_iconst (pc := 10) dX14_stoneAt_10 ⟨by decide, by decide⟩ ?_
    refine x_goto (tgt := 34) (pc := 11) dX14_stoneAt_11 rfl ?_
    refine x_putI (t := 12) (j := 0) (pc := 34) dX14_stoneAt_34 (axEx hG rfl) rfl (by decide) (by decide) rfl rfl WF_X14_73 ?_
    refine x_aload_n (pc := 37) dX14_stoneAt_37 rfl ?_
    refine x_getI (t := 12) (j := 0) (pc := 38) dX14_stoneAt_38 (axEx hG rfl) rfl (by decide) (by decide) rfl WF_X14_73 ?_
    refine x_ifne (tgt := 58) (pc := 41) dX14_stoneAt_41 rfl (fun h102 => ?_) (fun h102 => ?_)
    · replace hf := (if_neg h102).symm.trans hf
      refine x_iconst (pc := 58) dX14_stoneAt_58 ⟨by decide, by decide⟩ ?_
      cases hf
      exact x_retI (pc := 59) dX14_stoneAt_59
    · replace hf := (if_pos h102).symm.trans hf
      refine x_aload_n (pc := 44) dX14_stoneAt_44 rfl ?_
      refine x_getF (t := 12) (j := 15) (r := 233) (pc := 45) dX14_stoneAt_45 (axH hG rfl) (axEx hG rfl) rfl (by decide) (by decide) rfl rfl WF_X14_39 ?_
      refine x_aload_n (pc := 48) dX14_stoneAt_48 rfl ?_
      refine x_iload_n (pc := 49) dX14_stoneAt_49 rfl ?_
      refine x_iload_n (pc := 50) dX14_stoneAt_50 rfl ?_
      refine x_cr (v := vI (fX14_at (mUI M 203 0 1) a1 a2)) (vs := [vR 203, vI a1, vI a2]) (rest := [vR 233]) (k := 0) rfl (by omega) (ax_caV (pc := 51) dX14_stoneAt_51 kX14_at rfl rfl WM_X14_288 WI_X14_at WS_X14_at WN_X14 (ax_rcO (t := 12) (axEx hG rfl) rfl (by decide)) (Nat.le_of_ble_eq_true rfl)) kX14_at rfl True.intro (T_X14_at (by omega) hG rfl) ?_
      by_cases h103 : 0 ≤ (fX14_at (mUI M 203 0 1) a1 a2) ∧ (fX14_at (mUI M 203 0 1) a1 a2) < 81
      · replace hf := (if_pos h103).symm.trans hf
        refine x_iald2 (n := 81) (pc := 54) dX14_stoneAt_54 (axEx hG rfl) rfl h103.1 h103.2 ?_
        refine x_goto (tgt := 59) (pc := 55) dX14_stoneAt_55 rfl ?_
        cases hf
        exact x_retI (pc := 59) dX14_stoneAt_59
      · replace hf := (if_neg h103).symm.trans hf
        cases hf
/- HexPondModel.ownerOf(II)I -/
def fX14_ownerOf (M : ax_M) (a1 : Int) (a2 : Int) : Option (Int × ax_M) :=
  (bd2 (fX14_stoneAt M a1 a2) fun v103 M102 => (some (v103, M102)))
theorem T_X14_ownerOf {G : ax_G} {d : Nat} (hd : 3 ≤ d) (hG : axPs G 150 244) {M : ax_M} {a1 : Int} {a2 : Int} {r : Int} {M1 : ax_M} (hf : fX14_ownerOf M a1 a2 = some (r, M1)) : ax_Ex G tX14_ownerOf d 0 (ax_args [vR 203, vI a1, vI a2] ++ List.replicate 0 none) [] M (.inl (some (vI r))) M1 := by
  show ax_Ex G tX14_ownerOf d 0 [some (vR 203), some (vI a1), some (vI a2)] [] M _ _
  unfold fX14_ownerOf at hf
  refine x_aload_n (pc := 0) dX14_ownerOf_0 rfl ?_
  refine x_iload_n (pc := 1) dX14_ownerOf_1 rfl ?_
  refine x_iload_n (pc := 2) dX14_ownerOf_2 rfl ?_
  obtain ⟨v103, M102, r101, hf⟩ := bd2_some hf
  refine x_cr (v := vI v103) (vs := [vR 203, vI a1, vI a2]) (rest := []) (k := 0) rfl (by omega) (ax_caV (pc := 3) dX14_ownerOf_3 kX14_stoneAt rfl rfl WM_X14_386 WI_X14_stoneAt WS_X14_stoneAt WN_X14 (ax_rcO (t := 12) (axEx hG rfl) rfl (by decide)) (Nat.le_of_ble_eq_true rfl)) kX14_stoneAt rfl True.intro (T_X14_stoneAt (by omega) hG r101) ?_
  cases hf
  exact x_retI (pc := 6) dX14_ownerOf_6
/- HexPondModel.hasWon(I)Z -/
def fX14_hasWon (M : ax_M) (a1 : Int) : Option (Int × ax_M) :=
  (if (fX14_isPlayer (mUI M 203 0 0) a1) = 0 then (bd2 (fX14_isNot (mUI M 203 0 0) 1) fun v104 M103 => (some (v104, M103))) else (bd2 (fX14_won (mUI M 203 0 0) a1) fun v107 M106 => (some (v107, M106))))
theorem T_X14_hasWon {G : ax_G} {d : Nat} (hd : 4 ≤ d) (hG : axPs G 150 244) {M : ax_M} {a1 : Int} {r : Int} {M1 : ax_M} (hf : fX14_hasWon M a1 = some (r, M1)) : ax_Ex G tX14_hasWon d 0 (ax_args [vR 203, vI a1] ++ List.replicate 0 none) [] M (.inl (some (vI r))) M1 := by
  show ax_Ex G tX14_hasWon d 0 [some (vR 203), some (vI a1)] [] M _ _
  unfold fX14_hasWon at hf
  refine x_aload_n (pc := 0) dX14_hasWon_0 rfl ?_
  refine x_iconst (pc := 1) dX14_hasWon_1 ⟨by decide, by decide⟩ ?_
  refine x_putI (t := 12) (j := 0) (pc := 2) dX14_hasWon_2 (axEx hG rfl) rfl (by decide) (by decide) rfl rfl WF_X14_73 ?_
  refine x_iload_n (pc := 5) dX14_hasWon_5 rfl ?_
  refine x_cr (v := vI (fX14_isPlayer (mUI M 203 0 0) a1)) (vs := [vI a1]) (rest := []) (k := 0) rfl (by omega) (ax_caS (pc := 6) dX14_hasWon_6 kX14_isPlayer rfl rfl WM_X14_380 WT_X14_isPlayer WN_X14 (Nat.le_of_ble_eq_true rfl)) kX14_isPlayer rfl (Z_X14_isPlayer rfl) (T_X14_isPlayer (by omega) hG rfl) ?_
  refine x_ifeq (tgt := 20) (pc := 9) dX14_hasWon_9 rfl (fun h101 => ?_) (fun h101 => ?_)
  · replace hf := (if_pos h101).symm.trans hf
    refine x_aload_n (pc := 20) dX14_hasWon_20 rfl ?_
    refine x_iconst (pc := 21) dX14_hasWon_21 ⟨by decide, by decide⟩ ?_
    obtain ⟨v104, M103, r102, hf⟩ := bd2_some hf
    refine x_cr (v := vI v104) (vs := [vR 203, vI 1]) (rest := []) (k := 0) rfl (by omega) (ax_caV (pc := 22) dX14_hasWon_22 kX14_isNot rfl rfl WM_X14_383 WI_X14_isNot WS_X14_isNot WN_X14 (ax_rcO (t := 12) (axEx hG rfl) rfl (by decide)) (Nat.le_of_ble_eq_true rfl)) kX14_isNot rfl (Z_X14_isNot r102) (T_X14_isNot (by omega) hG r102) ?_
    cases hf
    exact x_retI (pc := 25) dX14_hasWon_25
  · replace hf := (if_neg h101).symm.trans hf
    refine x_aload_n (pc := 12) dX14_hasWon_12 rfl ?_
    refine x_iload_n (pc := 13) dX14_hasWon_13 rfl ?_
    obtain ⟨v107, M106, r105, hf⟩ := bd2_some hf
    refine x_cr (v := vI v107) (vs := [vR 203, vI a1]) (rest := []) (k := 4) rfl (by omega) (ax_caV (pc := 14) dX14_hasWon_14 kX14_won rfl rfl WM_X14_304 WI_X14_won WS_X14_won WN_X14 (ax_rcO (t := 12) (axEx hG rfl) rfl (by decide)) (Nat.le_of_ble_eq_true rfl)) kX14_won rfl (Z_X14_won r105) (T_X14_won (by omega) hG r105) ?_
    refine x_goto (tgt := 25) (pc := 17) dX14_hasWon_17 rfl ?_
    cases hf
    exact x_retI (pc := 25) dX14_hasWon_25
theorem Z_X14_hasWon {M : ax_M} {a1 : Int} {r : Int} {M1 : ax_M} (hf : fX14_hasWon M a1 = some (r, M1)) : r = 0 ∨ r = 1 := by
  unfold fX14_hasWon at hf
  by_cases h101 : (fX14_isPlayer (mUI M 203 0 0) a1) = 0
  · replace hf := (if_pos h101).symm.trans hf
    obtain ⟨v104, M103, r102, hf⟩ := bd2_some hf
    cases hf
    exact (Z_X14_isNot r102)
  · replace hf := (if_neg h101).symm.trans hf
    obtain ⟨v107, M106, r105, hf⟩ := bd2_some hf
    cases hf
    exact (Z_X14_won r105)
/- HexPondModel.isOver()Z -/
def fX14_isOver (M : ax_M) : Option (Int × ax_M) :=
  (bd2 (fX14_over (mUI M 203 0 0)) fun v103 M102 => (some (v103, M102)))
theorem T_X14_isOver {G : ax_G} {d : Nat} (hd : 5 ≤ d) (hG : axPs G 150 244) {M : ax_M} {r : Int} {M1 : ax_M} (hf : fX14_isOver M = some (r, M1)) : ax_Ex G tX14_isOver d 0 (ax_args [vR 203] ++ List.replicate 0 none) [] M (.inl (some (vI r))) M1 := by
  show ax_Ex G tX14_isOver d 0 [some (vR 203)] [] M _ _
  unfold fX14_isOver at hf
  refine x_aload_n (pc := 0) dX14_isOver_0 rfl ?_
  refine x_iconst (pc := 1) dX14_isOver_1 ⟨by decide, by decide⟩ ?_
  refine x_putI (t := 12) (j := 0) (pc := 2) dX14_isOver_2 (axEx hG rfl) rfl (by decide) (by decide) rfl rfl WF_X14_73 ?_
  refine x_aload_n (pc := 5) dX14_isOver_5 rfl ?_
  obtain ⟨v103, M102, r101, hf⟩ := bd2_some hf
  refine x_cr (v := vI v103) (vs := [vR 203]) (rest := []) (k := 0) rfl (by omega) (ax_caV (pc := 6) dX14_isOver_6 kX14_over rfl rfl WM_X14_370 WI_X14_over WS_X14_over WN_X14 (ax_rcO (t := 12) (axEx hG rfl) rfl (by decide)) (Nat.le_of_ble_eq_true rfl)) kX14_over rfl (Z_X14_over r101) (T_X14_over (by omega) hG r101) ?_
  cases hf
  exact x_retI (pc := 9) dX14_isOver_9
theorem Z_X14_isOver {M : ax_M} {r : Int} {M1 : ax_M} (hf : fX14_isOver M = some (r, M1)) : r = 0 ∨ r = 1 := by
  unfold fX14_isOver at hf
  obtain ⟨v103, M102, r101, hf⟩ := bd2_some hf
  cases hf
  exact (Z_X14_over r101)
/- HexPondModel.playerInTurn()I -/
def fX14_playerInTurn (M : ax_M) : Option (Int × ax_M) :=
  (bd2 (fX14_over (mUI M 203 0 0)) fun v103 M102 => (if v103 = 0 then (bd1 (fX14_inTurn M102) fun v106 => (some (v106, M102))) else (bd2 (fX14_no M102 1) fun v109 M108 => (some (v109, M108)))))
theorem T_X14_playerInTurn {G : ax_G} {d : Nat} (hd : 5 ≤ d) (hG : axPs G 150 244) {M : ax_M} {r : Int} {M1 : ax_M} (hf : fX14_playerInTurn M = some (r, M1)) : ax_Ex G tX14_playerInTurn d 0 (ax_args [vR 203] ++ List.replicate 0 none) [] M (.inl (some (vI r))) M1 := by
  show ax_Ex G tX14_playerInTurn d 0 [some (vR 203)] [] M _ _
  unfold fX14_playerInTurn at hf
  refine x_aload_n (pc := 0) dX14_playerInTurn_0 rfl ?_
  refine x_iconst (pc := 1) dX14_playerInTurn_1 ⟨by decide, by decide⟩ ?_
  refine x_putI (t := 12) (j := 0) (pc := 2) dX14_playerInTurn_2 (axEx hG rfl) rfl (by decide) (by decide) rfl rfl WF_X14_73 ?_
  refine x_aload_n (pc := 5) dX14_playerInTurn_5 rfl ?_
  obtain ⟨v103, M102, r101, hf⟩ := bd2_some hf
  refine x_cr (v := vI v103) (vs := [vR 203]) (rest := []) (k := 0) rfl (by omega) (ax_caV (pc := 6) dX14_playerInTurn_6 kX14_over rfl rfl WM_X14_370 WI_X14_over WS_X14_over WN_X14 (ax_rcO (t := 12) (axEx hG rfl) rfl (by decide)) (Nat.le_of_ble_eq_true rfl)) kX14_over rfl (Z_X14_over r101) (T_X14_over (by omega) hG r101) ?_
  refine x_ifeq (tgt := 20) (pc := 9) dX14_playerInTurn_9 rfl (fun h104 => ?_) (fun h104 => ?_)
  · replace hf := (if_pos h104).symm.trans hf
    refine x_aload_n (pc := 20) dX14_playerInTurn_20 rfl ?_
    obtain ⟨v106, r105, hf⟩ := bd1_some hf
    refine x_cr (v := vI v106) (vs := [vR 203]) (rest := []) (k := 0) rfl (by omega) (ax_caV (pc := 21) dX14_playerInTurn_21 kX14_inTurn rfl rfl WM_X14_374 WI_X14_inTurn WS_X14_inTurn WN_X14 (ax_rcO (t := 12) (axEx hG rfl) rfl (by decide)) (Nat.le_of_ble_eq_true rfl)) kX14_inTurn rfl True.intro (T_X14_inTurn (by omega) hG r105) ?_
    cases hf
    exact x_retI (pc := 24) dX14_playerInTurn_24
  · replace hf := (if_neg h104).symm.trans hf
    refine x_aload_n (pc := 12) dX14_playerInTurn_12 rfl ?_
    refine x_iconst (pc := 13) dX14_playerInTurn_13 ⟨by decide, by decide⟩ ?_
    obtain ⟨v109, M108, r107, hf⟩ := bd2_some hf
    refine x_cr (v := vI v109) (vs := [vR 203, vI 1]) (rest := []) (k := 0) rfl (by omega) (ax_caV (pc := 14) dX14_playerInTurn_14 kX14_no rfl rfl WM_X14_250 WI_X14_no WS_X14_no WN_X14 (ax_rcO (t := 12) (axEx hG rfl) rfl (by decide)) (Nat.le_of_ble_eq_true rfl)) kX14_no rfl True.intro (T_X14_no (by omega) hG r107) ?_
    refine x_goto (tgt := 24) (pc := 17) dX14_playerInTurn_17 rfl ?_
    cases hf
    exact x_retI (pc := 24) dX14_playerInTurn_24
/- HexPondModel.stonesBeside(III)I -/
def fX14_stonesBeside_b33 (M : ax_M) (x1 : Int) (x2 : Int) (x3 : Int) (v4 : Int) (v5 : Int) : Option ((Int × Int) ⊕ Int) :=
  (if v5 < 6 then (bd1 (fX14_beside M (fX14_at M x2 x3) v5) fun v112 => (if v112 = (-1) then (some (.inl ((wr (v4 + 0)), (v5 + 1)))) else (if 0 ≤ v112 ∧ v112 < 81 then (if (mI M 233 (Int.toNat v112)) = x1 then (some (.inl ((wr (v4 + 1)), (v5 + 1)))) else (some (.inl ((wr (v4 + 0)), (v5 + 1))))) else none))) else (some (.inr v4)))
def fX14_stonesBeside (M : ax_M) (a1 : Int) (a2 : Int) (a3 : Int) : Option (Int × ax_M) :=
  (if (fX14_isPlayer (mUI M 203 0 0) a1) = 0 then (bd2 (fX14_no (mUI M 203 0 0) 1) fun v104 M103 => (some (v104, M103))) else (if (fX14_isOn (mUI M 203 0 0) a2 a3) = 0 then (bd2 (fX14_no (mUI M 203 0 0) 1) fun v108 M107 => (some (v108, M107))) else (bd1 (lp (fun s => fX14_stonesBeside_b33 (mUI M 203 0 0) a1 a2 a3 s.1 s.2) lpN (0, 0)) fun t116 => (some (t116, (mUI M 203 0 0))))))
theorem B_X14_stonesBeside_33 {G : ax_G} {d : Nat} (hd : 3 ≤ d) (hG : axPs G 150 244) {M : ax_M} {x1 : Int} {x2 : Int} {x3 : Int} {v4 : Int} {v5 : Int} {o : Option ax_V ⊕ String} {M' : ax_M} {y : (Int × Int) ⊕ Int} (hf : fX14_stonesBeside_b33 M x1 x2 x3 v4 v5 = some y) (h1 : ∀ s', y = .inl s' → ax_Ex G tX14_stonesBeside d 33 [some (vR 203), some (vI x1), some (vI x2), some (vI x3), some (vI s'.1), some (vI s'.2), none] [] M o M') (h2a : ∀ t, y = .inr t → ax_Ex G tX14_stonesBeside d 87 [some (vR 203), some (vI x1), some (vI x2), some (vI x3), some (vI t), none, none] [] M o M') : ax_Ex G tX14_stonesBeside d 33 [some (vR 203), some (vI x1), some (vI x2), some (vI x3), some (vI v4), some (vI v5), none] [] M o M' := by
  unfold fX14_stonesBeside_b33 at hf
  refine x_iload (pc := 33) dX14_stonesBeside_33 rfl ?_
  refine x_bipush (pc := 35) dX14_stonesBeside_35 (by decide) ⟨by decide, by decide⟩ ?_
  refine ax_cmp (fun b110a b110b b110c b110e => ?_)
  refine x_icmpge (tgt := 87) (pc := 37) dX14_stonesBeside_37 rfl (fun h109 => ?_) (fun h109 => ?_)
  · replace hf := (if_neg (Int.not_lt.mpr h109)).symm.trans hf
    cases hf
    exact x_fgt (axS' (axS' (axS' (axS' (axS' (axN' (axN' axD))))))) (h2a _ rfl)
  · replace hf := (if_pos h109).symm.trans hf
    refine x_aload_n (pc := 40) dX14_stonesBeside_40 rfl ?_
    refine x_aload_n (pc := 41) dX14_stonesBeside_41 rfl ?_
    refine x_iload_n (pc := 42) dX14_stonesBeside_42 rfl ?_
    refine x_iload_n (pc := 43) dX14_stonesBeside_43 rfl ?_
    refine x_cr (v := vI (fX14_at M x2 x3)) (vs := [vR 203, vI x2, vI x3]) (rest := [vR 203]) (k := 0) rfl (by omega) (ax_caV (pc := 44) dX14_stonesBeside_44 kX14_at rfl rfl WM_X14_288 WI_X14_at WS_X14_at WN_X14 (ax_rcO (t := 12) (axEx hG rfl) rfl (by decide)) (Nat.le_of_ble_eq_true rfl)) kX14_at rfl True.intro (T_X14_at (by omega) hG rfl) ?_
    refine x_iload (pc := 47) dX14_stonesBeside_47 rfl ?_
    obtain ⟨v112, r111, hf⟩ := bd1_some hf
    refine x_cr (v := vI v112) (vs := [vR 203, vI (fX14_at M x2 x3), vI v5]) (rest := []) (k := 2) rfl (by omega) (ax_caV (pc := 49) dX14_stonesBeside_49 kX14_beside rfl rfl WM_X14_297 WI_X14_beside WS_X14_beside WN_X14 (ax_rcO (t := 12) (axEx hG rfl) rfl (by decide)) (Nat.le_of_ble_eq_true rfl)) kX14_beside rfl True.intro (T_X14_beside (by omega) hG r111) ?_
    refine x_istore (ls' := [some (vR 203), some (vI x1), some (vI x2), some (vI x3), some (vI v4), some (vI v5), some (vI v112)]) (pc := 52) dX14_stonesBeside_52 (Nat.le_of_ble_eq_true rfl) rfl rfl ?_
    refine x_iload (pc := 54) dX14_stonesBeside_54 rfl ?_
    refine x_iload (pc := 56) dX14_stonesBeside_56 rfl ?_
    refine x_iconst (pc := 58) dX14_stonesBeside_58 ⟨by decide, by decide⟩ ?_
    refine x_icmpeq (tgt := 77) (pc := 59) dX14_stonesBeside_59 rfl (fun h113 => ?_) (fun h113 => ?_)
    · replace hf := (if_pos h113).symm.trans hf
      refine x_iconst (pc := 77) dX14_stonesBeside_77 ⟨by decide, by decide⟩ ?_
      refine x_iaddw (pc := 78) dX14_stonesBeside_78 ?_
      refine x_istore (ls' := [some (vR 203), some (vI x1), some (vI x2), some (vI x3), some (vI (wr (v4 + 0))), some (vI v5), some (vI v112)]) (pc := 79) dX14_stonesBeside_79 (Nat.le_of_ble_eq_true rfl) rfl rfl ?_
      refine x_iinc (z := (v5 + 1)) (ls' := [some (vR 203), some (vI x1), some (vI x2), some (vI x3), some (vI (wr (v4 + 0))), some (vI (v5 + 1)), some (vI v112)]) (pc := 81) dX14_stonesBeside_81 rfl (Nat.le_of_ble_eq_true rfl) rfl rfl (ax_i (by omega) (by omega)) rfl ?_
      refine x_goto (tgt := 33) (pc := 84) dX14_stonesBeside_84 rfl ?_
      cases hf
      exact x_fgt (axS' (axS' (axS' (axS' (axS' (axS' (axN' axD))))))) (h1 _ rfl)
    · replace hf := (if_neg h113).symm.trans hf
      refine x_aload_n (pc := 62) dX14_stonesBeside_62 rfl ?_
      refine x_getF (t := 12) (j := 15) (r := 233) (pc := 63) dX14_stonesBeside_63 (axH hG rfl) (axEx hG rfl) rfl (by decide) (by decide) rfl rfl WF_X14_39 ?_
      refine x_iload (pc := 66) dX14_stonesBeside_66 rfl ?_
      by_cases h114 : 0 ≤ v112 ∧ v112 < 81
      · replace hf := (if_pos h114).symm.trans hf
        refine x_iald2 (n := 81) (pc := 68) dX14_stonesBeside_68 (axEx hG rfl) rfl h114.1 h114.2 ?_
        refine x_iload_n (pc := 69) dX14_stonesBeside_69 rfl ?_
        refine x_icmpne (tgt := 77) (pc := 70) dX14_stonesBeside_70 rfl (fun h115 => ?_) (fun h115 => ?_)
        · replace hf := (if_neg h115).symm.trans hf
          refine x_iconst (pc := 77) dX14_stonesBeside_77 ⟨by decide, by decide⟩ ?_
          refine x_iaddw (pc := 78) dX14_stonesBeside_78 ?_
          refine x_istore (ls' := [some (vR 203), some (vI x1), some (vI x2), some (vI x3), some (vI (wr (v4 + 0))), some (vI v5), some (vI v112)]) (pc := 79) dX14_stonesBeside_79 (Nat.le_of_ble_eq_true rfl) rfl rfl ?_
          refine x_iinc (z := (v5 + 1)) (ls' := [some (vR 203), some (vI x1), some (vI x2), some (vI x3), some (vI (wr (v4 + 0))), some (vI (v5 + 1)), some (vI v112)]) (pc := 81) dX14_stonesBeside_81 rfl (Nat.le_of_ble_eq_true rfl) rfl rfl (ax_i (by omega) (by omega)) rfl ?_
          refine x_goto (tgt := 33) (pc := 84) dX14_stonesBeside_84 rfl ?_
          cases hf
          exact x_fgt (axS' (axS' (axS' (axS' (axS' (axS' (axN' axD))))))) (h1 _ rfl)
        · replace hf := (if_pos h115).symm.trans hf
          refine x_iconst (pc := 73) dX14_stonesBeside_73 ⟨by decide, by decide⟩ ?_
          refine x_goto (tgt := 78) (pc := 74) dX14_stonesBeside_74 rfl ?_
          refine x_iaddw (pc := 78) dX14_stonesBeside_78 ?_
          refine x_istore (ls' := [some (vR 203), some (vI x1), some (vI x2), some (vI x3), some (vI (wr (v4 + 1))), some (vI v5), some (vI v112)]) (pc := 79) dX14_stonesBeside_79 (Nat.le_of_ble_eq_true rfl) rfl rfl ?_
          refine x_iinc (z := (v5 + 1)) (ls' := [some (vR 203), some (vI x1), some (vI x2), some (vI x3), some (vI (wr (v4 + 1))), some (vI (v5 + 1)), some (vI v112)]) (pc := 81) dX14_stonesBeside_81 rfl (Nat.le_of_ble_eq_true rfl) rfl rfl (ax_i (by omega) (by omega)) rfl ?_
          refine x_goto (tgt := 33) (pc := 84) dX14_stonesBeside_84 rfl ?_
          cases hf
          exact x_fgt (axS' (axS' (axS' (axS' (axS' (axS' (axN' axD))))))) (h1 _ rfl)
      · replace hf := (if_neg h114).symm.trans hf
        cases hf
theorem T_X14_stonesBeside {G : ax_G} {d : Nat} (hd : 3 ≤ d) (hG : axPs G 150 244) {M : ax_M} {a1 : Int} {a2 : Int} {a3 : Int} {r : Int} {M1 : ax_M} (hf : fX14_stonesBeside M a1 a2 a3 = some (r, M1)) : ax_Ex G tX14_stonesBeside d 0 (ax_args [vR 203, vI a1, vI a2, vI a3] ++ List.replicate 3 none) [] M (.inl (some (vI r))) M1 := by
  show ax_Ex G tX14_stonesBeside d 0 [some (vR 203), some (vI a1), some (vI a2), some (vI a3), none, none, none] [] M _ _
  unfold fX14_stonesBeside at hf
  refine x_aload_n (pc := 0) dX14_stonesBeside_0 rfl ?_
  refine x_iconst (pc := 1) dX14_stonesBeside_1 ⟨by decide, by decide⟩ ?_
  refine x_putI (t := 12) (j := 0) (pc := 2) dX14_stonesBeside_2 (axEx hG rfl) rfl (by decide) (by decide) rfl rfl WF_X14_73 ?_
  refine x_iload_n (pc := 5) dX14_stonesBeside_5 rfl ?_
  refine x_cr (v := vI (fX14_isPlayer (mUI M 203 0 0) a1)) (vs := [vI a1]) (rest := []) (k := 0) rfl (by omega) (ax_caS (pc := 6) dX14_stonesBeside_6 kX14_isPlayer rfl rfl WM_X14_380 WT_X14_isPlayer WN_X14 (Nat.le_of_ble_eq_true rfl)) kX14_isPlayer rfl (Z_X14_isPlayer rfl) (T_X14_isPlayer (by omega) hG rfl) ?_
  refine x_ifeq (tgt := 21) (pc := 9) dX14_stonesBeside_9 rfl (fun h101 => ?_) (fun h101 => ?_)
  · replace hf := (if_pos h101).symm.trans hf
    refine x_aload_n (pc := 21) dX14_stonesBeside_21 rfl ?_
    refine x_iconst (pc := 22) dX14_stonesBeside_22 ⟨by decide, by decide⟩ ?_
    obtain ⟨v104, M103, r102, hf⟩ := bd2_some hf
    refine x_cr (v := vI v104) (vs := [vR 203, vI 1]) (rest := []) (k := 0) rfl (by omega) (ax_caV (pc := 23) dX14_stonesBeside_23 kX14_no rfl rfl WM_X14_250 WI_X14_no WS_X14_no WN_X14 (ax_rcO (t := 12) (axEx hG rfl) rfl (by decide)) (Nat.le_of_ble_eq_true rfl)) kX14_no rfl True.intro (T_X14_no (by omega) hG r102) ?_
    cases hf
    exact x_retI (pc := 26) dX14_stonesBeside_26
  · replace hf := (if_neg h101).symm.trans hf
    refine x_aload_n (pc := 12) dX14_stonesBeside_12 rfl ?_
    refine x_iload_n (pc := 13) dX14_stonesBeside_13 rfl ?_
    refine x_iload_n (pc := 14) dX14_stonesBeside_14 rfl ?_
    refine x_cr (v := vI (fX14_isOn (mUI M 203 0 0) a2 a3)) (vs := [vR 203, vI a2, vI a3]) (rest := []) (k := 0) rfl (by omega) (ax_caV (pc := 15) dX14_stonesBeside_15 kX14_isOn rfl rfl WM_X14_284 WI_X14_isOn WS_X14_isOn WN_X14 (ax_rcO (t := 12) (axEx hG rfl) rfl (by decide)) (Nat.le_of_ble_eq_true rfl)) kX14_isOn rfl (Z_X14_isOn rfl) (T_X14_isOn (by omega) hG rfl) ?_
    refine x_ifne (tgt := 27) (pc := 18) dX14_stonesBeside_18 rfl (fun h105 => ?_) (fun h105 => ?_)
    · replace hf := (if_neg h105).symm.trans hf
      refine x_iconst (pc := 27) dX14_stonesBeside_27 ⟨by decide, by decide⟩ ?_
      refine x_istore (ls' := [some (vR 203), some (vI a1), some (vI a2), some (vI a3), some (vI 0), none, none]) (pc := 28) dX14_stonesBeside_28 (Nat.le_of_ble_eq_true rfl) rfl rfl ?_
      refine x_iconst (pc := 30) dX14_stonesBeside_30 ⟨by decide, by decide⟩ ?_
      refine x_istore (ls' := [some (vR 203), some (vI a1), some (vI a2), some (vI a3), some (vI 0), some (vI 0), none]) (pc := 31) dX14_stonesBeside_31 (Nat.le_of_ble_eq_true rfl) rfl rfl ?_
      obtain ⟨t116, t117, hf⟩ := bd1_some hf
      refine lp_ex (P := (fun s => ax_Ex G tX14_stonesBeside d 33 [some (vR 203), some (vI a1), some (vI a2), some (vI a3), some (vI s.1), some (vI s.2), none] [] (mUI M 203 0 0) _ _)) (K := (fun t => ax_Ex G tX14_stonesBeside d 87 [some (vR 203), some (vI a1), some (vI a2), some (vI a3), some (vI t), none, none] [] (mUI M 203 0 0) _ _)) (fun s y hy h1 h2 => B_X14_stonesBeside_33 (by omega) hG hy (fun s' e => h1 s' e) (fun t e => h2 t e)) _ _ _ t117 ?_
      refine x_iload (pc := 87) dX14_stonesBeside_87 rfl ?_
      cases hf
      exact x_retI (pc := 89) dX14_stonesBeside_89
    · replace hf := (if_pos h105).symm.trans hf
      refine x_aload_n (pc := 21) dX14_stonesBeside_21 rfl ?_
      refine x_iconst (pc := 22) dX14_stonesBeside_22 ⟨by decide, by decide⟩ ?_
      obtain ⟨v108, M107, r106, hf⟩ := bd2_some hf
      refine x_cr (v := vI v108) (vs := [vR 203, vI 1]) (rest := []) (k := 0) rfl (by omega) (ax_caV (pc := 23) dX14_stonesBeside_23 kX14_no rfl rfl WM_X14_250 WI_X14_no WS_X14_no WN_X14 (ax_rcO (t := 12) (axEx hG rfl) rfl (by decide)) (Nat.le_of_ble_eq_true rfl)) kX14_no rfl True.intro (T_X14_no (by omega) hG r106) ?_
      cases hf
      exact x_retI (pc := 26) dX14_stonesBeside_26
/- HexPondModel.groupSize(II)I -/
def fX14_groupSize (M : ax_M) (a1 : Int) (a2 : Int) : Option (Int × ax_M) :=
  (bd2 (fX14_stoneAt M a1 a2) fun v103 M102 => (if 0 < (mI M102 203 0) then (some (0, M102)) else (bd1 (fX14_gather M102 v103) fun M107 => (if 0 ≤ (fX14_at M107 a1 a2) ∧ (fX14_at M107 a1 a2) < 81 then (if 0 ≤ (mI M107 238 (Int.toNat (fX14_at M107 a1 a2))) ∧ (mI M107 238 (Int.toNat (fX14_at M107 a1 a2))) < 82 then (some ((mI M107 239 (Int.toNat (mI M107 238 (Int.toNat (fX14_at M107 a1 a2))))), M107)) else none) else none))))
theorem T_X14_groupSize {G : ax_G} {d : Nat} (hd : 5 ≤ d) (hG : axPs G 150 244) {M : ax_M} {a1 : Int} {a2 : Int} {r : Int} {M1 : ax_M} (hf : fX14_groupSize M a1 a2 = some (r, M1)) : ax_Ex G tX14_groupSize d 0 (ax_args [vR 203, vI a1, vI a2] ++ List.replicate 1 none) [] M (.inl (some (vI r))) M1 := by
  show ax_Ex G tX14_groupSize d 0 [some (vR 203), some (vI a1), some (vI a2), none] [] M _ _
  unfold fX14_groupSize at hf
  refine x_aload_n (pc := 0) dX14_groupSize_0 rfl ?_
  refine x_iload_n (pc := 1) dX14_groupSize_1 rfl ?_
  refine x_iload_n (pc := 2) dX14_groupSize_2 rfl ?_
  obtain ⟨v103, M102, r101, hf⟩ := bd2_some hf
  refine x_cr (v := vI v103) (vs := [vR 203, vI a1, vI a2]) (rest := []) (k := 0) rfl (by omega) (ax_caV (pc := 3) dX14_groupSize_3 kX14_stoneAt rfl rfl WM_X14_386 WI_X14_stoneAt WS_X14_stoneAt WN_X14 (ax_rcO (t := 12) (axEx hG rfl) rfl (by decide)) (Nat.le_of_ble_eq_true rfl)) kX14_stoneAt rfl True.intro (T_X14_stoneAt (by omega) hG r101) ?_
  refine x_istore_n (ls' := [some (vR 203), some (vI a1), some (vI a2), some (vI v103)]) (pc := 6) dX14_groupSize_6 (Nat.le_of_ble_eq_true rfl) rfl rfl ?_
  refine x_aload_n (pc := 7) dX14_groupSize_7 rfl ?_
  refine x_getI (t := 12) (j := 0) (pc := 8) dX14_groupSize_8 (axEx hG rfl) rfl (by decide) (by decide) rfl WF_X14_73 ?_
  refine ax_cmp1 (fun b105a b105b => ?_)
  refine x_ifle (tgt := 16) (pc := 11) dX14_groupSize_11 rfl (fun h104 => ?_) (fun h104 => ?_)
  · replace hf := (if_neg (Int.not_lt.mpr h104)).symm.trans hf
    refine x_aload_n (pc := 16) dX14_groupSize_16 rfl ?_
    refine x_iload_n (pc := 17) dX14_groupSize_17 rfl ?_
    obtain ⟨M107, r106, hf⟩ := bd1_some hf
    refine x_cv (vs := [vR 203, vI v103]) (rest := []) (k := 1) rfl (by omega) (ax_caV (pc := 18) dX14_groupSize_18 kX14_gather rfl rfl WM_X14_389 WI_X14_gather WS_X14_gather WN_X14 (ax_rcO (t := 12) (axEx hG rfl) rfl (by decide)) (Nat.le_of_ble_eq_true rfl)) kX14_gather rfl True.intro (T_X14_gather (by omega) hG r106) ?_
    refine x_aload_n (pc := 21) dX14_groupSize_21 rfl ?_
    refine x_getF (t := 12) (j := 22) (r := 239) (pc := 22) dX14_groupSize_22 (axH hG rfl) (axEx hG rfl) rfl (by decide) (by decide) rfl rfl WF_X14_57 ?_
    refine x_aload_n (pc := 25) dX14_groupSize_25 rfl ?_
    refine x_getF (t := 12) (j := 21) (r := 238) (pc := 26) dX14_groupSize_26 (axH hG rfl) (axEx hG rfl) rfl (by decide) (by decide) rfl rfl WF_X14_54 ?_
    refine x_aload_n (pc := 29) dX14_groupSize_29 rfl ?_
    refine x_iload_n (pc := 30) dX14_groupSize_30 rfl ?_
    refine x_iload_n (pc := 31) dX14_groupSize_31 rfl ?_
    refine x_cr (v := vI (fX14_at M107 a1 a2)) (vs := [vR 203, vI a1, vI a2]) (rest := [vR 238, vR 239]) (k := 0) rfl (by omega) (ax_caV (pc := 32) dX14_groupSize_32 kX14_at rfl rfl WM_X14_288 WI_X14_at WS_X14_at WN_X14 (ax_rcO (t := 12) (axEx hG rfl) rfl (by decide)) (Nat.le_of_ble_eq_true rfl)) kX14_at rfl True.intro (T_X14_at (by omega) hG rfl) ?_
    by_cases h108 : 0 ≤ (fX14_at M107 a1 a2) ∧ (fX14_at M107 a1 a2) < 81
    · replace hf := (if_pos h108).symm.trans hf
      refine x_iald2 (n := 81) (pc := 35) dX14_groupSize_35 (axEx hG rfl) rfl h108.1 h108.2 ?_
      by_cases h109 : 0 ≤ (mI M107 238 (Int.toNat (fX14_at M107 a1 a2))) ∧ (mI M107 238 (Int.toNat (fX14_at M107 a1 a2))) < 82
      · replace hf := (if_pos h109).symm.trans hf
        refine x_iald2 (n := 82) (pc := 36) dX14_groupSize_36 (axEx hG rfl) rfl h109.1 h109.2 ?_
        cases hf
        exact x_retI (pc := 37) dX14_groupSize_37
      · replace hf := (if_neg h109).symm.trans hf
        cases hf
    · replace hf := (if_neg h108).symm.trans hf
      cases hf
  · replace hf := (if_pos h104).symm.trans hf
    refine x_iconst (pc := 14) dX14_groupSize_14 ⟨by decide, by decide⟩ ?_
    cases hf
    exact x_retI (pc := 15) dX14_groupSize_15
/- HexPondModel.shoresOf(II)I -/
def fX14_shoresOf (M : ax_M) (a1 : Int) (a2 : Int) : Option (Int × ax_M) :=
  (bd2 (fX14_stoneAt M a1 a2) fun v103 M102 => (if 0 < (mI M102 203 0) then (some (0, M102)) else (bd1 (fX14_gather M102 v103) fun M107 => (if 0 ≤ (fX14_at M107 a1 a2) ∧ (fX14_at M107 a1 a2) < 81 then (bd1 (fX14_hasShore M107 (mI M107 238 (Int.toNat (fX14_at M107 a1 a2))) v103 0) fun v110 => (if v110 = 0 then (bd1 (fX14_hasShore M107 (mI M107 238 (Int.toNat (fX14_at M107 a1 a2))) v103 1) fun v113 => (if v113 = 0 then (some ((0 + 0), M107)) else (some ((0 + 1), M107)))) else (bd1 (fX14_hasShore M107 (mI M107 238 (Int.toNat (fX14_at M107 a1 a2))) v103 1) fun v116 => (if v116 = 0 then (some ((1 + 0), M107)) else (some ((1 + 1), M107)))))) else none))))
theorem T_X14_shoresOf {G : ax_G} {d : Nat} (hd : 5 ≤ d) (hG : axPs G 150 244) {M : ax_M} {a1 : Int} {a2 : Int} {r : Int} {M1 : ax_M} (hf : fX14_shoresOf M a1 a2 = some (r, M1)) : ax_Ex G tX14_shoresOf d 0 (ax_args [vR 203, vI a1, vI a2] ++ List.replicate 2 none) [] M (.inl (some (vI r))) M1 := by
  show ax_Ex G tX14_shoresOf d 0 [some (vR 203), some (vI a1), some (vI a2), none, none] [] M _ _
  unfold fX14_shoresOf at hf
  refine x_aload_n (pc := 0) dX14_shoresOf_0 rfl ?_
  refine x_iload_n (pc := 1) dX14_shoresOf_1 rfl ?_
  refine x_iload_n (pc := 2) dX14_shoresOf_2 rfl ?_
  obtain ⟨v103, M102, r101, hf⟩ := bd2_some hf
  refine x_cr (v := vI v103) (vs := [vR 203, vI a1, vI a2]) (rest := []) (k := 0) rfl (by omega) (ax_caV (pc := 3) dX14_shoresOf_3 kX14_stoneAt rfl rfl WM_X14_386 WI_X14_stoneAt WS_X14_stoneAt WN_X14 (ax_rcO (t := 12) (axEx hG rfl) rfl (by decide)) (Nat.le_of_ble_eq_true rfl)) kX14_stoneAt rfl True.intro (T_X14_stoneAt (by omega) hG r101) ?_
  refine x_istore_n (ls' := [some (vR 203), some (vI a1), some (vI a2), some (vI v103), none]) (pc := 6) dX14_shoresOf_6 (Nat.le_of_ble_eq_true rfl) rfl rfl ?_
  refine x_aload_n (pc := 7) dX14_shoresOf_7 rfl ?_
  refine x_getI (t := 12) (j := 0) (pc := 8) dX14_shoresOf_8 (axEx hG rfl) rfl (by decide) (by decide) rfl WF_X14_73 ?_
  refine ax_cmp1 (fun b105a b105b => ?_)
  refine x_ifle (tgt := 16) (pc := 11) dX14_shoresOf_11 rfl (fun h104 => ?_) (fun h104 => ?_)
  · replace hf := (if_neg (Int.not_lt.mpr h104)).symm.trans hf
    refine x_aload_n (pc := 16) dX14_shoresOf_16 rfl ?_
    refine x_iload_n (pc := 17) dX14_shoresOf_17 rfl ?_
    obtain ⟨M107, r106, hf⟩ := bd1_some hf
    refine x_cv (vs := [vR 203, vI v103]) (rest := []) (k := 1) rfl (by omega) (ax_caV (pc := 18) dX14_shoresOf_18 kX14_gather rfl rfl WM_X14_389 WI_X14_gather WS_X14_gather WN_X14 (ax_rcO (t := 12) (axEx hG rfl) rfl (by decide)) (Nat.le_of_ble_eq_true rfl)) kX14_gather rfl True.intro (T_X14_gather (by omega) hG r106) ?_
    refine x_aload_n (pc := 21) dX14_shoresOf_21 rfl ?_
    refine x_getF (t := 12) (j := 21) (r := 238) (pc := 22) dX14_shoresOf_22 (axH hG rfl) (axEx hG rfl) rfl (by decide) (by decide) rfl rfl WF_X14_54 ?_
    refine x_aload_n (pc := 25) dX14_shoresOf_25 rfl ?_
    refine x_iload_n (pc := 26) dX14_shoresOf_26 rfl ?_
    refine x_iload_n (pc := 27) dX14_shoresOf_27 rfl ?_
    refine x_cr (v := vI (fX14_at M107 a1 a2)) (vs := [vR 203, vI a1, vI a2]) (rest := [vR 238]) (k := 0) rfl (by omega) (ax_caV (pc := 28) dX14_shoresOf_28 kX14_at rfl rfl WM_X14_288 WI_X14_at WS_X14_at WN_X14 (ax_rcO (t := 12) (axEx hG rfl) rfl (by decide)) (Nat.le_of_ble_eq_true rfl)) kX14_at rfl True.intro (T_X14_at (by omega) hG rfl) ?_
    by_cases h108 : 0 ≤ (fX14_at M107 a1 a2) ∧ (fX14_at M107 a1 a2) < 81
    · replace hf := (if_pos h108).symm.trans hf
      refine x_iald2 (n := 81) (pc := 31) dX14_shoresOf_31 (axEx hG rfl) rfl h108.1 h108.2 ?_
      refine x_istore (ls' := [some (vR 203), some (vI a1), some (vI a2), some (vI v103), some (vI (mI M107 238 (Int.toNat (fX14_at M107 a1 a2))))]) (pc := 32) dX14_shoresOf_32 (Nat.le_of_ble_eq_true rfl) rfl rfl ?_
      refine x_aload_n (pc := 34) dX14_shoresOf_34 rfl ?_
      refine x_iload (pc := 35) dX14_shoresOf_35 rfl ?_
      refine x_iload_n (pc := 37) dX14_shoresOf_37 rfl ?_
      refine x_iconst (pc := 38) dX14_shoresOf_38 ⟨by decide, by decide⟩ ?_
      obtain ⟨v110, r109, hf⟩ := bd1_some hf
      refine x_cr (v := vI v110) (vs := [vR 203, vI (mI M107 238 (Int.toNat (fX14_at M107 a1 a2))), vI v103, vI 0]) (rest := []) (k := 1) rfl (by omega) (ax_caV (pc := 39) dX14_shoresOf_39 kX14_hasShore rfl rfl WM_X14_392 WI_X14_hasShore WS_X14_hasShore WN_X14 (ax_rcO (t := 12) (axEx hG rfl) rfl (by decide)) (Nat.le_of_ble_eq_true rfl)) kX14_hasShore rfl (Z_X14_hasShore r109) (T_X14_hasShore (by omega) hG r109) ?_
      refine x_ifeq (tgt := 49) (pc := 42) dX14_shoresOf_42 rfl (fun h111 => ?_) (fun h111 => ?_)
      · replace hf := (if_pos h111).symm.trans hf
        refine x_iconst (pc := 49) dX14_shoresOf_49 ⟨by decide, by decide⟩ ?_
        refine x_aload_n (pc := 50) dX14_shoresOf_50 rfl ?_
        refine x_iload (pc := 51) dX14_shoresOf_51 rfl ?_
        refine x_iload_n (pc := 53) dX14_shoresOf_53 rfl ?_
        refine x_iconst (pc := 54) dX14_shoresOf_54 ⟨by decide, by decide⟩ ?_
        obtain ⟨v113, r112, hf⟩ := bd1_some hf
        refine x_cr (v := vI v113) (vs := [vR 203, vI (mI M107 238 (Int.toNat (fX14_at M107 a1 a2))), vI v103, vI 1]) (rest := [vI 0]) (k := 1) rfl (by omega) (ax_caV (pc := 55) dX14_shoresOf_55 kX14_hasShore rfl rfl WM_X14_392 WI_X14_hasShore WS_X14_hasShore WN_X14 (ax_rcO (t := 12) (axEx hG rfl) rfl (by decide)) (Nat.le_of_ble_eq_true rfl)) kX14_hasShore rfl (Z_X14_hasShore r112) (T_X14_hasShore (by omega) hG r112) ?_
        refine x_ifeq (tgt := 65) (pc := 58) dX14_shoresOf_58 rfl (fun h114 => ?_) (fun h114 => ?_)
        · replace hf := (if_pos h114).symm.trans hf
          refine x_iconst (pc := 65) dX14_shoresOf_65 ⟨by decide, by decide⟩ ?_
          refine x_iadd (z := (0 + 0)) (pc := 66) dX14_shoresOf_66 rfl (ax_i (by omega) (by omega)) ?_
          cases hf
          exact x_retI (pc := 67) dX14_shoresOf_67
        · replace hf := (if_neg h114).symm.trans hf
          refine x_iconst (pc := 61) dX14_shoresOf_61 ⟨by decide, by decide⟩ ?_
          refine x_goto (tgt := 66) (pc := 62) dX14_shoresOf_62 rfl ?_
          refine x_iadd (z := (0 + 1)) (pc := 66) dX14_shoresOf_66 rfl (ax_i (by omega) (by omega)) ?_
          cases hf
          exact x_retI (pc := 67) dX14_shoresOf_67
      · replace hf := (if_neg h111).symm.trans hf
        refine x_iconst (pc := 45) dX14_shoresOf_45 ⟨by decide, by decide⟩ ?_
        refine x_goto (tgt := 50) (pc := 46) dX14_shoresOf_46 rfl ?_
        refine x_aload_n (pc := 50) dX14_shoresOf_50 rfl ?_
        refine x_iload (pc := 51) dX14_shoresOf_51 rfl ?_
        refine x_iload_n (pc := 53) dX14_shoresOf_53 rfl ?_
        refine x_iconst (pc := 54) dX14_shoresOf_54 ⟨by decide, by decide⟩ ?_
        obtain ⟨v116, r115, hf⟩ := bd1_some hf
        refine x_cr (v := vI v116) (vs := [vR 203, vI (mI M107 238 (Int.toNat (fX14_at M107 a1 a2))), vI v103, vI 1]) (rest := [vI 1]) (k := 1) rfl (by omega) (ax_caV (pc := 55) dX14_shoresOf_55 kX14_hasShore rfl rfl WM_X14_392 WI_X14_hasShore WS_X14_hasShore WN_X14 (ax_rcO (t := 12) (axEx hG rfl) rfl (by decide)) (Nat.le_of_ble_eq_true rfl)) kX14_hasShore rfl (Z_X14_hasShore r115) (T_X14_hasShore (by omega) hG r115) ?_
        refine x_ifeq (tgt := 65) (pc := 58) dX14_shoresOf_58 rfl (fun h117 => ?_) (fun h117 => ?_)
        · replace hf := (if_pos h117).symm.trans hf
          refine x_iconst (pc := 65) dX14_shoresOf_65 ⟨by decide, by decide⟩ ?_
          refine x_iadd (z := (1 + 0)) (pc := 66) dX14_shoresOf_66 rfl (ax_i (by omega) (by omega)) ?_
          cases hf
          exact x_retI (pc := 67) dX14_shoresOf_67
        · replace hf := (if_neg h117).symm.trans hf
          refine x_iconst (pc := 61) dX14_shoresOf_61 ⟨by decide, by decide⟩ ?_
          refine x_goto (tgt := 66) (pc := 62) dX14_shoresOf_62 rfl ?_
          refine x_iadd (z := (1 + 1)) (pc := 66) dX14_shoresOf_66 rfl (ax_i (by omega) (by omega)) ?_
          cases hf
          exact x_retI (pc := 67) dX14_shoresOf_67
    · replace hf := (if_neg h108).symm.trans hf
      cases hf
  · replace hf := (if_pos h104).symm.trans hf
    refine x_iconst (pc := 14) dX14_shoresOf_14 ⟨by decide, by decide⟩ ?_
    cases hf
    exact x_retI (pc := 15) dX14_shoresOf_15
/- HexPondModel.groupsThen(I)I -/
def fX14_groupsThen (M : ax_M) (a1 : Int) : Option (Int × ax_M) :=
  (bd1 (fX14_gather M a1) fun M102 => (some ((mI M102 203 25), M102)))
theorem T_X14_groupsThen {G : ax_G} {d : Nat} (hd : 5 ≤ d) (hG : axPs G 150 244) {M : ax_M} {a1 : Int} {r : Int} {M1 : ax_M} (hf : fX14_groupsThen M a1 = some (r, M1)) : ax_Ex G tX14_groupsThen d 0 (ax_args [vR 203, vI a1] ++ List.replicate 0 none) [] M (.inl (some (vI r))) M1 := by
  show ax_Ex G tX14_groupsThen d 0 [some (vR 203), some (vI a1)] [] M _ _
  unfold fX14_groupsThen at hf
  refine x_aload_n (pc := 0) dX14_groupsThen_0 rfl ?_
  refine x_iload_n (pc := 1) dX14_groupsThen_1 rfl ?_
  obtain ⟨M102, r101, hf⟩ := bd1_some hf
  refine x_cv (vs := [vR 203, vI a1]) (rest := []) (k := 1) rfl (by omega) (ax_caV (pc := 2) dX14_groupsThen_2 kX14_gather rfl rfl WM_X14_389 WI_X14_gather WS_X14_gather WN_X14 (ax_rcO (t := 12) (axEx hG rfl) rfl (by decide)) (Nat.le_of_ble_eq_true rfl)) kX14_gather rfl True.intro (T_X14_gather (by omega) hG r101) ?_
  refine x_aload_n (pc := 5) dX14_groupsThen_5 rfl ?_
  refine x_getI (t := 12) (j := 25) (pc := 6) dX14_groupsThen_6 (axEx hG rfl) rfl (by decide) (by decide) rfl WF_X14_291 ?_
  cases hf
  exact x_retI (pc := 9) dX14_groupsThen_9
/- HexPondModel.groupsOf(I)I -/
def fX14_groupsOf (M : ax_M) (a1 : Int) : Option (Int × ax_M) :=
  (if (fX14_isPlayer (mUI M 203 0 0) a1) = 0 then (bd2 (fX14_no (mUI M 203 0 0) 1) fun v104 M103 => (some (v104, M103))) else (bd2 (fX14_groupsThen (mUI M 203 0 0) a1) fun v107 M106 => (some (v107, M106))))
theorem T_X14_groupsOf {G : ax_G} {d : Nat} (hd : 6 ≤ d) (hG : axPs G 150 244) {M : ax_M} {a1 : Int} {r : Int} {M1 : ax_M} (hf : fX14_groupsOf M a1 = some (r, M1)) : ax_Ex G tX14_groupsOf d 0 (ax_args [vR 203, vI a1] ++ List.replicate 0 none) [] M (.inl (some (vI r))) M1 := by
  show ax_Ex G tX14_groupsOf d 0 [some (vR 203), some (vI a1)] [] M _ _
  unfold fX14_groupsOf at hf
  refine x_aload_n (pc := 0) dX14_groupsOf_0 rfl ?_
  refine x_iconst (pc := 1) dX14_groupsOf_1 ⟨by decide, by decide⟩ ?_
  refine x_putI (t := 12) (j := 0) (pc := 2) dX14_groupsOf_2 (axEx hG rfl) rfl (by decide) (by decide) rfl rfl WF_X14_73 ?_
  refine x_iload_n (pc := 5) dX14_groupsOf_5 rfl ?_
  refine x_cr (v := vI (fX14_isPlayer (mUI M 203 0 0) a1)) (vs := [vI a1]) (rest := []) (k := 0) rfl (by omega) (ax_caS (pc := 6) dX14_groupsOf_6 kX14_isPlayer rfl rfl WM_X14_380 WT_X14_isPlayer WN_X14 (Nat.le_of_ble_eq_true rfl)) kX14_isPlayer rfl (Z_X14_isPlayer rfl) (T_X14_isPlayer (by omega) hG rfl) ?_
  refine x_ifeq (tgt := 20) (pc := 9) dX14_groupsOf_9 rfl (fun h101 => ?_) (fun h101 => ?_)
  · replace hf := (if_pos h101).symm.trans hf
    refine x_aload_n (pc := 20) dX14_groupsOf_20 rfl ?_
    refine x_iconst (pc := 21) dX14_groupsOf_21 ⟨by decide, by decide⟩ ?_
    obtain ⟨v104, M103, r102, hf⟩ := bd2_some hf
    refine x_cr (v := vI v104) (vs := [vR 203, vI 1]) (rest := []) (k := 0) rfl (by omega) (ax_caV (pc := 22) dX14_groupsOf_22 kX14_no rfl rfl WM_X14_250 WI_X14_no WS_X14_no WN_X14 (ax_rcO (t := 12) (axEx hG rfl) rfl (by decide)) (Nat.le_of_ble_eq_true rfl)) kX14_no rfl True.intro (T_X14_no (by omega) hG r102) ?_
    cases hf
    exact x_retI (pc := 25) dX14_groupsOf_25
  · replace hf := (if_neg h101).symm.trans hf
    refine x_aload_n (pc := 12) dX14_groupsOf_12 rfl ?_
    refine x_iload_n (pc := 13) dX14_groupsOf_13 rfl ?_
    obtain ⟨v107, M106, r105, hf⟩ := bd2_some hf
    refine x_cr (v := vI v107) (vs := [vR 203, vI a1]) (rest := []) (k := 0) rfl (by omega) (ax_caV (pc := 14) dX14_groupsOf_14 kX14_groupsThen rfl rfl WM_X14_395 WI_X14_groupsThen WS_X14_groupsThen WN_X14 (ax_rcO (t := 12) (axEx hG rfl) rfl (by decide)) (Nat.le_of_ble_eq_true rfl)) kX14_groupsThen rfl True.intro (T_X14_groupsThen (by omega) hG r105) ?_
    refine x_goto (tgt := 25) (pc := 17) dX14_groupsOf_17 rfl ?_
    cases hf
    exact x_retI (pc := 25) dX14_groupsOf_25
/- HexPondModel.greatest(I)I -/
def fX14_greatest_b9 (M : ax_M) (v2 : Int) (v3 : Int) : Option ((Int × Int) ⊕ Int) :=
  (if v3 < (mI M 203 25) then (if 0 ≤ v3 ∧ v3 < 82 then (some (.inl ((fJ9_max_7cf53 M v2 (mI M 239 (Int.toNat v3))), (v3 + 1)))) else none) else (some (.inr v2)))
def fX14_greatest (M : ax_M) (a1 : Int) : Option (Int × ax_M) :=
  (bd1 (fX14_gather M a1) fun M102 => (bd1 (lp (fun s => fX14_greatest_b9 M102 s.1 s.2) lpN (0, 0)) fun t106 => (some (t106, M102))))
theorem B_X14_greatest_9 {G : ax_G} {d : Nat} (hd : 5 ≤ d) (hG : axPs G 150 244) {M : ax_M} {v2 : Int} {v3 : Int} {o : Option ax_V ⊕ String} {M' : ax_M} {y : (Int × Int) ⊕ Int} (hf : fX14_greatest_b9 M v2 v3 = some y) (h1 : ∀ s', y = .inl s' → ax_Ex G tX14_greatest d 9 [some (vR 203), none, some (vI s'.1), some (vI s'.2)] [] M o M') (h2a : ∀ t, y = .inr t → ax_Ex G tX14_greatest d 34 [some (vR 203), none, some (vI t), none] [] M o M') : ax_Ex G tX14_greatest d 9 [some (vR 203), none, some (vI v2), some (vI v3)] [] M o M' := by
  unfold fX14_greatest_b9 at hf
  refine x_iload_n (pc := 9) dX14_greatest_9 rfl ?_
  refine x_aload_n (pc := 10) dX14_greatest_10 rfl ?_
  refine x_getI (t := 12) (j := 25) (pc := 11) dX14_greatest_11 (axEx hG rfl) rfl (by decide) (by decide) rfl WF_X14_291 ?_
  refine ax_cmp (fun b104a b104b b104c b104e => ?_)
  refine x_icmpge (tgt := 34) (pc := 14) dX14_greatest_14 rfl (fun h103 => ?_) (fun h103 => ?_)
  · replace hf := (if_neg (Int.not_lt.mpr h103)).symm.trans hf
    cases hf
    exact x_fgt (axS' (axN' (axS' (axN' axD)))) (h2a _ rfl)
  · replace hf := (if_pos h103).symm.trans hf
    refine x_iload_n (pc := 17) dX14_greatest_17 rfl ?_
    refine x_aload_n (pc := 18) dX14_greatest_18 rfl ?_
    refine x_getF (t := 12) (j := 22) (r := 239) (pc := 19) dX14_greatest_19 (axH hG rfl) (axEx hG rfl) rfl (by decide) (by decide) rfl rfl WF_X14_57 ?_
    refine x_iload_n (pc := 22) dX14_greatest_22 rfl ?_
    by_cases h105 : 0 ≤ v3 ∧ v3 < 82
    · replace hf := (if_pos h105).symm.trans hf
      refine x_iald2 (n := 82) (pc := 23) dX14_greatest_23 (axEx hG rfl) rfl h105.1 h105.2 ?_
      refine x_cr (v := vI (fJ9_max_7cf53 M v2 (mI M 239 (Int.toNat v3)))) (vs := [vI v2, vI (mI M 239 (Int.toNat v3))]) (rest := []) (k := 0) rfl (by omega) (ax_caS (pc := 24) dX14_greatest_24 kJ9_max_7cf53 rfl rfl WM_X14_345 WT_J9_max_7cf53 WN_J9 (Nat.le_of_ble_eq_true rfl)) kJ9_max_7cf53 rfl True.intro (T_J9_max_7cf53 (by omega) rfl) ?_
      refine x_istore_n (ls' := [some (vR 203), none, some (vI (fJ9_max_7cf53 M v2 (mI M 239 (Int.toNat v3)))), some (vI v3)]) (pc := 27) dX14_greatest_27 (Nat.le_of_ble_eq_true rfl) rfl rfl ?_
      refine x_iinc (z := (v3 + 1)) (ls' := [some (vR 203), none, some (vI (fJ9_max_7cf53 M v2 (mI M 239 (Int.toNat v3)))), some (vI (v3 + 1))]) (pc := 28) dX14_greatest_28 rfl (Nat.le_of_ble_eq_true rfl) rfl rfl (ax_i (by omega) (by omega)) rfl ?_
      refine x_goto (tgt := 9) (pc := 31) dX14_greatest_31 rfl ?_
      cases hf
      exact h1 _ rfl
    · replace hf := (if_neg h105).symm.trans hf
      cases hf
theorem T_X14_greatest {G : ax_G} {d : Nat} (hd : 5 ≤ d) (hG : axPs G 150 244) {M : ax_M} {a1 : Int} {r : Int} {M1 : ax_M} (hf : fX14_greatest M a1 = some (r, M1)) : ax_Ex G tX14_greatest d 0 (ax_args [vR 203, vI a1] ++ List.replicate 2 none) [] M (.inl (some (vI r))) M1 := by
  show ax_Ex G tX14_greatest d 0 [some (vR 203), some (vI a1), none, none] [] M _ _
  unfold fX14_greatest at hf
  refine x_aload_n (pc := 0) dX14_greatest_0 rfl ?_
  refine x_iload_n (pc := 1) dX14_greatest_1 rfl ?_
  obtain ⟨M102, r101, hf⟩ := bd1_some hf
  refine x_cv (vs := [vR 203, vI a1]) (rest := []) (k := 1) rfl (by omega) (ax_caV (pc := 2) dX14_greatest_2 kX14_gather rfl rfl WM_X14_389 WI_X14_gather WS_X14_gather WN_X14 (ax_rcO (t := 12) (axEx hG rfl) rfl (by decide)) (Nat.le_of_ble_eq_true rfl)) kX14_gather rfl True.intro (T_X14_gather (by omega) hG r101) ?_
  refine x_iconst (pc := 5) dX14_greatest_5 ⟨by decide, by decide⟩ ?_
  refine x_istore_n (ls' := [some (vR 203), some (vI a1), some (vI 0), none]) (pc := 6) dX14_greatest_6 (Nat.le_of_ble_eq_true rfl) rfl rfl ?_
  refine x_iconst (pc := 7) dX14_greatest_7 ⟨by decide, by decide⟩ ?_
  refine x_istore_n (ls' := [some (vR 203), some (vI a1), some (vI 0), some (vI 0)]) (pc := 8) dX14_greatest_8 (Nat.le_of_ble_eq_true rfl) rfl rfl ?_
  obtain ⟨t106, t107, hf⟩ := bd1_some hf
  refine x_fgt (axS' (axN' (axS' (axS' axD)))) (lp_ex (P := (fun s => ax_Ex G tX14_greatest d 9 [some (vR 203), none, some (vI s.1), some (vI s.2)] [] M102 _ _)) (K := (fun t => ax_Ex G tX14_greatest d 34 [some (vR 203), none, some (vI t), none] [] M102 _ _)) (fun s y hy h1 h2 => B_X14_greatest_9 (by omega) hG hy (fun s' e => h1 s' e) (fun t e => h2 t e)) _ _ _ t107 ?_)
  refine x_iload_n (pc := 34) dX14_greatest_34 rfl ?_
  cases hf
  exact x_retI (pc := 35) dX14_greatest_35
/- HexPondModel.greatestGroup(I)I -/
def fX14_greatestGroup (M : ax_M) (a1 : Int) : Option (Int × ax_M) :=
  (if (fX14_isPlayer (mUI M 203 0 0) a1) = 0 then (bd2 (fX14_no (mUI M 203 0 0) 1) fun v104 M103 => (some (v104, M103))) else (bd2 (fX14_greatest (mUI M 203 0 0) a1) fun v107 M106 => (some (v107, M106))))
theorem T_X14_greatestGroup {G : ax_G} {d : Nat} (hd : 6 ≤ d) (hG : axPs G 150 244) {M : ax_M} {a1 : Int} {r : Int} {M1 : ax_M} (hf : fX14_greatestGroup M a1 = some (r, M1)) : ax_Ex G tX14_greatestGroup d 0 (ax_args [vR 203, vI a1] ++ List.replicate 0 none) [] M (.inl (some (vI r))) M1 := by
  show ax_Ex G tX14_greatestGroup d 0 [some (vR 203), some (vI a1)] [] M _ _
  unfold fX14_greatestGroup at hf
  refine x_aload_n (pc := 0) dX14_greatestGroup_0 rfl ?_
  refine x_iconst (pc := 1) dX14_greatestGroup_1 ⟨by decide, by decide⟩ ?_
  refine x_putI (t := 12) (j := 0) (pc := 2) dX14_greatestGroup_2 (axEx hG rfl) rfl (by decide) (by decide) rfl rfl WF_X14_73 ?_
  refine x_iload_n (pc := 5) dX14_greatestGroup_5 rfl ?_
  refine x_cr (v := vI (fX14_isPlayer (mUI M 203 0 0) a1)) (vs := [vI a1]) (rest := []) (k := 0) rfl (by omega) (ax_caS (pc := 6) dX14_greatestGroup_6 kX14_isPlayer rfl rfl WM_X14_380 WT_X14_isPlayer WN_X14 (Nat.le_of_ble_eq_true rfl)) kX14_isPlayer rfl (Z_X14_isPlayer rfl) (T_X14_isPlayer (by omega) hG rfl) ?_
  refine x_ifeq (tgt := 20) (pc := 9) dX14_greatestGroup_9 rfl (fun h101 => ?_) (fun h101 => ?_)
  · replace hf := (if_pos h101).symm.trans hf
    refine x_aload_n (pc := 20) dX14_greatestGroup_20 rfl ?_
    refine x_iconst (pc := 21) dX14_greatestGroup_21 ⟨by decide, by decide⟩ ?_
    obtain ⟨v104, M103, r102, hf⟩ := bd2_some hf
    refine x_cr (v := vI v104) (vs := [vR 203, vI 1]) (rest := []) (k := 0) rfl (by omega) (ax_caV (pc := 22) dX14_greatestGroup_22 kX14_no rfl rfl WM_X14_250 WI_X14_no WS_X14_no WN_X14 (ax_rcO (t := 12) (axEx hG rfl) rfl (by decide)) (Nat.le_of_ble_eq_true rfl)) kX14_no rfl True.intro (T_X14_no (by omega) hG r102) ?_
    cases hf
    exact x_retI (pc := 25) dX14_greatestGroup_25
  · replace hf := (if_neg h101).symm.trans hf
    refine x_aload_n (pc := 12) dX14_greatestGroup_12 rfl ?_
    refine x_iload_n (pc := 13) dX14_greatestGroup_13 rfl ?_
    obtain ⟨v107, M106, r105, hf⟩ := bd2_some hf
    refine x_cr (v := vI v107) (vs := [vR 203, vI a1]) (rest := []) (k := 2) rfl (by omega) (ax_caV (pc := 14) dX14_greatestGroup_14 kX14_greatest rfl rfl WM_X14_398 WI_X14_greatest WS_X14_greatest WN_X14 (ax_rcO (t := 12) (axEx hG rfl) rfl (by decide)) (Nat.le_of_ble_eq_true rfl)) kX14_greatest rfl True.intro (T_X14_greatest (by omega) hG r105) ?_
    refine x_goto (tgt := 25) (pc := 17) dX14_greatestGroup_17 rfl ?_
    cases hf
    exact x_retI (pc := 25) dX14_greatestGroup_25
/- HexPondModel.isBridge(II)Z -/
def fX14_isBridge (M : ax_M) (a1 : Int) (a2 : Int) : Option (Int × ax_M) :=
  (if (fX14_isCell (mUI M 203 0 0) a1) = 0 then (bd2 (fX14_isNot (mUI M 203 0 0) 1) fun v104 M103 => (some (v104, M103))) else (if (fX14_isCell (mUI M 203 0 0) a2) = 0 then (bd2 (fX14_isNot (mUI M 203 0 0) 1) fun v108 M107 => (some (v108, M107))) else (bd1 (fX14_bridge (mUI M 203 0 0) a1 a2 0) fun v110 => (if v110 = 1 then (some (1, (mUI M 203 0 0))) else (bd1 (fX14_bridge (mUI M 203 0 0) a1 a2 1) fun v113 => (if v113 = 1 then (some (1, (mUI M 203 0 0))) else (some (0, (mUI M 203 0 0)))))))))
theorem T_X14_isBridge {G : ax_G} {d : Nat} (hd : 5 ≤ d) (hG : axPs G 150 244) {M : ax_M} {a1 : Int} {a2 : Int} {r : Int} {M1 : ax_M} (hf : fX14_isBridge M a1 a2 = some (r, M1)) : ax_Ex G tX14_isBridge d 0 (ax_args [vR 203, vI a1, vI a2] ++ List.replicate 0 none) [] M (.inl (some (vI r))) M1 := by
  show ax_Ex G tX14_isBridge d 0 [some (vR 203), some (vI a1), some (vI a2)] [] M _ _
  unfold fX14_isBridge at hf
  refine x_aload_n (pc := 0) dX14_isBridge_0 rfl ?_
  refine x_iconst (pc := 1) dX14_isBridge_1 ⟨by decide, by decide⟩ ?_
  refine x_putI (t := 12) (j := 0) (pc := 2) dX14_isBridge_2 (axEx hG rfl) rfl (by decide) (by decide) rfl rfl WF_X14_73 ?_
  refine x_aload_n (pc := 5) dX14_isBridge_5 rfl ?_
  refine x_iload_n (pc := 6) dX14_isBridge_6 rfl ?_
  refine x_cr (v := vI (fX14_isCell (mUI M 203 0 0) a1)) (vs := [vR 203, vI a1]) (rest := []) (k := 0) rfl (by omega) (ax_caV (pc := 7) dX14_isBridge_7 kX14_isCell rfl rfl WM_X14_401 WI_X14_isCell WS_X14_isCell WN_X14 (ax_rcO (t := 12) (axEx hG rfl) rfl (by decide)) (Nat.le_of_ble_eq_true rfl)) kX14_isCell rfl (Z_X14_isCell rfl) (T_X14_isCell (by omega) hG rfl) ?_
  refine x_ifeq (tgt := 21) (pc := 10) dX14_isBridge_10 rfl (fun h101 => ?_) (fun h101 => ?_)
  · replace hf := (if_pos h101).symm.trans hf
    refine x_aload_n (pc := 21) dX14_isBridge_21 rfl ?_
    refine x_iconst (pc := 22) dX14_isBridge_22 ⟨by decide, by decide⟩ ?_
    obtain ⟨v104, M103, r102, hf⟩ := bd2_some hf
    refine x_cr (v := vI v104) (vs := [vR 203, vI 1]) (rest := []) (k := 0) rfl (by omega) (ax_caV (pc := 23) dX14_isBridge_23 kX14_isNot rfl rfl WM_X14_383 WI_X14_isNot WS_X14_isNot WN_X14 (ax_rcO (t := 12) (axEx hG rfl) rfl (by decide)) (Nat.le_of_ble_eq_true rfl)) kX14_isNot rfl (Z_X14_isNot r102) (T_X14_isNot (by omega) hG r102) ?_
    cases hf
    exact x_retI (pc := 26) dX14_isBridge_26
  · replace hf := (if_neg h101).symm.trans hf
    refine x_aload_n (pc := 13) dX14_isBridge_13 rfl ?_
    refine x_iload_n (pc := 14) dX14_isBridge_14 rfl ?_
    refine x_cr (v := vI (fX14_isCell (mUI M 203 0 0) a2)) (vs := [vR 203, vI a2]) (rest := []) (k := 0) rfl (by omega) (ax_caV (pc := 15) dX14_isBridge_15 kX14_isCell rfl rfl WM_X14_401 WI_X14_isCell WS_X14_isCell WN_X14 (ax_rcO (t := 12) (axEx hG rfl) rfl (by decide)) (Nat.le_of_ble_eq_true rfl)) kX14_isCell rfl (Z_X14_isCell rfl) (T_X14_isCell (by omega) hG rfl) ?_
    refine x_ifne (tgt := 27) (pc := 18) dX14_isBridge_18 rfl (fun h105 => ?_) (fun h105 => ?_)
    · replace hf := (if_neg h105).symm.trans hf
      refine x_aload_n (pc := 27) dX14_isBridge_27 rfl ?_
      refine x_iload_n (pc := 28) dX14_isBridge_28 rfl ?_
      refine x_iload_n (pc := 29) dX14_isBridge_29 rfl ?_
      refine x_iconst (pc := 30) dX14_isBridge_30 ⟨by decide, by decide⟩ ?_
      obtain ⟨v110, r109, hf⟩ := bd1_some hf
      refine x_cr (v := vI v110) (vs := [vR 203, vI a1, vI a2, vI 0]) (rest := []) (k := 2) rfl (by omega) (ax_caV (pc := 31) dX14_isBridge_31 kX14_bridge rfl rfl WM_X14_314 WI_X14_bridge WS_X14_bridge WN_X14 (ax_rcO (t := 12) (axEx hG rfl) rfl (by decide)) (Nat.le_of_ble_eq_true rfl)) kX14_bridge rfl True.intro (T_X14_bridge (by omega) hG r109) ?_
      refine x_iconst (pc := 34) dX14_isBridge_34 ⟨by decide, by decide⟩ ?_
      refine x_icmpeq (tgt := 49) (pc := 35) dX14_isBridge_35 rfl (fun h111 => ?_) (fun h111 => ?_)
      · replace hf := (if_pos h111).symm.trans hf
        refine x_iconst (pc := 49) dX14_isBridge_49 ⟨by decide, by decide⟩ ?_
        refine x_goto (tgt := 54) (pc := 50) dX14_isBridge_50 rfl ?_
        cases hf
        exact x_retI (pc := 54) dX14_isBridge_54
      · replace hf := (if_neg h111).symm.trans hf
        refine x_aload_n (pc := 38) dX14_isBridge_38 rfl ?_
        refine x_iload_n (pc := 39) dX14_isBridge_39 rfl ?_
        refine x_iload_n (pc := 40) dX14_isBridge_40 rfl ?_
        refine x_iconst (pc := 41) dX14_isBridge_41 ⟨by decide, by decide⟩ ?_
        obtain ⟨v113, r112, hf⟩ := bd1_some hf
        refine x_cr (v := vI v113) (vs := [vR 203, vI a1, vI a2, vI 1]) (rest := []) (k := 2) rfl (by omega) (ax_caV (pc := 42) dX14_isBridge_42 kX14_bridge rfl rfl WM_X14_314 WI_X14_bridge WS_X14_bridge WN_X14 (ax_rcO (t := 12) (axEx hG rfl) rfl (by decide)) (Nat.le_of_ble_eq_true rfl)) kX14_bridge rfl True.intro (T_X14_bridge (by omega) hG r112) ?_
        refine x_iconst (pc := 45) dX14_isBridge_45 ⟨by decide, by decide⟩ ?_
        refine x_icmpne (tgt := 53) (pc := 46) dX14_isBridge_46 rfl (fun h114 => ?_) (fun h114 => ?_)
        · replace hf := (if_neg h114).symm.trans hf
          refine x_iconst (pc := 53) dX14_isBridge_53 ⟨by decide, by decide⟩ ?_
          cases hf
          exact x_retI (pc := 54) dX14_isBridge_54
        · replace hf := (if_pos h114).symm.trans hf
          refine x_iconst (pc := 49) dX14_isBridge_49 ⟨by decide, by decide⟩ ?_
          refine x_goto (tgt := 54) (pc := 50) dX14_isBridge_50 rfl ?_
          cases hf
          exact x_retI (pc := 54) dX14_isBridge_54
    · replace hf := (if_pos h105).symm.trans hf
      refine x_aload_n (pc := 21) dX14_isBridge_21 rfl ?_
      refine x_iconst (pc := 22) dX14_isBridge_22 ⟨by decide, by decide⟩ ?_
      obtain ⟨v108, M107, r106, hf⟩ := bd2_some hf
      refine x_cr (v := vI v108) (vs := [vR 203, vI 1]) (rest := []) (k := 0) rfl (by omega) (ax_caV (pc := 23) dX14_isBridge_23 kX14_isNot rfl rfl WM_X14_383 WI_X14_isNot WS_X14_isNot WN_X14 (ax_rcO (t := 12) (axEx hG rfl) rfl (by decide)) (Nat.le_of_ble_eq_true rfl)) kX14_isNot rfl (Z_X14_isNot r106) (T_X14_isNot (by omega) hG r106) ?_
      cases hf
      exact x_retI (pc := 26) dX14_isBridge_26
theorem Z_X14_isBridge {M : ax_M} {a1 : Int} {a2 : Int} {r : Int} {M1 : ax_M} (hf : fX14_isBridge M a1 a2 = some (r, M1)) : r = 0 ∨ r = 1 := by
  unfold fX14_isBridge at hf
  by_cases h101 : (fX14_isCell (mUI M 203 0 0) a1) = 0
  · replace hf := (if_pos h101).symm.trans hf
    obtain ⟨v104, M103, r102, hf⟩ := bd2_some hf
    cases hf
    exact (Z_X14_isNot r102)
  · replace hf := (if_neg h101).symm.trans hf
    by_cases h105 : (fX14_isCell (mUI M 203 0 0) a2) = 0
    · replace hf := (if_pos h105).symm.trans hf
      obtain ⟨v108, M107, r106, hf⟩ := bd2_some hf
      cases hf
      exact (Z_X14_isNot r106)
    · replace hf := (if_neg h105).symm.trans hf
      obtain ⟨v110, r109, hf⟩ := bd1_some hf
      by_cases h111 : v110 = 1
      · replace hf := (if_pos h111).symm.trans hf
        cases hf
        exact Or.inr rfl
      · replace hf := (if_neg h111).symm.trans hf
        obtain ⟨v113, r112, hf⟩ := bd1_some hf
        by_cases h114 : v113 = 1
        · replace hf := (if_pos h114).symm.trans hf
          cases hf
          exact Or.inr rfl
        · replace hf := (if_neg h114).symm.trans hf
          cases hf
          exact Or.inl rfl
/- HexPondModel.bridgesOf(I)I -/
def fX14_bridgesOf (M : ax_M) (a1 : Int) : Option (Int × ax_M) :=
  (if (fX14_isPlayer (mUI M 203 0 0) a1) = 0 then (bd2 (fX14_no (mUI M 203 0 0) 1) fun v104 M103 => (some (v104, M103))) else (bd1 (fX14_bridges (mUI M 203 0 0) a1 1) fun v106 => (some (v106, (mUI M 203 0 0)))))
theorem T_X14_bridgesOf {G : ax_G} {d : Nat} (hd : 6 ≤ d) (hG : axPs G 150 244) {M : ax_M} {a1 : Int} {r : Int} {M1 : ax_M} (hf : fX14_bridgesOf M a1 = some (r, M1)) : ax_Ex G tX14_bridgesOf d 0 (ax_args [vR 203, vI a1] ++ List.replicate 0 none) [] M (.inl (some (vI r))) M1 := by
  show ax_Ex G tX14_bridgesOf d 0 [some (vR 203), some (vI a1)] [] M _ _
  unfold fX14_bridgesOf at hf
  refine x_aload_n (pc := 0) dX14_bridgesOf_0 rfl ?_
  refine x_iconst (pc := 1) dX14_bridgesOf_1 ⟨by decide, by decide⟩ ?_
  refine x_putI (t := 12) (j := 0) (pc := 2) dX14_bridgesOf_2 (axEx hG rfl) rfl (by decide) (by decide) rfl rfl WF_X14_73 ?_
  refine x_iload_n (pc := 5) dX14_bridgesOf_5 rfl ?_
  refine x_cr (v := vI (fX14_isPlayer (mUI M 203 0 0) a1)) (vs := [vI a1]) (rest := []) (k := 0) rfl (by omega) (ax_caS (pc := 6) dX14_bridgesOf_6 kX14_isPlayer rfl rfl WM_X14_380 WT_X14_isPlayer WN_X14 (Nat.le_of_ble_eq_true rfl)) kX14_isPlayer rfl (Z_X14_isPlayer rfl) (T_X14_isPlayer (by omega) hG rfl) ?_
  refine x_ifeq (tgt := 21) (pc := 9) dX14_bridgesOf_9 rfl (fun h101 => ?_) (fun h101 => ?_)
  · replace hf := (if_pos h101).symm.trans hf
    refine x_aload_n (pc := 21) dX14_bridgesOf_21 rfl ?_
    refine x_iconst (pc := 22) dX14_bridgesOf_22 ⟨by decide, by decide⟩ ?_
    obtain ⟨v104, M103, r102, hf⟩ := bd2_some hf
    refine x_cr (v := vI v104) (vs := [vR 203, vI 1]) (rest := []) (k := 0) rfl (by omega) (ax_caV (pc := 23) dX14_bridgesOf_23 kX14_no rfl rfl WM_X14_250 WI_X14_no WS_X14_no WN_X14 (ax_rcO (t := 12) (axEx hG rfl) rfl (by decide)) (Nat.le_of_ble_eq_true rfl)) kX14_no rfl True.intro (T_X14_no (by omega) hG r102) ?_
    cases hf
    exact x_retI (pc := 26) dX14_bridgesOf_26
  · replace hf := (if_neg h101).symm.trans hf
    refine x_aload_n (pc := 12) dX14_bridgesOf_12 rfl ?_
    refine x_iload_n (pc := 13) dX14_bridgesOf_13 rfl ?_
    refine x_iconst (pc := 14) dX14_bridgesOf_14 ⟨by decide, by decide⟩ ?_
    obtain ⟨v106, r105, hf⟩ := bd1_some hf
    refine x_cr (v := vI v106) (vs := [vR 203, vI a1, vI 1]) (rest := []) (k := 3) rfl (by omega) (ax_caV (pc := 15) dX14_bridgesOf_15 kX14_bridges rfl rfl WM_X14_339 WI_X14_bridges WS_X14_bridges WN_X14 (ax_rcO (t := 12) (axEx hG rfl) rfl (by decide)) (Nat.le_of_ble_eq_true rfl)) kX14_bridges rfl True.intro (T_X14_bridges (by omega) hG r105) ?_
    refine x_goto (tgt := 26) (pc := 18) dX14_bridgesOf_18 rfl ?_
    cases hf
    exact x_retI (pc := 26) dX14_bridgesOf_26
/- HexPondModel.brokenBridgesOf(I)I -/
def fX14_brokenBridgesOf (M : ax_M) (a1 : Int) : Option (Int × ax_M) :=
  (if (fX14_isPlayer (mUI M 203 0 0) a1) = 0 then (bd2 (fX14_no (mUI M 203 0 0) 1) fun v104 M103 => (some (v104, M103))) else (bd1 (fX14_bridges (mUI M 203 0 0) a1 2) fun v106 => (some (v106, (mUI M 203 0 0)))))
theorem T_X14_brokenBridgesOf {G : ax_G} {d : Nat} (hd : 6 ≤ d) (hG : axPs G 150 244) {M : ax_M} {a1 : Int} {r : Int} {M1 : ax_M} (hf : fX14_brokenBridgesOf M a1 = some (r, M1)) : ax_Ex G tX14_brokenBridgesOf d 0 (ax_args [vR 203, vI a1] ++ List.replicate 0 none) [] M (.inl (some (vI r))) M1 := by
  show ax_Ex G tX14_brokenBridgesOf d 0 [some (vR 203), some (vI a1)] [] M _ _
  unfold fX14_brokenBridgesOf at hf
  refine x_aload_n (pc := 0) dX14_brokenBridgesOf_0 rfl ?_
  refine x_iconst (pc := 1) dX14_brokenBridgesOf_1 ⟨by decide, by decide⟩ ?_
  refine x_putI (t := 12) (j := 0) (pc := 2) dX14_brokenBridgesOf_2 (axEx hG rfl) rfl (by decide) (by decide) rfl rfl WF_X14_73 ?_
  refine x_iload_n (pc := 5) dX14_brokenBridgesOf_5 rfl ?_
  refine x_cr (v := vI (fX14_isPlayer (mUI M 203 0 0) a1)) (vs := [vI a1]) (rest := []) (k := 0) rfl (by omega) (ax_caS (pc := 6) dX14_brokenBridgesOf_6 kX14_isPlayer rfl rfl WM_X14_380 WT_X14_isPlayer WN_X14 (Nat.le_of_ble_eq_true rfl)) kX14_isPlayer rfl (Z_X14_isPlayer rfl) (T_X14_isPlayer (by omega) hG rfl) ?_
  refine x_ifeq (tgt := 21) (pc := 9) dX14_brokenBridgesOf_9 rfl (fun h101 => ?_) (fun h101 => ?_)
  · replace hf := (if_pos h101).symm.trans hf
    refine x_aload_n (pc := 21) dX14_brokenBridgesOf_21 rfl ?_
    refine x_iconst (pc := 22) dX14_brokenBridgesOf_22 ⟨by decide, by decide⟩ ?_
    obtain ⟨v104, M103, r102, hf⟩ := bd2_some hf
    refine x_cr (v := vI v104) (vs := [vR 203, vI 1]) (rest := []) (k := 0) rfl (by omega) (ax_caV (pc := 23) dX14_brokenBridgesOf_23 kX14_no rfl rfl WM_X14_250 WI_X14_no WS_X14_no WN_X14 (ax_rcO (t := 12) (axEx hG rfl) rfl (by decide)) (Nat.le_of_ble_eq_true rfl)) kX14_no rfl True.intro (T_X14_no (by omega) hG r102) ?_
    cases hf
    exact x_retI (pc := 26) dX14_brokenBridgesOf_26
  · replace hf := (if_neg h101).symm.trans hf
    refine x_aload_n (pc := 12) dX14_brokenBridgesOf_12 rfl ?_
    refine x_iload_n (pc := 13) dX14_brokenBridgesOf_13 rfl ?_
    refine x_iconst (pc := 14) dX14_brokenBridgesOf_14 ⟨by decide, by decide⟩ ?_
    obtain ⟨v106, r105, hf⟩ := bd1_some hf
    refine x_cr (v := vI v106) (vs := [vR 203, vI a1, vI 2]) (rest := []) (k := 3) rfl (by omega) (ax_caV (pc := 15) dX14_brokenBridgesOf_15 kX14_bridges rfl rfl WM_X14_339 WI_X14_bridges WS_X14_bridges WN_X14 (ax_rcO (t := 12) (axEx hG rfl) rfl (by decide)) (Nat.le_of_ble_eq_true rfl)) kX14_bridges rfl True.intro (T_X14_bridges (by omega) hG r105) ?_
    refine x_goto (tgt := 26) (pc := 18) dX14_brokenBridgesOf_18 rfl ?_
    cases hf
    exact x_retI (pc := 26) dX14_brokenBridgesOf_26
/- HexPondModel.isFrozen(II)Z -/
def fX14_isFrozen (M : ax_M) (a1 : Int) (a2 : Int) : Option (Int × ax_M) :=
  (if (fX14_isOn (mUI M 203 0 0) a1 a2) = 0 then (bd2 (fX14_isNot (mUI M 203 0 0) 1) fun v104 M103 => (some (v104, M103))) else (bd2 (fX14_frozen (mUI M 203 0 0) (fX14_at (mUI M 203 0 0) a1 a2)) fun v107 M106 => (some (v107, M106))))
theorem T_X14_isFrozen {G : ax_G} {d : Nat} (hd : 3 ≤ d) (hG : axPs G 150 244) {M : ax_M} {a1 : Int} {a2 : Int} {r : Int} {M1 : ax_M} (hf : fX14_isFrozen M a1 a2 = some (r, M1)) : ax_Ex G tX14_isFrozen d 0 (ax_args [vR 203, vI a1, vI a2] ++ List.replicate 0 none) [] M (.inl (some (vI r))) M1 := by
  show ax_Ex G tX14_isFrozen d 0 [some (vR 203), some (vI a1), some (vI a2)] [] M _ _
  unfold fX14_isFrozen at hf
  refine x_aload_n (pc := 0) dX14_isFrozen_0 rfl ?_
  refine x_iconst (pc := 1) dX14_isFrozen_1 ⟨by decide, by decide⟩ ?_
  refine x_putI (t := 12) (j := 0) (pc := 2) dX14_isFrozen_2 (axEx hG rfl) rfl (by decide) (by decide) rfl rfl WF_X14_73 ?_
  refine x_aload_n (pc := 5) dX14_isFrozen_5 rfl ?_
  refine x_iload_n (pc := 6) dX14_isFrozen_6 rfl ?_
  refine x_iload_n (pc := 7) dX14_isFrozen_7 rfl ?_
  refine x_cr (v := vI (fX14_isOn (mUI M 203 0 0) a1 a2)) (vs := [vR 203, vI a1, vI a2]) (rest := []) (k := 0) rfl (by omega) (ax_caV (pc := 8) dX14_isFrozen_8 kX14_isOn rfl rfl WM_X14_284 WI_X14_isOn WS_X14_isOn WN_X14 (ax_rcO (t := 12) (axEx hG rfl) rfl (by decide)) (Nat.le_of_ble_eq_true rfl)) kX14_isOn rfl (Z_X14_isOn rfl) (T_X14_isOn (by omega) hG rfl) ?_
  refine x_ifeq (tgt := 27) (pc := 11) dX14_isFrozen_11 rfl (fun h101 => ?_) (fun h101 => ?_)
  · replace hf := (if_pos h101).symm.trans hf
    refine x_aload_n (pc := 27) dX14_isFrozen_27 rfl ?_
    refine x_iconst (pc := 28) dX14_isFrozen_28 ⟨by decide, by decide⟩ ?_
    obtain ⟨v104, M103, r102, hf⟩ := bd2_some hf
    refine x_cr (v := vI v104) (vs := [vR 203, vI 1]) (rest := []) (k := 0) rfl (by omega) (ax_caV (pc := 29) dX14_isFrozen_29 kX14_isNot rfl rfl WM_X14_383 WI_X14_isNot WS_X14_isNot WN_X14 (ax_rcO (t := 12) (axEx hG rfl) rfl (by decide)) (Nat.le_of_ble_eq_true rfl)) kX14_isNot rfl (Z_X14_isNot r102) (T_X14_isNot (by omega) hG r102) ?_
    cases hf
    exact x_retI (pc := 32) dX14_isFrozen_32
  · replace hf := (if_neg h101).symm.trans hf
    refine x_aload_n (pc := 14) dX14_isFrozen_14 rfl ?_
    refine x_aload_n (pc := 15) dX14_isFrozen_15 rfl ?_
    refine x_iload_n (pc := 16) dX14_isFrozen_16 rfl ?_
    refine x_iload_n (pc := 17) dX14_isFrozen_17 rfl ?_
    refine x_cr (v := vI (fX14_at (mUI M 203 0 0) a1 a2)) (vs := [vR 203, vI a1, vI a2]) (rest := [vR 203]) (k := 0) rfl (by omega) (ax_caV (pc := 18) dX14_isFrozen_18 kX14_at rfl rfl WM_X14_288 WI_X14_at WS_X14_at WN_X14 (ax_rcO (t := 12) (axEx hG rfl) rfl (by decide)) (Nat.le_of_ble_eq_true rfl)) kX14_at rfl True.intro (T_X14_at (by omega) hG rfl) ?_
    obtain ⟨v107, M106, r105, hf⟩ := bd2_some hf
    refine x_cr (v := vI v107) (vs := [vR 203, vI (fX14_at (mUI M 203 0 0) a1 a2)]) (rest := []) (k := 2) rfl (by omega) (ax_caV (pc := 21) dX14_isFrozen_21 kX14_frozen rfl rfl WM_X14_320 WI_X14_frozen WS_X14_frozen WN_X14 (ax_rcO (t := 12) (axEx hG rfl) rfl (by decide)) (Nat.le_of_ble_eq_true rfl)) kX14_frozen rfl (Z_X14_frozen r105) (T_X14_frozen (by omega) hG r105) ?_
    refine x_goto (tgt := 32) (pc := 24) dX14_isFrozen_24 rfl ?_
    cases hf
    exact x_retI (pc := 32) dX14_isFrozen_32
theorem Z_X14_isFrozen {M : ax_M} {a1 : Int} {a2 : Int} {r : Int} {M1 : ax_M} (hf : fX14_isFrozen M a1 a2 = some (r, M1)) : r = 0 ∨ r = 1 := by
  unfold fX14_isFrozen at hf
  by_cases h101 : (fX14_isOn (mUI M 203 0 0) a1 a2) = 0
  · replace hf := (if_pos h101).symm.trans hf
    obtain ⟨v104, M103, r102, hf⟩ := bd2_some hf
    cases hf
    exact (Z_X14_isNot r102)
  · replace hf := (if_neg h101).symm.trans hf
    obtain ⟨v107, M106, r105, hf⟩ := bd2_some hf
    cases hf
    exact (Z_X14_frozen r105)
/- HexPondModel.frozenCells()I -/
def fX14_frozenCells (M : ax_M) : Option (Int × ax_M) :=
  (bd2 (fX14_allFrozen M) fun v103 M102 => (bd2 (fX14_ok M102 v103) fun v106 M105 => (some (v106, M105))))
theorem T_X14_frozenCells {G : ax_G} {d : Nat} (hd : 4 ≤ d) (hG : axPs G 150 244) {M : ax_M} {r : Int} {M1 : ax_M} (hf : fX14_frozenCells M = some (r, M1)) : ax_Ex G tX14_frozenCells d 0 (ax_args [vR 203] ++ List.replicate 0 none) [] M (.inl (some (vI r))) M1 := by
  show ax_Ex G tX14_frozenCells d 0 [some (vR 203)] [] M _ _
  unfold fX14_frozenCells at hf
  refine x_aload_n (pc := 0) dX14_frozenCells_0 rfl ?_
  refine x_aload_n (pc := 1) dX14_frozenCells_1 rfl ?_
  obtain ⟨v103, M102, r101, hf⟩ := bd2_some hf
  refine x_cr (v := vI v103) (vs := [vR 203]) (rest := [vR 203]) (k := 2) rfl (by omega) (ax_caV (pc := 2) dX14_frozenCells_2 kX14_allFrozen rfl rfl WM_X14_404 WI_X14_allFrozen WS_X14_allFrozen WN_X14 (ax_rcO (t := 12) (axEx hG rfl) rfl (by decide)) (Nat.le_of_ble_eq_true rfl)) kX14_allFrozen rfl True.intro (T_X14_allFrozen (by omega) hG r101) ?_
  obtain ⟨v106, M105, r104, hf⟩ := bd2_some hf
  refine x_cr (v := vI v106) (vs := [vR 203, vI v103]) (rest := []) (k := 0) rfl (by omega) (ax_caV (pc := 5) dX14_frozenCells_5 kX14_ok rfl rfl WM_X14_272 WI_X14_ok WS_X14_ok WN_X14 (ax_rcO (t := 12) (axEx hG rfl) rfl (by decide)) (Nat.le_of_ble_eq_true rfl)) kX14_ok rfl True.intro (T_X14_ok (by omega) hG r104) ?_
  cases hf
  exact x_retI (pc := 8) dX14_frozenCells_8
/- HexPondModel.orNone(I)I -/
def fX14_orNone (M : ax_M) (a1 : Int) : Option (Int × ax_M) :=
  (if a1 < 99 then (some (a1, M)) else (bd2 (fX14_no M 2) fun v105 M104 => (some (v105, M104))))
theorem T_X14_orNone {G : ax_G} {d : Nat} (hd : 1 ≤ d) (hG : axPs G 150 244) {M : ax_M} {a1 : Int} {r : Int} {M1 : ax_M} (hf : fX14_orNone M a1 = some (r, M1)) : ax_Ex G tX14_orNone d 0 (ax_args [vR 203, vI a1] ++ List.replicate 0 none) [] M (.inl (some (vI r))) M1 := by
  show ax_Ex G tX14_orNone d 0 [some (vR 203), some (vI a1)] [] M _ _
  unfold fX14_orNone at hf
  refine x_iload_n (pc := 0) dX14_orNone_0 rfl ?_
  refine x_bipush (pc := 1) dX14_orNone_1 (by decide) ⟨by decide, by decide⟩ ?_
  refine ax_cmp (fun b102a b102b b102c b102e => ?_)
  refine x_icmplt (tgt := 14) (pc := 3) dX14_orNone_3 rfl (fun h101 => ?_) (fun h101 => ?_)
  · replace hf := (if_pos h101).symm.trans hf
    refine x_iload_n (pc := 14) dX14_orNone_14 rfl ?_
    cases hf
    exact x_retI (pc := 15) dX14_orNone_15
  · replace hf := (if_neg (Int.not_lt.mpr h101)).symm.trans hf
    refine x_aload_n (pc := 6) dX14_orNone_6 rfl ?_
    refine x_iconst (pc := 7) dX14_orNone_7 ⟨by decide, by decide⟩ ?_
    obtain ⟨v105, M104, r103, hf⟩ := bd2_some hf
    refine x_cr (v := vI v105) (vs := [vR 203, vI 2]) (rest := []) (k := 0) rfl (by omega) (ax_caV (pc := 8) dX14_orNone_8 kX14_no rfl rfl WM_X14_250 WI_X14_no WS_X14_no WN_X14 (ax_rcO (t := 12) (axEx hG rfl) rfl (by decide)) (Nat.le_of_ble_eq_true rfl)) kX14_no rfl True.intro (T_X14_no (by omega) hG r103) ?_
    refine x_goto (tgt := 15) (pc := 11) dX14_orNone_11 rfl ?_
    cases hf
    exact x_retI (pc := 15) dX14_orNone_15
/- HexPondModel.stonesNeeded(I)I -/
def fX14_stonesNeeded (M : ax_M) (a1 : Int) : Option (Int × ax_M) :=
  (if (fX14_isPlayer (mUI M 203 0 0) a1) = 0 then (bd2 (fX14_no (mUI M 203 0 0) 1) fun v104 M103 => (some (v104, M103))) else (bd2 (fX14_needs (mUI M 203 0 0) a1) fun v107 M106 => (bd2 (fX14_orNone M106 v107) fun v110 M109 => (some (v110, M109)))))
theorem T_X14_stonesNeeded {G : ax_G} {d : Nat} (hd : 5 ≤ d) (hG : axPs G 150 244) {M : ax_M} {a1 : Int} {r : Int} {M1 : ax_M} (hf : fX14_stonesNeeded M a1 = some (r, M1)) : ax_Ex G tX14_stonesNeeded d 0 (ax_args [vR 203, vI a1] ++ List.replicate 0 none) [] M (.inl (some (vI r))) M1 := by
  show ax_Ex G tX14_stonesNeeded d 0 [some (vR 203), some (vI a1)] [] M _ _
  unfold fX14_stonesNeeded at hf
  refine x_aload_n (pc := 0) dX14_stonesNeeded_0 rfl ?_
  refine x_iconst (pc := 1) dX14_stonesNeeded_1 ⟨by decide, by decide⟩ ?_
  refine x_putI (t := 12) (j := 0) (pc := 2) dX14_stonesNeeded_2 (axEx hG rfl) rfl (by decide) (by decide) rfl rfl WF_X14_73 ?_
  refine x_iload_n (pc := 5) dX14_stonesNeeded_5 rfl ?_
  refine x_cr (v := vI (fX14_isPlayer (mUI M 203 0 0) a1)) (vs := [vI a1]) (rest := []) (k := 0) rfl (by omega) (ax_caS (pc := 6) dX14_stonesNeeded_6 kX14_isPlayer rfl rfl WM_X14_380 WT_X14_isPlayer WN_X14 (Nat.le_of_ble_eq_true rfl)) kX14_isPlayer rfl (Z_X14_isPlayer rfl) (T_X14_isPlayer (by omega) hG rfl) ?_
  refine x_ifeq (tgt := 24) (pc := 9) dX14_stonesNeeded_9 rfl (fun h101 => ?_) (fun h101 => ?_)
  · replace hf := (if_pos h101).symm.trans hf
    refine x_aload_n (pc := 24) dX14_stonesNeeded_24 rfl ?_
    refine x_iconst (pc := 25) dX14_stonesNeeded_25 ⟨by decide, by decide⟩ ?_
    obtain ⟨v104, M103, r102, hf⟩ := bd2_some hf
    refine x_cr (v := vI v104) (vs := [vR 203, vI 1]) (rest := []) (k := 0) rfl (by omega) (ax_caV (pc := 26) dX14_stonesNeeded_26 kX14_no rfl rfl WM_X14_250 WI_X14_no WS_X14_no WN_X14 (ax_rcO (t := 12) (axEx hG rfl) rfl (by decide)) (Nat.le_of_ble_eq_true rfl)) kX14_no rfl True.intro (T_X14_no (by omega) hG r102) ?_
    cases hf
    exact x_retI (pc := 29) dX14_stonesNeeded_29
  · replace hf := (if_neg h101).symm.trans hf
    refine x_aload_n (pc := 12) dX14_stonesNeeded_12 rfl ?_
    refine x_aload_n (pc := 13) dX14_stonesNeeded_13 rfl ?_
    refine x_iload_n (pc := 14) dX14_stonesNeeded_14 rfl ?_
    obtain ⟨v107, M106, r105, hf⟩ := bd2_some hf
    refine x_cr (v := vI v107) (vs := [vR 203, vI a1]) (rest := [vR 203]) (k := 2) rfl (by omega) (ax_caV (pc := 15) dX14_stonesNeeded_15 kX14_needs rfl rfl WM_X14_342 WI_X14_needs WS_X14_needs WN_X14 (ax_rcO (t := 12) (axEx hG rfl) rfl (by decide)) (Nat.le_of_ble_eq_true rfl)) kX14_needs rfl True.intro (T_X14_needs (by omega) hG r105) ?_
    obtain ⟨v110, M109, r108, hf⟩ := bd2_some hf
    refine x_cr (v := vI v110) (vs := [vR 203, vI v107]) (rest := []) (k := 0) rfl (by omega) (ax_caV (pc := 18) dX14_stonesNeeded_18 kX14_orNone rfl rfl WM_X14_407 WI_X14_orNone WS_X14_orNone WN_X14 (ax_rcO (t := 12) (axEx hG rfl) rfl (by decide)) (Nat.le_of_ble_eq_true rfl)) kX14_orNone rfl True.intro (T_X14_orNone (by omega) hG r108) ?_
    refine x_goto (tgt := 29) (pc := 21) dX14_stonesNeeded_21 rfl ?_
    cases hf
    exact x_retI (pc := 29) dX14_stonesNeeded_29
/- HexPondModel.stonesNeededThrough(III)I -/
def fX14_stonesNeededThrough (M : ax_M) (a1 : Int) (a2 : Int) (a3 : Int) : Option (Int × ax_M) :=
  (if (fX14_isPlayer (mUI M 203 0 0) a1) = 0 then (bd2 (fX14_no (mUI M 203 0 0) 1) fun v104 M103 => (some (v104, M103))) else (if (fX14_isOn (mUI M 203 0 0) a2 a3) = 0 then (bd2 (fX14_no (mUI M 203 0 0) 1) fun v108 M107 => (some (v108, M107))) else (bd2 (fX14_through (mUI M 203 0 0) a1 (fX14_at (mUI M 203 0 0) a2 a3)) fun v111 M110 => (if v111 = 9999 then (bd2 (fX14_no M110 2) fun v115 M114 => (some (v115, M114))) else (some (v111, M110))))))
theorem T_X14_stonesNeededThrough {G : ax_G} {d : Nat} (hd : 6 ≤ d) (hG : axPs G 150 244) {M : ax_M} {a1 : Int} {a2 : Int} {a3 : Int} {r : Int} {M1 : ax_M} (hf : fX14_stonesNeededThrough M a1 a2 a3 = some (r, M1)) : ax_Ex G tX14_stonesNeededThrough d 0 (ax_args [vR 203, vI a1, vI a2, vI a3] ++ List.replicate 1 none) [] M (.inl (some (vI r))) M1 := by
  show ax_Ex G tX14_stonesNeededThrough d 0 [some (vR 203), some (vI a1), some (vI a2), some (vI a3), none] [] M _ _
  unfold fX14_stonesNeededThrough at hf
  refine x_aload_n (pc := 0) dX14_stonesNeededThrough_0 rfl ?_
  refine x_iconst (pc := 1) dX14_stonesNeededThrough_1 ⟨by decide, by decide⟩ ?_
  refine x_putI (t := 12) (j := 0) (pc := 2) dX14_stonesNeededThrough_2 (axEx hG rfl) rfl (by decide) (by decide) rfl rfl WF_X14_73 ?_
  refine x_iload_n (pc := 5) dX14_stonesNeededThrough_5 rfl ?_
  refine x_cr (v := vI (fX14_isPlayer (mUI M 203 0 0) a1)) (vs := [vI a1]) (rest := []) (k := 0) rfl (by omega) (ax_caS (pc := 6) dX14_stonesNeededThrough_6 kX14_isPlayer rfl rfl WM_X14_380 WT_X14_isPlayer WN_X14 (Nat.le_of_ble_eq_true rfl)) kX14_isPlayer rfl (Z_X14_isPlayer rfl) (T_X14_isPlayer (by omega) hG rfl) ?_
  refine x_ifeq (tgt := 21) (pc := 9) dX14_stonesNeededThrough_9 rfl (fun h101 => ?_) (fun h101 => ?_)
  · replace hf := (if_pos h101).symm.trans hf
    refine x_aload_n (pc := 21) dX14_stonesNeededThrough_21 rfl ?_
    refine x_iconst (pc := 22) dX14_stonesNeededThrough_22 ⟨by decide, by decide⟩ ?_
    obtain ⟨v104, M103, r102, hf⟩ := bd2_some hf
    refine x_cr (v := vI v104) (vs := [vR 203, vI 1]) (rest := []) (k := 0) rfl (by omega) (ax_caV (pc := 23) dX14_stonesNeededThrough_23 kX14_no rfl rfl WM_X14_250 WI_X14_no WS_X14_no WN_X14 (ax_rcO (t := 12) (axEx hG rfl) rfl (by decide)) (Nat.le_of_ble_eq_true rfl)) kX14_no rfl True.intro (T_X14_no (by omega) hG r102) ?_
    cases hf
    exact x_retI (pc := 26) dX14_stonesNeededThrough_26
  · replace hf := (if_neg h101).symm.trans hf
    refine x_aload_n (pc := 12) dX14_stonesNeededThrough_12 rfl ?_
    refine x_iload_n (pc := 13) dX14_stonesNeededThrough_13 rfl ?_
    refine x_iload_n (pc := 14) dX14_stonesNeededThrough_14 rfl ?_
    refine x_cr (v := vI (fX14_isOn (mUI M 203 0 0) a2 a3)) (vs := [vR 203, vI a2, vI a3]) (rest := []) (k := 0) rfl (by omega) (ax_caV (pc := 15) dX14_stonesNeededThrough_15 kX14_isOn rfl rfl WM_X14_284 WI_X14_isOn WS_X14_isOn WN_X14 (ax_rcO (t := 12) (axEx hG rfl) rfl (by decide)) (Nat.le_of_ble_eq_true rfl)) kX14_isOn rfl (Z_X14_isOn rfl) (T_X14_isOn (by omega) hG rfl) ?_
    refine x_ifne (tgt := 27) (pc := 18) dX14_stonesNeededThrough_18 rfl (fun h105 => ?_) (fun h105 => ?_)
    · replace hf := (if_neg h105).symm.trans hf
      refine x_aload_n (pc := 27) dX14_stonesNeededThrough_27 rfl ?_
      refine x_iload_n (pc := 28) dX14_stonesNeededThrough_28 rfl ?_
      refine x_aload_n (pc := 29) dX14_stonesNeededThrough_29 rfl ?_
      refine x_iload_n (pc := 30) dX14_stonesNeededThrough_30 rfl ?_
      refine x_iload_n (pc := 31) dX14_stonesNeededThrough_31 rfl ?_
      refine x_cr (v := vI (fX14_at (mUI M 203 0 0) a2 a3)) (vs := [vR 203, vI a2, vI a3]) (rest := [vI a1, vR 203]) (k := 0) rfl (by omega) (ax_caV (pc := 32) dX14_stonesNeededThrough_32 kX14_at rfl rfl WM_X14_288 WI_X14_at WS_X14_at WN_X14 (ax_rcO (t := 12) (axEx hG rfl) rfl (by decide)) (Nat.le_of_ble_eq_true rfl)) kX14_at rfl True.intro (T_X14_at (by omega) hG rfl) ?_
      obtain ⟨v111, M110, r109, hf⟩ := bd2_some hf
      refine x_cr (v := vI v111) (vs := [vR 203, vI a1, vI (fX14_at (mUI M 203 0 0) a2 a3)]) (rest := []) (k := 0) rfl (by omega) (ax_caV (pc := 35) dX14_stonesNeededThrough_35 kX14_through rfl rfl WM_X14_410 WI_X14_through WS_X14_through WN_X14 (ax_rcO (t := 12) (axEx hG rfl) rfl (by decide)) (Nat.le_of_ble_eq_true rfl)) kX14_through rfl True.intro (T_X14_through (by omega) hG r109) ?_
      refine x_istore (ls' := [some (vR 203), some (vI a1), some (vI a2), some (vI a3), some (vI v111)]) (pc := 38) dX14_stonesNeededThrough_38 (Nat.le_of_ble_eq_true rfl) rfl rfl ?_
      refine x_iload (pc := 40) dX14_stonesNeededThrough_40 rfl ?_
      refine x_sipush (pc := 42) dX14_stonesNeededThrough_42 (by decide) ⟨by decide, by decide⟩ ?_
      refine x_icmpne (tgt := 56) (pc := 45) dX14_stonesNeededThrough_45 rfl (fun h112 => ?_) (fun h112 => ?_)
      · replace hf := (if_neg h112).symm.trans hf
        refine x_iload (pc := 56) dX14_stonesNeededThrough_56 rfl ?_
        cases hf
        exact x_retI (pc := 58) dX14_stonesNeededThrough_58
      · replace hf := (if_pos h112).symm.trans hf
        refine x_aload_n (pc := 48) dX14_stonesNeededThrough_48 rfl ?_
        refine x_iconst (pc := 49) dX14_stonesNeededThrough_49 ⟨by decide, by decide⟩ ?_
        obtain ⟨v115, M114, r113, hf⟩ := bd2_some hf
        refine x_cr (v := vI v115) (vs := [vR 203, vI 2]) (rest := []) (k := 0) rfl (by omega) (ax_caV (pc := 50) dX14_stonesNeededThrough_50 kX14_no rfl rfl WM_X14_250 WI_X14_no WS_X14_no WN_X14 (ax_rcO (t := 12) (axEx hG rfl) rfl (by decide)) (Nat.le_of_ble_eq_true rfl)) kX14_no rfl True.intro (T_X14_no (by omega) hG r113) ?_
        refine x_goto (tgt := 58) (pc := 53) dX14_stonesNeededThrough_53 rfl ?_
        cases hf
        exact x_retI (pc := 58) dX14_stonesNeededThrough_58
    · replace hf := (if_pos h105).symm.trans hf
      refine x_aload_n (pc := 21) dX14_stonesNeededThrough_21 rfl ?_
      refine x_iconst (pc := 22) dX14_stonesNeededThrough_22 ⟨by decide, by decide⟩ ?_
      obtain ⟨v108, M107, r106, hf⟩ := bd2_some hf
      refine x_cr (v := vI v108) (vs := [vR 203, vI 1]) (rest := []) (k := 0) rfl (by omega) (ax_caV (pc := 23) dX14_stonesNeededThrough_23 kX14_no rfl rfl WM_X14_250 WI_X14_no WS_X14_no WN_X14 (ax_rcO (t := 12) (axEx hG rfl) rfl (by decide)) (Nat.le_of_ble_eq_true rfl)) kX14_no rfl True.intro (T_X14_no (by omega) hG r106) ?_
      cases hf
      exact x_retI (pc := 26) dX14_stonesNeededThrough_26
/- HexPondModel.isWinningCell(III)Z -/
def fX14_isWinningCell (M : ax_M) (a1 : Int) (a2 : Int) (a3 : Int) : Option (Int × ax_M) :=
  (if (fX14_isPlayer (mUI M 203 0 0) a1) = 0 then (bd2 (fX14_isNot (mUI M 203 0 0) 1) fun v104 M103 => (some (v104, M103))) else (if (fX14_isOn (mUI M 203 0 0) a2 a3) = 0 then (bd2 (fX14_isNot (mUI M 203 0 0) 1) fun v108 M107 => (some (v108, M107))) else (bd2 (fX14_wins (mUI M 203 0 0) a1 (fX14_at (mUI M 203 0 0) a2 a3)) fun v111 M110 => (some (v111, M110)))))
theorem T_X14_isWinningCell {G : ax_G} {d : Nat} (hd : 5 ≤ d) (hG : axPs G 150 244) {M : ax_M} {a1 : Int} {a2 : Int} {a3 : Int} {r : Int} {M1 : ax_M} (hf : fX14_isWinningCell M a1 a2 a3 = some (r, M1)) : ax_Ex G tX14_isWinningCell d 0 (ax_args [vR 203, vI a1, vI a2, vI a3] ++ List.replicate 0 none) [] M (.inl (some (vI r))) M1 := by
  show ax_Ex G tX14_isWinningCell d 0 [some (vR 203), some (vI a1), some (vI a2), some (vI a3)] [] M _ _
  unfold fX14_isWinningCell at hf
  refine x_aload_n (pc := 0) dX14_isWinningCell_0 rfl ?_
  refine x_iconst (pc := 1) dX14_isWinningCell_1 ⟨by decide, by decide⟩ ?_
  refine x_putI (t := 12) (j := 0) (pc := 2) dX14_isWinningCell_2 (axEx hG rfl) rfl (by decide) (by decide) rfl rfl WF_X14_73 ?_
  refine x_iload_n (pc := 5) dX14_isWinningCell_5 rfl ?_
  refine x_cr (v := vI (fX14_isPlayer (mUI M 203 0 0) a1)) (vs := [vI a1]) (rest := []) (k := 0) rfl (by omega) (ax_caS (pc := 6) dX14_isWinningCell_6 kX14_isPlayer rfl rfl WM_X14_380 WT_X14_isPlayer WN_X14 (Nat.le_of_ble_eq_true rfl)) kX14_isPlayer rfl (Z_X14_isPlayer rfl) (T_X14_isPlayer (by omega) hG rfl) ?_
  refine x_ifeq (tgt := 35) (pc := 9) dX14_isWinningCell_9 rfl (fun h101 => ?_) (fun h101 => ?_)
  · replace hf := (if_pos h101).symm.trans hf
    refine x_aload_n (pc := 35) dX14_isWinningCell_35 rfl ?_
    refine x_iconst (pc := 36) dX14_isWinningCell_36 ⟨by decide, by decide⟩ ?_
    obtain ⟨v104, M103, r102, hf⟩ := bd2_some hf
    refine x_cr (v := vI v104) (vs := [vR 203, vI 1]) (rest := []) (k := 0) rfl (by omega) (ax_caV (pc := 37) dX14_isWinningCell_37 kX14_isNot rfl rfl WM_X14_383 WI_X14_isNot WS_X14_isNot WN_X14 (ax_rcO (t := 12) (axEx hG rfl) rfl (by decide)) (Nat.le_of_ble_eq_true rfl)) kX14_isNot rfl (Z_X14_isNot r102) (T_X14_isNot (by omega) hG r102) ?_
    cases hf
    exact x_retI (pc := 40) dX14_isWinningCell_40
  · replace hf := (if_neg h101).symm.trans hf
    refine x_aload_n (pc := 12) dX14_isWinningCell_12 rfl ?_
    refine x_iload_n (pc := 13) dX14_isWinningCell_13 rfl ?_
    refine x_iload_n (pc := 14) dX14_isWinningCell_14 rfl ?_
    refine x_cr (v := vI (fX14_isOn (mUI M 203 0 0) a2 a3)) (vs := [vR 203, vI a2, vI a3]) (rest := []) (k := 0) rfl (by omega) (ax_caV (pc := 15) dX14_isWinningCell_15 kX14_isOn rfl rfl WM_X14_284 WI_X14_isOn WS_X14_isOn WN_X14 (ax_rcO (t := 12) (axEx hG rfl) rfl (by decide)) (Nat.le_of_ble_eq_true rfl)) kX14_isOn rfl (Z_X14_isOn rfl) (T_X14_isOn (by omega) hG rfl) ?_
    refine x_ifeq (tgt := 35) (pc := 18) dX14_isWinningCell_18 rfl (fun h105 => ?_) (fun h105 => ?_)
    · replace hf := (if_pos h105).symm.trans hf
      refine x_aload_n (pc := 35) dX14_isWinningCell_35 rfl ?_
      refine x_iconst (pc := 36) dX14_isWinningCell_36 ⟨by decide, by decide⟩ ?_
      obtain ⟨v108, M107, r106, hf⟩ := bd2_some hf
      refine x_cr (v := vI v108) (vs := [vR 203, vI 1]) (rest := []) (k := 0) rfl (by omega) (ax_caV (pc := 37) dX14_isWinningCell_37 kX14_isNot rfl rfl WM_X14_383 WI_X14_isNot WS_X14_isNot WN_X14 (ax_rcO (t := 12) (axEx hG rfl) rfl (by decide)) (Nat.le_of_ble_eq_true rfl)) kX14_isNot rfl (Z_X14_isNot r106) (T_X14_isNot (by omega) hG r106) ?_
      cases hf
      exact x_retI (pc := 40) dX14_isWinningCell_40
    · replace hf := (if_neg h105).symm.trans hf
      refine x_aload_n (pc := 21) dX14_isWinningCell_21 rfl ?_
      refine x_iload_n (pc := 22) dX14_isWinningCell_22 rfl ?_
      refine x_aload_n (pc := 23) dX14_isWinningCell_23 rfl ?_
      refine x_iload_n (pc := 24) dX14_isWinningCell_24 rfl ?_
      refine x_iload_n (pc := 25) dX14_isWinningCell_25 rfl ?_
      refine x_cr (v := vI (fX14_at (mUI M 203 0 0) a2 a3)) (vs := [vR 203, vI a2, vI a3]) (rest := [vI a1, vR 203]) (k := 0) rfl (by omega) (ax_caV (pc := 26) dX14_isWinningCell_26 kX14_at rfl rfl WM_X14_288 WI_X14_at WS_X14_at WN_X14 (ax_rcO (t := 12) (axEx hG rfl) rfl (by decide)) (Nat.le_of_ble_eq_true rfl)) kX14_at rfl True.intro (T_X14_at (by omega) hG rfl) ?_
      obtain ⟨v111, M110, r109, hf⟩ := bd2_some hf
      refine x_cr (v := vI v111) (vs := [vR 203, vI a1, vI (fX14_at (mUI M 203 0 0) a2 a3)]) (rest := []) (k := 1) rfl (by omega) (ax_caV (pc := 29) dX14_isWinningCell_29 kX14_wins rfl rfl WM_X14_336 WI_X14_wins WS_X14_wins WN_X14 (ax_rcO (t := 12) (axEx hG rfl) rfl (by decide)) (Nat.le_of_ble_eq_true rfl)) kX14_wins rfl (Z_X14_wins r109) (T_X14_wins (by omega) hG r109) ?_
      refine x_goto (tgt := 40) (pc := 32) dX14_isWinningCell_32 rfl ?_
      cases hf
      exact x_retI (pc := 40) dX14_isWinningCell_40
theorem Z_X14_isWinningCell {M : ax_M} {a1 : Int} {a2 : Int} {a3 : Int} {r : Int} {M1 : ax_M} (hf : fX14_isWinningCell M a1 a2 a3 = some (r, M1)) : r = 0 ∨ r = 1 := by
  unfold fX14_isWinningCell at hf
  by_cases h101 : (fX14_isPlayer (mUI M 203 0 0) a1) = 0
  · replace hf := (if_pos h101).symm.trans hf
    obtain ⟨v104, M103, r102, hf⟩ := bd2_some hf
    cases hf
    exact (Z_X14_isNot r102)
  · replace hf := (if_neg h101).symm.trans hf
    by_cases h105 : (fX14_isOn (mUI M 203 0 0) a2 a3) = 0
    · replace hf := (if_pos h105).symm.trans hf
      obtain ⟨v108, M107, r106, hf⟩ := bd2_some hf
      cases hf
      exact (Z_X14_isNot r106)
    · replace hf := (if_neg h105).symm.trans hf
      obtain ⟨v111, M110, r109, hf⟩ := bd2_some hf
      cases hf
      exact (Z_X14_wins r109)
/- HexPondModel.winningCells(I)I -/
def fX14_winningCells (M : ax_M) (a1 : Int) : Option (Int × ax_M) :=
  (if (fX14_isPlayer (mUI M 203 0 0) a1) = 0 then (bd2 (fX14_no (mUI M 203 0 0) 1) fun v104 M103 => (some (v104, M103))) else (bd2 (fX14_winning (mUI M 203 0 0) a1 0) fun v107 M106 => (some (v107, M106))))
theorem T_X14_winningCells {G : ax_G} {d : Nat} (hd : 6 ≤ d) (hG : axPs G 150 244) {M : ax_M} {a1 : Int} {r : Int} {M1 : ax_M} (hf : fX14_winningCells M a1 = some (r, M1)) : ax_Ex G tX14_winningCells d 0 (ax_args [vR 203, vI a1] ++ List.replicate 0 none) [] M (.inl (some (vI r))) M1 := by
  show ax_Ex G tX14_winningCells d 0 [some (vR 203), some (vI a1)] [] M _ _
  unfold fX14_winningCells at hf
  refine x_aload_n (pc := 0) dX14_winningCells_0 rfl ?_
  refine x_iconst (pc := 1) dX14_winningCells_1 ⟨by decide, by decide⟩ ?_
  refine x_putI (t := 12) (j := 0) (pc := 2) dX14_winningCells_2 (axEx hG rfl) rfl (by decide) (by decide) rfl rfl WF_X14_73 ?_
  refine x_iload_n (pc := 5) dX14_winningCells_5 rfl ?_
  refine x_cr (v := vI (fX14_isPlayer (mUI M 203 0 0) a1)) (vs := [vI a1]) (rest := []) (k := 0) rfl (by omega) (ax_caS (pc := 6) dX14_winningCells_6 kX14_isPlayer rfl rfl WM_X14_380 WT_X14_isPlayer WN_X14 (Nat.le_of_ble_eq_true rfl)) kX14_isPlayer rfl (Z_X14_isPlayer rfl) (T_X14_isPlayer (by omega) hG rfl) ?_
  refine x_ifeq (tgt := 21) (pc := 9) dX14_winningCells_9 rfl (fun h101 => ?_) (fun h101 => ?_)
  · replace hf := (if_pos h101).symm.trans hf
    refine x_aload_n (pc := 21) dX14_winningCells_21 rfl ?_
    refine x_iconst (pc := 22) dX14_winningCells_22 ⟨by decide, by decide⟩ ?_
    obtain ⟨v104, M103, r102, hf⟩ := bd2_some hf
    refine x_cr (v := vI v104) (vs := [vR 203, vI 1]) (rest := []) (k := 0) rfl (by omega) (ax_caV (pc := 23) dX14_winningCells_23 kX14_no rfl rfl WM_X14_250 WI_X14_no WS_X14_no WN_X14 (ax_rcO (t := 12) (axEx hG rfl) rfl (by decide)) (Nat.le_of_ble_eq_true rfl)) kX14_no rfl True.intro (T_X14_no (by omega) hG r102) ?_
    cases hf
    exact x_retI (pc := 26) dX14_winningCells_26
  · replace hf := (if_neg h101).symm.trans hf
    refine x_aload_n (pc := 12) dX14_winningCells_12 rfl ?_
    refine x_iload_n (pc := 13) dX14_winningCells_13 rfl ?_
    refine x_iconst (pc := 14) dX14_winningCells_14 ⟨by decide, by decide⟩ ?_
    obtain ⟨v107, M106, r105, hf⟩ := bd2_some hf
    refine x_cr (v := vI v107) (vs := [vR 203, vI a1, vI 0]) (rest := []) (k := 2) rfl (by omega) (ax_caV (pc := 15) dX14_winningCells_15 kX14_winning rfl rfl WM_X14_351 WI_X14_winning WS_X14_winning WN_X14 (ax_rcO (t := 12) (axEx hG rfl) rfl (by decide)) (Nat.le_of_ble_eq_true rfl)) kX14_winning rfl True.intro (T_X14_winning (by omega) hG r105) ?_
    refine x_goto (tgt := 26) (pc := 18) dX14_winningCells_18 rfl ?_
    cases hf
    exact x_retI (pc := 26) dX14_winningCells_26
/- HexPondModel.lay(I)I -/
def fX14_lay (M : ax_M) (a1 : Int) : Option (Int × ax_M) :=
  (bd1 (fX14_inTurn M) fun v102 => (if 0 ≤ a1 ∧ a1 < 81 then (if 0 ≤ (mI (mUI M 233 (Int.toNat a1) v102) 203 17) ∧ (mI (mUI M 233 (Int.toNat a1) v102) 203 17) < 81 then (some (v102, (mUI (mUI (mUI M 233 (Int.toNat a1) v102) 234 (Int.toNat (mI (mUI M 233 (Int.toNat a1) v102) 203 17)) a1) 203 17 (wr ((mI (mUI (mUI M 233 (Int.toNat a1) v102) 234 (Int.toNat (mI (mUI M 233 (Int.toNat a1) v102) 203 17)) a1) 203 17) + 1))))) else none) else none))
theorem T_X14_lay {G : ax_G} {d : Nat} (hd : 3 ≤ d) (hG : axPs G 150 244) {M : ax_M} {a1 : Int} {r : Int} {M1 : ax_M} (hf : fX14_lay M a1 = some (r, M1)) : ax_Ex G tX14_lay d 0 (ax_args [vR 203, vI a1] ++ List.replicate 1 none) [] M (.inl (some (vI r))) M1 := by
  show ax_Ex G tX14_lay d 0 [some (vR 203), some (vI a1), none] [] M _ _
  unfold fX14_lay at hf
  refine x_aload_n (pc := 0) dX14_lay_0 rfl ?_
  obtain ⟨v102, r101, hf⟩ := bd1_some hf
  refine x_cr (v := vI v102) (vs := [vR 203]) (rest := []) (k := 0) rfl (by omega) (ax_caV (pc := 1) dX14_lay_1 kX14_inTurn rfl rfl WM_X14_374 WI_X14_inTurn WS_X14_inTurn WN_X14 (ax_rcO (t := 12) (axEx hG rfl) rfl (by decide)) (Nat.le_of_ble_eq_true rfl)) kX14_inTurn rfl True.intro (T_X14_inTurn (by omega) hG r101) ?_
  refine x_istore_n (ls' := [some (vR 203), some (vI a1), some (vI v102)]) (pc := 4) dX14_lay_4 (Nat.le_of_ble_eq_true rfl) rfl rfl ?_
  refine x_aload_n (pc := 5) dX14_lay_5 rfl ?_
  refine x_getF (t := 12) (j := 15) (r := 233) (pc := 6) dX14_lay_6 (axH hG rfl) (axEx hG rfl) rfl (by decide) (by decide) rfl rfl WF_X14_39 ?_
  refine x_iload_n (pc := 9) dX14_lay_9 rfl ?_
  refine x_iload_n (pc := 10) dX14_lay_10 rfl ?_
  by_cases h103 : 0 ≤ a1 ∧ a1 < 81
  · replace hf := (if_pos h103).symm.trans hf
    refine x_iast2 (n := 81) (pc := 11) dX14_lay_11 (axEx hG rfl) rfl h103.1 h103.2 ?_
    refine x_aload_n (pc := 12) dX14_lay_12 rfl ?_
    refine x_getF (t := 12) (j := 16) (r := 234) (pc := 13) dX14_lay_13 (axH hG rfl) (axEx hG rfl) rfl (by decide) (by decide) rfl rfl WF_X14_42 ?_
    refine x_aload_n (pc := 16) dX14_lay_16 rfl ?_
    refine x_getI (t := 12) (j := 17) (pc := 17) dX14_lay_17 (axEx hG rfl) rfl (by decide) (by decide) rfl WF_X14_269 ?_
    refine x_iload_n (pc := 20) dX14_lay_20 rfl ?_
    by_cases h104 : 0 ≤ (mI (mUI M 233 (Int.toNat a1) v102) 203 17) ∧ (mI (mUI M 233 (Int.toNat a1) v102) 203 17) < 81
    · replace hf := (if_pos h104).symm.trans hf
      refine x_iast2 (n := 81) (pc := 21) dX14_lay_21 (axEx hG rfl) rfl h104.1 h104.2 ?_
      refine x_aload_n (pc := 22) dX14_lay_22 rfl ?_
      refine x_dup (pc := 23) dX14_lay_23 rfl ?_
      refine x_getI (t := 12) (j := 17) (pc := 24) dX14_lay_24 (axEx hG rfl) rfl (by decide) (by decide) rfl WF_X14_269 ?_
      refine x_iconst (pc := 27) dX14_lay_27 ⟨by decide, by decide⟩ ?_
      refine x_iaddw (pc := 28) dX14_lay_28 ?_
      refine x_putI (t := 12) (j := 17) (pc := 29) dX14_lay_29 (axEx hG rfl) rfl (by decide) (by decide) rfl rfl WF_X14_269 ?_
      refine x_iload_n (pc := 32) dX14_lay_32 rfl ?_
      cases hf
      exact x_retI (pc := 33) dX14_lay_33
    · replace hf := (if_neg h104).symm.trans hf
      cases hf
  · replace hf := (if_neg h103).symm.trans hf
    cases hf
/- HexPondModel.layStone(II)I -/
def fX14_layStone (M : ax_M) (a1 : Int) (a2 : Int) : Option (Int × ax_M) :=
  (if (fX14_isOn (mUI M 203 0 0) a1 a2) = 0 then (bd2 (fX14_no (mUI M 203 0 0) 1) fun v104 M103 => (some (v104, M103))) else (bd2 (fX14_over (mUI M 203 0 0)) fun v107 M106 => (if v107 = 0 then (if 0 ≤ (fX14_at M106 a1 a2) ∧ (fX14_at M106 a1 a2) < 81 then (if (mI M106 233 (Int.toNat (fX14_at M106 a1 a2))) = (-1) then (bd2 (fX14_lay M106 (fX14_at M106 a1 a2)) fun v113 M112 => (some (v113, M112))) else (bd2 (fX14_no M106 2) fun v116 M115 => (some (v116, M115)))) else none) else (bd2 (fX14_no M106 2) fun v119 M118 => (some (v119, M118))))))
theorem T_X14_layStone {G : ax_G} {d : Nat} (hd : 5 ≤ d) (hG : axPs G 150 244) {M : ax_M} {a1 : Int} {a2 : Int} {r : Int} {M1 : ax_M} (hf : fX14_layStone M a1 a2 = some (r, M1)) : ax_Ex G tX14_layStone d 0 (ax_args [vR 203, vI a1, vI a2] ++ List.replicate 0 none) [] M (.inl (some (vI r))) M1 := by
  show ax_Ex G tX14_layStone d 0 [some (vR 203), some (vI a1), some (vI a2)] [] M _ _
  unfold fX14_layStone at hf
  refine x_aload_n (pc := 0) dX14_layStone_0 rfl ?_
  refine x_iconst (pc := 1) dX14_layStone_1 ⟨by decide, by decide⟩ ?_
  refine x_putI (t := 12) (j := 0) (pc := 2) dX14_layStone_2 (axEx hG rfl) rfl (by decide) (by decide) rfl rfl WF_X14_73 ?_
  refine x_aload_n (pc := 5) dX14_layStone_5 rfl ?_
  refine x_iload_n (pc := 6) dX14_layStone_6 rfl ?_
  refine x_iload_n (pc := 7) dX14_layStone_7 rfl ?_
  refine x_cr (v := vI (fX14_isOn (mUI M 203 0 0) a1 a2)) (vs := [vR 203, vI a1, vI a2]) (rest := []) (k := 0) rfl (by omega) (ax_caV (pc := 8) dX14_layStone_8 kX14_isOn rfl rfl WM_X14_284 WI_X14_isOn WS_X14_isOn WN_X14 (ax_rcO (t := 12) (axEx hG rfl) rfl (by decide)) (Nat.le_of_ble_eq_true rfl)) kX14_isOn rfl (Z_X14_isOn rfl) (T_X14_isOn (by omega) hG rfl) ?_
  refine x_ifne (tgt := 20) (pc := 11) dX14_layStone_11 rfl (fun h101 => ?_) (fun h101 => ?_)
  · replace hf := (if_neg h101).symm.trans hf
    refine x_aload_n (pc := 20) dX14_layStone_20 rfl ?_
    obtain ⟨v107, M106, r105, hf⟩ := bd2_some hf
    refine x_cr (v := vI v107) (vs := [vR 203]) (rest := []) (k := 0) rfl (by omega) (ax_caV (pc := 21) dX14_layStone_21 kX14_over rfl rfl WM_X14_370 WI_X14_over WS_X14_over WN_X14 (ax_rcO (t := 12) (axEx hG rfl) rfl (by decide)) (Nat.le_of_ble_eq_true rfl)) kX14_over rfl (Z_X14_over r105) (T_X14_over (by omega) hG r105) ?_
    refine x_ifne (tgt := 42) (pc := 24) dX14_layStone_24 rfl (fun h108 => ?_) (fun h108 => ?_)
    · replace hf := (if_neg h108).symm.trans hf
      refine x_aload_n (pc := 42) dX14_layStone_42 rfl ?_
      refine x_iconst (pc := 43) dX14_layStone_43 ⟨by decide, by decide⟩ ?_
      obtain ⟨v119, M118, r117, hf⟩ := bd2_some hf
      refine x_cr (v := vI v119) (vs := [vR 203, vI 2]) (rest := []) (k := 0) rfl (by omega) (ax_caV (pc := 44) dX14_layStone_44 kX14_no rfl rfl WM_X14_250 WI_X14_no WS_X14_no WN_X14 (ax_rcO (t := 12) (axEx hG rfl) rfl (by decide)) (Nat.le_of_ble_eq_true rfl)) kX14_no rfl True.intro (T_X14_no (by omega) hG r117) ?_
      refine x_goto (tgt := 60) (pc := 47) dX14_layStone_47 rfl ?_
      cases hf
      exact x_retI (pc := 60) dX14_layStone_60
    · replace hf := (if_pos h108).symm.trans hf
      refine x_aload_n (pc := 27) dX14_layStone_27 rfl ?_
      refine x_getF (t := 12) (j := 15) (r := 233) (pc := 28) dX14_layStone_28 (axH hG rfl) (axEx hG rfl) rfl (by decide) (by decide) rfl rfl WF_X14_39 ?_
      refine x_aload_n (pc := 31) dX14_layStone_31 rfl ?_
      refine x_iload_n (pc := 32) dX14_layStone_32 rfl ?_
      refine x_iload_n (pc := 33) dX14_layStone_33 rfl ?_
      refine x_cr (v := vI (fX14_at M106 a1 a2)) (vs := [vR 203, vI a1, vI a2]) (rest := [vR 233]) (k := 0) rfl (by omega) (ax_caV (pc := 34) dX14_layStone_34 kX14_at rfl rfl WM_X14_288 WI_X14_at WS_X14_at WN_X14 (ax_rcO (t := 12) (axEx hG rfl) rfl (by decide)) (Nat.le_of_ble_eq_true rfl)) kX14_at rfl True.intro (T_X14_at (by omega) hG rfl) ?_
      by_cases h109 : 0 ≤ (fX14_at M106 a1 a2) ∧ (fX14_at M106 a1 a2) < 81
      · replace hf := (if_pos h109).symm.trans hf
        refine x_iald2 (n := 81) (pc := 37) dX14_layStone_37 (axEx hG rfl) rfl h109.1 h109.2 ?_
        refine x_iconst (pc := 38) dX14_layStone_38 ⟨by decide, by decide⟩ ?_
        refine x_icmpeq (tgt := 50) (pc := 39) dX14_layStone_39 rfl (fun h110 => ?_) (fun h110 => ?_)
        · replace hf := (if_pos h110).symm.trans hf
          refine x_aload_n (pc := 50) dX14_layStone_50 rfl ?_
          refine x_aload_n (pc := 51) dX14_layStone_51 rfl ?_
          refine x_iload_n (pc := 52) dX14_layStone_52 rfl ?_
          refine x_iload_n (pc := 53) dX14_layStone_53 rfl ?_
          refine x_cr (v := vI (fX14_at M106 a1 a2)) (vs := [vR 203, vI a1, vI a2]) (rest := [vR 203]) (k := 0) rfl (by omega) (ax_caV (pc := 54) dX14_layStone_54 kX14_at rfl rfl WM_X14_288 WI_X14_at WS_X14_at WN_X14 (ax_rcO (t := 12) (axEx hG rfl) rfl (by decide)) (Nat.le_of_ble_eq_true rfl)) kX14_at rfl True.intro (T_X14_at (by omega) hG rfl) ?_
          obtain ⟨v113, M112, r111, hf⟩ := bd2_some hf
          refine x_cr (v := vI v113) (vs := [vR 203, vI (fX14_at M106 a1 a2)]) (rest := []) (k := 1) rfl (by omega) (ax_caV (pc := 57) dX14_layStone_57 kX14_lay rfl rfl WM_X14_413 WI_X14_lay WS_X14_lay WN_X14 (ax_rcO (t := 12) (axEx hG rfl) rfl (by decide)) (Nat.le_of_ble_eq_true rfl)) kX14_lay rfl True.intro (T_X14_lay (by omega) hG r111) ?_
          cases hf
          exact x_retI (pc := 60) dX14_layStone_60
        · replace hf := (if_neg h110).symm.trans hf
          refine x_aload_n (pc := 42) dX14_layStone_42 rfl ?_
          refine x_iconst (pc := 43) dX14_layStone_43 ⟨by decide, by decide⟩ ?_
          obtain ⟨v116, M115, r114, hf⟩ := bd2_some hf
          refine x_cr (v := vI v116) (vs := [vR 203, vI 2]) (rest := []) (k := 0) rfl (by omega) (ax_caV (pc := 44) dX14_layStone_44 kX14_no rfl rfl WM_X14_250 WI_X14_no WS_X14_no WN_X14 (ax_rcO (t := 12) (axEx hG rfl) rfl (by decide)) (Nat.le_of_ble_eq_true rfl)) kX14_no rfl True.intro (T_X14_no (by omega) hG r114) ?_
          refine x_goto (tgt := 60) (pc := 47) dX14_layStone_47 rfl ?_
          cases hf
          exact x_retI (pc := 60) dX14_layStone_60
      · replace hf := (if_neg h109).symm.trans hf
        cases hf
  · replace hf := (if_pos h101).symm.trans hf
    refine x_aload_n (pc := 14) dX14_layStone_14 rfl ?_
    refine x_iconst (pc := 15) dX14_layStone_15 ⟨by decide, by decide⟩ ?_
    obtain ⟨v104, M103, r102, hf⟩ := bd2_some hf
    refine x_cr (v := vI v104) (vs := [vR 203, vI 1]) (rest := []) (k := 0) rfl (by omega) (ax_caV (pc := 16) dX14_layStone_16 kX14_no rfl rfl WM_X14_250 WI_X14_no WS_X14_no WN_X14 (ax_rcO (t := 12) (axEx hG rfl) rfl (by decide)) (Nat.le_of_ble_eq_true rfl)) kX14_no rfl True.intro (T_X14_no (by omega) hG r102) ?_
    cases hf
    exact x_retI (pc := 19) dX14_layStone_19
/- HexPondModel.takeBack()I -/
def fX14_takeBack (M : ax_M) : Option (Int × ax_M) :=
  (if (mI (mUI M 203 0 0) 203 17) = 0 then (bd2 (fX14_no (mUI M 203 0 0) 1) fun v104 M103 => (some (v104, M103))) else (if 0 ≤ (mI (mUI (mUI M 203 0 0) 203 17 (wr ((mI (mUI M 203 0 0) 203 17) - 1))) 203 17) ∧ (mI (mUI (mUI M 203 0 0) 203 17 (wr ((mI (mUI M 203 0 0) 203 17) - 1))) 203 17) < 81 then (if 0 ≤ (mI (mUI (mUI M 203 0 0) 203 17 (wr ((mI (mUI M 203 0 0) 203 17) - 1))) 234 (Int.toNat (mI (mUI (mUI M 203 0 0) 203 17 (wr ((mI (mUI M 203 0 0) 203 17) - 1))) 203 17))) ∧ (mI (mUI (mUI M 203 0 0) 203 17 (wr ((mI (mUI M 203 0 0) 203 17) - 1))) 234 (Int.toNat (mI (mUI (mUI M 203 0 0) 203 17 (wr ((mI (mUI M 203 0 0) 203 17) - 1))) 203 17))) < 81 then (if 0 ≤ (mI (mUI (mUI (mUI M 203 0 0) 203 17 (wr ((mI (mUI M 203 0 0) 203 17) - 1))) 233 (Int.toNat (mI (mUI (mUI M 203 0 0) 203 17 (wr ((mI (mUI M 203 0 0) 203 17) - 1))) 234 (Int.toNat (mI (mUI (mUI M 203 0 0) 203 17 (wr ((mI (mUI M 203 0 0) 203 17) - 1))) 203 17)))) (-1)) 203 17) ∧ (mI (mUI (mUI (mUI M 203 0 0) 203 17 (wr ((mI (mUI M 203 0 0) 203 17) - 1))) 233 (Int.toNat (mI (mUI (mUI M 203 0 0) 203 17 (wr ((mI (mUI M 203 0 0) 203 17) - 1))) 234 (Int.toNat (mI (mUI (mUI M 203 0 0) 203 17 (wr ((mI (mUI M 203 0 0) 203 17) - 1))) 203 17)))) (-1)) 203 17) < 81 then (some ((mI (mUI (mUI (mUI M 203 0 0) 203 17 (wr ((mI (mUI M 203 0 0) 203 17) - 1))) 233 (Int.toNat (mI (mUI (mUI M 203 0 0) 203 17 (wr ((mI (mUI M 203 0 0) 203 17) - 1))) 234 (Int.toNat (mI (mUI (mUI M 203 0 0) 203 17 (wr ((mI (mUI M 203 0 0) 203 17) - 1))) 203 17)))) (-1)) 234 (Int.toNat (mI (mUI (mUI (mUI M 203 0 0) 203 17 (wr ((mI (mUI M 203 0 0) 203 17) - 1))) 233 (Int.toNat (mI (mUI (mUI M 203 0 0) 203 17 (wr ((mI (mUI M 203 0 0) 203 17) - 1))) 234 (Int.toNat (mI (mUI (mUI M 203 0 0) 203 17 (wr ((mI (mUI M 203 0 0) 203 17) - 1))) 203 17)))) (-1)) 203 17))), (mUI (mUI (mUI M 203 0 0) 203 17 (wr ((mI (mUI M 203 0 0) 203 17) - 1))) 233 (Int.toNat (mI (mUI (mUI M 203 0 0) 203 17 (wr ((mI (mUI M 203 0 0) 203 17) - 1))) 234 (Int.toNat (mI (mUI (mUI M 203 0 0) 203 17 (wr ((mI (mUI M 203 0 0) 203 17) - 1))) 203 17)))) (-1)))) else none) else none) else none))
theorem T_X14_takeBack {G : ax_G} {d : Nat} (hd : 1 ≤ d) (hG : axPs G 150 244) {M : ax_M} {r : Int} {M1 : ax_M} (hf : fX14_takeBack M = some (r, M1)) : ax_Ex G tX14_takeBack d 0 (ax_args [vR 203] ++ List.replicate 0 none) [] M (.inl (some (vI r))) M1 := by
  show ax_Ex G tX14_takeBack d 0 [some (vR 203)] [] M _ _
  unfold fX14_takeBack at hf
  refine x_aload_n (pc := 0) dX14_takeBack_0 rfl ?_
  refine x_iconst (pc := 1) dX14_takeBack_1 ⟨by decide, by decide⟩ ?_
  refine x_putI (t := 12) (j := 0) (pc := 2) dX14_takeBack_2 (axEx hG rfl) rfl (by decide) (by decide) rfl rfl WF_X14_73 ?_
  refine x_aload_n (pc := 5) dX14_takeBack_5 rfl ?_
  refine x_getI (t := 12) (j := 17) (pc := 6) dX14_takeBack_6 (axEx hG rfl) rfl (by decide) (by decide) rfl WF_X14_269 ?_
  refine x_ifne (tgt := 18) (pc := 9) dX14_takeBack_9 rfl (fun h101 => ?_) (fun h101 => ?_)
  · replace hf := (if_neg h101).symm.trans hf
    refine x_aload_n (pc := 18) dX14_takeBack_18 rfl ?_
    refine x_dup (pc := 19) dX14_takeBack_19 rfl ?_
    refine x_getI (t := 12) (j := 17) (pc := 20) dX14_takeBack_20 (axEx hG rfl) rfl (by decide) (by decide) rfl WF_X14_269 ?_
    refine x_iconst (pc := 23) dX14_takeBack_23 ⟨by decide, by decide⟩ ?_
    refine x_isubw (pc := 24) dX14_takeBack_24 ?_
    refine x_putI (t := 12) (j := 17) (pc := 25) dX14_takeBack_25 (axEx hG rfl) rfl (by decide) (by decide) rfl rfl WF_X14_269 ?_
    refine x_aload_n (pc := 28) dX14_takeBack_28 rfl ?_
    refine x_getF (t := 12) (j := 15) (r := 233) (pc := 29) dX14_takeBack_29 (axH hG rfl) (axEx hG rfl) rfl (by decide) (by decide) rfl rfl WF_X14_39 ?_
    refine x_aload_n (pc := 32) dX14_takeBack_32 rfl ?_
    refine x_getF (t := 12) (j := 16) (r := 234) (pc := 33) dX14_takeBack_33 (axH hG rfl) (axEx hG rfl) rfl (by decide) (by decide) rfl rfl WF_X14_42 ?_
    refine x_aload_n (pc := 36) dX14_takeBack_36 rfl ?_
    refine x_getI (t := 12) (j := 17) (pc := 37) dX14_takeBack_37 (axEx hG rfl) rfl (by decide) (by decide) rfl WF_X14_269 ?_
    by_cases h105 : 0 ≤ (mI (mUI (mUI M 203 0 0) 203 17 (wr ((mI (mUI M 203 0 0) 203 17) - 1))) 203 17) ∧ (mI (mUI (mUI M 203 0 0) 203 17 (wr ((mI (mUI M 203 0 0) 203 17) - 1))) 203 17) < 81
    · replace hf := (if_pos h105).symm.trans hf
      refine x_iald2 (n := 81) (pc := 40) dX14_takeBack_40 (axEx hG rfl) rfl h105.1 h105.2 ?_
      refine x_iconst (pc := 41) dX14_takeBack_41 ⟨by decide, by decide⟩ ?_
      by_cases h106 : 0 ≤ (mI (mUI (mUI M 203 0 0) 203 17 (wr ((mI (mUI M 203 0 0) 203 17) - 1))) 234 (Int.toNat (mI (mUI (mUI M 203 0 0) 203 17 (wr ((mI (mUI M 203 0 0) 203 17) - 1))) 203 17))) ∧ (mI (mUI (mUI M 203 0 0) 203 17 (wr ((mI (mUI M 203 0 0) 203 17) - 1))) 234 (Int.toNat (mI (mUI (mUI M 203 0 0) 203 17 (wr ((mI (mUI M 203 0 0) 203 17) - 1))) 203 17))) < 81
      · replace hf := (if_pos h106).symm.trans hf
        refine x_iast2 (n := 81) (pc := 42) dX14_takeBack_42 (axEx hG rfl) rfl h106.1 h106.2 ?_
        refine x_aload_n (pc := 43) dX14_takeBack_43 rfl ?_
        refine x_getF (t := 12) (j := 16) (r := 234) (pc := 44) dX14_takeBack_44 (axH hG rfl) (axEx hG rfl) rfl (by decide) (by decide) rfl rfl WF_X14_42 ?_
        refine x_aload_n (pc := 47) dX14_takeBack_47 rfl ?_
        refine x_getI (t := 12) (j := 17) (pc := 48) dX14_takeBack_48 (axEx hG rfl) rfl (by decide) (by decide) rfl WF_X14_269 ?_
        by_cases h107 : 0 ≤ (mI (mUI (mUI (mUI M 203 0 0) 203 17 (wr ((mI (mUI M 203 0 0) 203 17) - 1))) 233 (Int.toNat (mI (mUI (mUI M 203 0 0) 203 17 (wr ((mI (mUI M 203 0 0) 203 17) - 1))) 234 (Int.toNat (mI (mUI (mUI M 203 0 0) 203 17 (wr ((mI (mUI M 203 0 0) 203 17) - 1))) 203 17)))) (-1)) 203 17) ∧ (mI (mUI (mUI (mUI M 203 0 0) 203 17 (wr ((mI (mUI M 203 0 0) 203 17) - 1))) 233 (Int.toNat (mI (mUI (mUI M 203 0 0) 203 17 (wr ((mI (mUI M 203 0 0) 203 17) - 1))) 234 (Int.toNat (mI (mUI (mUI M 203 0 0) 203 17 (wr ((mI (mUI M 203 0 0) 203 17) - 1))) 203 17)))) (-1)) 203 17) < 81
        · replace hf := (if_pos h107).symm.trans hf
          refine x_iald2 (n := 81) (pc := 51) dX14_takeBack_51 (axEx hG rfl) rfl h107.1 h107.2 ?_
          cases hf
          exact x_retI (pc := 52) dX14_takeBack_52
        · replace hf := (if_neg h107).symm.trans hf
          cases hf
      · replace hf := (if_neg h106).symm.trans hf
        cases hf
    · replace hf := (if_neg h105).symm.trans hf
      cases hf
  · replace hf := (if_pos h101).symm.trans hf
    refine x_aload_n (pc := 12) dX14_takeBack_12 rfl ?_
    refine x_iconst (pc := 13) dX14_takeBack_13 ⟨by decide, by decide⟩ ?_
    obtain ⟨v104, M103, r102, hf⟩ := bd2_some hf
    refine x_cr (v := vI v104) (vs := [vR 203, vI 1]) (rest := []) (k := 0) rfl (by omega) (ax_caV (pc := 14) dX14_takeBack_14 kX14_no rfl rfl WM_X14_250 WI_X14_no WS_X14_no WN_X14 (ax_rcO (t := 12) (axEx hG rfl) rfl (by decide)) (Nat.le_of_ble_eq_true rfl)) kX14_no rfl True.intro (T_X14_no (by omega) hG r102) ?_
    cases hf
    exact x_retI (pc := 17) dX14_takeBack_17
/- HexPondModel.plannedCell()I -/
def fX14_plannedCell (M : ax_M) : Option (Int × ax_M) :=
  (bd2 (fX14_over (mUI M 203 0 0)) fun v103 M102 => (if v103 = 0 then (bd1 (fX14_inTurn M102) fun v106 => (bd2 (fX14_planned M102 v106) fun v109 M108 => (some (v109, M108)))) else (bd2 (fX14_no M102 1) fun v112 M111 => (some (v112, M111)))))
theorem T_X14_plannedCell {G : ax_G} {d : Nat} (hd : 8 ≤ d) (hG : axPs G 150 244) {M : ax_M} {r : Int} {M1 : ax_M} (hf : fX14_plannedCell M = some (r, M1)) : ax_Ex G tX14_plannedCell d 0 (ax_args [vR 203] ++ List.replicate 0 none) [] M (.inl (some (vI r))) M1 := by
  show ax_Ex G tX14_plannedCell d 0 [some (vR 203)] [] M _ _
  unfold fX14_plannedCell at hf
  refine x_aload_n (pc := 0) dX14_plannedCell_0 rfl ?_
  refine x_iconst (pc := 1) dX14_plannedCell_1 ⟨by decide, by decide⟩ ?_
  refine x_putI (t := 12) (j := 0) (pc := 2) dX14_plannedCell_2 (axEx hG rfl) rfl (by decide) (by decide) rfl rfl WF_X14_73 ?_
  refine x_aload_n (pc := 5) dX14_plannedCell_5 rfl ?_
  obtain ⟨v103, M102, r101, hf⟩ := bd2_some hf
  refine x_cr (v := vI v103) (vs := [vR 203]) (rest := []) (k := 0) rfl (by omega) (ax_caV (pc := 6) dX14_plannedCell_6 kX14_over rfl rfl WM_X14_370 WI_X14_over WS_X14_over WN_X14 (ax_rcO (t := 12) (axEx hG rfl) rfl (by decide)) (Nat.le_of_ble_eq_true rfl)) kX14_over rfl (Z_X14_over r101) (T_X14_over (by omega) hG r101) ?_
  refine x_ifeq (tgt := 20) (pc := 9) dX14_plannedCell_9 rfl (fun h104 => ?_) (fun h104 => ?_)
  · replace hf := (if_pos h104).symm.trans hf
    refine x_aload_n (pc := 20) dX14_plannedCell_20 rfl ?_
    refine x_aload_n (pc := 21) dX14_plannedCell_21 rfl ?_
    obtain ⟨v106, r105, hf⟩ := bd1_some hf
    refine x_cr (v := vI v106) (vs := [vR 203]) (rest := [vR 203]) (k := 0) rfl (by omega) (ax_caV (pc := 22) dX14_plannedCell_22 kX14_inTurn rfl rfl WM_X14_374 WI_X14_inTurn WS_X14_inTurn WN_X14 (ax_rcO (t := 12) (axEx hG rfl) rfl (by decide)) (Nat.le_of_ble_eq_true rfl)) kX14_inTurn rfl True.intro (T_X14_inTurn (by omega) hG r105) ?_
    obtain ⟨v109, M108, r107, hf⟩ := bd2_some hf
    refine x_cr (v := vI v109) (vs := [vR 203, vI v106]) (rest := []) (k := 2) rfl (by omega) (ax_caV (pc := 25) dX14_plannedCell_25 kX14_planned rfl rfl WM_X14_377 WI_X14_planned WS_X14_planned WN_X14 (ax_rcO (t := 12) (axEx hG rfl) rfl (by decide)) (Nat.le_of_ble_eq_true rfl)) kX14_planned rfl True.intro (T_X14_planned (by omega) hG r107) ?_
    cases hf
    exact x_retI (pc := 28) dX14_plannedCell_28
  · replace hf := (if_neg h104).symm.trans hf
    refine x_aload_n (pc := 12) dX14_plannedCell_12 rfl ?_
    refine x_iconst (pc := 13) dX14_plannedCell_13 ⟨by decide, by decide⟩ ?_
    obtain ⟨v112, M111, r110, hf⟩ := bd2_some hf
    refine x_cr (v := vI v112) (vs := [vR 203, vI 1]) (rest := []) (k := 0) rfl (by omega) (ax_caV (pc := 14) dX14_plannedCell_14 kX14_no rfl rfl WM_X14_250 WI_X14_no WS_X14_no WN_X14 (ax_rcO (t := 12) (axEx hG rfl) rfl (by decide)) (Nat.le_of_ble_eq_true rfl)) kX14_no rfl True.intro (T_X14_no (by omega) hG r110) ?_
    refine x_goto (tgt := 28) (pc := 17) dX14_plannedCell_17 rfl ?_
    cases hf
    exact x_retI (pc := 28) dX14_plannedCell_28
/- HexPondModel.playByPlans(I)I -/
def fX14_playByPlans (M : ax_M) (a1 : Int) : Option (Int × ax_M) :=
  (if (fX14_isIn (mUI M 203 0 0) a1 1 81) = 0 then (bd2 (fX14_no (mUI M 203 0 0) 1) fun v104 M103 => (some (v104, M103))) else (bd2 (fX14_play (mUI M 203 0 0) a1 1) fun v107 M106 => (some (v107, M106))))
theorem T_X14_playByPlans {G : ax_G} {d : Nat} (hd : 9 ≤ d) (hG : axPs G 150 244) {M : ax_M} {a1 : Int} {r : Int} {M1 : ax_M} (hf : fX14_playByPlans M a1 = some (r, M1)) : ax_Ex G tX14_playByPlans d 0 (ax_args [vR 203, vI a1] ++ List.replicate 0 none) [] M (.inl (some (vI r))) M1 := by
  show ax_Ex G tX14_playByPlans d 0 [some (vR 203), some (vI a1)] [] M _ _
  unfold fX14_playByPlans at hf
  refine x_aload_n (pc := 0) dX14_playByPlans_0 rfl ?_
  refine x_iconst (pc := 1) dX14_playByPlans_1 ⟨by decide, by decide⟩ ?_
  refine x_putI (t := 12) (j := 0) (pc := 2) dX14_playByPlans_2 (axEx hG rfl) rfl (by decide) (by decide) rfl rfl WF_X14_73 ?_
  refine x_iload_n (pc := 5) dX14_playByPlans_5 rfl ?_
  refine x_iconst (pc := 6) dX14_playByPlans_6 ⟨by decide, by decide⟩ ?_
  refine x_bipush (pc := 7) dX14_playByPlans_7 (by decide) ⟨by decide, by decide⟩ ?_
  refine x_cr (v := vI (fX14_isIn (mUI M 203 0 0) a1 1 81)) (vs := [vI a1, vI 1, vI 81]) (rest := []) (k := 0) rfl (by omega) (ax_caS (pc := 9) dX14_playByPlans_9 kX14_isIn rfl rfl WM_X14_76 WT_X14_isIn WN_X14 (Nat.le_of_ble_eq_true rfl)) kX14_isIn rfl (Z_X14_isIn rfl) (T_X14_isIn (by omega) hG rfl) ?_
  refine x_ifeq (tgt := 24) (pc := 12) dX14_playByPlans_12 rfl (fun h101 => ?_) (fun h101 => ?_)
  · replace hf := (if_pos h101).symm.trans hf
    refine x_aload_n (pc := 24) dX14_playByPlans_24 rfl ?_
    refine x_iconst (pc := 25) dX14_playByPlans_25 ⟨by decide, by decide⟩ ?_
    obtain ⟨v104, M103, r102, hf⟩ := bd2_some hf
    refine x_cr (v := vI v104) (vs := [vR 203, vI 1]) (rest := []) (k := 0) rfl (by omega) (ax_caV (pc := 26) dX14_playByPlans_26 kX14_no rfl rfl WM_X14_250 WI_X14_no WS_X14_no WN_X14 (ax_rcO (t := 12) (axEx hG rfl) rfl (by decide)) (Nat.le_of_ble_eq_true rfl)) kX14_no rfl True.intro (T_X14_no (by omega) hG r102) ?_
    cases hf
    exact x_retI (pc := 29) dX14_playByPlans_29
  · replace hf := (if_neg h101).symm.trans hf
    refine x_aload_n (pc := 15) dX14_playByPlans_15 rfl ?_
    refine x_iload_n (pc := 16) dX14_playByPlans_16 rfl ?_
    refine x_iconst (pc := 17) dX14_playByPlans_17 ⟨by decide, by decide⟩ ?_
    obtain ⟨v107, M106, r105, hf⟩ := bd2_some hf
    refine x_cr (v := vI v107) (vs := [vR 203, vI a1, vI 1]) (rest := []) (k := 3) rfl (by omega) (ax_caV (pc := 18) dX14_playByPlans_18 kX14_play rfl rfl WM_X14_416 WI_X14_play WS_X14_play WN_X14 (ax_rcO (t := 12) (axEx hG rfl) rfl (by decide)) (Nat.le_of_ble_eq_true rfl)) kX14_play rfl True.intro (T_X14_play (by omega) hG r105) ?_
    refine x_goto (tgt := 29) (pc := 21) dX14_playByPlans_21 rfl ?_
    cases hf
    exact x_retI (pc := 29) dX14_playByPlans_29
/- HexPondModel.stonesByPlans()I -/
def fX14_stonesByPlans (M : ax_M) : Option (Int × ax_M) :=
  (bd1 (fX14_keep (mUI M 203 0 0)) fun M102 => (bd2 (fX14_play M102 81 0) fun v105 M104 => (bd1 (fX14_bringBack M104) fun M107 => (some (v105, M107)))))
theorem T_X14_stonesByPlans {G : ax_G} {d : Nat} (hd : 9 ≤ d) (hG : axPs G 150 244) {M : ax_M} {r : Int} {M1 : ax_M} (hf : fX14_stonesByPlans M = some (r, M1)) : ax_Ex G tX14_stonesByPlans d 0 (ax_args [vR 203] ++ List.replicate 1 none) [] M (.inl (some (vI r))) M1 := by
  show ax_Ex G tX14_stonesByPlans d 0 [some (vR 203), none] [] M _ _
  unfold fX14_stonesByPlans at hf
  refine x_aload_n (pc := 0) dX14_stonesByPlans_0 rfl ?_
  refine x_iconst (pc := 1) dX14_stonesByPlans_1 ⟨by decide, by decide⟩ ?_
  refine x_putI (t := 12) (j := 0) (pc := 2) dX14_stonesByPlans_2 (axEx hG rfl) rfl (by decide) (by decide) rfl rfl WF_X14_73 ?_
  refine x_aload_n (pc := 5) dX14_stonesByPlans_5 rfl ?_
  obtain ⟨M102, r101, hf⟩ := bd1_some hf
  refine x_cv (vs := [vR 203]) (rest := []) (k := 0) rfl (by omega) (ax_caV (pc := 6) dX14_stonesByPlans_6 kX14_keep rfl rfl WM_X14_419 WI_X14_keep WS_X14_keep WN_X14 (ax_rcO (t := 12) (axEx hG rfl) rfl (by decide)) (Nat.le_of_ble_eq_true rfl)) kX14_keep rfl True.intro (T_X14_keep (by omega) hG r101) ?_
  refine x_aload_n (pc := 9) dX14_stonesByPlans_9 rfl ?_
  refine x_bipush (pc := 10) dX14_stonesByPlans_10 (by decide) ⟨by decide, by decide⟩ ?_
  refine x_iconst (pc := 12) dX14_stonesByPlans_12 ⟨by decide, by decide⟩ ?_
  obtain ⟨v105, M104, r103, hf⟩ := bd2_some hf
  refine x_cr (v := vI v105) (vs := [vR 203, vI 81, vI 0]) (rest := []) (k := 3) rfl (by omega) (ax_caV (pc := 13) dX14_stonesByPlans_13 kX14_play rfl rfl WM_X14_416 WI_X14_play WS_X14_play WN_X14 (ax_rcO (t := 12) (axEx hG rfl) rfl (by decide)) (Nat.le_of_ble_eq_true rfl)) kX14_play rfl True.intro (T_X14_play (by omega) hG r103) ?_
  refine x_istore_n (ls' := [some (vR 203), some (vI v105)]) (pc := 16) dX14_stonesByPlans_16 (Nat.le_of_ble_eq_true rfl) rfl rfl ?_
  refine x_aload_n (pc := 17) dX14_stonesByPlans_17 rfl ?_
  obtain ⟨M107, r106, hf⟩ := bd1_some hf
  refine x_cv (vs := [vR 203]) (rest := []) (k := 0) rfl (by omega) (ax_caV (pc := 18) dX14_stonesByPlans_18 kX14_bringBack rfl rfl WM_X14_422 WI_X14_bringBack WS_X14_bringBack WN_X14 (ax_rcO (t := 12) (axEx hG rfl) rfl (by decide)) (Nat.le_of_ble_eq_true rfl)) kX14_bringBack rfl True.intro (T_X14_bringBack (by omega) hG r106) ?_
  refine x_iload_n (pc := 21) dX14_stonesByPlans_21 rfl ?_
  cases hf
  exact x_retI (pc := 22) dX14_stonesByPlans_22
/- HexPondModel.winnerByPlans()I -/
def fX14_winnerByPlans (M : ax_M) : Option (Int × ax_M) :=
  (bd1 (fX14_keep (mUI M 203 0 0)) fun M102 => (bd2 (fX14_play M102 81 0) fun v105 M104 => (bd2 (fX14_won M104 0) fun v108 M107 => (if v108 = 0 then (bd2 (fX14_won M107 1) fun v112 M111 => (if v112 = 0 then (bd1 (fX14_bringBack M111) fun M115 => (some ((-1), M115))) else (bd1 (fX14_bringBack M111) fun M117 => (some (1, M117))))) else (bd1 (fX14_bringBack M107) fun M119 => (some (0, M119)))))))
theorem T_X14_winnerByPlans {G : ax_G} {d : Nat} (hd : 9 ≤ d) (hG : axPs G 150 244) {M : ax_M} {r : Int} {M1 : ax_M} (hf : fX14_winnerByPlans M = some (r, M1)) : ax_Ex G tX14_winnerByPlans d 0 (ax_args [vR 203] ++ List.replicate 1 none) [] M (.inl (some (vI r))) M1 := by
  show ax_Ex G tX14_winnerByPlans d 0 [some (vR 203), none] [] M _ _
  unfold fX14_winnerByPlans at hf
  refine x_aload_n (pc := 0) dX14_winnerByPlans_0 rfl ?_
  refine x_iconst (pc := 1) dX14_winnerByPlans_1 ⟨by decide, by decide⟩ ?_
  refine x_putI (t := 12) (j := 0) (pc := 2) dX14_winnerByPlans_2 (axEx hG rfl) rfl (by decide) (by decide) rfl rfl WF_X14_73 ?_
  refine x_aload_n (pc := 5) dX14_winnerByPlans_5 rfl ?_
  obtain ⟨M102, r101, hf⟩ := bd1_some hf
  refine x_cv (vs := [vR 203]) (rest := []) (k := 0) rfl (by omega) (ax_caV (pc := 6) dX14_winnerByPlans_6 kX14_keep rfl rfl WM_X14_419 WI_X14_keep WS_X14_keep WN_X14 (ax_rcO (t := 12) (axEx hG rfl) rfl (by decide)) (Nat.le_of_ble_eq_true rfl)) kX14_keep rfl True.intro (T_X14_keep (by omega) hG r101) ?_
  refine x_aload_n (pc := 9) dX14_winnerByPlans_9 rfl ?_
  refine x_bipush (pc := 10) dX14_winnerByPlans_10 (by decide) ⟨by decide, by decide⟩ ?_
  refine x_iconst (pc := 12) dX14_winnerByPlans_12 ⟨by decide, by decide⟩ ?_
  obtain ⟨v105, M104, r103, hf⟩ := bd2_some hf
  refine x_cr (v := vI v105) (vs := [vR 203, vI 81, vI 0]) (rest := []) (k := 3) rfl (by omega) (ax_caV (pc := 13) dX14_winnerByPlans_13 kX14_play rfl rfl WM_X14_416 WI_X14_play WS_X14_play WN_X14 (ax_rcO (t := 12) (axEx hG rfl) rfl (by decide)) (Nat.le_of_ble_eq_true rfl)) kX14_play rfl True.intro (T_X14_play (by omega) hG r103) ?_
  refine x_pop (pc := 16) dX14_winnerByPlans_16 rfl ?_
  refine x_aload_n (pc := 17) dX14_winnerByPlans_17 rfl ?_
  refine x_iconst (pc := 18) dX14_winnerByPlans_18 ⟨by decide, by decide⟩ ?_
  obtain ⟨v108, M107, r106, hf⟩ := bd2_some hf
  refine x_cr (v := vI v108) (vs := [vR 203, vI 0]) (rest := []) (k := 4) rfl (by omega) (ax_caV (pc := 19) dX14_winnerByPlans_19 kX14_won rfl rfl WM_X14_304 WI_X14_won WS_X14_won WN_X14 (ax_rcO (t := 12) (axEx hG rfl) rfl (by decide)) (Nat.le_of_ble_eq_true rfl)) kX14_won rfl (Z_X14_won r106) (T_X14_won (by omega) hG r106) ?_
  refine x_ifeq (tgt := 29) (pc := 22) dX14_winnerByPlans_22 rfl (fun h109 => ?_) (fun h109 => ?_)
  · replace hf := (if_pos h109).symm.trans hf
    refine x_aload_n (pc := 29) dX14_winnerByPlans_29 rfl ?_
    refine x_iconst (pc := 30) dX14_winnerByPlans_30 ⟨by decide, by decide⟩ ?_
    obtain ⟨v112, M111, r110, hf⟩ := bd2_some hf
    refine x_cr (v := vI v112) (vs := [vR 203, vI 1]) (rest := []) (k := 4) rfl (by omega) (ax_caV (pc := 31) dX14_winnerByPlans_31 kX14_won rfl rfl WM_X14_304 WI_X14_won WS_X14_won WN_X14 (ax_rcO (t := 12) (axEx hG rfl) rfl (by decide)) (Nat.le_of_ble_eq_true rfl)) kX14_won rfl (Z_X14_won r110) (T_X14_won (by omega) hG r110) ?_
    refine x_ifeq (tgt := 41) (pc := 34) dX14_winnerByPlans_34 rfl (fun h113 => ?_) (fun h113 => ?_)
    · replace hf := (if_pos h113).symm.trans hf
      refine x_iconst (pc := 41) dX14_winnerByPlans_41 ⟨by decide, by decide⟩ ?_
      refine x_istore_n (ls' := [some (vR 203), some (vI (-1))]) (pc := 42) dX14_winnerByPlans_42 (Nat.le_of_ble_eq_true rfl) rfl rfl ?_
      refine x_aload_n (pc := 43) dX14_winnerByPlans_43 rfl ?_
      obtain ⟨M115, r114, hf⟩ := bd1_some hf
      refine x_cv (vs := [vR 203]) (rest := []) (k := 0) rfl (by omega) (ax_caV (pc := 44) dX14_winnerByPlans_44 kX14_bringBack rfl rfl WM_X14_422 WI_X14_bringBack WS_X14_bringBack WN_X14 (ax_rcO (t := 12) (axEx hG rfl) rfl (by decide)) (Nat.le_of_ble_eq_true rfl)) kX14_bringBack rfl True.intro (T_X14_bringBack (by omega) hG r114) ?_
      refine x_iload_n (pc := 47) dX14_winnerByPlans_47 rfl ?_
      cases hf
      exact x_retI (pc := 48) dX14_winnerByPlans_48
    · replace hf := (if_neg h113).symm.trans hf
      refine x_iconst (pc := 37) dX14_winnerByPlans_37 ⟨by decide, by decide⟩ ?_
      refine x_goto (tgt := 42) (pc := 38) dX14_winnerByPlans_38 rfl ?_
      refine x_istore_n (ls' := [some (vR 203), some (vI 1)]) (pc := 42) dX14_winnerByPlans_42 (Nat.le_of_ble_eq_true rfl) rfl rfl ?_
      refine x_aload_n (pc := 43) dX14_winnerByPlans_43 rfl ?_
      obtain ⟨M117, r116, hf⟩ := bd1_some hf
      refine x_cv (vs := [vR 203]) (rest := []) (k := 0) rfl (by omega) (ax_caV (pc := 44) dX14_winnerByPlans_44 kX14_bringBack rfl rfl WM_X14_422 WI_X14_bringBack WS_X14_bringBack WN_X14 (ax_rcO (t := 12) (axEx hG rfl) rfl (by decide)) (Nat.le_of_ble_eq_true rfl)) kX14_bringBack rfl True.intro (T_X14_bringBack (by omega) hG r116) ?_
      refine x_iload_n (pc := 47) dX14_winnerByPlans_47 rfl ?_
      cases hf
      exact x_retI (pc := 48) dX14_winnerByPlans_48
  · replace hf := (if_neg h109).symm.trans hf
    refine x_iconst (pc := 25) dX14_winnerByPlans_25 ⟨by decide, by decide⟩ ?_
    refine x_goto (tgt := 42) (pc := 26) dX14_winnerByPlans_26 rfl ?_
    refine x_istore_n (ls' := [some (vR 203), some (vI 0)]) (pc := 42) dX14_winnerByPlans_42 (Nat.le_of_ble_eq_true rfl) rfl rfl ?_
    refine x_aload_n (pc := 43) dX14_winnerByPlans_43 rfl ?_
    obtain ⟨M119, r118, hf⟩ := bd1_some hf
    refine x_cv (vs := [vR 203]) (rest := []) (k := 0) rfl (by omega) (ax_caV (pc := 44) dX14_winnerByPlans_44 kX14_bringBack rfl rfl WM_X14_422 WI_X14_bringBack WS_X14_bringBack WN_X14 (ax_rcO (t := 12) (axEx hG rfl) rfl (by decide)) (Nat.le_of_ble_eq_true rfl)) kX14_bringBack rfl True.intro (T_X14_bringBack (by omega) hG r118) ?_
    refine x_iload_n (pc := 47) dX14_winnerByPlans_47 rfl ?_
    cases hf
    exact x_retI (pc := 48) dX14_winnerByPlans_48
/- HexPondModel.mustPlay()I -/
def fX14_mustPlay (M : ax_M) : Option (Int × ax_M) :=
  (bd2 (fX14_over (mUI M 203 0 0)) fun v103 M102 => (if v103 = 0 then (bd1 (fX14_inTurn M102) fun v106 => (bd2 (fX14_winning M102 v106 0) fun v109 M108 => (if 0 < v109 then (bd2 (fX14_no M108 1) fun v114 M113 => (some (v114, M113))) else (bd2 (fX14_winning M108 (wr (1 - v106)) 0) fun v117 M116 => (if v117 = 1 then (bd2 (fX14_winning M116 (wr (1 - v106)) 1) fun v121 M120 => (some (v121, M120))) else (bd2 (fX14_no M116 1) fun v124 M123 => (some (v124, M123)))))))) else (bd2 (fX14_no M102 1) fun v127 M126 => (some (v127, M126)))))
theorem T_X14_mustPlay {G : ax_G} {d : Nat} (hd : 6 ≤ d) (hG : axPs G 150 244) {M : ax_M} {r : Int} {M1 : ax_M} (hf : fX14_mustPlay M = some (r, M1)) : ax_Ex G tX14_mustPlay d 0 (ax_args [vR 203] ++ List.replicate 1 none) [] M (.inl (some (vI r))) M1 := by
  show ax_Ex G tX14_mustPlay d 0 [some (vR 203), none] [] M _ _
  unfold fX14_mustPlay at hf
  refine x_aload_n (pc := 0) dX14_mustPlay_0 rfl ?_
  refine x_iconst (pc := 1) dX14_mustPlay_1 ⟨by decide, by decide⟩ ?_
  refine x_putI (t := 12) (j := 0) (pc := 2) dX14_mustPlay_2 (axEx hG rfl) rfl (by decide) (by decide) rfl rfl WF_X14_73 ?_
  refine x_aload_n (pc := 5) dX14_mustPlay_5 rfl ?_
  obtain ⟨v103, M102, r101, hf⟩ := bd2_some hf
  refine x_cr (v := vI v103) (vs := [vR 203]) (rest := []) (k := 0) rfl (by omega) (ax_caV (pc := 6) dX14_mustPlay_6 kX14_over rfl rfl WM_X14_370 WI_X14_over WS_X14_over WN_X14 (ax_rcO (t := 12) (axEx hG rfl) rfl (by decide)) (Nat.le_of_ble_eq_true rfl)) kX14_over rfl (Z_X14_over r101) (T_X14_over (by omega) hG r101) ?_
  refine x_ifeq (tgt := 18) (pc := 9) dX14_mustPlay_9 rfl (fun h104 => ?_) (fun h104 => ?_)
  · replace hf := (if_pos h104).symm.trans hf
    refine x_aload_n (pc := 18) dX14_mustPlay_18 rfl ?_
    obtain ⟨v106, r105, hf⟩ := bd1_some hf
    refine x_cr (v := vI v106) (vs := [vR 203]) (rest := []) (k := 0) rfl (by omega) (ax_caV (pc := 19) dX14_mustPlay_19 kX14_inTurn rfl rfl WM_X14_374 WI_X14_inTurn WS_X14_inTurn WN_X14 (ax_rcO (t := 12) (axEx hG rfl) rfl (by decide)) (Nat.le_of_ble_eq_true rfl)) kX14_inTurn rfl True.intro (T_X14_inTurn (by omega) hG r105) ?_
    refine x_istore_n (ls' := [some (vR 203), some (vI v106)]) (pc := 22) dX14_mustPlay_22 (Nat.le_of_ble_eq_true rfl) rfl rfl ?_
    refine x_aload_n (pc := 23) dX14_mustPlay_23 rfl ?_
    refine x_iload_n (pc := 24) dX14_mustPlay_24 rfl ?_
    refine x_iconst (pc := 25) dX14_mustPlay_25 ⟨by decide, by decide⟩ ?_
    obtain ⟨v109, M108, r107, hf⟩ := bd2_some hf
    refine x_cr (v := vI v109) (vs := [vR 203, vI v106, vI 0]) (rest := []) (k := 2) rfl (by omega) (ax_caV (pc := 26) dX14_mustPlay_26 kX14_winning rfl rfl WM_X14_351 WI_X14_winning WS_X14_winning WN_X14 (ax_rcO (t := 12) (axEx hG rfl) rfl (by decide)) (Nat.le_of_ble_eq_true rfl)) kX14_winning rfl True.intro (T_X14_winning (by omega) hG r107) ?_
    refine ax_cmp1 (fun b111a b111b => ?_)
    refine x_ifgt (tgt := 44) (pc := 29) dX14_mustPlay_29 rfl (fun h110 => ?_) (fun h110 => ?_)
    · replace hf := (if_pos h110).symm.trans hf
      refine x_aload_n (pc := 44) dX14_mustPlay_44 rfl ?_
      refine x_iconst (pc := 45) dX14_mustPlay_45 ⟨by decide, by decide⟩ ?_
      obtain ⟨v114, M113, r112, hf⟩ := bd2_some hf
      refine x_cr (v := vI v114) (vs := [vR 203, vI 1]) (rest := []) (k := 0) rfl (by omega) (ax_caV (pc := 46) dX14_mustPlay_46 kX14_no rfl rfl WM_X14_250 WI_X14_no WS_X14_no WN_X14 (ax_rcO (t := 12) (axEx hG rfl) rfl (by decide)) (Nat.le_of_ble_eq_true rfl)) kX14_no rfl True.intro (T_X14_no (by omega) hG r112) ?_
      refine x_goto (tgt := 60) (pc := 49) dX14_mustPlay_49 rfl ?_
      cases hf
      exact x_retI (pc := 60) dX14_mustPlay_60
    · replace hf := (if_neg (Int.not_lt.mpr h110)).symm.trans hf
      refine x_aload_n (pc := 32) dX14_mustPlay_32 rfl ?_
      refine x_iconst (pc := 33) dX14_mustPlay_33 ⟨by decide, by decide⟩ ?_
      refine x_iload_n (pc := 34) dX14_mustPlay_34 rfl ?_
      refine x_isubw (pc := 35) dX14_mustPlay_35 ?_
      refine x_iconst (pc := 36) dX14_mustPlay_36 ⟨by decide, by decide⟩ ?_
      obtain ⟨v117, M116, r115, hf⟩ := bd2_some hf
      refine x_cr (v := vI v117) (vs := [vR 203, vI (wr (1 - v106)), vI 0]) (rest := []) (k := 2) rfl (by omega) (ax_caV (pc := 37) dX14_mustPlay_37 kX14_winning rfl rfl WM_X14_351 WI_X14_winning WS_X14_winning WN_X14 (ax_rcO (t := 12) (axEx hG rfl) rfl (by decide)) (Nat.le_of_ble_eq_true rfl)) kX14_winning rfl True.intro (T_X14_winning (by omega) hG r115) ?_
      refine x_iconst (pc := 40) dX14_mustPlay_40 ⟨by decide, by decide⟩ ?_
      refine x_icmpeq (tgt := 52) (pc := 41) dX14_mustPlay_41 rfl (fun h118 => ?_) (fun h118 => ?_)
      · replace hf := (if_pos h118).symm.trans hf
        refine x_aload_n (pc := 52) dX14_mustPlay_52 rfl ?_
        refine x_iconst (pc := 53) dX14_mustPlay_53 ⟨by decide, by decide⟩ ?_
        refine x_iload_n (pc := 54) dX14_mustPlay_54 rfl ?_
        refine x_isubw (pc := 55) dX14_mustPlay_55 ?_
        refine x_iconst (pc := 56) dX14_mustPlay_56 ⟨by decide, by decide⟩ ?_
        obtain ⟨v121, M120, r119, hf⟩ := bd2_some hf
        refine x_cr (v := vI v121) (vs := [vR 203, vI (wr (1 - v106)), vI 1]) (rest := []) (k := 2) rfl (by omega) (ax_caV (pc := 57) dX14_mustPlay_57 kX14_winning rfl rfl WM_X14_351 WI_X14_winning WS_X14_winning WN_X14 (ax_rcO (t := 12) (axEx hG rfl) rfl (by decide)) (Nat.le_of_ble_eq_true rfl)) kX14_winning rfl True.intro (T_X14_winning (by omega) hG r119) ?_
        cases hf
        exact x_retI (pc := 60) dX14_mustPlay_60
      · replace hf := (if_neg h118).symm.trans hf
        refine x_aload_n (pc := 44) dX14_mustPlay_44 rfl ?_
        refine x_iconst (pc := 45) dX14_mustPlay_45 ⟨by decide, by decide⟩ ?_
        obtain ⟨v124, M123, r122, hf⟩ := bd2_some hf
        refine x_cr (v := vI v124) (vs := [vR 203, vI 1]) (rest := []) (k := 0) rfl (by omega) (ax_caV (pc := 46) dX14_mustPlay_46 kX14_no rfl rfl WM_X14_250 WI_X14_no WS_X14_no WN_X14 (ax_rcO (t := 12) (axEx hG rfl) rfl (by decide)) (Nat.le_of_ble_eq_true rfl)) kX14_no rfl True.intro (T_X14_no (by omega) hG r122) ?_
        refine x_goto (tgt := 60) (pc := 49) dX14_mustPlay_49 rfl ?_
        cases hf
        exact x_retI (pc := 60) dX14_mustPlay_60
  · replace hf := (if_neg h104).symm.trans hf
    refine x_aload_n (pc := 12) dX14_mustPlay_12 rfl ?_
    refine x_iconst (pc := 13) dX14_mustPlay_13 ⟨by decide, by decide⟩ ?_
    obtain ⟨v127, M126, r125, hf⟩ := bd2_some hf
    refine x_cr (v := vI v127) (vs := [vR 203, vI 1]) (rest := []) (k := 0) rfl (by omega) (ax_caV (pc := 14) dX14_mustPlay_14 kX14_no rfl rfl WM_X14_250 WI_X14_no WS_X14_no WN_X14 (ax_rcO (t := 12) (axEx hG rfl) rfl (by decide)) (Nat.le_of_ble_eq_true rfl)) kX14_no rfl True.intro (T_X14_no (by omega) hG r125) ?_
    cases hf
    exact x_retI (pc := 17) dX14_mustPlay_17
/- HexPondModel.best(I)I -/
def fX14_best_b7 (M : ax_M) (x1 : Int) (v2 : Int) (v3 : Int) (v4 : Int) : Option ((Int × Int × Int × ax_M) ⊕ (Int × ax_M)) :=
  (if v4 < (fX14_cells M) then (if 0 ≤ v4 ∧ v4 < 81 then (if (mI M 233 (Int.toNat v4)) = (-1) then (bd2 (fX14_needs (mUI M 233 (Int.toNat v4) x1) (wr (1 - x1))) fun v107 M106 => (bd2 (fX14_needs M106 x1) fun v110 M109 => (if v2 = (-1) then (some (.inl (v4, (wr (v107 - v110)), (v4 + 1), (mUI M109 233 (Int.toNat v4) (-1))))) else (if v3 < (wr (v107 - v110)) then (some (.inl (v4, (wr (v107 - v110)), (v4 + 1), (mUI M109 233 (Int.toNat v4) (-1))))) else (some (.inl (v2, v3, (v4 + 1), (mUI M109 233 (Int.toNat v4) (-1))))))))) else (some (.inl (v2, v3, (v4 + 1), M)))) else none) else (some (.inr (v2, M))))
def fX14_best (M : ax_M) (a1 : Int) : Option (Int × ax_M) :=
  (bd1 (lp (fun s => fX14_best_b7 s.2.2.2 a1 s.1 s.2.1 s.2.2.1) lpN ((-1), 0, 0, M)) fun t114 => (some (t114.1, t114.2)))
theorem B_X14_best_7 {G : ax_G} {d : Nat} (hd : 5 ≤ d) (hG : axPs G 150 244) {M : ax_M} {x1 : Int} {v2 : Int} {v3 : Int} {v4 : Int} {o : Option ax_V ⊕ String} {M' : ax_M} {y : (Int × Int × Int × ax_M) ⊕ (Int × ax_M)} (hf : fX14_best_b7 M x1 v2 v3 v4 = some y) (h1 : ∀ s', y = .inl s' → ax_Ex G tX14_best d 7 [some (vR 203), some (vI x1), some (vI s'.1), some (vI s'.2.1), some (vI s'.2.2.1), none] [] s'.2.2.2 o M') (h2a : ∀ t, y = .inr t → ax_Ex G tX14_best d 87 [some (vR 203), some (vI x1), some (vI t.1), none, none, none] [] t.2 o M') : ax_Ex G tX14_best d 7 [some (vR 203), some (vI x1), some (vI v2), some (vI v3), some (vI v4), none] [] M o M' := by
  unfold fX14_best_b7 at hf
  refine x_iload (pc := 7) dX14_best_7 rfl ?_
  refine x_aload_n (pc := 9) dX14_best_9 rfl ?_
  refine x_cr (v := vI (fX14_cells M)) (vs := [vR 203]) (rest := [vI v4]) (k := 0) rfl (by omega) (ax_caV (pc := 10) dX14_best_10 kX14_cells rfl rfl WM_X14_275 WI_X14_cells WS_X14_cells WN_X14 (ax_rcO (t := 12) (axEx hG rfl) rfl (by decide)) (Nat.le_of_ble_eq_true rfl)) kX14_cells rfl True.intro (T_X14_cells (by omega) hG rfl) ?_
  refine ax_cmp (fun b102a b102b b102c b102e => ?_)
  refine x_icmpge (tgt := 87) (pc := 13) dX14_best_13 rfl (fun h101 => ?_) (fun h101 => ?_)
  · replace hf := (if_neg (Int.not_lt.mpr h101)).symm.trans hf
    cases hf
    exact x_fgt (axS' (axS' (axS' (axN' (axN' (axN' axD)))))) (h2a _ rfl)
  · replace hf := (if_pos h101).symm.trans hf
    refine x_aload_n (pc := 16) dX14_best_16 rfl ?_
    refine x_getF (t := 12) (j := 15) (r := 233) (pc := 17) dX14_best_17 (axH hG rfl) (axEx hG rfl) rfl (by decide) (by decide) rfl rfl WF_X14_39 ?_
    refine x_iload (pc := 20) dX14_best_20 rfl ?_
    by_cases h103 : 0 ≤ v4 ∧ v4 < 81
    · replace hf := (if_pos h103).symm.trans hf
      refine x_iald2 (n := 81) (pc := 22) dX14_best_22 (axEx hG rfl) rfl h103.1 h103.2 ?_
      refine x_iconst (pc := 23) dX14_best_23 ⟨by decide, by decide⟩ ?_
      refine x_icmpeq (tgt := 30) (pc := 24) dX14_best_24 rfl (fun h104 => ?_) (fun h104 => ?_)
      · replace hf := (if_pos h104).symm.trans hf
        refine x_aload_n (pc := 30) dX14_best_30 rfl ?_
        refine x_getF (t := 12) (j := 15) (r := 233) (pc := 31) dX14_best_31 (axH hG rfl) (axEx hG rfl) rfl (by decide) (by decide) rfl rfl WF_X14_39 ?_
        refine x_iload (pc := 34) dX14_best_34 rfl ?_
        refine x_iload_n (pc := 36) dX14_best_36 rfl ?_
        refine x_iast2 (n := 81) (pc := 37) dX14_best_37 (axEx hG rfl) rfl (by omega) (by omega) ?_
        refine x_aload_n (pc := 38) dX14_best_38 rfl ?_
        refine x_iconst (pc := 39) dX14_best_39 ⟨by decide, by decide⟩ ?_
        refine x_iload_n (pc := 40) dX14_best_40 rfl ?_
        refine x_isubw (pc := 41) dX14_best_41 ?_
        obtain ⟨v107, M106, r105, hf⟩ := bd2_some hf
        refine x_cr (v := vI v107) (vs := [vR 203, vI (wr (1 - x1))]) (rest := []) (k := 2) rfl (by omega) (ax_caV (pc := 42) dX14_best_42 kX14_needs rfl rfl WM_X14_342 WI_X14_needs WS_X14_needs WN_X14 (ax_rcO (t := 12) (axEx hG rfl) rfl (by decide)) (Nat.le_of_ble_eq_true rfl)) kX14_needs rfl True.intro (T_X14_needs (by omega) hG r105) ?_
        refine x_aload_n (pc := 45) dX14_best_45 rfl ?_
        refine x_iload_n (pc := 46) dX14_best_46 rfl ?_
        obtain ⟨v110, M109, r108, hf⟩ := bd2_some hf
        refine x_cr (v := vI v110) (vs := [vR 203, vI x1]) (rest := [vI v107]) (k := 2) rfl (by omega) (ax_caV (pc := 47) dX14_best_47 kX14_needs rfl rfl WM_X14_342 WI_X14_needs WS_X14_needs WN_X14 (ax_rcO (t := 12) (axEx hG rfl) rfl (by decide)) (Nat.le_of_ble_eq_true rfl)) kX14_needs rfl True.intro (T_X14_needs (by omega) hG r108) ?_
        refine x_isubw (pc := 50) dX14_best_50 ?_
        refine x_istore (ls' := [some (vR 203), some (vI x1), some (vI v2), some (vI v3), some (vI v4), some (vI (wr (v107 - v110)))]) (pc := 51) dX14_best_51 (Nat.le_of_ble_eq_true rfl) rfl rfl ?_
        refine x_aload_n (pc := 53) dX14_best_53 rfl ?_
        refine x_getF (t := 12) (j := 15) (r := 233) (pc := 54) dX14_best_54 (axH hG rfl) (axEx hG rfl) rfl (by decide) (by decide) rfl rfl WF_X14_39 ?_
        refine x_iload (pc := 57) dX14_best_57 rfl ?_
        refine x_iconst (pc := 59) dX14_best_59 ⟨by decide, by decide⟩ ?_
        refine x_iast2 (n := 81) (pc := 60) dX14_best_60 (axEx hG rfl) rfl (by omega) (by omega) ?_
        refine x_iload_n (pc := 61) dX14_best_61 rfl ?_
        refine x_iconst (pc := 62) dX14_best_62 ⟨by decide, by decide⟩ ?_
        refine x_icmpeq (tgt := 75) (pc := 63) dX14_best_63 rfl (fun h111 => ?_) (fun h111 => ?_)
        · replace hf := (if_pos h111).symm.trans hf
          refine x_iload (pc := 75) dX14_best_75 rfl ?_
          refine x_istore_n (ls' := [some (vR 203), some (vI x1), some (vI v4), some (vI v3), some (vI v4), some (vI (wr (v107 - v110)))]) (pc := 77) dX14_best_77 (Nat.le_of_ble_eq_true rfl) rfl rfl ?_
          refine x_iload (pc := 78) dX14_best_78 rfl ?_
          refine x_istore_n (ls' := [some (vR 203), some (vI x1), some (vI v4), some (vI (wr (v107 - v110))), some (vI v4), some (vI (wr (v107 - v110)))]) (pc := 80) dX14_best_80 (Nat.le_of_ble_eq_true rfl) rfl rfl ?_
          refine x_iinc (z := (v4 + 1)) (ls' := [some (vR 203), some (vI x1), some (vI v4), some (vI (wr (v107 - v110))), some (vI (v4 + 1)), some (vI (wr (v107 - v110)))]) (pc := 81) dX14_best_81 rfl (Nat.le_of_ble_eq_true rfl) rfl rfl (ax_i (by omega) (by omega)) rfl ?_
          refine x_goto (tgt := 7) (pc := 84) dX14_best_84 rfl ?_
          cases hf
          exact x_fgt (axS' (axS' (axS' (axS' (axS' (axN' axD)))))) (h1 _ rfl)
        · replace hf := (if_neg h111).symm.trans hf
          refine x_iload (pc := 66) dX14_best_66 rfl ?_
          refine x_iload_n (pc := 68) dX14_best_68 rfl ?_
          refine ax_cmp (fun b113a b113b b113c b113e => ?_)
          refine x_icmpgt (tgt := 75) (pc := 69) dX14_best_69 rfl (fun h112 => ?_) (fun h112 => ?_)
          · replace hf := (if_pos h112).symm.trans hf
            refine x_iload (pc := 75) dX14_best_75 rfl ?_
            refine x_istore_n (ls' := [some (vR 203), some (vI x1), some (vI v4), some (vI v3), some (vI v4), some (vI (wr (v107 - v110)))]) (pc := 77) dX14_best_77 (Nat.le_of_ble_eq_true rfl) rfl rfl ?_
            refine x_iload (pc := 78) dX14_best_78 rfl ?_
            refine x_istore_n (ls' := [some (vR 203), some (vI x1), some (vI v4), some (vI (wr (v107 - v110))), some (vI v4), some (vI (wr (v107 - v110)))]) (pc := 80) dX14_best_80 (Nat.le_of_ble_eq_true rfl) rfl rfl ?_
            refine x_iinc (z := (v4 + 1)) (ls' := [some (vR 203), some (vI x1), some (vI v4), some (vI (wr (v107 - v110))), some (vI (v4 + 1)), some (vI (wr (v107 - v110)))]) (pc := 81) dX14_best_81 rfl (Nat.le_of_ble_eq_true rfl) rfl rfl (ax_i (by omega) (by omega)) rfl ?_
            refine x_goto (tgt := 7) (pc := 84) dX14_best_84 rfl ?_
            cases hf
            exact x_fgt (axS' (axS' (axS' (axS' (axS' (axN' axD)))))) (h1 _ rfl)
          · replace hf := (if_neg (Int.not_lt.mpr h112)).symm.trans hf
            refine x_goto (tgt := 81) (pc := 72) dX14_best_72 rfl ?_
            refine x_iinc (z := (v4 + 1)) (ls' := [some (vR 203), some (vI x1), some (vI v2), some (vI v3), some (vI (v4 + 1)), some (vI (wr (v107 - v110)))]) (pc := 81) dX14_best_81 rfl (Nat.le_of_ble_eq_true rfl) rfl rfl (ax_i (by omega) (by omega)) rfl ?_
            refine x_goto (tgt := 7) (pc := 84) dX14_best_84 rfl ?_
            cases hf
            exact x_fgt (axS' (axS' (axS' (axS' (axS' (axN' axD)))))) (h1 _ rfl)
      · replace hf := (if_neg h104).symm.trans hf
        refine x_goto (tgt := 81) (pc := 27) dX14_best_27 rfl ?_
        refine x_iinc (z := (v4 + 1)) (ls' := [some (vR 203), some (vI x1), some (vI v2), some (vI v3), some (vI (v4 + 1)), none]) (pc := 81) dX14_best_81 rfl (Nat.le_of_ble_eq_true rfl) rfl rfl (ax_i (by omega) (by omega)) rfl ?_
        refine x_goto (tgt := 7) (pc := 84) dX14_best_84 rfl ?_
        cases hf
        exact h1 _ rfl
    · replace hf := (if_neg h103).symm.trans hf
      cases hf
theorem T_X14_best {G : ax_G} {d : Nat} (hd : 5 ≤ d) (hG : axPs G 150 244) {M : ax_M} {a1 : Int} {r : Int} {M1 : ax_M} (hf : fX14_best M a1 = some (r, M1)) : ax_Ex G tX14_best d 0 (ax_args [vR 203, vI a1] ++ List.replicate 4 none) [] M (.inl (some (vI r))) M1 := by
  show ax_Ex G tX14_best d 0 [some (vR 203), some (vI a1), none, none, none, none] [] M _ _
  unfold fX14_best at hf
  refine x_iconst (pc := 0) dX14_best_0 ⟨by decide, by decide⟩ ?_
  refine x_istore_n (ls' := [some (vR 203), some (vI a1), some (vI (-1)), none, none, none]) (pc := 1) dX14_best_1 (Nat.le_of_ble_eq_true rfl) rfl rfl ?_
  refine x_iconst (pc := 2) dX14_best_2 ⟨by decide, by decide⟩ ?_
  refine x_istore_n (ls' := [some (vR 203), some (vI a1), some (vI (-1)), some (vI 0), none, none]) (pc := 3) dX14_best_3 (Nat.le_of_ble_eq_true rfl) rfl rfl ?_
  refine x_iconst (pc := 4) dX14_best_4 ⟨by decide, by decide⟩ ?_
  refine x_istore (ls' := [some (vR 203), some (vI a1), some (vI (-1)), some (vI 0), some (vI 0), none]) (pc := 5) dX14_best_5 (Nat.le_of_ble_eq_true rfl) rfl rfl ?_
  obtain ⟨t114, t115, hf⟩ := bd1_some hf
  refine lp_ex (P := (fun s => ax_Ex G tX14_best d 7 [some (vR 203), some (vI a1), some (vI s.1), some (vI s.2.1), some (vI s.2.2.1), none] [] s.2.2.2 _ _)) (K := (fun t => ax_Ex G tX14_best d 87 [some (vR 203), some (vI a1), some (vI t.1), none, none, none] [] t.2 _ _)) (fun s y hy h1 h2 => B_X14_best_7 (by omega) hG hy (fun s' e => h1 s' e) (fun t e => h2 t e)) _ _ _ t115 ?_
  refine x_iload_n (pc := 87) dX14_best_87 rfl ?_
  cases hf
  exact x_retI (pc := 88) dX14_best_88
/- HexPondModel.bestCell()I -/
def fX14_bestCell (M : ax_M) : Option (Int × ax_M) :=
  (bd2 (fX14_over (mUI M 203 0 0)) fun v103 M102 => (if v103 = 0 then (bd1 (fX14_inTurn M102) fun v106 => (bd2 (fX14_best M102 v106) fun v109 M108 => (some (v109, M108)))) else (bd2 (fX14_no M102 1) fun v112 M111 => (some (v112, M111)))))
theorem T_X14_bestCell {G : ax_G} {d : Nat} (hd : 6 ≤ d) (hG : axPs G 150 244) {M : ax_M} {r : Int} {M1 : ax_M} (hf : fX14_bestCell M = some (r, M1)) : ax_Ex G tX14_bestCell d 0 (ax_args [vR 203] ++ List.replicate 0 none) [] M (.inl (some (vI r))) M1 := by
  show ax_Ex G tX14_bestCell d 0 [some (vR 203)] [] M _ _
  unfold fX14_bestCell at hf
  refine x_aload_n (pc := 0) dX14_bestCell_0 rfl ?_
  refine x_iconst (pc := 1) dX14_bestCell_1 ⟨by decide, by decide⟩ ?_
  refine x_putI (t := 12) (j := 0) (pc := 2) dX14_bestCell_2 (axEx hG rfl) rfl (by decide) (by decide) rfl rfl WF_X14_73 ?_
  refine x_aload_n (pc := 5) dX14_bestCell_5 rfl ?_
  obtain ⟨v103, M102, r101, hf⟩ := bd2_some hf
  refine x_cr (v := vI v103) (vs := [vR 203]) (rest := []) (k := 0) rfl (by omega) (ax_caV (pc := 6) dX14_bestCell_6 kX14_over rfl rfl WM_X14_370 WI_X14_over WS_X14_over WN_X14 (ax_rcO (t := 12) (axEx hG rfl) rfl (by decide)) (Nat.le_of_ble_eq_true rfl)) kX14_over rfl (Z_X14_over r101) (T_X14_over (by omega) hG r101) ?_
  refine x_ifeq (tgt := 20) (pc := 9) dX14_bestCell_9 rfl (fun h104 => ?_) (fun h104 => ?_)
  · replace hf := (if_pos h104).symm.trans hf
    refine x_aload_n (pc := 20) dX14_bestCell_20 rfl ?_
    refine x_aload_n (pc := 21) dX14_bestCell_21 rfl ?_
    obtain ⟨v106, r105, hf⟩ := bd1_some hf
    refine x_cr (v := vI v106) (vs := [vR 203]) (rest := [vR 203]) (k := 0) rfl (by omega) (ax_caV (pc := 22) dX14_bestCell_22 kX14_inTurn rfl rfl WM_X14_374 WI_X14_inTurn WS_X14_inTurn WN_X14 (ax_rcO (t := 12) (axEx hG rfl) rfl (by decide)) (Nat.le_of_ble_eq_true rfl)) kX14_inTurn rfl True.intro (T_X14_inTurn (by omega) hG r105) ?_
    obtain ⟨v109, M108, r107, hf⟩ := bd2_some hf
    refine x_cr (v := vI v109) (vs := [vR 203, vI v106]) (rest := []) (k := 4) rfl (by omega) (ax_caV (pc := 25) dX14_bestCell_25 kX14_best rfl rfl WM_X14_425 WI_X14_best WS_X14_best WN_X14 (ax_rcO (t := 12) (axEx hG rfl) rfl (by decide)) (Nat.le_of_ble_eq_true rfl)) kX14_best rfl True.intro (T_X14_best (by omega) hG r107) ?_
    cases hf
    exact x_retI (pc := 28) dX14_bestCell_28
  · replace hf := (if_neg h104).symm.trans hf
    refine x_aload_n (pc := 12) dX14_bestCell_12 rfl ?_
    refine x_iconst (pc := 13) dX14_bestCell_13 ⟨by decide, by decide⟩ ?_
    obtain ⟨v112, M111, r110, hf⟩ := bd2_some hf
    refine x_cr (v := vI v112) (vs := [vR 203, vI 1]) (rest := []) (k := 0) rfl (by omega) (ax_caV (pc := 14) dX14_bestCell_14 kX14_no rfl rfl WM_X14_250 WI_X14_no WS_X14_no WN_X14 (ax_rcO (t := 12) (axEx hG rfl) rfl (by decide)) (Nat.le_of_ble_eq_true rfl)) kX14_no rfl True.intro (T_X14_no (by omega) hG r110) ?_
    refine x_goto (tgt := 28) (pc := 17) dX14_bestCell_17 rfl ?_
    cases hf
    exact x_retI (pc := 28) dX14_bestCell_28
/- HexPondModel.meanGroup()D -/
def fX14_meanGroup (M : ax_M) : Option (UInt64 × ax_M) :=
  (bd2 (fX14_groupsThen (mUI M 203 0 0) 0) fun v103 M102 => (bd2 (fX14_groupsThen M102 1) fun v106 M105 => (if (wr (v103 + v106)) = 0 then (some (0, M105)) else (bd1 (fX14_count M105 0) fun v109 => (bd1 (fX14_count M105 1) fun v111 => (if (FP.ddiv (idl (wr (v109 + v111))) (idl (wr (v103 + v106)))) &&& (0x7fffffffffffffff : UInt64) ≤ (0x7ff0000000000000 : UInt64) then (some ((FP.ddiv (idl (wr (v109 + v111))) (idl (wr (v103 + v106)))), M105)) else none))))))
theorem T_X14_meanGroup {G : ax_G} {d : Nat} (hd : 6 ≤ d) (hG : axPs G 150 244) {M : ax_M} {r : UInt64} {M1 : ax_M} (hf : fX14_meanGroup M = some (r, M1)) : ax_Ex G tX14_meanGroup d 0 (ax_args [vR 203] ++ List.replicate 1 none) [] M (.inl (some (vD r))) M1 := by
  show ax_Ex G tX14_meanGroup d 0 [some (vR 203), none] [] M _ _
  unfold fX14_meanGroup at hf
  refine x_aload_n (pc := 0) dX14_meanGroup_0 rfl ?_
  refine x_iconst (pc := 1) dX14_meanGroup_1 ⟨by decide, by decide⟩ ?_
  refine x_putI (t := 12) (j := 0) (pc := 2) dX14_meanGroup_2 (axEx hG rfl) rfl (by decide) (by decide) rfl rfl WF_X14_73 ?_
  refine x_aload_n (pc := 5) dX14_meanGroup_5 rfl ?_
  refine x_iconst (pc := 6) dX14_meanGroup_6 ⟨by decide, by decide⟩ ?_
  obtain ⟨v103, M102, r101, hf⟩ := bd2_some hf
  refine x_cr (v := vI v103) (vs := [vR 203, vI 0]) (rest := []) (k := 0) rfl (by omega) (ax_caV (pc := 7) dX14_meanGroup_7 kX14_groupsThen rfl rfl WM_X14_395 WI_X14_groupsThen WS_X14_groupsThen WN_X14 (ax_rcO (t := 12) (axEx hG rfl) rfl (by decide)) (Nat.le_of_ble_eq_true rfl)) kX14_groupsThen rfl True.intro (T_X14_groupsThen (by omega) hG r101) ?_
  refine x_aload_n (pc := 10) dX14_meanGroup_10 rfl ?_
  refine x_iconst (pc := 11) dX14_meanGroup_11 ⟨by decide, by decide⟩ ?_
  obtain ⟨v106, M105, r104, hf⟩ := bd2_some hf
  refine x_cr (v := vI v106) (vs := [vR 203, vI 1]) (rest := [vI v103]) (k := 0) rfl (by omega) (ax_caV (pc := 12) dX14_meanGroup_12 kX14_groupsThen rfl rfl WM_X14_395 WI_X14_groupsThen WS_X14_groupsThen WN_X14 (ax_rcO (t := 12) (axEx hG rfl) rfl (by decide)) (Nat.le_of_ble_eq_true rfl)) kX14_groupsThen rfl True.intro (T_X14_groupsThen (by omega) hG r104) ?_
  refine x_iaddw (pc := 15) dX14_meanGroup_15 ?_
  refine x_istore_n (ls' := [some (vR 203), some (vI (wr (v103 + v106)))]) (pc := 16) dX14_meanGroup_16 (Nat.le_of_ble_eq_true rfl) rfl rfl ?_
  refine x_iload_n (pc := 17) dX14_meanGroup_17 rfl ?_
  refine x_ifne (tgt := 25) (pc := 18) dX14_meanGroup_18 rfl (fun h107 => ?_) (fun h107 => ?_)
  · replace hf := (if_neg h107).symm.trans hf
    refine x_aload_n (pc := 25) dX14_meanGroup_25 rfl ?_
    refine x_iconst (pc := 26) dX14_meanGroup_26 ⟨by decide, by decide⟩ ?_
    obtain ⟨v109, r108, hf⟩ := bd1_some hf
    refine x_cr (v := vI v109) (vs := [vR 203, vI 0]) (rest := []) (k := 2) rfl (by omega) (ax_caV (pc := 27) dX14_meanGroup_27 kX14_count rfl rfl WM_X14_307 WI_X14_count WS_X14_count WN_X14 (ax_rcO (t := 12) (axEx hG rfl) rfl (by decide)) (Nat.le_of_ble_eq_true rfl)) kX14_count rfl True.intro (T_X14_count (by omega) hG r108) ?_
    refine x_aload_n (pc := 30) dX14_meanGroup_30 rfl ?_
    refine x_iconst (pc := 31) dX14_meanGroup_31 ⟨by decide, by decide⟩ ?_
    obtain ⟨v111, r110, hf⟩ := bd1_some hf
    refine x_cr (v := vI v111) (vs := [vR 203, vI 1]) (rest := [vI v109]) (k := 2) rfl (by omega) (ax_caV (pc := 32) dX14_meanGroup_32 kX14_count rfl rfl WM_X14_307 WI_X14_count WS_X14_count WN_X14 (ax_rcO (t := 12) (axEx hG rfl) rfl (by decide)) (Nat.le_of_ble_eq_true rfl)) kX14_count rfl True.intro (T_X14_count (by omega) hG r110) ?_
    refine x_iaddw (pc := 35) dX14_meanGroup_35 ?_
    refine x_i2d (pc := 36) dX14_meanGroup_36 ?_
    refine x_iload_n (pc := 37) dX14_meanGroup_37 rfl ?_
    refine x_i2d (pc := 38) dX14_meanGroup_38 ?_
    by_cases h112 : (FP.ddiv (idl (wr (v109 + v111))) (idl (wr (v103 + v106)))) &&& (0x7fffffffffffffff : UInt64) ≤ (0x7ff0000000000000 : UInt64)
    · replace hf := (if_pos h112).symm.trans hf
      refine x_ddiv (pc := 39) dX14_meanGroup_39 h112 ?_
      cases hf
      exact x_retD (pc := 40) dX14_meanGroup_40
    · replace hf := (if_neg h112).symm.trans hf
      cases hf
  · replace hf := (if_pos h107).symm.trans hf
    refine x_dconst0 (pc := 21) dX14_meanGroup_21 ?_
    refine x_goto (tgt := 40) (pc := 22) dX14_meanGroup_22 rfl ?_
    cases hf
    exact x_retD (pc := 40) dX14_meanGroup_40
/- HexPondModel.digestPlayer(JI)J -/
def fX14_digestPlayer (M : ax_M) (a1 : Int64) (a2 : Int) : Option (Int64 × ax_M) :=
  (bd1 (fX14_count M a2) fun v102 => (bd2 (fX14_won M a2) fun v105 M104 => (if v105 = 0 then (bd2 (fX14_groupsThen M104 a2) fun v109 M108 => (bd2 (fX14_greatest M108 a2) fun v112 M111 => (bd1 (fX14_bridges M111 a2 1) fun v114 => (bd1 (fX14_bridges M111 a2 2) fun v116 => (bd2 (fX14_winning M111 a2 0) fun v119 M118 => (bd2 (fX14_needs M118 a2) fun v122 M121 => (some (((((((((((((((((a1 * (31 : Int64)) + (il v102)) * (31 : Int64)) + (il 0)) * (31 : Int64)) + (il v109)) * (31 : Int64)) + (il v112)) * (31 : Int64)) + (il v114)) * (31 : Int64)) + (il v116)) * (31 : Int64)) + (il v119)) * (31 : Int64)) + (il v122)), M121)))))))) else (bd2 (fX14_groupsThen M104 a2) fun v125 M124 => (bd2 (fX14_greatest M124 a2) fun v128 M127 => (bd1 (fX14_bridges M127 a2 1) fun v130 => (bd1 (fX14_bridges M127 a2 2) fun v132 => (bd2 (fX14_winning M127 a2 0) fun v135 M134 => (bd2 (fX14_needs M134 a2) fun v138 M137 => (some (((((((((((((((((a1 * (31 : Int64)) + (il v102)) * (31 : Int64)) + (il 1)) * (31 : Int64)) + (il v125)) * (31 : Int64)) + (il v128)) * (31 : Int64)) + (il v130)) * (31 : Int64)) + (il v132)) * (31 : Int64)) + (il v135)) * (31 : Int64)) + (il v138)), M137)))))))))))
theorem T_X14_digestPlayer {G : ax_G} {d : Nat} (hd : 6 ≤ d) (hG : axPs G 150 244) {M : ax_M} {a1 : Int64} {a2 : Int} {r : Int64} {M1 : ax_M} (hf : fX14_digestPlayer M a1 a2 = some (r, M1)) : ax_Ex G tX14_digestPlayer d 0 (ax_args [vR 203, vL a1, vI a2] ++ List.replicate 2 none) [] M (.inl (some (vL r))) M1 := by
  show ax_Ex G tX14_digestPlayer d 0 [some (vR 203), some (vL a1), none, some (vI a2), none, none] [] M _ _
  unfold fX14_digestPlayer at hf
  refine x_lload_n (pc := 0) dX14_digestPlayer_0 rfl ?_
  refine x_ldc2 (v := 31) (pc := 1) dX14_digestPlayer_1 WJ_X14_428 ?_
  refine x_lmul (pc := 4) dX14_digestPlayer_4 ?_
  refine x_aload_n (pc := 5) dX14_digestPlayer_5 rfl ?_
  refine x_iload_n (pc := 6) dX14_digestPlayer_6 rfl ?_
  obtain ⟨v102, r101, hf⟩ := bd1_some hf
  refine x_cr (v := vI v102) (vs := [vR 203, vI a2]) (rest := [vL (a1 * (31 : Int64))]) (k := 2) rfl (by omega) (ax_caV (pc := 7) dX14_digestPlayer_7 kX14_count rfl rfl WM_X14_307 WI_X14_count WS_X14_count WN_X14 (ax_rcO (t := 12) (axEx hG rfl) rfl (by decide)) (Nat.le_of_ble_eq_true rfl)) kX14_count rfl True.intro (T_X14_count (by omega) hG r101) ?_
  refine x_i2l (pc := 10) dX14_digestPlayer_10 ?_
  refine x_ladd (pc := 11) dX14_digestPlayer_11 ?_
  refine x_ldc2 (v := 31) (pc := 12) dX14_digestPlayer_12 WJ_X14_428 ?_
  refine x_lmul (pc := 15) dX14_digestPlayer_15 ?_
  refine x_aload_n (pc := 16) dX14_digestPlayer_16 rfl ?_
  refine x_iload_n (pc := 17) dX14_digestPlayer_17 rfl ?_
  obtain ⟨v105, M104, r103, hf⟩ := bd2_some hf
  refine x_cr (v := vI v105) (vs := [vR 203, vI a2]) (rest := [vL (((a1 * (31 : Int64)) + (il v102)) * (31 : Int64))]) (k := 4) rfl (by omega) (ax_caV (pc := 18) dX14_digestPlayer_18 kX14_won rfl rfl WM_X14_304 WI_X14_won WS_X14_won WN_X14 (ax_rcO (t := 12) (axEx hG rfl) rfl (by decide)) (Nat.le_of_ble_eq_true rfl)) kX14_won rfl (Z_X14_won r103) (T_X14_won (by omega) hG r103) ?_
  refine x_ifeq (tgt := 28) (pc := 21) dX14_digestPlayer_21 rfl (fun h106 => ?_) (fun h106 => ?_)
  · replace hf := (if_pos h106).symm.trans hf
    refine x_iconst (pc := 28) dX14_digestPlayer_28 ⟨by decide, by decide⟩ ?_
    refine x_i2l (pc := 29) dX14_digestPlayer_29 ?_
    refine x_ladd (pc := 30) dX14_digestPlayer_30 ?_
    refine x_lstore (ls' := [some (vR 203), some (vL a1), none, some (vI a2), some (vL ((((a1 * (31 : Int64)) + (il v102)) * (31 : Int64)) + (il 0))), none]) (pc := 31) dX14_digestPlayer_31 (Nat.le_of_ble_eq_true rfl) rfl rfl ?_
    refine x_lload (pc := 33) dX14_digestPlayer_33 rfl ?_
    refine x_ldc2 (v := 31) (pc := 35) dX14_digestPlayer_35 WJ_X14_428 ?_
    refine x_lmul (pc := 38) dX14_digestPlayer_38 ?_
    refine x_aload_n (pc := 39) dX14_digestPlayer_39 rfl ?_
    refine x_iload_n (pc := 40) dX14_digestPlayer_40 rfl ?_
    obtain ⟨v109, M108, r107, hf⟩ := bd2_some hf
    refine x_cr (v := vI v109) (vs := [vR 203, vI a2]) (rest := [vL (((((a1 * (31 : Int64)) + (il v102)) * (31 : Int64)) + (il 0)) * (31 : Int64))]) (k := 0) rfl (by omega) (ax_caV (pc := 41) dX14_digestPlayer_41 kX14_groupsThen rfl rfl WM_X14_395 WI_X14_groupsThen WS_X14_groupsThen WN_X14 (ax_rcO (t := 12) (axEx hG rfl) rfl (by decide)) (Nat.le_of_ble_eq_true rfl)) kX14_groupsThen rfl True.intro (T_X14_groupsThen (by omega) hG r107) ?_
    refine x_i2l (pc := 44) dX14_digestPlayer_44 ?_
    refine x_ladd (pc := 45) dX14_digestPlayer_45 ?_
    refine x_ldc2 (v := 31) (pc := 46) dX14_digestPlayer_46 WJ_X14_428 ?_
    refine x_lmul (pc := 49) dX14_digestPlayer_49 ?_
    refine x_aload_n (pc := 50) dX14_digestPlayer_50 rfl ?_
    refine x_iload_n (pc := 51) dX14_digestPlayer_51 rfl ?_
    obtain ⟨v112, M111, r110, hf⟩ := bd2_some hf
    refine x_cr (v := vI v112) (vs := [vR 203, vI a2]) (rest := [vL (((((((a1 * (31 : Int64)) + (il v102)) * (31 : Int64)) + (il 0)) * (31 : Int64)) + (il v109)) * (31 : Int64))]) (k := 2) rfl (by omega) (ax_caV (pc := 52) dX14_digestPlayer_52 kX14_greatest rfl rfl WM_X14_398 WI_X14_greatest WS_X14_greatest WN_X14 (ax_rcO (t := 12) (axEx hG rfl) rfl (by decide)) (Nat.le_of_ble_eq_true rfl)) kX14_greatest rfl True.intro (T_X14_greatest (by omega) hG r110) ?_
    refine x_i2l (pc := 55) dX14_digestPlayer_55 ?_
    refine x_ladd (pc := 56) dX14_digestPlayer_56 ?_
    refine x_lstore (ls' := [some (vR 203), some (vL a1), none, some (vI a2), some (vL ((((((((a1 * (31 : Int64)) + (il v102)) * (31 : Int64)) + (il 0)) * (31 : Int64)) + (il v109)) * (31 : Int64)) + (il v112))), none]) (pc := 57) dX14_digestPlayer_57 (Nat.le_of_ble_eq_true rfl) rfl rfl ?_
    refine x_lload (pc := 59) dX14_digestPlayer_59 rfl ?_
    refine x_ldc2 (v := 31) (pc := 61) dX14_digestPlayer_61 WJ_X14_428 ?_
    refine x_lmul (pc := 64) dX14_digestPlayer_64 ?_
    refine x_aload_n (pc := 65) dX14_digestPlayer_65 rfl ?_
    refine x_iload_n (pc := 66) dX14_digestPlayer_66 rfl ?_
    refine x_iconst (pc := 67) dX14_digestPlayer_67 ⟨by decide, by decide⟩ ?_
    obtain ⟨v114, r113, hf⟩ := bd1_some hf
    refine x_cr (v := vI v114) (vs := [vR 203, vI a2, vI 1]) (rest := [vL (((((((((a1 * (31 : Int64)) + (il v102)) * (31 : Int64)) + (il 0)) * (31 : Int64)) + (il v109)) * (31 : Int64)) + (il v112)) * (31 : Int64))]) (k := 3) rfl (by omega) (ax_caV (pc := 68) dX14_digestPlayer_68 kX14_bridges rfl rfl WM_X14_339 WI_X14_bridges WS_X14_bridges WN_X14 (ax_rcO (t := 12) (axEx hG rfl) rfl (by decide)) (Nat.le_of_ble_eq_true rfl)) kX14_bridges rfl True.intro (T_X14_bridges (by omega) hG r113) ?_
    refine x_i2l (pc := 71) dX14_digestPlayer_71 ?_
    refine x_ladd (pc := 72) dX14_digestPlayer_72 ?_
    refine x_ldc2 (v := 31) (pc := 73) dX14_digestPlayer_73 WJ_X14_428 ?_
    refine x_lmul (pc := 76) dX14_digestPlayer_76 ?_
    refine x_aload_n (pc := 77) dX14_digestPlayer_77 rfl ?_
    refine x_iload_n (pc := 78) dX14_digestPlayer_78 rfl ?_
    refine x_iconst (pc := 79) dX14_digestPlayer_79 ⟨by decide, by decide⟩ ?_
    obtain ⟨v116, r115, hf⟩ := bd1_some hf
    refine x_cr (v := vI v116) (vs := [vR 203, vI a2, vI 2]) (rest := [vL (((((((((((a1 * (31 : Int64)) + (il v102)) * (31 : Int64)) + (il 0)) * (31 : Int64)) + (il v109)) * (31 : Int64)) + (il v112)) * (31 : Int64)) + (il v114)) * (31 : Int64))]) (k := 3) rfl (by omega) (ax_caV (pc := 80) dX14_digestPlayer_80 kX14_bridges rfl rfl WM_X14_339 WI_X14_bridges WS_X14_bridges WN_X14 (ax_rcO (t := 12) (axEx hG rfl) rfl (by decide)) (Nat.le_of_ble_eq_true rfl)) kX14_bridges rfl True.intro (T_X14_bridges (by omega) hG r115) ?_
    refine x_i2l (pc := 83) dX14_digestPlayer_83 ?_
    refine x_ladd (pc := 84) dX14_digestPlayer_84 ?_
    refine x_lstore (ls' := [some (vR 203), some (vL a1), none, some (vI a2), some (vL ((((((((((((a1 * (31 : Int64)) + (il v102)) * (31 : Int64)) + (il 0)) * (31 : Int64)) + (il v109)) * (31 : Int64)) + (il v112)) * (31 : Int64)) + (il v114)) * (31 : Int64)) + (il v116))), none]) (pc := 85) dX14_digestPlayer_85 (Nat.le_of_ble_eq_true rfl) rfl rfl ?_
    refine x_lload (pc := 87) dX14_digestPlayer_87 rfl ?_
    refine x_ldc2 (v := 31) (pc := 89) dX14_digestPlayer_89 WJ_X14_428 ?_
    refine x_lmul (pc := 92) dX14_digestPlayer_92 ?_
    refine x_aload_n (pc := 93) dX14_digestPlayer_93 rfl ?_
    refine x_iload_n (pc := 94) dX14_digestPlayer_94 rfl ?_
    refine x_iconst (pc := 95) dX14_digestPlayer_95 ⟨by decide, by decide⟩ ?_
    obtain ⟨v119, M118, r117, hf⟩ := bd2_some hf
    refine x_cr (v := vI v119) (vs := [vR 203, vI a2, vI 0]) (rest := [vL (((((((((((((a1 * (31 : Int64)) + (il v102)) * (31 : Int64)) + (il 0)) * (31 : Int64)) + (il v109)) * (31 : Int64)) + (il v112)) * (31 : Int64)) + (il v114)) * (31 : Int64)) + (il v116)) * (31 : Int64))]) (k := 2) rfl (by omega) (ax_caV (pc := 96) dX14_digestPlayer_96 kX14_winning rfl rfl WM_X14_351 WI_X14_winning WS_X14_winning WN_X14 (ax_rcO (t := 12) (axEx hG rfl) rfl (by decide)) (Nat.le_of_ble_eq_true rfl)) kX14_winning rfl True.intro (T_X14_winning (by omega) hG r117) ?_
    refine x_i2l (pc := 99) dX14_digestPlayer_99 ?_
    refine x_ladd (pc := 100) dX14_digestPlayer_100 ?_
    refine x_ldc2 (v := 31) (pc := 101) dX14_digestPlayer_101 WJ_X14_428 ?_
    refine x_lmul (pc := 104) dX14_digestPlayer_104 ?_
    refine x_aload_n (pc := 105) dX14_digestPlayer_105 rfl ?_
    refine x_iload_n (pc := 106) dX14_digestPlayer_106 rfl ?_
    obtain ⟨v122, M121, r120, hf⟩ := bd2_some hf
    refine x_cr (v := vI v122) (vs := [vR 203, vI a2]) (rest := [vL (((((((((((((((a1 * (31 : Int64)) + (il v102)) * (31 : Int64)) + (il 0)) * (31 : Int64)) + (il v109)) * (31 : Int64)) + (il v112)) * (31 : Int64)) + (il v114)) * (31 : Int64)) + (il v116)) * (31 : Int64)) + (il v119)) * (31 : Int64))]) (k := 2) rfl (by omega) (ax_caV (pc := 107) dX14_digestPlayer_107 kX14_needs rfl rfl WM_X14_342 WI_X14_needs WS_X14_needs WN_X14 (ax_rcO (t := 12) (axEx hG rfl) rfl (by decide)) (Nat.le_of_ble_eq_true rfl)) kX14_needs rfl True.intro (T_X14_needs (by omega) hG r120) ?_
    refine x_i2l (pc := 110) dX14_digestPlayer_110 ?_
    refine x_ladd (pc := 111) dX14_digestPlayer_111 ?_
    cases hf
    exact x_retJ (pc := 112) dX14_digestPlayer_112
  · replace hf := (if_neg h106).symm.trans hf
    refine x_iconst (pc := 24) dX14_digestPlayer_24 ⟨by decide, by decide⟩ ?_
    refine x_goto (tgt := 29) (pc := 25) dX14_digestPlayer_25 rfl ?_
    refine x_i2l (pc := 29) dX14_digestPlayer_29 ?_
    refine x_ladd (pc := 30) dX14_digestPlayer_30 ?_
    refine x_lstore (ls' := [some (vR 203), some (vL a1), none, some (vI a2), some (vL ((((a1 * (31 : Int64)) + (il v102)) * (31 : Int64)) + (il 1))), none]) (pc := 31) dX14_digestPlayer_31 (Nat.le_of_ble_eq_true rfl) rfl rfl ?_
    refine x_lload (pc := 33) dX14_digestPlayer_33 rfl ?_
    refine x_ldc2 (v := 31) (pc := 35) dX14_digestPlayer_35 WJ_X14_428 ?_
    refine x_lmul (pc := 38) dX14_digestPlayer_38 ?_
    refine x_aload_n (pc := 39) dX14_digestPlayer_39 rfl ?_
    refine x_iload_n (pc := 40) dX14_digestPlayer_40 rfl ?_
    obtain ⟨v125, M124, r123, hf⟩ := bd2_some hf
    refine x_cr (v := vI v125) (vs := [vR 203, vI a2]) (rest := [vL (((((a1 * (31 : Int64)) + (il v102)) * (31 : Int64)) + (il 1)) * (31 : Int64))]) (k := 0) rfl (by omega) (ax_caV (pc := 41) dX14_digestPlayer_41 kX14_groupsThen rfl rfl WM_X14_395 WI_X14_groupsThen WS_X14_groupsThen WN_X14 (ax_rcO (t := 12) (axEx hG rfl) rfl (by decide)) (Nat.le_of_ble_eq_true rfl)) kX14_groupsThen rfl True.intro (T_X14_groupsThen (by omega) hG r123) ?_
    refine x_i2l (pc := 44) dX14_digestPlayer_44 ?_
    refine x_ladd (pc := 45) dX14_digestPlayer_45 ?_
    refine x_ldc2 (v := 31) (pc := 46) dX14_digestPlayer_46 WJ_X14_428 ?_
    refine x_lmul (pc := 49) dX14_digestPlayer_49 ?_
    refine x_aload_n (pc := 50) dX14_digestPlayer_50 rfl ?_
    refine x_iload_n (pc := 51) dX14_digestPlayer_51 rfl ?_
    obtain ⟨v128, M127, r126, hf⟩ := bd2_some hf
    refine x_cr (v := vI v128) (vs := [vR 203, vI a2]) (rest := [vL (((((((a1 * (31 : Int64)) + (il v102)) * (31 : Int64)) + (il 1)) * (31 : Int64)) + (il v125)) * (31 : Int64))]) (k := 2) rfl (by omega) (ax_caV (pc := 52) dX14_digestPlayer_52 kX14_greatest rfl rfl WM_X14_398 WI_X14_greatest WS_X14_greatest WN_X14 (ax_rcO (t := 12) (axEx hG rfl) rfl (by decide)) (Nat.le_of_ble_eq_true rfl)) kX14_greatest rfl True.intro (T_X14_greatest (by omega) hG r126) ?_
    refine x_i2l (pc := 55) dX14_digestPlayer_55 ?_
    refine x_ladd (pc := 56) dX14_digestPlayer_56 ?_
    refine x_lstore (ls' := [some (vR 203), some (vL a1), none, some (vI a2), some (vL ((((((((a1 * (31 : Int64)) + (il v102)) * (31 : Int64)) + (il 1)) * (31 : Int64)) + (il v125)) * (31 : Int64)) + (il v128))), none]) (pc := 57) dX14_digestPlayer_57 (Nat.le_of_ble_eq_true rfl) rfl rfl ?_
    refine x_lload (pc := 59) dX14_digestPlayer_59 rfl ?_
    refine x_ldc2 (v := 31) (pc := 61) dX14_digestPlayer_61 WJ_X14_428 ?_
    refine x_lmul (pc := 64) dX14_digestPlayer_64 ?_
    refine x_aload_n (pc := 65) dX14_digestPlayer_65 rfl ?_
    refine x_iload_n (pc := 66) dX14_digestPlayer_66 rfl ?_
    refine x_iconst (pc := 67) dX14_digestPlayer_67 ⟨by decide, by decide⟩ ?_
    obtain ⟨v130, r129, hf⟩ := bd1_some hf
    refine x_cr (v := vI v130) (vs := [vR 203, vI a2, vI 1]) (rest := [vL (((((((((a1 * (31 : Int64)) + (il v102)) * (31 : Int64)) + (il 1)) * (31 : Int64)) + (il v125)) * (31 : Int64)) + (il v128)) * (31 : Int64))]) (k := 3) rfl (by omega) (ax_caV (pc := 68) dX14_digestPlayer_68 kX14_bridges rfl rfl WM_X14_339 WI_X14_bridges WS_X14_bridges WN_X14 (ax_rcO (t := 12) (axEx hG rfl) rfl (by decide)) (Nat.le_of_ble_eq_true rfl)) kX14_bridges rfl True.intro (T_X14_bridges (by omega) hG r129) ?_
    refine x_i2l (pc := 71) dX14_digestPlayer_71 ?_
    refine x_ladd (pc := 72) dX14_digestPlayer_72 ?_
    refine x_ldc2 (v := 31) (pc := 73) dX14_digestPlayer_73 WJ_X14_428 ?_
    refine x_lmul (pc := 76) dX14_digestPlayer_76 ?_
    refine x_aload_n (pc := 77) dX14_digestPlayer_77 rfl ?_
    refine x_iload_n (pc := 78) dX14_digestPlayer_78 rfl ?_
    refine x_iconst (pc := 79) dX14_digestPlayer_79 ⟨by decide, by decide⟩ ?_
    obtain ⟨v132, r131, hf⟩ := bd1_some hf
    refine x_cr (v := vI v132) (vs := [vR 203, vI a2, vI 2]) (rest := [vL (((((((((((a1 * (31 : Int64)) + (il v102)) * (31 : Int64)) + (il 1)) * (31 : Int64)) + (il v125)) * (31 : Int64)) + (il v128)) * (31 : Int64)) + (il v130)) * (31 : Int64))]) (k := 3) rfl (by omega) (ax_caV (pc := 80) dX14_digestPlayer_80 kX14_bridges rfl rfl WM_X14_339 WI_X14_bridges WS_X14_bridges WN_X14 (ax_rcO (t := 12) (axEx hG rfl) rfl (by decide)) (Nat.le_of_ble_eq_true rfl)) kX14_bridges rfl True.intro (T_X14_bridges (by omega) hG r131) ?_
    refine x_i2l (pc := 83) dX14_digestPlayer_83 ?_
    refine x_ladd (pc := 84) dX14_digestPlayer_84 ?_
    refine x_lstore (ls' := [some (vR 203), some (vL a1), none, some (vI a2), some (vL ((((((((((((a1 * (31 : Int64)) + (il v102)) * (31 : Int64)) + (il 1)) * (31 : Int64)) + (il v125)) * (31 : Int64)) + (il v128)) * (31 : Int64)) + (il v130)) * (31 : Int64)) + (il v132))), none]) (pc := 85) dX14_digestPlayer_85 (Nat.le_of_ble_eq_true rfl) rfl rfl ?_
    refine x_lload (pc := 87) dX14_digestPlayer_87 rfl ?_
    refine x_ldc2 (v := 31) (pc := 89) dX14_digestPlayer_89 WJ_X14_428 ?_
    refine x_lmul (pc := 92) dX14_digestPlayer_92 ?_
    refine x_aload_n (pc := 93) dX14_digestPlayer_93 rfl ?_
    refine x_iload_n (pc := 94) dX14_digestPlayer_94 rfl ?_
    refine x_iconst (pc := 95) dX14_digestPlayer_95 ⟨by decide, by decide⟩ ?_
    obtain ⟨v135, M134, r133, hf⟩ := bd2_some hf
    refine x_cr (v := vI v135) (vs := [vR 203, vI a2, vI 0]) (rest := [vL (((((((((((((a1 * (31 : Int64)) + (il v102)) * (31 : Int64)) + (il 1)) * (31 : Int64)) + (il v125)) * (31 : Int64)) + (il v128)) * (31 : Int64)) + (il v130)) * (31 : Int64)) + (il v132)) * (31 : Int64))]) (k := 2) rfl (by omega) (ax_caV (pc := 96) dX14_digestPlayer_96 kX14_winning rfl rfl WM_X14_351 WI_X14_winning WS_X14_winning WN_X14 (ax_rcO (t := 12) (axEx hG rfl) rfl (by decide)) (Nat.le_of_ble_eq_true rfl)) kX14_winning rfl True.intro (T_X14_winning (by omega) hG r133) ?_
    refine x_i2l (pc := 99) dX14_digestPlayer_99 ?_
    refine x_ladd (pc := 100) dX14_digestPlayer_100 ?_
    refine x_ldc2 (v := 31) (pc := 101) dX14_digestPlayer_101 WJ_X14_428 ?_
    refine x_lmul (pc := 104) dX14_digestPlayer_104 ?_
    refine x_aload_n (pc := 105) dX14_digestPlayer_105 rfl ?_
    refine x_iload_n (pc := 106) dX14_digestPlayer_106 rfl ?_
    obtain ⟨v138, M137, r136, hf⟩ := bd2_some hf
    refine x_cr (v := vI v138) (vs := [vR 203, vI a2]) (rest := [vL (((((((((((((((a1 * (31 : Int64)) + (il v102)) * (31 : Int64)) + (il 1)) * (31 : Int64)) + (il v125)) * (31 : Int64)) + (il v128)) * (31 : Int64)) + (il v130)) * (31 : Int64)) + (il v132)) * (31 : Int64)) + (il v135)) * (31 : Int64))]) (k := 2) rfl (by omega) (ax_caV (pc := 107) dX14_digestPlayer_107 kX14_needs rfl rfl WM_X14_342 WI_X14_needs WS_X14_needs WN_X14 (ax_rcO (t := 12) (axEx hG rfl) rfl (by decide)) (Nat.le_of_ble_eq_true rfl)) kX14_needs rfl True.intro (T_X14_needs (by omega) hG r136) ?_
    refine x_i2l (pc := 110) dX14_digestPlayer_110 ?_
    refine x_ladd (pc := 111) dX14_digestPlayer_111 ?_
    cases hf
    exact x_retJ (pc := 112) dX14_digestPlayer_112
/- HexPondModel.digest()J -/
def fX14_digest_b101 (M : ax_M) (x4 : Nat) (x5 : Int) (v2 : Int64) (v6 : Int) : Option ((Int64 × Int) ⊕ Int64) :=
  (if v6 < x5 then (if axDy M x4 8 then (if 0 ≤ v6 ∧ v6 < 8 then (some (.inl (((v2 * (31 : Int64)) + (il (mI M x4 (Int.toNat v6)))), (v6 + 1)))) else none) else none) else (some (.inr v2)))
def fX14_digest_b146 (M : ax_M) (v2 : Int64) (v4 : Int) : Option ((Int64 × Int) ⊕ Int64) :=
  (if v4 < (fX14_cells M) then (if 0 ≤ v4 ∧ v4 < 81 then (some (.inl (((v2 * (31 : Int64)) + (il (wr ((mI M 233 (Int.toNat v4)) + 1)))), (v4 + 1)))) else none) else (some (.inr v2)))
def fX14_digest (M : ax_M) : Option (Int64 × ax_M) :=
  (if 94 ≤ mSz (mUI M 203 0 0) then (if axDy (mAl (mUI M 203 0 0) 32 8 8) (150 + mSz (mUI M 203 0 0)) 8 then (if axDy (mUI (mAl (mUI M 203 0 0) 32 8 8) (150 + mSz (mUI M 203 0 0)) 0 (mI (mAl (mUI M 203 0 0) 32 8 8) 208 0)) (150 + mSz (mUI M 203 0 0)) 8 then (if axDy (mUI (mUI (mAl (mUI M 203 0 0) 32 8 8) (150 + mSz (mUI M 203 0 0)) 0 (mI (mAl (mUI M 203 0 0) 32 8 8) 208 0)) (150 + mSz (mUI M 203 0 0)) 1 (mI (mUI (mAl (mUI M 203 0 0) 32 8 8) (150 + mSz (mUI M 203 0 0)) 0 (mI (mAl (mUI M 203 0 0) 32 8 8) 208 0)) 208 1)) (150 + mSz (mUI M 203 0 0)) 8 then (if axDy (mUI (mUI (mUI (mAl (mUI M 203 0 0) 32 8 8) (150 + mSz (mUI M 203 0 0)) 0 (mI (mAl (mUI M 203 0 0) 32 8 8) 208 0)) (150 + mSz (mUI M 203 0 0)) 1 (mI (mUI (mAl (mUI M 203 0 0) 32 8 8) (150 + mSz (mUI M 203 0 0)) 0 (mI (mAl (mUI M 203 0 0) 32 8 8) 208 0)) 208 1)) (150 + mSz (mUI M 203 0 0)) 2 (mI (mUI (mUI (mAl (mUI M 203 0 0) 32 8 8) (150 + mSz (mUI M 203 0 0)) 0 (mI (mAl (mUI M 203 0 0) 32 8 8) 208 0)) (150 + mSz (mUI M 203 0 0)) 1 (mI (mUI (mAl (mUI M 203 0 0) 32 8 8) (150 + mSz (mUI M 203 0 0)) 0 (mI (mAl (mUI M 203 0 0) 32 8 8) 208 0)) 208 1)) 208 3)) (150 + mSz (mUI M 203 0 0)) 8 then (if axDy (mUI (mUI (mUI (mUI (mAl (mUI M 203 0 0) 32 8 8) (150 + mSz (mUI M 203 0 0)) 0 (mI (mAl (mUI M 203 0 0) 32 8 8) 208 0)) (150 + mSz (mUI M 203 0 0)) 1 (mI (mUI (mAl (mUI M 203 0 0) 32 8 8) (150 + mSz (mUI M 203 0 0)) 0 (mI (mAl (mUI M 203 0 0) 32 8 8) 208 0)) 208 1)) (150 + mSz (mUI M 203 0 0)) 2 (mI (mUI (mUI (mAl (mUI M 203 0 0) 32 8 8) (150 + mSz (mUI M 203 0 0)) 0 (mI (mAl (mUI M 203 0 0) 32 8 8) 208 0)) (150 + mSz (mUI M 203 0 0)) 1 (mI (mUI (mAl (mUI M 203 0 0) 32 8 8) (150 + mSz (mUI M 203 0 0)) 0 (mI (mAl (mUI M 203 0 0) 32 8 8) 208 0)) 208 1)) 208 3)) (150 + mSz (mUI M 203 0 0)) 3 (mI (mUI (mUI (mUI (mAl (mUI M 203 0 0) 32 8 8) (150 + mSz (mUI M 203 0 0)) 0 (mI (mAl (mUI M 203 0 0) 32 8 8) 208 0)) (150 + mSz (mUI M 203 0 0)) 1 (mI (mUI (mAl (mUI M 203 0 0) 32 8 8) (150 + mSz (mUI M 203 0 0)) 0 (mI (mAl (mUI M 203 0 0) 32 8 8) 208 0)) 208 1)) (150 + mSz (mUI M 203 0 0)) 2 (mI (mUI (mUI (mAl (mUI M 203 0 0) 32 8 8) (150 + mSz (mUI M 203 0 0)) 0 (mI (mAl (mUI M 203 0 0) 32 8 8) 208 0)) (150 + mSz (mUI M 203 0 0)) 1 (mI (mUI (mAl (mUI M 203 0 0) 32 8 8) (150 + mSz (mUI M 203 0 0)) 0 (mI (mAl (mUI M 203 0 0) 32 8 8) 208 0)) 208 1)) 208 3)) 203 17)) (150 + mSz (mUI M 203 0 0)) 8 then (bd1 (fX14_count (mUI (mUI (mUI (mUI (mUI (mAl (mUI M 203 0 0) 32 8 8) (150 + mSz (mUI M 203 0 0)) 0 (mI (mAl (mUI M 203 0 0) 32 8 8) 208 0)) (150 + mSz (mUI M 203 0 0)) 1 (mI (mUI (mAl (mUI M 203 0 0) 32 8 8) (150 + mSz (mUI M 203 0 0)) 0 (mI (mAl (mUI M 203 0 0) 32 8 8) 208 0)) 208 1)) (150 + mSz (mUI M 203 0 0)) 2 (mI (mUI (mUI (mAl (mUI M 203 0 0) 32 8 8) (150 + mSz (mUI M 203 0 0)) 0 (mI (mAl (mUI M 203 0 0) 32 8 8) 208 0)) (150 + mSz (mUI M 203 0 0)) 1 (mI (mUI (mAl (mUI M 203 0 0) 32 8 8) (150 + mSz (mUI M 203 0 0)) 0 (mI (mAl (mUI M 203 0 0) 32 8 8) 208 0)) 208 1)) 208 3)) (150 + mSz (mUI M 203 0 0)) 3 (mI (mUI (mUI (mUI (mAl (mUI M 203 0 0) 32 8 8) (150 + mSz (mUI M 203 0 0)) 0 (mI (mAl (mUI M 203 0 0) 32 8 8) 208 0)) (150 + mSz (mUI M 203 0 0)) 1 (mI (mUI (mAl (mUI M 203 0 0) 32 8 8) (150 + mSz (mUI M 203 0 0)) 0 (mI (mAl (mUI M 203 0 0) 32 8 8) 208 0)) 208 1)) (150 + mSz (mUI M 203 0 0)) 2 (mI (mUI (mUI (mAl (mUI M 203 0 0) 32 8 8) (150 + mSz (mUI M 203 0 0)) 0 (mI (mAl (mUI M 203 0 0) 32 8 8) 208 0)) (150 + mSz (mUI M 203 0 0)) 1 (mI (mUI (mAl (mUI M 203 0 0) 32 8 8) (150 + mSz (mUI M 203 0 0)) 0 (mI (mAl (mUI M 203 0 0) 32 8 8) 208 0)) 208 1)) 208 3)) 203 17)) (150 + mSz (mUI M 203 0 0)) 4 (mI (mUI (mUI (mUI (mUI (mAl (mUI M 203 0 0) 32 8 8) (150 + mSz (mUI M 203 0 0)) 0 (mI (mAl (mUI M 203 0 0) 32 8 8) 208 0)) (150 + mSz (mUI M 203 0 0)) 1 (mI (mUI (mAl (mUI M 203 0 0) 32 8 8) (150 + mSz (mUI M 203 0 0)) 0 (mI (mAl (mUI M 203 0 0) 32 8 8) 208 0)) 208 1)) (150 + mSz (mUI M 203 0 0)) 2 (mI (mUI (mUI (mAl (mUI M 203 0 0) 32 8 8) (150 + mSz (mUI M 203 0 0)) 0 (mI (mAl (mUI M 203 0 0) 32 8 8) 208 0)) (150 + mSz (mUI M 203 0 0)) 1 (mI (mUI (mAl (mUI M 203 0 0) 32 8 8) (150 + mSz (mUI M 203 0 0)) 0 (mI (mAl (mUI M 203 0 0) 32 8 8) 208 0)) 208 1)) 208 3)) (150 + mSz (mUI M 203 0 0)) 3 (mI (mUI (mUI (mUI (mAl (mUI M 203 0 0) 32 8 8) (150 + mSz (mUI M 203 0 0)) 0 (mI (mAl (mUI M 203 0 0) 32 8 8) 208 0)) (150 + mSz (mUI M 203 0 0)) 1 (mI (mUI (mAl (mUI M 203 0 0) 32 8 8) (150 + mSz (mUI M 203 0 0)) 0 (mI (mAl (mUI M 203 0 0) 32 8 8) 208 0)) 208 1)) (150 + mSz (mUI M 203 0 0)) 2 (mI (mUI (mUI (mAl (mUI M 203 0 0) 32 8 8) (150 + mSz (mUI M 203 0 0)) 0 (mI (mAl (mUI M 203 0 0) 32 8 8) 208 0)) (150 + mSz (mUI M 203 0 0)) 1 (mI (mUI (mAl (mUI M 203 0 0) 32 8 8) (150 + mSz (mUI M 203 0 0)) 0 (mI (mAl (mUI M 203 0 0) 32 8 8) 208 0)) 208 1)) 208 3)) 203 17)) 203 2)) (-1)) fun v108 => (if axDy (mUI (mUI (mUI (mUI (mUI (mAl (mUI M 203 0 0) 32 8 8) (150 + mSz (mUI M 203 0 0)) 0 (mI (mAl (mUI M 203 0 0) 32 8 8) 208 0)) (150 + mSz (mUI M 203 0 0)) 1 (mI (mUI (mAl (mUI M 203 0 0) 32 8 8) (150 + mSz (mUI M 203 0 0)) 0 (mI (mAl (mUI M 203 0 0) 32 8 8) 208 0)) 208 1)) (150 + mSz (mUI M 203 0 0)) 2 (mI (mUI (mUI (mAl (mUI M 203 0 0) 32 8 8) (150 + mSz (mUI M 203 0 0)) 0 (mI (mAl (mUI M 203 0 0) 32 8 8) 208 0)) (150 + mSz (mUI M 203 0 0)) 1 (mI (mUI (mAl (mUI M 203 0 0) 32 8 8) (150 + mSz (mUI M 203 0 0)) 0 (mI (mAl (mUI M 203 0 0) 32 8 8) 208 0)) 208 1)) 208 3)) (150 + mSz (mUI M 203 0 0)) 3 (mI (mUI (mUI (mUI (mAl (mUI M 203 0 0) 32 8 8) (150 + mSz (mUI M 203 0 0)) 0 (mI (mAl (mUI M 203 0 0) 32 8 8) 208 0)) (150 + mSz (mUI M 203 0 0)) 1 (mI (mUI (mAl (mUI M 203 0 0) 32 8 8) (150 + mSz (mUI M 203 0 0)) 0 (mI (mAl (mUI M 203 0 0) 32 8 8) 208 0)) 208 1)) (150 + mSz (mUI M 203 0 0)) 2 (mI (mUI (mUI (mAl (mUI M 203 0 0) 32 8 8) (150 + mSz (mUI M 203 0 0)) 0 (mI (mAl (mUI M 203 0 0) 32 8 8) 208 0)) (150 + mSz (mUI M 203 0 0)) 1 (mI (mUI (mAl (mUI M 203 0 0) 32 8 8) (150 + mSz (mUI M 203 0 0)) 0 (mI (mAl (mUI M 203 0 0) 32 8 8) 208 0)) 208 1)) 208 3)) 203 17)) (150 + mSz (mUI M 203 0 0)) 4 (mI (mUI (mUI (mUI (mUI (mAl (mUI M 203 0 0) 32 8 8) (150 + mSz (mUI M 203 0 0)) 0 (mI (mAl (mUI M 203 0 0) 32 8 8) 208 0)) (150 + mSz (mUI M 203 0 0)) 1 (mI (mUI (mAl (mUI M 203 0 0) 32 8 8) (150 + mSz (mUI M 203 0 0)) 0 (mI (mAl (mUI M 203 0 0) 32 8 8) 208 0)) 208 1)) (150 + mSz (mUI M 203 0 0)) 2 (mI (mUI (mUI (mAl (mUI M 203 0 0) 32 8 8) (150 + mSz (mUI M 203 0 0)) 0 (mI (mAl (mUI M 203 0 0) 32 8 8) 208 0)) (150 + mSz (mUI M 203 0 0)) 1 (mI (mUI (mAl (mUI M 203 0 0) 32 8 8) (150 + mSz (mUI M 203 0 0)) 0 (mI (mAl (mUI M 203 0 0) 32 8 8) 208 0)) 208 1)) 208 3)) (150 + mSz (mUI M 203 0 0)) 3 (mI (mUI (mUI (mUI (mAl (mUI M 203 0 0) 32 8 8) (150 + mSz (mUI M 203 0 0)) 0 (mI (mAl (mUI M 203 0 0) 32 8 8) 208 0)) (150 + mSz (mUI M 203 0 0)) 1 (mI (mUI (mAl (mUI M 203 0 0) 32 8 8) (150 + mSz (mUI M 203 0 0)) 0 (mI (mAl (mUI M 203 0 0) 32 8 8) 208 0)) 208 1)) (150 + mSz (mUI M 203 0 0)) 2 (mI (mUI (mUI (mAl (mUI M 203 0 0) 32 8 8) (150 + mSz (mUI M 203 0 0)) 0 (mI (mAl (mUI M 203 0 0) 32 8 8) 208 0)) (150 + mSz (mUI M 203 0 0)) 1 (mI (mUI (mAl (mUI M 203 0 0) 32 8 8) (150 + mSz (mUI M 203 0 0)) 0 (mI (mAl (mUI M 203 0 0) 32 8 8) 208 0)) 208 1)) 208 3)) 203 17)) 203 2)) (150 + mSz (mUI M 203 0 0)) 8 then (bd2 (fX14_allFrozen (mUI (mUI (mUI (mUI (mUI (mUI (mAl (mUI M 203 0 0) 32 8 8) (150 + mSz (mUI M 203 0 0)) 0 (mI (mAl (mUI M 203 0 0) 32 8 8) 208 0)) (150 + mSz (mUI M 203 0 0)) 1 (mI (mUI (mAl (mUI M 203 0 0) 32 8 8) (150 + mSz (mUI M 203 0 0)) 0 (mI (mAl (mUI M 203 0 0) 32 8 8) 208 0)) 208 1)) (150 + mSz (mUI M 203 0 0)) 2 (mI (mUI (mUI (mAl (mUI M 203 0 0) 32 8 8) (150 + mSz (mUI M 203 0 0)) 0 (mI (mAl (mUI M 203 0 0) 32 8 8) 208 0)) (150 + mSz (mUI M 203 0 0)) 1 (mI (mUI (mAl (mUI M 203 0 0) 32 8 8) (150 + mSz (mUI M 203 0 0)) 0 (mI (mAl (mUI M 203 0 0) 32 8 8) 208 0)) 208 1)) 208 3)) (150 + mSz (mUI M 203 0 0)) 3 (mI (mUI (mUI (mUI (mAl (mUI M 203 0 0) 32 8 8) (150 + mSz (mUI M 203 0 0)) 0 (mI (mAl (mUI M 203 0 0) 32 8 8) 208 0)) (150 + mSz (mUI M 203 0 0)) 1 (mI (mUI (mAl (mUI M 203 0 0) 32 8 8) (150 + mSz (mUI M 203 0 0)) 0 (mI (mAl (mUI M 203 0 0) 32 8 8) 208 0)) 208 1)) (150 + mSz (mUI M 203 0 0)) 2 (mI (mUI (mUI (mAl (mUI M 203 0 0) 32 8 8) (150 + mSz (mUI M 203 0 0)) 0 (mI (mAl (mUI M 203 0 0) 32 8 8) 208 0)) (150 + mSz (mUI M 203 0 0)) 1 (mI (mUI (mAl (mUI M 203 0 0) 32 8 8) (150 + mSz (mUI M 203 0 0)) 0 (mI (mAl (mUI M 203 0 0) 32 8 8) 208 0)) 208 1)) 208 3)) 203 17)) (150 + mSz (mUI M 203 0 0)) 4 (mI (mUI (mUI (mUI (mUI (mAl (mUI M 203 0 0) 32 8 8) (150 + mSz (mUI M 203 0 0)) 0 (mI (mAl (mUI M 203 0 0) 32 8 8) 208 0)) (150 + mSz (mUI M 203 0 0)) 1 (mI (mUI (mAl (mUI M 203 0 0) 32 8 8) (150 + mSz (mUI M 203 0 0)) 0 (mI (mAl (mUI M 203 0 0) 32 8 8) 208 0)) 208 1)) (150 + mSz (mUI M 203 0 0)) 2 (mI (mUI (mUI (mAl (mUI M 203 0 0) 32 8 8) (150 + mSz (mUI M 203 0 0)) 0 (mI (mAl (mUI M 203 0 0) 32 8 8) 208 0)) (150 + mSz (mUI M 203 0 0)) 1 (mI (mUI (mAl (mUI M 203 0 0) 32 8 8) (150 + mSz (mUI M 203 0 0)) 0 (mI (mAl (mUI M 203 0 0) 32 8 8) 208 0)) 208 1)) 208 3)) (150 + mSz (mUI M 203 0 0)) 3 (mI (mUI (mUI (mUI (mAl (mUI M 203 0 0) 32 8 8) (150 + mSz (mUI M 203 0 0)) 0 (mI (mAl (mUI M 203 0 0) 32 8 8) 208 0)) (150 + mSz (mUI M 203 0 0)) 1 (mI (mUI (mAl (mUI M 203 0 0) 32 8 8) (150 + mSz (mUI M 203 0 0)) 0 (mI (mAl (mUI M 203 0 0) 32 8 8) 208 0)) 208 1)) (150 + mSz (mUI M 203 0 0)) 2 (mI (mUI (mUI (mAl (mUI M 203 0 0) 32 8 8) (150 + mSz (mUI M 203 0 0)) 0 (mI (mAl (mUI M 203 0 0) 32 8 8) 208 0)) (150 + mSz (mUI M 203 0 0)) 1 (mI (mUI (mAl (mUI M 203 0 0) 32 8 8) (150 + mSz (mUI M 203 0 0)) 0 (mI (mAl (mUI M 203 0 0) 32 8 8) 208 0)) 208 1)) 208 3)) 203 17)) 203 2)) (150 + mSz (mUI M 203 0 0)) 5 v108)) fun v112 M111 => (if axDy M111 (150 + mSz (mUI M 203 0 0)) 8 then (bd2 (fX14_over (mUI M111 (150 + mSz (mUI M 203 0 0)) 6 v112)) fun v116 M115 => (if v116 = 0 then (if axDy M115 (150 + mSz (mUI M 203 0 0)) 8 then (if axDy (mUI M115 (150 + mSz (mUI M 203 0 0)) 7 0) (150 + mSz (mUI M 203 0 0)) 8 then (bd1 (lp (fun s => fX14_digest_b101 (mUI M115 (150 + mSz (mUI M 203 0 0)) 7 0) (150 + mSz (mUI M 203 0 0)) 8 s.1 s.2) lpN ((953 : Int64), 0)) fun t124 => (bd2 (fX14_digestPlayer (mUI M115 (150 + mSz (mUI M 203 0 0)) 7 0) t124 0) fun v128 M127 => (bd2 (fX14_digestPlayer M127 v128 1) fun v131 M130 => (bd1 (lp (fun s => fX14_digest_b146 M130 s.1 s.2) lpN (v131, 0)) fun t135 => (some (t135, M130)))))) else none) else none) else (if axDy M115 (150 + mSz (mUI M 203 0 0)) 8 then (if axDy (mUI M115 (150 + mSz (mUI M 203 0 0)) 7 1) (150 + mSz (mUI M 203 0 0)) 8 then (bd1 (lp (fun s => fX14_digest_b101 (mUI M115 (150 + mSz (mUI M 203 0 0)) 7 1) (150 + mSz (mUI M 203 0 0)) 8 s.1 s.2) lpN ((953 : Int64), 0)) fun t139 => (bd2 (fX14_digestPlayer (mUI M115 (150 + mSz (mUI M 203 0 0)) 7 1) t139 0) fun v143 M142 => (bd2 (fX14_digestPlayer M142 v143 1) fun v146 M145 => (bd1 (lp (fun s => fX14_digest_b146 M145 s.1 s.2) lpN (v146, 0)) fun t147 => (some (t147, M145)))))) else none) else none))) else none)) else none)) else none) else none) else none) else none) else none) else none)
theorem B_X14_digest_101 {G : ax_G} {d : Nat} (hd : 7 ≤ d) (hG : axPs G 150 244) {M : ax_M} {x4 : Nat} {x5 : Int} {v2 : Int64} {v6 : Int} {o : Option ax_V ⊕ String} {M' : ax_M} {y : (Int64 × Int) ⊕ Int64} (hf : fX14_digest_b101 M x4 x5 v2 v6 = some y) (h1 : ∀ s', y = .inl s' → ax_Ex G tX14_digest d 101 [some (vR 203), none, some (vL s'.1), none, some (vR x4), some (vI x5), some (vI s'.2), none] [] M o M') (h2a : ∀ t, y = .inr t → ax_Ex G tX14_digest d 131 [some (vR 203), none, some (vL t), none, some (vR x4), some (vI x5), none, none] [] M o M') : ax_Ex G tX14_digest d 101 [some (vR 203), none, some (vL v2), none, some (vR x4), some (vI x5), some (vI v6), none] [] M o M' := by
  unfold fX14_digest_b101 at hf
  refine x_iload (pc := 101) dX14_digest_101 rfl ?_
  refine x_iload (pc := 103) dX14_digest_103 rfl ?_
  refine ax_cmp (fun b121a b121b b121c b121e => ?_)
  refine x_icmpge (tgt := 131) (pc := 105) dX14_digest_105 rfl (fun h120 => ?_) (fun h120 => ?_)
  · replace hf := (if_neg (Int.not_lt.mpr h120)).symm.trans hf
    cases hf
    exact x_fgt (axS' (axN' (axS' (axN' (axS' (axS' (axN' (axN' axD)))))))) (h2a _ rfl)
  · replace hf := (if_pos h120).symm.trans hf
    refine x_aload (pc := 108) dX14_digest_108 rfl ?_
    refine x_iload (pc := 110) dX14_digest_110 rfl ?_
    by_cases h122 : axDy M x4 8
    · replace hf := (if_pos h122).symm.trans hf
      by_cases h123 : 0 ≤ v6 ∧ v6 < 8
      · replace hf := (if_pos h123).symm.trans hf
        refine x_iald2 (n := 8) (pc := 112) dX14_digest_112 (axDy.ex h122) (axDy.sh h122) h123.1 h123.2 ?_
        refine x_istore (ls' := [some (vR 203), none, some (vL v2), none, some (vR x4), some (vI x5), some (vI v6), some (vI (mI M x4 (Int.toNat v6)))]) (pc := 113) dX14_digest_113 (Nat.le_of_ble_eq_true rfl) rfl rfl ?_
        refine x_lload_n (pc := 115) dX14_digest_115 rfl ?_
        refine x_ldc2 (v := 31) (pc := 116) dX14_digest_116 WJ_X14_428 ?_
        refine x_lmul (pc := 119) dX14_digest_119 ?_
        refine x_iload (pc := 120) dX14_digest_120 rfl ?_
        refine x_i2l (pc := 122) dX14_digest_122 ?_
        refine x_ladd (pc := 123) dX14_digest_123 ?_
        refine x_lstore_n (ls' := [some (vR 203), none, some (vL ((v2 * (31 : Int64)) + (il (mI M x4 (Int.toNat v6))))), none, some (vR x4), some (vI x5), some (vI v6), some (vI (mI M x4 (Int.toNat v6)))]) (pc := 124) dX14_digest_124 (Nat.le_of_ble_eq_true rfl) rfl rfl ?_
        refine x_iinc (z := (v6 + 1)) (ls' := [some (vR 203), none, some (vL ((v2 * (31 : Int64)) + (il (mI M x4 (Int.toNat v6))))), none, some (vR x4), some (vI x5), some (vI (v6 + 1)), some (vI (mI M x4 (Int.toNat v6)))]) (pc := 125) dX14_digest_125 rfl (Nat.le_of_ble_eq_true rfl) rfl rfl (ax_i (by omega) (by omega)) rfl ?_
        refine x_goto (tgt := 101) (pc := 128) dX14_digest_128 rfl ?_
        cases hf
        exact x_fgt (axS' (axN' (axS' (axN' (axS' (axS' (axS' (axN' axD)))))))) (h1 _ rfl)
      · replace hf := (if_neg h123).symm.trans hf
        cases hf
    · replace hf := (if_neg h122).symm.trans hf
      cases hf
theorem B_X14_digest_146 {G : ax_G} {d : Nat} (hd : 7 ≤ d) (hG : axPs G 150 244) {M : ax_M} {v2 : Int64} {v4 : Int} {o : Option ax_V ⊕ String} {M' : ax_M} {y : (Int64 × Int) ⊕ Int64} (hf : fX14_digest_b146 M v2 v4 = some y) (h1 : ∀ s', y = .inl s' → ax_Ex G tX14_digest d 146 [some (vR 203), none, some (vL s'.1), none, some (vI s'.2), none, none, none] [] M o M') (h2a : ∀ t, y = .inr t → ax_Ex G tX14_digest d 178 [some (vR 203), none, some (vL t), none, none, none, none, none] [] M o M') : ax_Ex G tX14_digest d 146 [some (vR 203), none, some (vL v2), none, some (vI v4), none, none, none] [] M o M' := by
  unfold fX14_digest_b146 at hf
  refine x_iload (pc := 146) dX14_digest_146 rfl ?_
  refine x_aload_n (pc := 148) dX14_digest_148 rfl ?_
  refine x_cr (v := vI (fX14_cells M)) (vs := [vR 203]) (rest := [vI v4]) (k := 0) rfl (by omega) (ax_caV (pc := 149) dX14_digest_149 kX14_cells rfl rfl WM_X14_275 WI_X14_cells WS_X14_cells WN_X14 (ax_rcO (t := 12) (axEx hG rfl) rfl (by decide)) (Nat.le_of_ble_eq_true rfl)) kX14_cells rfl True.intro (T_X14_cells (by omega) hG rfl) ?_
  refine ax_cmp (fun b133a b133b b133c b133e => ?_)
  refine x_icmpge (tgt := 178) (pc := 152) dX14_digest_152 rfl (fun h132 => ?_) (fun h132 => ?_)
  · replace hf := (if_neg (Int.not_lt.mpr h132)).symm.trans hf
    cases hf
    exact x_fgt (axS' (axN' (axS' (axN' (axN' (axN' (axN' (axN' axD)))))))) (h2a _ rfl)
  · replace hf := (if_pos h132).symm.trans hf
    refine x_lload_n (pc := 155) dX14_digest_155 rfl ?_
    refine x_ldc2 (v := 31) (pc := 156) dX14_digest_156 WJ_X14_428 ?_
    refine x_lmul (pc := 159) dX14_digest_159 ?_
    refine x_aload_n (pc := 160) dX14_digest_160 rfl ?_
    refine x_getF (t := 12) (j := 15) (r := 233) (pc := 161) dX14_digest_161 (axH hG rfl) (axEx hG rfl) rfl (by decide) (by decide) rfl rfl WF_X14_39 ?_
    refine x_iload (pc := 164) dX14_digest_164 rfl ?_
    by_cases h134 : 0 ≤ v4 ∧ v4 < 81
    · replace hf := (if_pos h134).symm.trans hf
      refine x_iald2 (n := 81) (pc := 166) dX14_digest_166 (axEx hG rfl) rfl h134.1 h134.2 ?_
      refine x_iconst (pc := 167) dX14_digest_167 ⟨by decide, by decide⟩ ?_
      refine x_iaddw (pc := 168) dX14_digest_168 ?_
      refine x_i2l (pc := 169) dX14_digest_169 ?_
      refine x_ladd (pc := 170) dX14_digest_170 ?_
      refine x_lstore_n (ls' := [some (vR 203), none, some (vL ((v2 * (31 : Int64)) + (il (wr ((mI M 233 (Int.toNat v4)) + 1))))), none, some (vI v4), none, none, none]) (pc := 171) dX14_digest_171 (Nat.le_of_ble_eq_true rfl) rfl rfl ?_
      refine x_iinc (z := (v4 + 1)) (ls' := [some (vR 203), none, some (vL ((v2 * (31 : Int64)) + (il (wr ((mI M 233 (Int.toNat v4)) + 1))))), none, some (vI (v4 + 1)), none, none, none]) (pc := 172) dX14_digest_172 rfl (Nat.le_of_ble_eq_true rfl) rfl rfl (ax_i (by omega) (by omega)) rfl ?_
      refine x_goto (tgt := 146) (pc := 175) dX14_digest_175 rfl ?_
      cases hf
      exact h1 _ rfl
    · replace hf := (if_neg h134).symm.trans hf
      cases hf
theorem T_X14_digest {G : ax_G} {d : Nat} (hd : 7 ≤ d) (hG : axPs G 150 244) {M : ax_M} {r : Int64} {M1 : ax_M} (hf : fX14_digest M = some (r, M1)) : ax_Ex G tX14_digest d 0 (ax_args [vR 203] ++ List.replicate 7 none) [] M (.inl (some (vL r))) M1 := by
  show ax_Ex G tX14_digest d 0 [some (vR 203), none, none, none, none, none, none, none] [] M _ _
  unfold fX14_digest at hf
  refine x_aload_n (pc := 0) dX14_digest_0 rfl ?_
  refine x_iconst (pc := 1) dX14_digest_1 ⟨by decide, by decide⟩ ?_
  refine x_putI (t := 12) (j := 0) (pc := 2) dX14_digest_2 (axEx hG rfl) rfl (by decide) (by decide) rfl rfl WF_X14_73 ?_
  refine x_bipush (pc := 5) dX14_digest_5 (by decide) ⟨by decide, by decide⟩ ?_
  by_cases h101 : 94 ≤ mSz (mUI M 203 0 0)
  · replace hf := (if_pos h101).symm.trans hf
    refine x_newI (N := 8) (pc := 7) dX14_digest_7 (by decide) (fun q => absurd q (by show ¬ 150 + _ < 244; omega)) WA_int ?_
    refine x_dup (pc := 9) dX14_digest_9 rfl ?_
    refine x_iconst (pc := 10) dX14_digest_10 ⟨by decide, by decide⟩ ?_
    refine x_aload_n (pc := 11) dX14_digest_11 rfl ?_
    refine x_getF (t := 12) (j := 12) (r := 208) (pc := 12) dX14_digest_12 (axH hG rfl) (axEx hG rfl) rfl (by decide) (by decide) rfl rfl WF_X14_29 ?_
    refine x_getIN (t := 11) (j := 0) (pc := 15) dX14_digest_15 (axEx hG rfl) rfl (by decide) (by decide) rfl NF_X14_208 ?_
    by_cases h102 : axDy (mAl (mUI M 203 0 0) 32 8 8) (150 + mSz (mUI M 203 0 0)) 8
    · replace hf := (if_pos h102).symm.trans hf
      refine x_iast (j := 0) (n := 8) (pc := 18) dX14_digest_18 (axDy.ex h102) (axDy.sh h102) rfl (by decide) ?_
      refine x_dup (pc := 19) dX14_digest_19 rfl ?_
      refine x_iconst (pc := 20) dX14_digest_20 ⟨by decide, by decide⟩ ?_
      refine x_aload_n (pc := 21) dX14_digest_21 rfl ?_
      refine x_getF (t := 12) (j := 12) (r := 208) (pc := 22) dX14_digest_22 (axH hG rfl) (axEx hG rfl) rfl (by decide) (by decide) rfl rfl WF_X14_29 ?_
      refine x_getIN (t := 11) (j := 1) (pc := 25) dX14_digest_25 (axEx hG rfl) rfl (by decide) (by decide) rfl NF_X14_211 ?_
      by_cases h103 : axDy (mUI (mAl (mUI M 203 0 0) 32 8 8) (150 + mSz (mUI M 203 0 0)) 0 (mI (mAl (mUI M 203 0 0) 32 8 8) 208 0)) (150 + mSz (mUI M 203 0 0)) 8
      · replace hf := (if_pos h103).symm.trans hf
        refine x_iast (j := 1) (n := 8) (pc := 28) dX14_digest_28 (axDy.ex h103) (axDy.sh h103) rfl (by decide) ?_
        refine x_dup (pc := 29) dX14_digest_29 rfl ?_
        refine x_iconst (pc := 30) dX14_digest_30 ⟨by decide, by decide⟩ ?_
        refine x_aload_n (pc := 31) dX14_digest_31 rfl ?_
        refine x_getF (t := 12) (j := 12) (r := 208) (pc := 32) dX14_digest_32 (axH hG rfl) (axEx hG rfl) rfl (by decide) (by decide) rfl rfl WF_X14_29 ?_
        refine x_getIN (t := 11) (j := 3) (pc := 35) dX14_digest_35 (axEx hG rfl) rfl (by decide) (by decide) rfl NF_X14_215 ?_
        by_cases h104 : axDy (mUI (mUI (mAl (mUI M 203 0 0) 32 8 8) (150 + mSz (mUI M 203 0 0)) 0 (mI (mAl (mUI M 203 0 0) 32 8 8) 208 0)) (150 + mSz (mUI M 203 0 0)) 1 (mI (mUI (mAl (mUI M 203 0 0) 32 8 8) (150 + mSz (mUI M 203 0 0)) 0 (mI (mAl (mUI M 203 0 0) 32 8 8) 208 0)) 208 1)) (150 + mSz (mUI M 203 0 0)) 8
        · replace hf := (if_pos h104).symm.trans hf
          refine x_iast (j := 2) (n := 8) (pc := 38) dX14_digest_38 (axDy.ex h104) (axDy.sh h104) rfl (by decide) ?_
          refine x_dup (pc := 39) dX14_digest_39 rfl ?_
          refine x_iconst (pc := 40) dX14_digest_40 ⟨by decide, by decide⟩ ?_
          refine x_aload_n (pc := 41) dX14_digest_41 rfl ?_
          refine x_getI (t := 12) (j := 17) (pc := 42) dX14_digest_42 (axEx hG rfl) rfl (by decide) (by decide) rfl WF_X14_269 ?_
          by_cases h105 : axDy (mUI (mUI (mUI (mAl (mUI M 203 0 0) 32 8 8) (150 + mSz (mUI M 203 0 0)) 0 (mI (mAl (mUI M 203 0 0) 32 8 8) 208 0)) (150 + mSz (mUI M 203 0 0)) 1 (mI (mUI (mAl (mUI M 203 0 0) 32 8 8) (150 + mSz (mUI M 203 0 0)) 0 (mI (mAl (mUI M 203 0 0) 32 8 8) 208 0)) 208 1)) (150 + mSz (mUI M 203 0 0)) 2 (mI (mUI (mUI (mAl (mUI M 203 0 0) 32 8 8) (150 + mSz (mUI M 203 0 0)) 0 (mI (mAl (mUI M 203 0 0) 32 8 8) 208 0)) (150 + mSz (mUI M 203 0 0)) 1 (mI (mUI (mAl (mUI M 203 0 0) 32 8 8) (150 + mSz (mUI M 203 0 0)) 0 (mI (mAl (mUI M 203 0 0) 32 8 8) 208 0)) 208 1)) 208 3)) (150 + mSz (mUI M 203 0 0)) 8
          · replace hf := (if_pos h105).symm.trans hf
            refine x_iast (j := 3) (n := 8) (pc := 45) dX14_digest_45 (axDy.ex h105) (axDy.sh h105) rfl (by decide) ?_
            refine x_dup (pc := 46) dX14_digest_46 rfl ?_
            refine x_iconst (pc := 47) dX14_digest_47 ⟨by decide, by decide⟩ ?_
            refine x_aload_n (pc := 48) dX14_digest_48 rfl ?_
            refine x_getI (t := 12) (j := 2) (pc := 49) dX14_digest_49 (axEx hG rfl) rfl (by decide) (by decide) rfl WF_X14_80 ?_
            by_cases h106 : axDy (mUI (mUI (mUI (mUI (mAl (mUI M 203 0 0) 32 8 8) (150 + mSz (mUI M 203 0 0)) 0 (mI (mAl (mUI M 203 0 0) 32 8 8) 208 0)) (150 + mSz (mUI M 203 0 0)) 1 (mI (mUI (mAl (mUI M 203 0 0) 32 8 8) (150 + mSz (mUI M 203 0 0)) 0 (mI (mAl (mUI M 203 0 0) 32 8 8) 208 0)) 208 1)) (150 + mSz (mUI M 203 0 0)) 2 (mI (mUI (mUI (mAl (mUI M 203 0 0) 32 8 8) (150 + mSz (mUI M 203 0 0)) 0 (mI (mAl (mUI M 203 0 0) 32 8 8) 208 0)) (150 + mSz (mUI M 203 0 0)) 1 (mI (mUI (mAl (mUI M 203 0 0) 32 8 8) (150 + mSz (mUI M 203 0 0)) 0 (mI (mAl (mUI M 203 0 0) 32 8 8) 208 0)) 208 1)) 208 3)) (150 + mSz (mUI M 203 0 0)) 3 (mI (mUI (mUI (mUI (mAl (mUI M 203 0 0) 32 8 8) (150 + mSz (mUI M 203 0 0)) 0 (mI (mAl (mUI M 203 0 0) 32 8 8) 208 0)) (150 + mSz (mUI M 203 0 0)) 1 (mI (mUI (mAl (mUI M 203 0 0) 32 8 8) (150 + mSz (mUI M 203 0 0)) 0 (mI (mAl (mUI M 203 0 0) 32 8 8) 208 0)) 208 1)) (150 + mSz (mUI M 203 0 0)) 2 (mI (mUI (mUI (mAl (mUI M 203 0 0) 32 8 8) (150 + mSz (mUI M 203 0 0)) 0 (mI (mAl (mUI M 203 0 0) 32 8 8) 208 0)) (150 + mSz (mUI M 203 0 0)) 1 (mI (mUI (mAl (mUI M 203 0 0) 32 8 8) (150 + mSz (mUI M 203 0 0)) 0 (mI (mAl (mUI M 203 0 0) 32 8 8) 208 0)) 208 1)) 208 3)) 203 17)) (150 + mSz (mUI M 203 0 0)) 8
            · replace hf := (if_pos h106).symm.trans hf
              refine x_iast (j := 4) (n := 8) (pc := 52) dX14_digest_52 (axDy.ex h106) (axDy.sh h106) rfl (by decide) ?_
              refine x_dup (pc := 53) dX14_digest_53 rfl ?_
              refine x_iconst (pc := 54) dX14_digest_54 ⟨by decide, by decide⟩ ?_
              refine x_aload_n (pc := 55) dX14_digest_55 rfl ?_
              refine x_iconst (pc := 56) dX14_digest_56 ⟨by decide, by decide⟩ ?_
              obtain ⟨v108, r107, hf⟩ := bd1_some hf
              refine x_cr (v := vI v108) (vs := [vR 203, vI (-1)]) (rest := [vI 5, vR (150 + mSz (mUI M 203 0 0)), vR (150 + mSz (mUI M 203 0 0))]) (k := 2) rfl (by omega) (ax_caV (pc := 57) dX14_digest_57 kX14_count rfl rfl WM_X14_307 WI_X14_count WS_X14_count WN_X14 (ax_rcO (t := 12) (axEx hG rfl) rfl (by decide)) (Nat.le_of_ble_eq_true rfl)) kX14_count rfl True.intro (T_X14_count (by omega) hG r107) ?_
              by_cases h109 : axDy (mUI (mUI (mUI (mUI (mUI (mAl (mUI M 203 0 0) 32 8 8) (150 + mSz (mUI M 203 0 0)) 0 (mI (mAl (mUI M 203 0 0) 32 8 8) 208 0)) (150 + mSz (mUI M 203 0 0)) 1 (mI (mUI (mAl (mUI M 203 0 0) 32 8 8) (150 + mSz (mUI M 203 0 0)) 0 (mI (mAl (mUI M 203 0 0) 32 8 8) 208 0)) 208 1)) (150 + mSz (mUI M 203 0 0)) 2 (mI (mUI (mUI (mAl (mUI M 203 0 0) 32 8 8) (150 + mSz (mUI M 203 0 0)) 0 (mI (mAl (mUI M 203 0 0) 32 8 8) 208 0)) (150 + mSz (mUI M 203 0 0)) 1 (mI (mUI (mAl (mUI M 203 0 0) 32 8 8) (150 + mSz (mUI M 203 0 0)) 0 (mI (mAl (mUI M 203 0 0) 32 8 8) 208 0)) 208 1)) 208 3)) (150 + mSz (mUI M 203 0 0)) 3 (mI (mUI (mUI (mUI (mAl (mUI M 203 0 0) 32 8 8) (150 + mSz (mUI M 203 0 0)) 0 (mI (mAl (mUI M 203 0 0) 32 8 8) 208 0)) (150 + mSz (mUI M 203 0 0)) 1 (mI (mUI (mAl (mUI M 203 0 0) 32 8 8) (150 + mSz (mUI M 203 0 0)) 0 (mI (mAl (mUI M 203 0 0) 32 8 8) 208 0)) 208 1)) (150 + mSz (mUI M 203 0 0)) 2 (mI (mUI (mUI (mAl (mUI M 203 0 0) 32 8 8) (150 + mSz (mUI M 203 0 0)) 0 (mI (mAl (mUI M 203 0 0) 32 8 8) 208 0)) (150 + mSz (mUI M 203 0 0)) 1 (mI (mUI (mAl (mUI M 203 0 0) 32 8 8) (150 + mSz (mUI M 203 0 0)) 0 (mI (mAl (mUI M 203 0 0) 32 8 8) 208 0)) 208 1)) 208 3)) 203 17)) (150 + mSz (mUI M 203 0 0)) 4 (mI (mUI (mUI (mUI (mUI (mAl (mUI M 203 0 0) 32 8 8) (150 + mSz (mUI M 203 0 0)) 0 (mI (mAl (mUI M 203 0 0) 32 8 8) 208 0)) (150 + mSz (mUI M 203 0 0)) 1 (mI (mUI (mAl (mUI M 203 0 0) 32 8 8) (150 + mSz (mUI M 203 0 0)) 0 (mI (mAl (mUI M 203 0 0) 32 8 8) 208 0)) 208 1)) (150 + mSz (mUI M 203 0 0)) 2 (mI (mUI (mUI (mAl (mUI M 203 0 0) 32 8 8) (150 + mSz (mUI M 203 0 0)) 0 (mI (mAl (mUI M 203 0 0) 32 8 8) 208 0)) (150 + mSz (mUI M 203 0 0)) 1 (mI (mUI (mAl (mUI M 203 0 0) 32 8 8) (150 + mSz (mUI M 203 0 0)) 0 (mI (mAl (mUI M 203 0 0) 32 8 8) 208 0)) 208 1)) 208 3)) (150 + mSz (mUI M 203 0 0)) 3 (mI (mUI (mUI (mUI (mAl (mUI M 203 0 0) 32 8 8) (150 + mSz (mUI M 203 0 0)) 0 (mI (mAl (mUI M 203 0 0) 32 8 8) 208 0)) (150 + mSz (mUI M 203 0 0)) 1 (mI (mUI (mAl (mUI M 203 0 0) 32 8 8) (150 + mSz (mUI M 203 0 0)) 0 (mI (mAl (mUI M 203 0 0) 32 8 8) 208 0)) 208 1)) (150 + mSz (mUI M 203 0 0)) 2 (mI (mUI (mUI (mAl (mUI M 203 0 0) 32 8 8) (150 + mSz (mUI M 203 0 0)) 0 (mI (mAl (mUI M 203 0 0) 32 8 8) 208 0)) (150 + mSz (mUI M 203 0 0)) 1 (mI (mUI (mAl (mUI M 203 0 0) 32 8 8) (150 + mSz (mUI M 203 0 0)) 0 (mI (mAl (mUI M 203 0 0) 32 8 8) 208 0)) 208 1)) 208 3)) 203 17)) 203 2)) (150 + mSz (mUI M 203 0 0)) 8
              · replace hf := (if_pos h109).symm.trans hf
                refine x_iast (j := 5) (n := 8) (pc := 60) dX14_digest_60 (axDy.ex h109) (axDy.sh h109) rfl (by decide) ?_
                refine x_dup (pc := 61) dX14_digest_61 rfl ?_
                refine x_bipush (pc := 62) dX14_digest_62 (by decide) ⟨by decide, by decide⟩ ?_
                refine x_aload_n (pc := 64) dX14_digest_64 rfl ?_
                obtain ⟨v112, M111, r110, hf⟩ := bd2_some hf
                refine x_cr (v := vI v112) (vs := [vR 203]) (rest := [vI 6, vR (150 + mSz (mUI M 203 0 0)), vR (150 + mSz (mUI M 203 0 0))]) (k := 2) rfl (by omega) (ax_caV (pc := 65) dX14_digest_65 kX14_allFrozen rfl rfl WM_X14_404 WI_X14_allFrozen WS_X14_allFrozen WN_X14 (ax_rcO (t := 12) (axEx hG rfl) rfl (by decide)) (Nat.le_of_ble_eq_true rfl)) kX14_allFrozen rfl True.intro (T_X14_allFrozen (by omega) hG r110) ?_
                by_cases h113 : axDy M111 (150 + mSz (mUI M 203 0 0)) 8
                · replace hf := (if_pos h113).symm.trans hf
                  refine x_iast (j := 6) (n := 8) (pc := 68) dX14_digest_68 (axDy.ex h113) (axDy.sh h113) rfl (by decide) ?_
                  refine x_dup (pc := 69) dX14_digest_69 rfl ?_
                  refine x_bipush (pc := 70) dX14_digest_70 (by decide) ⟨by decide, by decide⟩ ?_
                  refine x_aload_n (pc := 72) dX14_digest_72 rfl ?_
                  obtain ⟨v116, M115, r114, hf⟩ := bd2_some hf
                  refine x_cr (v := vI v116) (vs := [vR 203]) (rest := [vI 7, vR (150 + mSz (mUI M 203 0 0)), vR (150 + mSz (mUI M 203 0 0))]) (k := 0) rfl (by omega) (ax_caV (pc := 73) dX14_digest_73 kX14_over rfl rfl WM_X14_370 WI_X14_over WS_X14_over WN_X14 (ax_rcO (t := 12) (axEx hG rfl) rfl (by decide)) (Nat.le_of_ble_eq_true rfl)) kX14_over rfl (Z_X14_over r114) (T_X14_over (by omega) hG r114) ?_
                  refine x_ifeq (tgt := 83) (pc := 76) dX14_digest_76 rfl (fun h117 => ?_) (fun h117 => ?_)
                  · replace hf := (if_pos h117).symm.trans hf
                    refine x_iconst (pc := 83) dX14_digest_83 ⟨by decide, by decide⟩ ?_
                    by_cases h118 : axDy M115 (150 + mSz (mUI M 203 0 0)) 8
                    · replace hf := (if_pos h118).symm.trans hf
                      refine x_iast (j := 7) (n := 8) (pc := 84) dX14_digest_84 (axDy.ex h118) (axDy.sh h118) rfl (by decide) ?_
                      refine x_astore_n (ls' := [some (vR 203), some (vR (150 + mSz (mUI M 203 0 0))), none, none, none, none, none, none]) (pc := 85) dX14_digest_85 (Nat.le_of_ble_eq_true rfl) rfl rfl ?_
                      refine x_ldc2 (v := 953) (pc := 86) dX14_digest_86 WJ_X14_430 ?_
                      refine x_lstore_n (ls' := [some (vR 203), some (vR (150 + mSz (mUI M 203 0 0))), some (vL (953 : Int64)), none, none, none, none, none]) (pc := 89) dX14_digest_89 (Nat.le_of_ble_eq_true rfl) rfl rfl ?_
                      refine x_aload_n (pc := 90) dX14_digest_90 rfl ?_
                      refine x_astore (ls' := [some (vR 203), some (vR (150 + mSz (mUI M 203 0 0))), some (vL (953 : Int64)), none, some (vR (150 + mSz (mUI M 203 0 0))), none, none, none]) (pc := 91) dX14_digest_91 (Nat.le_of_ble_eq_true rfl) rfl rfl ?_
                      refine x_aload (pc := 93) dX14_digest_93 rfl ?_
                      by_cases h119 : axDy (mUI M115 (150 + mSz (mUI M 203 0 0)) 7 0) (150 + mSz (mUI M 203 0 0)) 8
                      · replace hf := (if_pos h119).symm.trans hf
                        refine x_alen (t := 0) (n := 8) (pc := 95) dX14_digest_95 (axDy.ex h119) (axDy.sh h119) (by decide) (by decide) ?_
                        refine x_istore (ls' := [some (vR 203), some (vR (150 + mSz (mUI M 203 0 0))), some (vL (953 : Int64)), none, some (vR (150 + mSz (mUI M 203 0 0))), some (vI 8), none, none]) (pc := 96) dX14_digest_96 (Nat.le_of_ble_eq_true rfl) rfl rfl ?_
                        refine x_iconst (pc := 98) dX14_digest_98 ⟨by decide, by decide⟩ ?_
                        refine x_istore (ls' := [some (vR 203), some (vR (150 + mSz (mUI M 203 0 0))), some (vL (953 : Int64)), none, some (vR (150 + mSz (mUI M 203 0 0))), some (vI 8), some (vI 0), none]) (pc := 99) dX14_digest_99 (Nat.le_of_ble_eq_true rfl) rfl rfl ?_
                        obtain ⟨t124, t125, hf⟩ := bd1_some hf
                        refine x_fgt (axS' (axN' (axS' (axN' (axS' (axS' (axS' (axN' axD)))))))) (lp_ex (P := (fun s => ax_Ex G tX14_digest d 101 [some (vR 203), none, some (vL s.1), none, some (vR (150 + mSz (mUI M 203 0 0))), some (vI 8), some (vI s.2), none] [] (mUI M115 (150 + mSz (mUI M 203 0 0)) 7 0) _ _)) (K := (fun t => ax_Ex G tX14_digest d 131 [some (vR 203), none, some (vL t), none, some (vR (150 + mSz (mUI M 203 0 0))), some (vI 8), none, none] [] (mUI M115 (150 + mSz (mUI M 203 0 0)) 7 0) _ _)) (fun s y hy h1 h2 => B_X14_digest_101 (by omega) hG hy (fun s' e => h1 s' e) (fun t e => h2 t e)) _ _ _ t125 ?_)
                        refine x_aload_n (pc := 131) dX14_digest_131 rfl ?_
                        refine x_aload_n (pc := 132) dX14_digest_132 rfl ?_
                        refine x_lload_n (pc := 133) dX14_digest_133 rfl ?_
                        refine x_iconst (pc := 134) dX14_digest_134 ⟨by decide, by decide⟩ ?_
                        obtain ⟨v128, M127, r126, hf⟩ := bd2_some hf
                        refine x_cr (v := vL v128) (vs := [vR 203, vL t124, vI 0]) (rest := [vR 203]) (k := 2) rfl (by omega) (ax_caV (pc := 135) dX14_digest_135 kX14_digestPlayer rfl rfl WM_X14_432 WI_X14_digestPlayer WS_X14_digestPlayer WN_X14 (ax_rcO (t := 12) (axEx hG rfl) rfl (by decide)) (Nat.le_of_ble_eq_true rfl)) kX14_digestPlayer rfl True.intro (T_X14_digestPlayer (by omega) hG r126) ?_
                        refine x_iconst (pc := 138) dX14_digest_138 ⟨by decide, by decide⟩ ?_
                        obtain ⟨v131, M130, r129, hf⟩ := bd2_some hf
                        refine x_cr (v := vL v131) (vs := [vR 203, vL v128, vI 1]) (rest := []) (k := 2) rfl (by omega) (ax_caV (pc := 139) dX14_digest_139 kX14_digestPlayer rfl rfl WM_X14_432 WI_X14_digestPlayer WS_X14_digestPlayer WN_X14 (ax_rcO (t := 12) (axEx hG rfl) rfl (by decide)) (Nat.le_of_ble_eq_true rfl)) kX14_digestPlayer rfl True.intro (T_X14_digestPlayer (by omega) hG r129) ?_
                        refine x_lstore_n (ls' := [some (vR 203), none, some (vL v131), none, some (vR (150 + mSz (mUI M 203 0 0))), some (vI 8), none, none]) (pc := 142) dX14_digest_142 (Nat.le_of_ble_eq_true rfl) rfl rfl ?_
                        refine x_iconst (pc := 143) dX14_digest_143 ⟨by decide, by decide⟩ ?_
                        refine x_istore (ls' := [some (vR 203), none, some (vL v131), none, some (vI 0), some (vI 8), none, none]) (pc := 144) dX14_digest_144 (Nat.le_of_ble_eq_true rfl) rfl rfl ?_
                        obtain ⟨t135, t136, hf⟩ := bd1_some hf
                        refine x_fgt (axS' (axN' (axS' (axN' (axS' (axN' (axN' (axN' axD)))))))) (lp_ex (P := (fun s => ax_Ex G tX14_digest d 146 [some (vR 203), none, some (vL s.1), none, some (vI s.2), none, none, none] [] M130 _ _)) (K := (fun t => ax_Ex G tX14_digest d 178 [some (vR 203), none, some (vL t), none, none, none, none, none] [] M130 _ _)) (fun s y hy h1 h2 => B_X14_digest_146 (by omega) hG hy (fun s' e => h1 s' e) (fun t e => h2 t e)) _ _ _ t136 ?_)
                        refine x_lload_n (pc := 178) dX14_digest_178 rfl ?_
                        cases hf
                        exact x_retJ (pc := 179) dX14_digest_179
                      · replace hf := (if_neg h119).symm.trans hf
                        cases hf
                    · replace hf := (if_neg h118).symm.trans hf
                      cases hf
                  · replace hf := (if_neg h117).symm.trans hf
                    refine x_iconst (pc := 79) dX14_digest_79 ⟨by decide, by decide⟩ ?_
                    refine x_goto (tgt := 84) (pc := 80) dX14_digest_80 rfl ?_
                    by_cases h137 : axDy M115 (150 + mSz (mUI M 203 0 0)) 8
                    · replace hf := (if_pos h137).symm.trans hf
                      refine x_iast (j := 7) (n := 8) (pc := 84) dX14_digest_84 (axDy.ex h137) (axDy.sh h137) rfl (by decide) ?_
                      refine x_astore_n (ls' := [some (vR 203), some (vR (150 + mSz (mUI M 203 0 0))), none, none, none, none, none, none]) (pc := 85) dX14_digest_85 (Nat.le_of_ble_eq_true rfl) rfl rfl ?_
                      refine x_ldc2 (v := 953) (pc := 86) dX14_digest_86 WJ_X14_430 ?_
                      refine x_lstore_n (ls' := [some (vR 203), some (vR (150 + mSz (mUI M 203 0 0))), some (vL (953 : Int64)), none, none, none, none, none]) (pc := 89) dX14_digest_89 (Nat.le_of_ble_eq_true rfl) rfl rfl ?_
                      refine x_aload_n (pc := 90) dX14_digest_90 rfl ?_
                      refine x_astore (ls' := [some (vR 203), some (vR (150 + mSz (mUI M 203 0 0))), some (vL (953 : Int64)), none, some (vR (150 + mSz (mUI M 203 0 0))), none, none, none]) (pc := 91) dX14_digest_91 (Nat.le_of_ble_eq_true rfl) rfl rfl ?_
                      refine x_aload (pc := 93) dX14_digest_93 rfl ?_
                      by_cases h138 : axDy (mUI M115 (150 + mSz (mUI M 203 0 0)) 7 1) (150 + mSz (mUI M 203 0 0)) 8
                      · replace hf := (if_pos h138).symm.trans hf
                        refine x_alen (t := 0) (n := 8) (pc := 95) dX14_digest_95 (axDy.ex h138) (axDy.sh h138) (by decide) (by decide) ?_
                        refine x_istore (ls' := [some (vR 203), some (vR (150 + mSz (mUI M 203 0 0))), some (vL (953 : Int64)), none, some (vR (150 + mSz (mUI M 203 0 0))), some (vI 8), none, none]) (pc := 96) dX14_digest_96 (Nat.le_of_ble_eq_true rfl) rfl rfl ?_
                        refine x_iconst (pc := 98) dX14_digest_98 ⟨by decide, by decide⟩ ?_
                        refine x_istore (ls' := [some (vR 203), some (vR (150 + mSz (mUI M 203 0 0))), some (vL (953 : Int64)), none, some (vR (150 + mSz (mUI M 203 0 0))), some (vI 8), some (vI 0), none]) (pc := 99) dX14_digest_99 (Nat.le_of_ble_eq_true rfl) rfl rfl ?_
                        obtain ⟨t139, t140, hf⟩ := bd1_some hf
                        refine x_fgt (axS' (axN' (axS' (axN' (axS' (axS' (axS' (axN' axD)))))))) (lp_ex (P := (fun s => ax_Ex G tX14_digest d 101 [some (vR 203), none, some (vL s.1), none, some (vR (150 + mSz (mUI M 203 0 0))), some (vI 8), some (vI s.2), none] [] (mUI M115 (150 + mSz (mUI M 203 0 0)) 7 1) _ _)) (K := (fun t => ax_Ex G tX14_digest d 131 [some (vR 203), none, some (vL t), none, some (vR (150 + mSz (mUI M 203 0 0))), some (vI 8), none, none] [] (mUI M115 (150 + mSz (mUI M 203 0 0)) 7 1) _ _)) (fun s y hy h1 h2 => B_X14_digest_101 (by omega) hG hy (fun s' e => h1 s' e) (fun t e => h2 t e)) _ _ _ t140 ?_)
                        refine x_aload_n (pc := 131) dX14_digest_131 rfl ?_
                        refine x_aload_n (pc := 132) dX14_digest_132 rfl ?_
                        refine x_lload_n (pc := 133) dX14_digest_133 rfl ?_
                        refine x_iconst (pc := 134) dX14_digest_134 ⟨by decide, by decide⟩ ?_
                        obtain ⟨v143, M142, r141, hf⟩ := bd2_some hf
                        refine x_cr (v := vL v143) (vs := [vR 203, vL t139, vI 0]) (rest := [vR 203]) (k := 2) rfl (by omega) (ax_caV (pc := 135) dX14_digest_135 kX14_digestPlayer rfl rfl WM_X14_432 WI_X14_digestPlayer WS_X14_digestPlayer WN_X14 (ax_rcO (t := 12) (axEx hG rfl) rfl (by decide)) (Nat.le_of_ble_eq_true rfl)) kX14_digestPlayer rfl True.intro (T_X14_digestPlayer (by omega) hG r141) ?_
                        refine x_iconst (pc := 138) dX14_digest_138 ⟨by decide, by decide⟩ ?_
                        obtain ⟨v146, M145, r144, hf⟩ := bd2_some hf
                        refine x_cr (v := vL v146) (vs := [vR 203, vL v143, vI 1]) (rest := []) (k := 2) rfl (by omega) (ax_caV (pc := 139) dX14_digest_139 kX14_digestPlayer rfl rfl WM_X14_432 WI_X14_digestPlayer WS_X14_digestPlayer WN_X14 (ax_rcO (t := 12) (axEx hG rfl) rfl (by decide)) (Nat.le_of_ble_eq_true rfl)) kX14_digestPlayer rfl True.intro (T_X14_digestPlayer (by omega) hG r144) ?_
                        refine x_lstore_n (ls' := [some (vR 203), none, some (vL v146), none, some (vR (150 + mSz (mUI M 203 0 0))), some (vI 8), none, none]) (pc := 142) dX14_digest_142 (Nat.le_of_ble_eq_true rfl) rfl rfl ?_
                        refine x_iconst (pc := 143) dX14_digest_143 ⟨by decide, by decide⟩ ?_
                        refine x_istore (ls' := [some (vR 203), none, some (vL v146), none, some (vI 0), some (vI 8), none, none]) (pc := 144) dX14_digest_144 (Nat.le_of_ble_eq_true rfl) rfl rfl ?_
                        obtain ⟨t147, t148, hf⟩ := bd1_some hf
                        refine x_fgt (axS' (axN' (axS' (axN' (axS' (axN' (axN' (axN' axD)))))))) (lp_ex (P := (fun s => ax_Ex G tX14_digest d 146 [some (vR 203), none, some (vL s.1), none, some (vI s.2), none, none, none] [] M145 _ _)) (K := (fun t => ax_Ex G tX14_digest d 178 [some (vR 203), none, some (vL t), none, none, none, none, none] [] M145 _ _)) (fun s y hy h1 h2 => B_X14_digest_146 (by omega) hG hy (fun s' e => h1 s' e) (fun t e => h2 t e)) _ _ _ t148 ?_)
                        refine x_lload_n (pc := 178) dX14_digest_178 rfl ?_
                        cases hf
                        exact x_retJ (pc := 179) dX14_digest_179
                      · replace hf := (if_neg h138).symm.trans hf
                        cases hf
                    · replace hf := (if_neg h137).symm.trans hf
                      cases hf
                · replace hf := (if_neg h113).symm.trans hf
                  cases hf
              · replace hf := (if_neg h109).symm.trans hf
                cases hf
            · replace hf := (if_neg h106).symm.trans hf
              cases hf
          · replace hf := (if_neg h105).symm.trans hf
            cases hf
        · replace hf := (if_neg h104).symm.trans hf
          cases hf
      · replace hf := (if_neg h103).symm.trans hf
        cases hf
    · replace hf := (if_neg h102).symm.trans hf
      cases hf
  · replace hf := (if_neg h101).symm.trans hf
    cases hf
