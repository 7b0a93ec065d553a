/-! walks: the law, whole -/
def fL_law (X : Nat → Int) (N : Nat) (M : ax_M) : Option (Int × ax_M) :=
  (bd1 (fX12_init (mAl M 10 12 12)) fun M102 => (if mSz M102 = 53 then (bd1 (fX14_init (mAl M102 12 27 27)) fun M105 => (if mSz M105 = 93 then (if ax_frz (mAl M105 35 1 1) 150 244 = true then (bd1 (lp (fun s => fL_law_b23 X N s.2 s.1) lpN (0, (mAl M105 35 1 1))) fun t551 => (some (1, t551))) else none) else none)) else none))
set_option maxRecDepth 20000 in
set_option maxHeartbeats 4000000 in
theorem T_L_law {G : ax_G} {d : Nat} (hd : 145 ≤ d) (hN : ∀ k, gPh G k = false) (hmu : ax_Mul) (hX : (gL G).stackTraces = false) {X : Nat → Int} {N : Nat} (hSX : gX G = X) (hSN : gN G = N) (hNb : N < 2147483648) (hXi : ∀ j, ax_in (X j)) {M : ax_M} (hz : mSz M = 0) {r : Int} {M1 : ax_M} (hf : fL_law X N M = some (r, M1)) : ax_Ex G tL_law d 0 [some (vR 0), none, none, none, none, none, none, none, none] [] M (.inl (some (vI r))) M1 := by
  unfold fL_law at hf
  refine x_newC (t := 10) (c := 0) (K := 150) (by show mSz M = 0; omega) rfl (pc := 0) dL_law_0 (by decide) rfl WC_L_8 WB_X12 WN_X12 ?_
  refine x_dup (pc := 3) dL_law_3 rfl ?_
  obtain ⟨M102, r101, hf⟩ := bd1_some hf
  refine x_cv (vs := [vR 150]) (rest := [vR 150]) (k := 0) rfl (by omega) (ax_caI (pc := 4) dL_law_4 kX12_init rfl rfl rfl rfl WM_L_101 WI_X12_init WN_X12 (Nat.le_of_ble_eq_true rfl)) kX12_init rfl True.intro (T_X12_init (by omega) hN hmu (by show mSz M + 1 = 1; omega) r101) ?_
  by_cases h103 : mSz M102 = 53
  · replace hf := (if_pos h103).symm.trans hf
    refine x_astore_n (ls' := [some (vR 0), some (vR 150), none, none, none, none, none, none, none]) (pc := 7) dL_law_7 (Nat.le_of_ble_eq_true rfl) rfl rfl ?_
    refine x_newC (t := 12) (c := 53) (K := 203) (by show mSz M102 = 53; omega) rfl (pc := 8) dL_law_8 (by decide) rfl WC_L_102 WB_X14 WN_X14 ?_
    refine x_dup (pc := 11) dL_law_11 rfl ?_
    obtain ⟨M105, r104, hf⟩ := bd1_some hf
    refine x_cv (vs := [vR 203]) (rest := [vR 203]) (k := 1) rfl (by omega) (ax_caI (pc := 12) dL_law_12 kX14_init rfl rfl rfl rfl WM_L_104 WI_X14_init WN_X14 (Nat.le_of_ble_eq_true rfl)) kX14_init rfl True.intro (T_X14_init (by omega) hN hmu (by show mSz M102 + 1 = 54; omega) r104) ?_
    by_cases h106 : mSz M105 = 93
    · replace hf := (if_pos h106).symm.trans hf
      refine x_astore_n (ls' := [some (vR 0), some (vR 150), some (vR 203), none, none, none, none, none, none]) (pc := 15) dL_law_15 (Nat.le_of_ble_eq_true rfl) rfl rfl ?_
      refine x_iconst (pc := 16) dL_law_16 ⟨by decide, by decide⟩ ?_
      refine x_newCJ (N := 1) (c := 93) (K := 243) (by show mSz M105 = 93; omega) rfl (pc := 17) dL_law_17 (by decide) rfl WA_long ?_
      refine x_astore_n (ls' := [some (vR 0), some (vR 150), some (vR 203), some (vR 243), none, none, none, none, none]) (pc := 19) dL_law_19 (Nat.le_of_ble_eq_true rfl) rfl rfl ?_
      by_cases h107 : ax_frz (mAl M105 35 1 1) 150 244 = true
      · replace hf := (if_pos h107).symm.trans hf
        refine x_phaseC (a := 150) (b := 244) h107 ?_
        have hG := axPb_self G 150 244
        refine x_iconst (pc := 20) dL_law_20 ⟨by decide, by decide⟩ ?_
        refine x_istore (ls' := [some (vR 0), some (vR 150), some (vR 203), some (vR 243), some (vI 0), none, none, none, none]) (pc := 21) dL_law_21 (Nat.le_of_ble_eq_true rfl) rfl rfl ?_
        obtain ⟨t551, t552, hf⟩ := bd1_some hf
        refine lp_ex (P := (fun s => ax_Ex (axPh G (axPb G 150 244)) tL_law d 23 [some (vR 0), some (vR 150), some (vR 203), some (vR 243), some (vI s.1), none, none, none, none] [] s.2 _ _)) (K := (fun t => ax_Ex (axPh G (axPb G 150 244)) tL_law d 2068 [some (vR 0), some (vR 150), some (vR 203), some (vR 243), none, none, none, none, none] [] t _ _)) (fun s y hy h1 h2 => B_L_law_23 (by omega) hG hX hSX hSN hNb hXi hy (fun s' e => h1 s' e) (fun t e => h2 t e)) _ _ _ t552 ?_
        refine x_iconst (pc := 2068) dL_law_2068 ⟨by decide, by decide⟩ ?_
        cases hf
        exact x_retI (pc := 2069) dL_law_2069
      · replace hf := (if_neg h107).symm.trans hf
        cases hf
    · replace hf := (if_neg h106).symm.trans hf
      cases hf
  · replace hf := (if_neg h103).symm.trans hf
    cases hf
