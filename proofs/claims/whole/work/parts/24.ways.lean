/-! walks: Ways -/
/- HexPond$Ways.reach(I[III)V -/
def fX11_reach (M : ax_M) (a1 : Int) (a2 : Nat) (a3 : Int) (a4 : Int) : Option ax_M :=
  (if a3 < 0 then (some M) else (if a3 < 81 then (if (mI M a2 (Int.toNat a3)) = 1000 then (if (fX8_ownerAt M a3) = 0 then (if (mI M 183 6) < 0 then (if (fX8_ownerAt M a3) = (wr (a1 + 1)) then (if 0 < (mI M 183 5) then (if 162 < (mI M 183 5) then (some M) else (if 0 ≤ (mI (mUI (mUI M a2 (Int.toNat a3) a4) 183 5 (wr ((mI (mUI M a2 (Int.toNat a3) a4) 183 5) - 1))) 183 5) ∧ (mI (mUI (mUI M a2 (Int.toNat a3) a4) 183 5 (wr ((mI (mUI M a2 (Int.toNat a3) a4) 183 5) - 1))) 183 5) < 162 then (some (mUI (mUI (mUI M a2 (Int.toNat a3) a4) 183 5 (wr ((mI (mUI M a2 (Int.toNat a3) a4) 183 5) - 1))) 191 (Int.toNat (mI (mUI (mUI M a2 (Int.toNat a3) a4) 183 5 (wr ((mI (mUI M a2 (Int.toNat a3) a4) 183 5) - 1))) 183 5)) a3)) else none)) else (some M)) else (some M)) else (if (mI M 183 6) < 162 then (if 0 ≤ (mI (mUI M a2 (Int.toNat a3) (wr (a4 + 1))) 183 6) ∧ (mI (mUI M a2 (Int.toNat a3) (wr (a4 + 1))) 183 6) < 162 then (some (mUI (mUI (mUI M a2 (Int.toNat a3) (wr (a4 + 1))) 191 (Int.toNat (mI (mUI M a2 (Int.toNat a3) (wr (a4 + 1))) 183 6)) a3) 183 6 (wr ((mI (mUI (mUI M a2 (Int.toNat a3) (wr (a4 + 1))) 191 (Int.toNat (mI (mUI M a2 (Int.toNat a3) (wr (a4 + 1))) 183 6)) a3) 183 6) + 1)))) else none) else (if (fX8_ownerAt M a3) = (wr (a1 + 1)) then (if 0 < (mI M 183 5) then (if 162 < (mI M 183 5) then (some M) else (if 0 ≤ (mI (mUI (mUI M a2 (Int.toNat a3) a4) 183 5 (wr ((mI (mUI M a2 (Int.toNat a3) a4) 183 5) - 1))) 183 5) ∧ (mI (mUI (mUI M a2 (Int.toNat a3) a4) 183 5 (wr ((mI (mUI M a2 (Int.toNat a3) a4) 183 5) - 1))) 183 5) < 162 then (some (mUI (mUI (mUI M a2 (Int.toNat a3) a4) 183 5 (wr ((mI (mUI M a2 (Int.toNat a3) a4) 183 5) - 1))) 191 (Int.toNat (mI (mUI (mUI M a2 (Int.toNat a3) a4) 183 5 (wr ((mI (mUI M a2 (Int.toNat a3) a4) 183 5) - 1))) 183 5)) a3)) else none)) else (some M)) else (some M)))) else (if (fX8_ownerAt M a3) = (wr (a1 + 1)) then (if 0 < (mI M 183 5) then (if 162 < (mI M 183 5) then (some M) else (if 0 ≤ (mI (mUI (mUI M a2 (Int.toNat a3) a4) 183 5 (wr ((mI (mUI M a2 (Int.toNat a3) a4) 183 5) - 1))) 183 5) ∧ (mI (mUI (mUI M a2 (Int.toNat a3) a4) 183 5 (wr ((mI (mUI M a2 (Int.toNat a3) a4) 183 5) - 1))) 183 5) < 162 then (some (mUI (mUI (mUI M a2 (Int.toNat a3) a4) 183 5 (wr ((mI (mUI M a2 (Int.toNat a3) a4) 183 5) - 1))) 191 (Int.toNat (mI (mUI (mUI M a2 (Int.toNat a3) a4) 183 5 (wr ((mI (mUI M a2 (Int.toNat a3) a4) 183 5) - 1))) 183 5)) a3)) else none)) else (some M)) else (some M))) else (some M)) else (some M)))
theorem T_X11_reach {G : ax_G} {d : Nat} (hd : 1 ≤ d) (hG : axPs G 150 244) {M : ax_M} {a1 : Int} {a2 : Nat} {a3 : Int} {a4 : Int} (y_a2 : 185 ≤ a2 ∧ a2 < 189) {M1 : ax_M} (hf : fX11_reach M a1 a2 a3 a4 = some M1) : ax_Ex G tX11_reach d 0 (ax_args [vR 183, vI a1, vR a2, vI a3, vI a4] ++ List.replicate 1 none) [] M (.inl none) M1 := by
  show ax_Ex G tX11_reach d 0 [some (vR 183), some (vI a1), some (vR a2), some (vI a3), some (vI a4), none] [] M _ _
  unfold fX11_reach at hf
  refine x_iload_n (pc := 0) dX11_reach_0 rfl ?_
  refine ax_cmp1 (fun b2a b2b => ?_)
  refine x_iflt (tgt := 19) (pc := 1) dX11_reach_1 rfl (fun h1 => ?_) (fun h1 => ?_)
  · replace hf := (if_pos h1).symm.trans hf
    cases hf
    exact x_retV (pc := 19) dX11_reach_19
  · replace hf := (if_neg (Int.not_lt.mpr h1)).symm.trans hf
    refine x_iload_n (pc := 4) dX11_reach_4 rfl ?_
    refine x_aload_n (pc := 5) dX11_reach_5 rfl ?_
    refine x_alen (t := 0) (n := 81) (pc := 6) dX11_reach_6 (axDi_ex hG y_a2) (axDi_sh y_a2) (by decide) (by decide) ?_
    refine ax_cmp (fun b4a b4b b4c b4e => ?_)
    refine x_icmpge (tgt := 19) (pc := 7) dX11_reach_7 rfl (fun h3 => ?_) (fun h3 => ?_)
    · replace hf := (if_neg (Int.not_lt.mpr h3)).symm.trans hf
      cases hf
      exact x_retV (pc := 19) dX11_reach_19
    · replace hf := (if_pos h3).symm.trans hf
      refine x_aload_n (pc := 10) dX11_reach_10 rfl ?_
      refine x_iload_n (pc := 11) dX11_reach_11 rfl ?_
      refine x_iald2 (n := 81) (pc := 12) dX11_reach_12 (axDi_ex hG y_a2) (axDi_sh y_a2) (by omega) (by omega) ?_
      refine x_sipush (pc := 13) dX11_reach_13 (by decide) ⟨by decide, by decide⟩ ?_
      refine x_icmpeq (tgt := 20) (pc := 16) dX11_reach_16 rfl (fun h5 => ?_) (fun h5 => ?_)
      · replace hf := (if_pos h5).symm.trans hf
        refine x_aload_n (pc := 20) dX11_reach_20 rfl ?_
        refine x_getF (t := 9) (j := 0) (r := 169) (pc := 21) dX11_reach_21 (axH hG rfl) (axEx hG rfl) rfl (by decide) (by decide) rfl rfl WF_X11_26 ?_
        refine x_iload_n (pc := 24) dX11_reach_24 rfl ?_
        refine x_cr (v := vI (fX8_ownerAt M a3)) (vs := [vR 169, vI a3]) (rest := []) (k := 0) rfl (by omega) (ax_caV (pc := 25) dX11_reach_25 kX8_ownerAt rfl rfl WM_X11_44 WI_X8_ownerAt WS_X8_ownerAt WN_X8 (ax_rcO (t := 6) (axEx hG rfl) rfl (by decide)) (Nat.le_of_ble_eq_true rfl)) kX8_ownerAt rfl True.intro (T_X8_ownerAt (by omega) (axPs.sub hG (Nat.le_of_ble_eq_true rfl) (Nat.le_of_ble_eq_true rfl)) rfl) ?_
        refine x_istore (ls' := [some (vR 183), some (vI a1), some (vR a2), some (vI a3), some (vI a4), some (vI (fX8_ownerAt M a3))]) (pc := 28) dX11_reach_28 (Nat.le_of_ble_eq_true rfl) rfl rfl ?_
        refine x_iload (pc := 30) dX11_reach_30 rfl ?_
        refine x_ifne (tgt := 84) (pc := 32) dX11_reach_32 rfl (fun h6 => ?_) (fun h6 => ?_)
        · replace hf := (if_neg h6).symm.trans hf
          refine x_iload (pc := 84) dX11_reach_84 rfl ?_
          refine x_iload_n (pc := 86) dX11_reach_86 rfl ?_
          refine x_iconst (pc := 87) dX11_reach_87 ⟨by decide, by decide⟩ ?_
          refine x_iaddw (pc := 88) dX11_reach_88 ?_
          refine x_icmpne (tgt := 136) (pc := 89) dX11_reach_89 rfl (fun h24 => ?_) (fun h24 => ?_)
          · replace hf := (if_neg h24).symm.trans hf
            cases hf
            exact x_retV (pc := 136) dX11_reach_136
          · replace hf := (if_pos h24).symm.trans hf
            refine x_aload_n (pc := 92) dX11_reach_92 rfl ?_
            refine x_getI (t := 9) (j := 5) (pc := 93) dX11_reach_93 (axEx hG rfl) rfl (by decide) (by decide) rfl WF_X11_72 ?_
            refine ax_cmp1 (fun b26a b26b => ?_)
            refine x_ifle (tgt := 136) (pc := 96) dX11_reach_96 rfl (fun h25 => ?_) (fun h25 => ?_)
            · replace hf := (if_neg (Int.not_lt.mpr h25)).symm.trans hf
              cases hf
              exact x_retV (pc := 136) dX11_reach_136
            · replace hf := (if_pos h25).symm.trans hf
              refine x_aload_n (pc := 99) dX11_reach_99 rfl ?_
              refine x_getI (t := 9) (j := 5) (pc := 100) dX11_reach_100 (axEx hG rfl) rfl (by decide) (by decide) rfl WF_X11_72 ?_
              refine x_aload_n (pc := 103) dX11_reach_103 rfl ?_
              refine x_getF (t := 9) (j := 4) (r := 191) (pc := 104) dX11_reach_104 (axH hG rfl) (axEx hG rfl) rfl (by decide) (by decide) rfl rfl WF_X11_23 ?_
              refine x_alen (t := 0) (n := 162) (pc := 107) dX11_reach_107 (axEx hG rfl) rfl (by decide) (by decide) ?_
              refine ax_cmp (fun b28a b28b b28c b28e => ?_)
              refine x_icmpgt (tgt := 136) (pc := 108) dX11_reach_108 rfl (fun h27 => ?_) (fun h27 => ?_)
              · replace hf := (if_pos h27).symm.trans hf
                cases hf
                exact x_retV (pc := 136) dX11_reach_136
              · replace hf := (if_neg (Int.not_lt.mpr h27)).symm.trans hf
                refine x_aload_n (pc := 111) dX11_reach_111 rfl ?_
                refine x_iload_n (pc := 112) dX11_reach_112 rfl ?_
                refine x_iload (pc := 113) dX11_reach_113 rfl ?_
                refine x_iast2 (n := 81) (pc := 115) dX11_reach_115 (axDi_ex hG y_a2) (axDi_sh y_a2) (by omega) (by omega) ?_
                refine x_aload_n (pc := 116) dX11_reach_116 rfl ?_
                refine x_dup (pc := 117) dX11_reach_117 rfl ?_
                refine x_getI (t := 9) (j := 5) (pc := 118) dX11_reach_118 (axEx hG rfl) rfl (by decide) (by decide) rfl WF_X11_72 ?_
                refine x_iconst (pc := 121) dX11_reach_121 ⟨by decide, by decide⟩ ?_
                refine x_isubw (pc := 122) dX11_reach_122 ?_
                refine x_putI (t := 9) (j := 5) (pc := 123) dX11_reach_123 (axEx hG rfl) rfl (by decide) (by decide) rfl rfl WF_X11_72 ?_
                refine x_aload_n (pc := 126) dX11_reach_126 rfl ?_
                refine x_getF (t := 9) (j := 4) (r := 191) (pc := 127) dX11_reach_127 (axH hG rfl) (axEx hG rfl) rfl (by decide) (by decide) rfl rfl WF_X11_23 ?_
                refine x_aload_n (pc := 130) dX11_reach_130 rfl ?_
                refine x_getI (t := 9) (j := 5) (pc := 131) dX11_reach_131 (axEx hG rfl) rfl (by decide) (by decide) rfl WF_X11_72 ?_
                refine x_iload_n (pc := 134) dX11_reach_134 rfl ?_
                by_cases h29 : 0 ≤ (mI (mUI (mUI M a2 (Int.toNat a3) a4) 183 5 (wr ((mI (mUI M a2 (Int.toNat a3) a4) 183 5) - 1))) 183 5) ∧ (mI (mUI (mUI M a2 (Int.toNat a3) a4) 183 5 (wr ((mI (mUI M a2 (Int.toNat a3) a4) 183 5) - 1))) 183 5) < 162
                · replace hf := (if_pos h29).symm.trans hf
                  refine x_iast2 (n := 162) (pc := 135) dX11_reach_135 (axEx hG rfl) rfl h29.1 h29.2 ?_
                  cases hf
                  exact x_retV (pc := 136) dX11_reach_136
                · replace hf := (if_neg h29).symm.trans hf
                  cases hf
        · replace hf := (if_pos h6).symm.trans hf
          refine x_aload_n (pc := 35) dX11_reach_35 rfl ?_
          refine x_getI (t := 9) (j := 6) (pc := 36) dX11_reach_36 (axEx hG rfl) rfl (by decide) (by decide) rfl WF_X11_76 ?_
          refine ax_cmp1 (fun b8a b8b => ?_)
          refine x_iflt (tgt := 84) (pc := 39) dX11_reach_39 rfl (fun h7 => ?_) (fun h7 => ?_)
          · replace hf := (if_pos h7).symm.trans hf
            refine x_iload (pc := 84) dX11_reach_84 rfl ?_
            refine x_iload_n (pc := 86) dX11_reach_86 rfl ?_
            refine x_iconst (pc := 87) dX11_reach_87 ⟨by decide, by decide⟩ ?_
            refine x_iaddw (pc := 88) dX11_reach_88 ?_
            refine x_icmpne (tgt := 136) (pc := 89) dX11_reach_89 rfl (fun h9 => ?_) (fun h9 => ?_)
            · replace hf := (if_neg h9).symm.trans hf
              cases hf
              exact x_retV (pc := 136) dX11_reach_136
            · replace hf := (if_pos h9).symm.trans hf
              refine x_aload_n (pc := 92) dX11_reach_92 rfl ?_
              refine x_getI (t := 9) (j := 5) (pc := 93) dX11_reach_93 (axEx hG rfl) rfl (by decide) (by decide) rfl WF_X11_72 ?_
              refine ax_cmp1 (fun b11a b11b => ?_)
              refine x_ifle (tgt := 136) (pc := 96) dX11_reach_96 rfl (fun h10 => ?_) (fun h10 => ?_)
              · replace hf := (if_neg (Int.not_lt.mpr h10)).symm.trans hf
                cases hf
                exact x_retV (pc := 136) dX11_reach_136
              · replace hf := (if_pos h10).symm.trans hf
                refine x_aload_n (pc := 99) dX11_reach_99 rfl ?_
                refine x_getI (t := 9) (j := 5) (pc := 100) dX11_reach_100 (axEx hG rfl) rfl (by decide) (by decide) rfl WF_X11_72 ?_
                refine x_aload_n (pc := 103) dX11_reach_103 rfl ?_
                refine x_getF (t := 9) (j := 4) (r := 191) (pc := 104) dX11_reach_104 (axH hG rfl) (axEx hG rfl) rfl (by decide) (by decide) rfl rfl WF_X11_23 ?_
                refine x_alen (t := 0) (n := 162) (pc := 107) dX11_reach_107 (axEx hG rfl) rfl (by decide) (by decide) ?_
                refine ax_cmp (fun b13a b13b b13c b13e => ?_)
                refine x_icmpgt (tgt := 136) (pc := 108) dX11_reach_108 rfl (fun h12 => ?_) (fun h12 => ?_)
                · replace hf := (if_pos h12).symm.trans hf
                  cases hf
                  exact x_retV (pc := 136) dX11_reach_136
                · replace hf := (if_neg (Int.not_lt.mpr h12)).symm.trans hf
                  refine x_aload_n (pc := 111) dX11_reach_111 rfl ?_
                  refine x_iload_n (pc := 112) dX11_reach_112 rfl ?_
                  refine x_iload (pc := 113) dX11_reach_113 rfl ?_
                  refine x_iast2 (n := 81) (pc := 115) dX11_reach_115 (axDi_ex hG y_a2) (axDi_sh y_a2) (by omega) (by omega) ?_
                  refine x_aload_n (pc := 116) dX11_reach_116 rfl ?_
                  refine x_dup (pc := 117) dX11_reach_117 rfl ?_
                  refine x_getI (t := 9) (j := 5) (pc := 118) dX11_reach_118 (axEx hG rfl) rfl (by decide) (by decide) rfl WF_X11_72 ?_
                  refine x_iconst (pc := 121) dX11_reach_121 ⟨by decide, by decide⟩ ?_
                  refine x_isubw (pc := 122) dX11_reach_122 ?_
                  refine x_putI (t := 9) (j := 5) (pc := 123) dX11_reach_123 (axEx hG rfl) rfl (by decide) (by decide) rfl rfl WF_X11_72 ?_
                  refine x_aload_n (pc := 126) dX11_reach_126 rfl ?_
                  refine x_getF (t := 9) (j := 4) (r := 191) (pc := 127) dX11_reach_127 (axH hG rfl) (axEx hG rfl) rfl (by decide) (by decide) rfl rfl WF_X11_23 ?_
                  refine x_aload_n (pc := 130) dX11_reach_130 rfl ?_
                  refine x_getI (t := 9) (j := 5) (pc := 131) dX11_reach_131 (axEx hG rfl) rfl (by decide) (by decide) rfl WF_X11_72 ?_
                  refine x_iload_n (pc := 134) dX11_reach_134 rfl ?_
                  by_cases h14 : 0 ≤ (mI (mUI (mUI M a2 (Int.toNat a3) a4) 183 5 (wr ((mI (mUI M a2 (Int.toNat a3) a4) 183 5) - 1))) 183 5) ∧ (mI (mUI (mUI M a2 (Int.toNat a3) a4) 183 5 (wr ((mI (mUI M a2 (Int.toNat a3) a4) 183 5) - 1))) 183 5) < 162
                  · replace hf := (if_pos h14).symm.trans hf
                    refine x_iast2 (n := 162) (pc := 135) dX11_reach_135 (axEx hG rfl) rfl h14.1 h14.2 ?_
                    cases hf
                    exact x_retV (pc := 136) dX11_reach_136
                  · replace hf := (if_neg h14).symm.trans hf
                    cases hf
          · replace hf := (if_neg (Int.not_lt.mpr h7)).symm.trans hf
            refine x_aload_n (pc := 42) dX11_reach_42 rfl ?_
            refine x_getI (t := 9) (j := 6) (pc := 43) dX11_reach_43 (axEx hG rfl) rfl (by decide) (by decide) rfl WF_X11_76 ?_
            refine x_aload_n (pc := 46) dX11_reach_46 rfl ?_
            refine x_getF (t := 9) (j := 4) (r := 191) (pc := 47) dX11_reach_47 (axH hG rfl) (axEx hG rfl) rfl (by decide) (by decide) rfl rfl WF_X11_23 ?_
            refine x_alen (t := 0) (n := 162) (pc := 50) dX11_reach_50 (axEx hG rfl) rfl (by decide) (by decide) ?_
            refine ax_cmp (fun b16a b16b b16c b16e => ?_)
            refine x_icmpge (tgt := 84) (pc := 51) dX11_reach_51 rfl (fun h15 => ?_) (fun h15 => ?_)
            · replace hf := (if_neg (Int.not_lt.mpr h15)).symm.trans hf
              refine x_iload (pc := 84) dX11_reach_84 rfl ?_
              refine x_iload_n (pc := 86) dX11_reach_86 rfl ?_
              refine x_iconst (pc := 87) dX11_reach_87 ⟨by decide, by decide⟩ ?_
              refine x_iaddw (pc := 88) dX11_reach_88 ?_
              refine x_icmpne (tgt := 136) (pc := 89) dX11_reach_89 rfl (fun h18 => ?_) (fun h18 => ?_)
              · replace hf := (if_neg h18).symm.trans hf
                cases hf
                exact x_retV (pc := 136) dX11_reach_136
              · replace hf := (if_pos h18).symm.trans hf
                refine x_aload_n (pc := 92) dX11_reach_92 rfl ?_
                refine x_getI (t := 9) (j := 5) (pc := 93) dX11_reach_93 (axEx hG rfl) rfl (by decide) (by decide) rfl WF_X11_72 ?_
                refine ax_cmp1 (fun b20a b20b => ?_)
                refine x_ifle (tgt := 136) (pc := 96) dX11_reach_96 rfl (fun h19 => ?_) (fun h19 => ?_)
                · replace hf := (if_neg (Int.not_lt.mpr h19)).symm.trans hf
                  cases hf
                  exact x_retV (pc := 136) dX11_reach_136
                · replace hf := (if_pos h19).symm.trans hf
                  refine x_aload_n (pc := 99) dX11_reach_99 rfl ?_
                  refine x_getI (t := 9) (j := 5) (pc := 100) dX11_reach_100 (axEx hG rfl) rfl (by decide) (by decide) rfl WF_X11_72 ?_
                  refine x_aload_n (pc := 103) dX11_reach_103 rfl ?_
                  refine x_getF (t := 9) (j := 4) (r := 191) (pc := 104) dX11_reach_104 (axH hG rfl) (axEx hG rfl) rfl (by decide) (by decide) rfl rfl WF_X11_23 ?_
                  refine x_alen (t := 0) (n := 162) (pc := 107) dX11_reach_107 (axEx hG rfl) rfl (by decide) (by decide) ?_
                  refine ax_cmp (fun b22a b22b b22c b22e => ?_)
                  refine x_icmpgt (tgt := 136) (pc := 108) dX11_reach_108 rfl (fun h21 => ?_) (fun h21 => ?_)
                  · replace hf := (if_pos h21).symm.trans hf
                    cases hf
                    exact x_retV (pc := 136) dX11_reach_136
                  · replace hf := (if_neg (Int.not_lt.mpr h21)).symm.trans hf
                    refine x_aload_n (pc := 111) dX11_reach_111 rfl ?_
                    refine x_iload_n (pc := 112) dX11_reach_112 rfl ?_
                    refine x_iload (pc := 113) dX11_reach_113 rfl ?_
                    refine x_iast2 (n := 81) (pc := 115) dX11_reach_115 (axDi_ex hG y_a2) (axDi_sh y_a2) (by omega) (by omega) ?_
                    refine x_aload_n (pc := 116) dX11_reach_116 rfl ?_
                    refine x_dup (pc := 117) dX11_reach_117 rfl ?_
                    refine x_getI (t := 9) (j := 5) (pc := 118) dX11_reach_118 (axEx hG rfl) rfl (by decide) (by decide) rfl WF_X11_72 ?_
                    refine x_iconst (pc := 121) dX11_reach_121 ⟨by decide, by decide⟩ ?_
                    refine x_isubw (pc := 122) dX11_reach_122 ?_
                    refine x_putI (t := 9) (j := 5) (pc := 123) dX11_reach_123 (axEx hG rfl) rfl (by decide) (by decide) rfl rfl WF_X11_72 ?_
                    refine x_aload_n (pc := 126) dX11_reach_126 rfl ?_
                    refine x_getF (t := 9) (j := 4) (r := 191) (pc := 127) dX11_reach_127 (axH hG rfl) (axEx hG rfl) rfl (by decide) (by decide) rfl rfl WF_X11_23 ?_
                    refine x_aload_n (pc := 130) dX11_reach_130 rfl ?_
                    refine x_getI (t := 9) (j := 5) (pc := 131) dX11_reach_131 (axEx hG rfl) rfl (by decide) (by decide) rfl WF_X11_72 ?_
                    refine x_iload_n (pc := 134) dX11_reach_134 rfl ?_
                    by_cases h23 : 0 ≤ (mI (mUI (mUI M a2 (Int.toNat a3) a4) 183 5 (wr ((mI (mUI M a2 (Int.toNat a3) a4) 183 5) - 1))) 183 5) ∧ (mI (mUI (mUI M a2 (Int.toNat a3) a4) 183 5 (wr ((mI (mUI M a2 (Int.toNat a3) a4) 183 5) - 1))) 183 5) < 162
                    · replace hf := (if_pos h23).symm.trans hf
                      refine x_iast2 (n := 162) (pc := 135) dX11_reach_135 (axEx hG rfl) rfl h23.1 h23.2 ?_
                      cases hf
                      exact x_retV (pc := 136) dX11_reach_136
                    · replace hf := (if_neg h23).symm.trans hf
                      cases hf
            · replace hf := (if_pos h15).symm.trans hf
              refine x_aload_n (pc := 54) dX11_reach_54 rfl ?_
              refine x_iload_n (pc := 55) dX11_reach_55 rfl ?_
              refine x_iload (pc := 56) dX11_reach_56 rfl ?_
              refine x_iconst (pc := 58) dX11_reach_58 ⟨by decide, by decide⟩ ?_
              refine x_iaddw (pc := 59) dX11_reach_59 ?_
              refine x_iast2 (n := 81) (pc := 60) dX11_reach_60 (axDi_ex hG y_a2) (axDi_sh y_a2) (by omega) (by omega) ?_
              refine x_aload_n (pc := 61) dX11_reach_61 rfl ?_
              refine x_getF (t := 9) (j := 4) (r := 191) (pc := 62) dX11_reach_62 (axH hG rfl) (axEx hG rfl) rfl (by decide) (by decide) rfl rfl WF_X11_23 ?_
              refine x_aload_n (pc := 65) dX11_reach_65 rfl ?_
              refine x_getI (t := 9) (j := 6) (pc := 66) dX11_reach_66 (axEx hG rfl) rfl (by decide) (by decide) rfl WF_X11_76 ?_
              refine x_iload_n (pc := 69) dX11_reach_69 rfl ?_
              by_cases h17 : 0 ≤ (mI (mUI M a2 (Int.toNat a3) (wr (a4 + 1))) 183 6) ∧ (mI (mUI M a2 (Int.toNat a3) (wr (a4 + 1))) 183 6) < 162
              · replace hf := (if_pos h17).symm.trans hf
                refine x_iast2 (n := 162) (pc := 70) dX11_reach_70 (axEx hG rfl) rfl h17.1 h17.2 ?_
                refine x_aload_n (pc := 71) dX11_reach_71 rfl ?_
                refine x_dup (pc := 72) dX11_reach_72 rfl ?_
                refine x_getI (t := 9) (j := 6) (pc := 73) dX11_reach_73 (axEx hG rfl) rfl (by decide) (by decide) rfl WF_X11_76 ?_
                refine x_iconst (pc := 76) dX11_reach_76 ⟨by decide, by decide⟩ ?_
                refine x_iaddw (pc := 77) dX11_reach_77 ?_
                refine x_putI (t := 9) (j := 6) (pc := 78) dX11_reach_78 (axEx hG rfl) rfl (by decide) (by decide) rfl rfl WF_X11_76 ?_
                refine x_goto (tgt := 136) (pc := 81) dX11_reach_81 rfl ?_
                cases hf
                exact x_retV (pc := 136) dX11_reach_136
              · replace hf := (if_neg h17).symm.trans hf
                cases hf
      · replace hf := (if_neg h5).symm.trans hf
        cases hf
        exact x_retV (pc := 19) dX11_reach_19
/- HexPond$Ways.distance(III)I -/
def fX11_distance (M : ax_M) (a1 : Int) (a2 : Int) (a3 : Int) : Int :=
  (if (wr ((wr (a1 * 2)) + a2)) < 0 then (1000) else (if (wr ((wr (a1 * 2)) + a2)) < 4 then (if a3 < 0 then (1000) else (if a3 < 81 then ((mI M (185 + (Int.toNat (wr ((wr (a1 * 2)) + a2)))) (Int.toNat a3))) else (1000))) else (1000)))
theorem T_X11_distance {G : ax_G} {d : Nat} (hd : 0 ≤ d) (hG : axPs G 150 244) {M : ax_M} {a1 : Int} {a2 : Int} {a3 : Int} {r : Int} (hf : fX11_distance M a1 a2 a3 = r) : ax_Ex G tX11_distance d 0 (ax_args [vR 183, vI a1, vI a2, vI a3] ++ List.replicate 2 none) [] M (.inl (some (vI r))) M := by
  show ax_Ex G tX11_distance d 0 [some (vR 183), some (vI a1), some (vI a2), some (vI a3), none, none] [] M _ _
  unfold fX11_distance at hf
  refine x_iload_n (pc := 0) dX11_distance_0 rfl ?_
  refine x_iconst (pc := 1) dX11_distance_1 ⟨by decide, by decide⟩ ?_
  refine x_imulw (pc := 2) dX11_distance_2 ?_
  refine x_iload_n (pc := 3) dX11_distance_3 rfl ?_
  refine x_iaddw (pc := 4) dX11_distance_4 ?_
  refine x_istore (ls' := [some (vR 183), some (vI a1), some (vI a2), some (vI a3), some (vI (wr ((wr (a1 * 2)) + a2))), none]) (pc := 5) dX11_distance_5 (Nat.le_of_ble_eq_true rfl) rfl rfl ?_
  refine x_iload (pc := 7) dX11_distance_7 rfl ?_
  refine ax_cmp1 (fun b2a b2b => ?_)
  refine x_iflt (tgt := 36) (pc := 9) dX11_distance_9 rfl (fun h1 => ?_) (fun h1 => ?_)
  · replace hf := (if_pos h1).symm.trans hf
    refine x_iconst (pc := 36) dX11_distance_36 ⟨by decide, by decide⟩ ?_
    refine x_istore (ls' := [some (vR 183), some (vI a1), some (vI a2), some (vI a3), some (vI (wr ((wr (a1 * 2)) + a2))), some (vI 0)]) (pc := 37) dX11_distance_37 (Nat.le_of_ble_eq_true rfl) rfl rfl ?_
    refine x_iload (pc := 39) dX11_distance_39 rfl ?_
    refine x_ifeq (tgt := 56) (pc := 41) dX11_distance_41 rfl (fun h3 => ?_) (fun h3 => absurd h3 (by omega))
    refine x_sipush (pc := 56) dX11_distance_56 (by decide) ⟨by decide, by decide⟩ ?_
    subst hf
    exact x_retI (pc := 59) dX11_distance_59
  · replace hf := (if_neg (Int.not_lt.mpr h1)).symm.trans hf
    refine x_iload (pc := 12) dX11_distance_12 rfl ?_
    refine x_aload_n (pc := 14) dX11_distance_14 rfl ?_
    refine x_getF (t := 9) (j := 1) (r := 184) (pc := 15) dX11_distance_15 (axH hG rfl) (axEx hG rfl) rfl (by decide) (by decide) rfl rfl WF_X11_11 ?_
    refine x_alen (t := 5) (n := 4) (pc := 18) dX11_distance_18 (axEx hG rfl) rfl (by decide) (by decide) ?_
    refine ax_cmp (fun b5a b5b b5c b5e => ?_)
    refine x_icmpge (tgt := 36) (pc := 19) dX11_distance_19 rfl (fun h4 => ?_) (fun h4 => ?_)
    · replace hf := (if_neg (Int.not_lt.mpr h4)).symm.trans hf
      refine x_iconst (pc := 36) dX11_distance_36 ⟨by decide, by decide⟩ ?_
      refine x_istore (ls' := [some (vR 183), some (vI a1), some (vI a2), some (vI a3), some (vI (wr ((wr (a1 * 2)) + a2))), some (vI 0)]) (pc := 37) dX11_distance_37 (Nat.le_of_ble_eq_true rfl) rfl rfl ?_
      refine x_iload (pc := 39) dX11_distance_39 rfl ?_
      refine x_ifeq (tgt := 56) (pc := 41) dX11_distance_41 rfl (fun h13 => ?_) (fun h13 => absurd h13 (by omega))
      refine x_sipush (pc := 56) dX11_distance_56 (by decide) ⟨by decide, by decide⟩ ?_
      subst hf
      exact x_retI (pc := 59) dX11_distance_59
    · replace hf := (if_pos h4).symm.trans hf
      refine x_iload_n (pc := 22) dX11_distance_22 rfl ?_
      refine ax_cmp1 (fun b7a b7b => ?_)
      refine x_iflt (tgt := 36) (pc := 23) dX11_distance_23 rfl (fun h6 => ?_) (fun h6 => ?_)
      · replace hf := (if_pos h6).symm.trans hf
        refine x_iconst (pc := 36) dX11_distance_36 ⟨by decide, by decide⟩ ?_
        refine x_istore (ls' := [some (vR 183), some (vI a1), some (vI a2), some (vI a3), some (vI (wr ((wr (a1 * 2)) + a2))), some (vI 0)]) (pc := 37) dX11_distance_37 (Nat.le_of_ble_eq_true rfl) rfl rfl ?_
        refine x_iload (pc := 39) dX11_distance_39 rfl ?_
        refine x_ifeq (tgt := 56) (pc := 41) dX11_distance_41 rfl (fun h8 => ?_) (fun h8 => absurd h8 (by omega))
        refine x_sipush (pc := 56) dX11_distance_56 (by decide) ⟨by decide, by decide⟩ ?_
        subst hf
        exact x_retI (pc := 59) dX11_distance_59
      · replace hf := (if_neg (Int.not_lt.mpr h6)).symm.trans hf
        refine x_iload_n (pc := 26) dX11_distance_26 rfl ?_
        refine x_bipush (pc := 27) dX11_distance_27 (by decide) ⟨by decide, by decide⟩ ?_
        refine ax_cmp (fun b10a b10b b10c b10e => ?_)
        refine x_icmpge (tgt := 36) (pc := 29) dX11_distance_29 rfl (fun h9 => ?_) (fun h9 => ?_)
        · replace hf := (if_neg (Int.not_lt.mpr h9)).symm.trans hf
          refine x_iconst (pc := 36) dX11_distance_36 ⟨by decide, by decide⟩ ?_
          refine x_istore (ls' := [some (vR 183), some (vI a1), some (vI a2), some (vI a3), some (vI (wr ((wr (a1 * 2)) + a2))), some (vI 0)]) (pc := 37) dX11_distance_37 (Nat.le_of_ble_eq_true rfl) rfl rfl ?_
          refine x_iload (pc := 39) dX11_distance_39 rfl ?_
          refine x_ifeq (tgt := 56) (pc := 41) dX11_distance_41 rfl (fun h12 => ?_) (fun h12 => absurd h12 (by omega))
          refine x_sipush (pc := 56) dX11_distance_56 (by decide) ⟨by decide, by decide⟩ ?_
          subst hf
          exact x_retI (pc := 59) dX11_distance_59
        · replace hf := (if_pos h9).symm.trans hf
          refine x_iconst (pc := 32) dX11_distance_32 ⟨by decide, by decide⟩ ?_
          refine x_goto (tgt := 37) (pc := 33) dX11_distance_33 rfl ?_
          refine x_istore (ls' := [some (vR 183), some (vI a1), some (vI a2), some (vI a3), some (vI (wr ((wr (a1 * 2)) + a2))), some (vI 1)]) (pc := 37) dX11_distance_37 (Nat.le_of_ble_eq_true rfl) rfl rfl ?_
          refine x_iload (pc := 39) dX11_distance_39 rfl ?_
          refine x_ifeq (tgt := 56) (pc := 41) dX11_distance_41 rfl (fun h11 => absurd h11 (by omega)) (fun h11 => ?_)
          refine x_aload_n (pc := 44) dX11_distance_44 rfl ?_
          refine x_getF (t := 9) (j := 1) (r := 184) (pc := 45) dX11_distance_45 (axH hG rfl) (axEx hG rfl) rfl (by decide) (by decide) rfl rfl WF_X11_11 ?_
          refine x_iload (pc := 48) dX11_distance_48 rfl ?_
          refine x_aaldD (pc := 50) dX11_distance_50 (axH hG rfl) (by omega) (by omega) ?_
          refine x_iload_n (pc := 51) dX11_distance_51 rfl ?_
          refine x_iald2 (n := 81) (pc := 52) dX11_distance_52 (axDi_ex hG (by omega)) (axDi_sh (by omega)) (by omega) (by omega) ?_
          refine x_goto (tgt := 59) (pc := 53) dX11_distance_53 rfl ?_
          subst hf
          exact x_retI (pc := 59) dX11_distance_59
/- HexPond$Ways.fewestAtOtherShore(I)I -/
def fX11_fewestAtOtherShore_b6 (M : ax_M) (x1 : Int) (v2 : Int) (v3 : Int) : Option ((Int × Int) ⊕ Int) :=
  (if v3 < (fX8_cells M) then (if (fX8_isAtShore M x1 1 v3) = 0 then (some (.inl (v2, (v3 + 1)))) else (some (.inl ((fJ9_min_7cf53 M v2 (fX11_distance M x1 0 v3)), (v3 + 1))))) else (some (.inr v2)))
def fX11_fewestAtOtherShore (M : ax_M) (a1 : Int) : Option Int :=
  (bd1 (lp (fun s => fX11_fewestAtOtherShore_b6 M a1 s.1 s.2) lpN (1000, 0)) fun t4 => (if t4 = 1000 then (some 99) else (some t4)))
theorem B_X11_fewestAtOtherShore_6 {G : ax_G} {d : Nat} (hd : 1 ≤ d) (hG : axPs G 150 244) {M : ax_M} {x1 : Int} {v2 : Int} {v3 : Int} {o : Option ax_V ⊕ String} {M' : ax_M} {y : (Int × Int) ⊕ Int} (hf : fX11_fewestAtOtherShore_b6 M x1 v2 v3 = some y) (h1 : ∀ s', y = .inl s' → ax_Ex G tX11_fewestAtOtherShore d 6 [some (vR 183), some (vI x1), some (vI s'.1), some (vI s'.2)] [] M o M') (h2a : ∀ t, y = .inr t → ax_Ex G tX11_fewestAtOtherShore d 48 [some (vR 183), some (vI x1), some (vI t), none] [] M o M') : ax_Ex G tX11_fewestAtOtherShore d 6 [some (vR 183), some (vI x1), some (vI v2), some (vI v3)] [] M o M' := by
  unfold fX11_fewestAtOtherShore_b6 at hf
  refine x_iload_n (pc := 6) dX11_fewestAtOtherShore_6 rfl ?_
  refine x_aload_n (pc := 7) dX11_fewestAtOtherShore_7 rfl ?_
  refine x_getF (t := 9) (j := 0) (r := 169) (pc := 8) dX11_fewestAtOtherShore_8 (axH hG rfl) (axEx hG rfl) rfl (by decide) (by decide) rfl rfl WF_X11_26 ?_
  refine x_cr (v := vI (fX8_cells M)) (vs := [vR 169]) (rest := [vI v3]) (k := 0) rfl (by omega) (ax_caV (pc := 11) dX11_fewestAtOtherShore_11 kX8_cells rfl rfl WM_X11_61 WI_X8_cells WS_X8_cells WN_X8 (ax_rcO (t := 6) (axEx hG rfl) rfl (by decide)) (Nat.le_of_ble_eq_true rfl)) kX8_cells rfl True.intro (T_X8_cells (by omega) (axPs.sub hG (Nat.le_of_ble_eq_true rfl) (Nat.le_of_ble_eq_true rfl)) rfl) ?_
  refine ax_cmp (fun b2a b2b b2c b2e => ?_)
  refine x_icmpge (tgt := 48) (pc := 14) dX11_fewestAtOtherShore_14 rfl (fun h1 => ?_) (fun h1 => ?_)
  · replace hf := (if_neg (Int.not_lt.mpr h1)).symm.trans hf
    cases hf
    exact x_fgt (axS' (axS' (axS' (axN' axD)))) (h2a _ rfl)
  · replace hf := (if_pos h1).symm.trans hf
    refine x_aload_n (pc := 17) dX11_fewestAtOtherShore_17 rfl ?_
    refine x_getF (t := 9) (j := 0) (r := 169) (pc := 18) dX11_fewestAtOtherShore_18 (axH hG rfl) (axEx hG rfl) rfl (by decide) (by decide) rfl rfl WF_X11_26 ?_
    refine x_iload_n (pc := 21) dX11_fewestAtOtherShore_21 rfl ?_
    refine x_iconst (pc := 22) dX11_fewestAtOtherShore_22 ⟨by decide, by decide⟩ ?_
    refine x_iload_n (pc := 23) dX11_fewestAtOtherShore_23 rfl ?_
    refine x_cr (v := vI (fX8_isAtShore M x1 1 v3)) (vs := [vR 169, vI x1, vI 1, vI v3]) (rest := []) (k := 2) rfl (by omega) (ax_caV (pc := 24) dX11_fewestAtOtherShore_24 kX8_isAtShore rfl rfl WM_X11_79 WI_X8_isAtShore WS_X8_isAtShore WN_X8 (ax_rcO (t := 6) (axEx hG rfl) rfl (by decide)) (Nat.le_of_ble_eq_true rfl)) kX8_isAtShore rfl (Z_X8_isAtShore rfl) (T_X8_isAtShore (by omega) (axPs.sub hG (Nat.le_of_ble_eq_true rfl) (Nat.le_of_ble_eq_true rfl)) rfl) ?_
    refine x_ifeq (tgt := 42) (pc := 27) dX11_fewestAtOtherShore_27 rfl (fun h3 => ?_) (fun h3 => ?_)
    · replace hf := (if_pos h3).symm.trans hf
      refine x_iinc (z := (v3 + 1)) (ls' := [some (vR 183), some (vI x1), some (vI v2), some (vI (v3 + 1))]) (pc := 42) dX11_fewestAtOtherShore_42 rfl (Nat.le_of_ble_eq_true rfl) rfl rfl (ax_i (by omega) (by omega)) rfl ?_
      refine x_goto (tgt := 6) (pc := 45) dX11_fewestAtOtherShore_45 rfl ?_
      cases hf
      exact h1 _ rfl
    · replace hf := (if_neg h3).symm.trans hf
      refine x_iload_n (pc := 30) dX11_fewestAtOtherShore_30 rfl ?_
      refine x_aload_n (pc := 31) dX11_fewestAtOtherShore_31 rfl ?_
      refine x_iload_n (pc := 32) dX11_fewestAtOtherShore_32 rfl ?_
      refine x_iconst (pc := 33) dX11_fewestAtOtherShore_33 ⟨by decide, by decide⟩ ?_
      refine x_iload_n (pc := 34) dX11_fewestAtOtherShore_34 rfl ?_
      refine x_cr (v := vI (fX11_distance M x1 0 v3)) (vs := [vR 183, vI x1, vI 0, vI v3]) (rest := [vI v2]) (k := 2) rfl (by omega) (ax_caV (pc := 35) dX11_fewestAtOtherShore_35 kX11_distance rfl rfl WM_X11_40 WI_X11_distance WS_X11_distance WN_X11 (ax_rcO (t := 9) (axEx hG rfl) rfl (by decide)) (Nat.le_of_ble_eq_true rfl)) kX11_distance rfl True.intro (T_X11_distance (by omega) hG rfl) ?_
      refine x_cr (v := vI (fJ9_min_7cf53 M v2 (fX11_distance M x1 0 v3))) (vs := [vI v2, vI (fX11_distance M x1 0 v3)]) (rest := []) (k := 0) rfl (by omega) (ax_caS (pc := 38) dX11_fewestAtOtherShore_38 kJ9_min_7cf53 rfl rfl WM_X11_93 WT_J9_min_7cf53 WN_J9 (Nat.le_of_ble_eq_true rfl)) kJ9_min_7cf53 rfl True.intro (T_J9_min_7cf53 (by omega) rfl) ?_
      refine x_istore_n (ls' := [some (vR 183), some (vI x1), some (vI (fJ9_min_7cf53 M v2 (fX11_distance M x1 0 v3))), some (vI v3)]) (pc := 41) dX11_fewestAtOtherShore_41 (Nat.le_of_ble_eq_true rfl) rfl rfl ?_
      refine x_iinc (z := (v3 + 1)) (ls' := [some (vR 183), some (vI x1), some (vI (fJ9_min_7cf53 M v2 (fX11_distance M x1 0 v3))), some (vI (v3 + 1))]) (pc := 42) dX11_fewestAtOtherShore_42 rfl (Nat.le_of_ble_eq_true rfl) rfl rfl (ax_i (by omega) (by omega)) rfl ?_
      refine x_goto (tgt := 6) (pc := 45) dX11_fewestAtOtherShore_45 rfl ?_
      cases hf
      exact h1 _ rfl
theorem T_X11_fewestAtOtherShore {G : ax_G} {d : Nat} (hd : 1 ≤ d) (hG : axPs G 150 244) {M : ax_M} {a1 : Int} {r : Int} (hf : fX11_fewestAtOtherShore M a1 = some r) : ax_Ex G tX11_fewestAtOtherShore d 0 (ax_args [vR 183, vI a1] ++ List.replicate 2 none) [] M (.inl (some (vI r))) M := by
  show ax_Ex G tX11_fewestAtOtherShore d 0 [some (vR 183), some (vI a1), none, none] [] M _ _
  unfold fX11_fewestAtOtherShore at hf
  refine x_sipush (pc := 0) dX11_fewestAtOtherShore_0 (by decide) ⟨by decide, by decide⟩ ?_
  refine x_istore_n (ls' := [some (vR 183), some (vI a1), some (vI 1000), none]) (pc := 3) dX11_fewestAtOtherShore_3 (Nat.le_of_ble_eq_true rfl) rfl rfl ?_
  refine x_iconst (pc := 4) dX11_fewestAtOtherShore_4 ⟨by decide, by decide⟩ ?_
  refine x_istore_n (ls' := [some (vR 183), some (vI a1), some (vI 1000), some (vI 0)]) (pc := 5) dX11_fewestAtOtherShore_5 (Nat.le_of_ble_eq_true rfl) rfl rfl ?_
  obtain ⟨t4, t5, hf⟩ := bd1_some hf
  refine lp_ex (P := (fun s => ax_Ex G tX11_fewestAtOtherShore d 6 [some (vR 183), some (vI a1), some (vI s.1), some (vI s.2)] [] M _ _)) (K := (fun t => ax_Ex G tX11_fewestAtOtherShore d 48 [some (vR 183), some (vI a1), some (vI t), none] [] M _ _)) (fun s y hy h1 h2 => B_X11_fewestAtOtherShore_6 (by omega) hG hy (fun s' e => h1 s' e) (fun t e => h2 t e)) _ _ _ t5 ?_
  refine x_iload_n (pc := 48) dX11_fewestAtOtherShore_48 rfl ?_
  refine x_sipush (pc := 49) dX11_fewestAtOtherShore_49 (by decide) ⟨by decide, by decide⟩ ?_
  refine x_icmpne (tgt := 60) (pc := 52) dX11_fewestAtOtherShore_52 rfl (fun h6 => ?_) (fun h6 => ?_)
  · replace hf := (if_neg h6).symm.trans hf
    refine x_iload_n (pc := 60) dX11_fewestAtOtherShore_60 rfl ?_
    cases hf
    exact x_retI (pc := 61) dX11_fewestAtOtherShore_61
  · replace hf := (if_pos h6).symm.trans hf
    refine x_bipush (pc := 55) dX11_fewestAtOtherShore_55 (by decide) ⟨by decide, by decide⟩ ?_
    refine x_goto (tgt := 61) (pc := 57) dX11_fewestAtOtherShore_57 rfl ?_
    cases hf
    exact x_retI (pc := 61) dX11_fewestAtOtherShore_61
/- HexPond$Ways.measure(II)V -/
def fX11_measure_b80 (M : ax_M) (x1 : Int) (x2 : Int) (x4 : Nat) (v5 : Int) : Option ((Int × ax_M) ⊕ ax_M) :=
  (if v5 < (fX8_cells M) then (if (fX8_isAtShore M x1 x2 v5) = 0 then (some (.inl ((v5 + 1), M))) else (bd1 (fX11_reach M x1 x4 v5 0) fun M10 => (some (.inl ((v5 + 1), M10))))) else (some (.inr M)))
def fX11_measure_b190 (M : ax_M) (x1 : Int) (x2 : Int) (x4 : Nat) (x5 : Int) (x6 : Int) (v7 : Int) : Option ((Int × ax_M) ⊕ ax_M) :=
  (if v7 < 6 then (if x6 < 0 then (some (.inr M)) else (if x6 < 81 then (bd1 (fX11_reach M x1 x4 (fX8_beside M x6 v7) (mI M x4 (Int.toNat x6))) fun M26 => (some (.inl ((v7 + 1), M26)))) else (some (.inr M)))) else (some (.inr M)))
def fX11_measure_b125 (M : ax_M) (x1 : Int) (x2 : Int) (x4 : Nat) (v5 : Int) : Option ((Int × ax_M) ⊕ ax_M) :=
  (if v5 < 81 then (if (mI M 183 5) < (mI M 183 6) then (if (mI M 183 5) < 0 then (bd1 (lp (fun s => fX11_measure_b190 s.2 x1 x2 x4 v5 (-1) s.1) lpN (0, (mUI M 183 5 ((mI M 183 5) + 1)))) fun t27 => (some (.inl ((v5 + 1), t27)))) else (if (mI M 183 5) < 162 then (bd1 (lp (fun s => fX11_measure_b190 s.2 x1 x2 x4 v5 (mI M 191 (Int.toNat (mI M 183 5))) s.1) lpN (0, (mUI M 183 5 ((mI M 183 5) + 1)))) fun t31 => (some (.inl ((v5 + 1), t31)))) else (bd1 (lp (fun s => fX11_measure_b190 s.2 x1 x2 x4 v5 (-1) s.1) lpN (0, (mUI M 183 5 ((mI M 183 5) + 1)))) fun t33 => (some (.inl ((v5 + 1), t33)))))) else (some (.inr M))) else (some (.inr M)))
def fX11_measure (M : ax_M) (a1 : Int) (a2 : Int) : Option ax_M :=
  (if (wr ((wr (a1 * 2)) + a2)) < 0 then (some M) else (if (wr ((wr (a1 * 2)) + a2)) < 4 then (if (mI M 189 (Int.toNat (wr ((wr (a1 * 2)) + a2)))) = (fX8_changes M) then (some M) else (bd1 (lp (fun s => fX11_measure_b80 s.2 a1 a2 (185 + (Int.toNat (wr ((wr (a1 * 2)) + a2)))) s.1) lpN (0, (mUI (mUI (mFi (mUI M 189 (Int.toNat (wr ((wr (a1 * 2)) + a2))) (fX8_changes M)) (185 + (Int.toNat (wr ((wr (a1 * 2)) + a2)))) 81 1000) 183 5 81) 183 6 81))) fun t11 => (bd1 (lp (fun s => fX11_measure_b125 s.2 a1 a2 (185 + (Int.toNat (wr ((wr (a1 * 2)) + a2)))) s.1) lpN (0, t11)) fun t35 => (if a2 = 0 then (if a1 < 0 then (some t35) else (if a1 < 2 then (bd1 (fX11_fewestAtOtherShore t35 a1) fun v43 => (some (mUI t35 190 (Int.toNat a1) v43))) else (some t35))) else (some t35))))) else (some M)))
theorem B_X11_measure_80 {G : ax_G} {d : Nat} (hd : 2 ≤ d) (hG : axPs G 150 244) {M : ax_M} {x1 : Int} {x2 : Int} {x4 : Nat} {v5 : Int} (hy4 : 185 ≤ x4 ∧ x4 < 189) {o : Option ax_V ⊕ String} {M' : ax_M} {y : (Int × ax_M) ⊕ ax_M} (hf : fX11_measure_b80 M x1 x2 x4 v5 = some y) (h1 : ∀ s', y = .inl s' → ax_Ex G tX11_measure d 80 [some (vR 183), some (vI x1), some (vI x2), none, some (vR x4), some (vI s'.1), none, none] [] s'.2 o M') (h2a : ∀ t, y = .inr t → ax_Ex G tX11_measure d 122 [some (vR 183), some (vI x1), some (vI x2), none, some (vR x4), none, none, none] [] t o M') : ax_Ex G tX11_measure d 80 [some (vR 183), some (vI x1), some (vI x2), none, some (vR x4), some (vI v5), none, none] [] M o M' := by
  unfold fX11_measure_b80 at hf
  refine x_iload (pc := 80) dX11_measure_80 rfl ?_
  refine x_aload_n (pc := 82) dX11_measure_82 rfl ?_
  refine x_getF (t := 9) (j := 0) (r := 169) (pc := 83) dX11_measure_83 (axH hG rfl) (axEx hG rfl) rfl (by decide) (by decide) rfl rfl WF_X11_26 ?_
  refine x_cr (v := vI (fX8_cells M)) (vs := [vR 169]) (rest := [vI v5]) (k := 0) rfl (by omega) (ax_caV (pc := 86) dX11_measure_86 kX8_cells rfl rfl WM_X11_61 WI_X8_cells WS_X8_cells WN_X8 (ax_rcO (t := 6) (axEx hG rfl) rfl (by decide)) (Nat.le_of_ble_eq_true rfl)) kX8_cells rfl True.intro (T_X8_cells (by omega) (axPs.sub hG (Nat.le_of_ble_eq_true rfl) (Nat.le_of_ble_eq_true rfl)) rfl) ?_
  refine ax_cmp (fun b7a b7b b7c b7e => ?_)
  refine x_icmpge (tgt := 122) (pc := 89) dX11_measure_89 rfl (fun h6 => ?_) (fun h6 => ?_)
  · replace hf := (if_neg (Int.not_lt.mpr h6)).symm.trans hf
    cases hf
    exact x_fgt (axS' (axS' (axS' (axN' (axS' (axN' (axN' (axN' axD)))))))) (h2a _ rfl)
  · replace hf := (if_pos h6).symm.trans hf
    refine x_aload_n (pc := 92) dX11_measure_92 rfl ?_
    refine x_getF (t := 9) (j := 0) (r := 169) (pc := 93) dX11_measure_93 (axH hG rfl) (axEx hG rfl) rfl (by decide) (by decide) rfl rfl WF_X11_26 ?_
    refine x_iload_n (pc := 96) dX11_measure_96 rfl ?_
    refine x_iload_n (pc := 97) dX11_measure_97 rfl ?_
    refine x_iload (pc := 98) dX11_measure_98 rfl ?_
    refine x_cr (v := vI (fX8_isAtShore M x1 x2 v5)) (vs := [vR 169, vI x1, vI x2, vI v5]) (rest := []) (k := 2) rfl (by omega) (ax_caV (pc := 100) dX11_measure_100 kX8_isAtShore rfl rfl WM_X11_79 WI_X8_isAtShore WS_X8_isAtShore WN_X8 (ax_rcO (t := 6) (axEx hG rfl) rfl (by decide)) (Nat.le_of_ble_eq_true rfl)) kX8_isAtShore rfl (Z_X8_isAtShore rfl) (T_X8_isAtShore (by omega) (axPs.sub hG (Nat.le_of_ble_eq_true rfl) (Nat.le_of_ble_eq_true rfl)) rfl) ?_
    refine x_ifeq (tgt := 116) (pc := 103) dX11_measure_103 rfl (fun h8 => ?_) (fun h8 => ?_)
    · replace hf := (if_pos h8).symm.trans hf
      refine x_iinc (z := (v5 + 1)) (ls' := [some (vR 183), some (vI x1), some (vI x2), none, some (vR x4), some (vI (v5 + 1)), none, none]) (pc := 116) dX11_measure_116 rfl (Nat.le_of_ble_eq_true rfl) rfl rfl (ax_i (by omega) (by omega)) rfl ?_
      refine x_goto (tgt := 80) (pc := 119) dX11_measure_119 rfl ?_
      cases hf
      exact h1 _ rfl
    · replace hf := (if_neg h8).symm.trans hf
      refine x_aload_n (pc := 106) dX11_measure_106 rfl ?_
      refine x_iload_n (pc := 107) dX11_measure_107 rfl ?_
      refine x_aload (pc := 108) dX11_measure_108 rfl ?_
      refine x_iload (pc := 110) dX11_measure_110 rfl ?_
      refine x_iconst (pc := 112) dX11_measure_112 ⟨by decide, by decide⟩ ?_
      obtain ⟨M10, r9, hf⟩ := bd1_some hf
      refine x_cv (vs := [vR 183, vI x1, vR x4, vI v5, vI 0]) (rest := []) (k := 1) rfl (by omega) (ax_caV (pc := 113) dX11_measure_113 kX11_reach rfl rfl WM_X11_83 WI_X11_reach WS_X11_reach WN_X11 (ax_rcO (t := 9) (axEx hG rfl) rfl (by decide)) (Nat.le_of_ble_eq_true rfl)) kX11_reach rfl True.intro (T_X11_reach (by omega) hG hy4 r9) ?_
      refine x_iinc (z := (v5 + 1)) (ls' := [some (vR 183), some (vI x1), some (vI x2), none, some (vR x4), some (vI (v5 + 1)), none, none]) (pc := 116) dX11_measure_116 rfl (Nat.le_of_ble_eq_true rfl) rfl rfl (ax_i (by omega) (by omega)) rfl ?_
      refine x_goto (tgt := 80) (pc := 119) dX11_measure_119 rfl ?_
      cases hf
      exact h1 _ rfl
theorem B_X11_measure_190 {G : ax_G} {d : Nat} (hd : 2 ≤ d) (hG : axPs G 150 244) {M : ax_M} {x1 : Int} {x2 : Int} {x4 : Nat} {x5 : Int} {x6 : Int} {v7 : Int} (hy4 : 185 ≤ x4 ∧ x4 < 189) {o : Option ax_V ⊕ String} {M' : ax_M} {y : (Int × ax_M) ⊕ ax_M} (hf : fX11_measure_b190 M x1 x2 x4 x5 x6 v7 = some y) (h1 : ∀ s', y = .inl s' → ax_Ex G tX11_measure d 190 [some (vR 183), some (vI x1), some (vI x2), none, some (vR x4), some (vI x5), some (vI x6), some (vI s'.1)] [] s'.2 o M') (h2a : ∀ t, y = .inr t → ax_Ex G tX11_measure d 239 [some (vR 183), some (vI x1), some (vI x2), none, some (vR x4), some (vI x5), some (vI x6), none] [] t o M') : ax_Ex G tX11_measure d 190 [some (vR 183), some (vI x1), some (vI x2), none, some (vR x4), some (vI x5), some (vI x6), some (vI v7)] [] M o M' := by
  unfold fX11_measure_b190 at hf
  refine x_iload (pc := 190) dX11_measure_190 rfl ?_
  refine x_bipush (pc := 192) dX11_measure_192 (by decide) ⟨by decide, by decide⟩ ?_
  refine ax_cmp (fun b20a b20b b20c b20e => ?_)
  refine x_icmpge (tgt := 239) (pc := 194) dX11_measure_194 rfl (fun h19 => ?_) (fun h19 => ?_)
  · replace hf := (if_neg (Int.not_lt.mpr h19)).symm.trans hf
    cases hf
    exact x_fgt (axS' (axS' (axS' (axN' (axS' (axS' (axS' (axN' axD)))))))) (h2a _ rfl)
  · replace hf := (if_pos h19).symm.trans hf
    refine x_iload (pc := 197) dX11_measure_197 rfl ?_
    refine ax_cmp1 (fun b22a b22b => ?_)
    refine x_iflt (tgt := 239) (pc := 199) dX11_measure_199 rfl (fun h21 => ?_) (fun h21 => ?_)
    · replace hf := (if_pos h21).symm.trans hf
      cases hf
      exact x_fgt (axS' (axS' (axS' (axN' (axS' (axS' (axS' (axN' axD)))))))) (h2a _ rfl)
    · replace hf := (if_neg (Int.not_lt.mpr h21)).symm.trans hf
      refine x_iload (pc := 202) dX11_measure_202 rfl ?_
      refine x_aload (pc := 204) dX11_measure_204 rfl ?_
      refine x_alen (t := 0) (n := 81) (pc := 206) dX11_measure_206 (axDi_ex hG hy4) (axDi_sh hy4) (by decide) (by decide) ?_
      refine ax_cmp (fun b24a b24b b24c b24e => ?_)
      refine x_icmpge (tgt := 239) (pc := 207) dX11_measure_207 rfl (fun h23 => ?_) (fun h23 => ?_)
      · replace hf := (if_neg (Int.not_lt.mpr h23)).symm.trans hf
        cases hf
        exact x_fgt (axS' (axS' (axS' (axN' (axS' (axS' (axS' (axN' axD)))))))) (h2a _ rfl)
      · replace hf := (if_pos h23).symm.trans hf
        refine x_aload_n (pc := 210) dX11_measure_210 rfl ?_
        refine x_iload_n (pc := 211) dX11_measure_211 rfl ?_
        refine x_aload (pc := 212) dX11_measure_212 rfl ?_
        refine x_aload_n (pc := 214) dX11_measure_214 rfl ?_
        refine x_getF (t := 9) (j := 0) (r := 169) (pc := 215) dX11_measure_215 (axH hG rfl) (axEx hG rfl) rfl (by decide) (by decide) rfl rfl WF_X11_26 ?_
        refine x_iload (pc := 218) dX11_measure_218 rfl ?_
        refine x_iload (pc := 220) dX11_measure_220 rfl ?_
        refine x_cr (v := vI (fX8_beside M x6 v7)) (vs := [vR 169, vI x6, vI v7]) (rest := [vR x4, vI x1, vR 183]) (k := 2) rfl (by omega) (ax_caV (pc := 222) dX11_measure_222 kX8_beside rfl rfl WM_X11_87 WI_X8_beside WS_X8_beside WN_X8 (ax_rcO (t := 6) (axEx hG rfl) rfl (by decide)) (Nat.le_of_ble_eq_true rfl)) kX8_beside rfl True.intro (T_X8_beside (by omega) (axPs.sub hG (Nat.le_of_ble_eq_true rfl) (Nat.le_of_ble_eq_true rfl)) rfl) ?_
        refine x_aload (pc := 225) dX11_measure_225 rfl ?_
        refine x_iload (pc := 227) dX11_measure_227 rfl ?_
        refine x_iald2 (n := 81) (pc := 229) dX11_measure_229 (axDi_ex hG hy4) (axDi_sh hy4) (by omega) (by omega) ?_
        obtain ⟨M26, r25, hf⟩ := bd1_some hf
        refine x_cv (vs := [vR 183, vI x1, vR x4, vI (fX8_beside M x6 v7), vI (mI M x4 (Int.toNat x6))]) (rest := []) (k := 1) rfl (by omega) (ax_caV (pc := 230) dX11_measure_230 kX11_reach rfl rfl WM_X11_83 WI_X11_reach WS_X11_reach WN_X11 (ax_rcO (t := 9) (axEx hG rfl) rfl (by decide)) (Nat.le_of_ble_eq_true rfl)) kX11_reach rfl True.intro (T_X11_reach (by omega) hG hy4 r25) ?_
        refine x_iinc (z := (v7 + 1)) (ls' := [some (vR 183), some (vI x1), some (vI x2), none, some (vR x4), some (vI x5), some (vI x6), some (vI (v7 + 1))]) (pc := 233) dX11_measure_233 rfl (Nat.le_of_ble_eq_true rfl) rfl rfl (ax_i (by omega) (by omega)) rfl ?_
        refine x_goto (tgt := 190) (pc := 236) dX11_measure_236 rfl ?_
        cases hf
        exact h1 _ rfl
theorem B_X11_measure_125 {G : ax_G} {d : Nat} (hd : 2 ≤ d) (hG : axPs G 150 244) {M : ax_M} {x1 : Int} {x2 : Int} {x4 : Nat} {v5 : Int} (hy4 : 185 ≤ x4 ∧ x4 < 189) {o : Option ax_V ⊕ String} {M' : ax_M} {y : (Int × ax_M) ⊕ ax_M} (hf : fX11_measure_b125 M x1 x2 x4 v5 = some y) (h1 : ∀ s', y = .inl s' → ax_Ex G tX11_measure d 125 [some (vR 183), some (vI x1), some (vI x2), none, some (vR x4), some (vI s'.1), none, none] [] s'.2 o M') (h2a : ∀ t, y = .inr t → ax_Ex G tX11_measure d 245 [some (vR 183), some (vI x1), some (vI x2), none, some (vR x4), none, none, none] [] t o M') : ax_Ex G tX11_measure d 125 [some (vR 183), some (vI x1), some (vI x2), none, some (vR x4), some (vI v5), none, none] [] M o M' := by
  unfold fX11_measure_b125 at hf
  refine x_iload (pc := 125) dX11_measure_125 rfl ?_
  refine x_bipush (pc := 127) dX11_measure_127 (by decide) ⟨by decide, by decide⟩ ?_
  refine ax_cmp (fun b14a b14b b14c b14e => ?_)
  refine x_icmpge (tgt := 245) (pc := 129) dX11_measure_129 rfl (fun h13 => ?_) (fun h13 => ?_)
  · replace hf := (if_neg (Int.not_lt.mpr h13)).symm.trans hf
    cases hf
    exact x_fgt (axS' (axS' (axS' (axN' (axS' (axN' (axN' (axN' axD)))))))) (h2a _ rfl)
  · replace hf := (if_pos h13).symm.trans hf
    refine x_aload_n (pc := 132) dX11_measure_132 rfl ?_
    refine x_getI (t := 9) (j := 5) (pc := 133) dX11_measure_133 (axEx hG rfl) rfl (by decide) (by decide) rfl WF_X11_72 ?_
    refine x_aload_n (pc := 136) dX11_measure_136 rfl ?_
    refine x_getI (t := 9) (j := 6) (pc := 137) dX11_measure_137 (axEx hG rfl) rfl (by decide) (by decide) rfl WF_X11_76 ?_
    refine ax_cmp (fun b16a b16b b16c b16e => ?_)
    refine x_icmpge (tgt := 245) (pc := 140) dX11_measure_140 rfl (fun h15 => ?_) (fun h15 => ?_)
    · replace hf := (if_neg (Int.not_lt.mpr h15)).symm.trans hf
      cases hf
      exact x_fgt (axS' (axS' (axS' (axN' (axS' (axN' (axN' (axN' axD)))))))) (h2a _ rfl)
    · replace hf := (if_pos h15).symm.trans hf
      refine x_aload_n (pc := 143) dX11_measure_143 rfl ?_
      refine x_getI (t := 9) (j := 5) (pc := 144) dX11_measure_144 (axEx hG rfl) rfl (by decide) (by decide) rfl WF_X11_72 ?_
      refine ax_cmp1 (fun b18a b18b => ?_)
      refine x_iflt (tgt := 174) (pc := 147) dX11_measure_147 rfl (fun h17 => ?_) (fun h17 => ?_)
      · replace hf := (if_pos h17).symm.trans hf
        refine x_iconst (pc := 174) dX11_measure_174 ⟨by decide, by decide⟩ ?_
        refine x_istore (ls' := [some (vR 183), some (vI x1), some (vI x2), none, some (vR x4), some (vI v5), some (vI (-1)), none]) (pc := 175) dX11_measure_175 (Nat.le_of_ble_eq_true rfl) rfl rfl ?_
        refine x_aload_n (pc := 177) dX11_measure_177 rfl ?_
        refine x_dup (pc := 178) dX11_measure_178 rfl ?_
        refine x_getI (t := 9) (j := 5) (pc := 179) dX11_measure_179 (axEx hG rfl) rfl (by decide) (by decide) rfl WF_X11_72 ?_
        refine x_iconst (pc := 182) dX11_measure_182 ⟨by decide, by decide⟩ ?_
        refine x_iadd (z := ((mI M 183 5) + 1)) (pc := 183) dX11_measure_183 rfl (ax_i (by omega) (by omega)) ?_
        refine x_putI (t := 9) (j := 5) (pc := 184) dX11_measure_184 (axEx hG rfl) rfl (by decide) (by decide) rfl rfl WF_X11_72 ?_
        refine x_iconst (pc := 187) dX11_measure_187 ⟨by decide, by decide⟩ ?_
        refine x_istore (ls' := [some (vR 183), some (vI x1), some (vI x2), none, some (vR x4), some (vI v5), some (vI (-1)), some (vI 0)]) (pc := 188) dX11_measure_188 (Nat.le_of_ble_eq_true rfl) rfl rfl ?_
        obtain ⟨t27, t28, hf⟩ := bd1_some hf
        refine lp_ex (P := (fun s => ax_Ex G tX11_measure d 190 [some (vR 183), some (vI x1), some (vI x2), none, some (vR x4), some (vI v5), some (vI (-1)), some (vI s.1)] [] s.2 _ _)) (K := (fun t => ax_Ex G tX11_measure d 239 [some (vR 183), some (vI x1), some (vI x2), none, some (vR x4), some (vI v5), some (vI (-1)), none] [] t _ _)) (fun s y hy h1 h2 => B_X11_measure_190 (by omega) hG hy4 hy (fun s' e => h1 s' e) (fun t e => h2 t e)) _ _ _ t28 ?_
        refine x_iinc (z := (v5 + 1)) (ls' := [some (vR 183), some (vI x1), some (vI x2), none, some (vR x4), some (vI (v5 + 1)), some (vI (-1)), none]) (pc := 239) dX11_measure_239 rfl (Nat.le_of_ble_eq_true rfl) rfl rfl (ax_i (by omega) (by omega)) rfl ?_
        refine x_goto (tgt := 125) (pc := 242) dX11_measure_242 rfl ?_
        cases hf
        exact x_fgt (axS' (axS' (axS' (axN' (axS' (axS' (axN' (axN' axD)))))))) (h1 _ rfl)
      · replace hf := (if_neg (Int.not_lt.mpr h17)).symm.trans hf
        refine x_aload_n (pc := 150) dX11_measure_150 rfl ?_
        refine x_getI (t := 9) (j := 5) (pc := 151) dX11_measure_151 (axEx hG rfl) rfl (by decide) (by decide) rfl WF_X11_72 ?_
        refine x_aload_n (pc := 154) dX11_measure_154 rfl ?_
        refine x_getF (t := 9) (j := 4) (r := 191) (pc := 155) dX11_measure_155 (axH hG rfl) (axEx hG rfl) rfl (by decide) (by decide) rfl rfl WF_X11_23 ?_
        refine x_alen (t := 0) (n := 162) (pc := 158) dX11_measure_158 (axEx hG rfl) rfl (by decide) (by decide) ?_
        refine ax_cmp (fun b30a b30b b30c b30e => ?_)
        refine x_icmpge (tgt := 174) (pc := 159) dX11_measure_159 rfl (fun h29 => ?_) (fun h29 => ?_)
        · replace hf := (if_neg (Int.not_lt.mpr h29)).symm.trans hf
          refine x_iconst (pc := 174) dX11_measure_174 ⟨by decide, by decide⟩ ?_
          refine x_istore (ls' := [some (vR 183), some (vI x1), some (vI x2), none, some (vR x4), some (vI v5), some (vI (-1)), none]) (pc := 175) dX11_measure_175 (Nat.le_of_ble_eq_true rfl) rfl rfl ?_
          refine x_aload_n (pc := 177) dX11_measure_177 rfl ?_
          refine x_dup (pc := 178) dX11_measure_178 rfl ?_
          refine x_getI (t := 9) (j := 5) (pc := 179) dX11_measure_179 (axEx hG rfl) rfl (by decide) (by decide) rfl WF_X11_72 ?_
          refine x_iconst (pc := 182) dX11_measure_182 ⟨by decide, by decide⟩ ?_
          refine x_iadd (z := ((mI M 183 5) + 1)) (pc := 183) dX11_measure_183 rfl (ax_i (by omega) (by omega)) ?_
          refine x_putI (t := 9) (j := 5) (pc := 184) dX11_measure_184 (axEx hG rfl) rfl (by decide) (by decide) rfl rfl WF_X11_72 ?_
          refine x_iconst (pc := 187) dX11_measure_187 ⟨by decide, by decide⟩ ?_
          refine x_istore (ls' := [some (vR 183), some (vI x1), some (vI x2), none, some (vR x4), some (vI v5), some (vI (-1)), some (vI 0)]) (pc := 188) dX11_measure_188 (Nat.le_of_ble_eq_true rfl) rfl rfl ?_
          obtain ⟨t33, t34, hf⟩ := bd1_some hf
          refine lp_ex (P := (fun s => ax_Ex G tX11_measure d 190 [some (vR 183), some (vI x1), some (vI x2), none, some (vR x4), some (vI v5), some (vI (-1)), some (vI s.1)] [] s.2 _ _)) (K := (fun t => ax_Ex G tX11_measure d 239 [some (vR 183), some (vI x1), some (vI x2), none, some (vR x4), some (vI v5), some (vI (-1)), none] [] t _ _)) (fun s y hy h1 h2 => B_X11_measure_190 (by omega) hG hy4 hy (fun s' e => h1 s' e) (fun t e => h2 t e)) _ _ _ t34 ?_
          refine x_iinc (z := (v5 + 1)) (ls' := [some (vR 183), some (vI x1), some (vI x2), none, some (vR x4), some (vI (v5 + 1)), some (vI (-1)), none]) (pc := 239) dX11_measure_239 rfl (Nat.le_of_ble_eq_true rfl) rfl rfl (ax_i (by omega) (by omega)) rfl ?_
          refine x_goto (tgt := 125) (pc := 242) dX11_measure_242 rfl ?_
          cases hf
          exact x_fgt (axS' (axS' (axS' (axN' (axS' (axS' (axN' (axN' axD)))))))) (h1 _ rfl)
        · replace hf := (if_pos h29).symm.trans hf
          refine x_aload_n (pc := 162) dX11_measure_162 rfl ?_
          refine x_getF (t := 9) (j := 4) (r := 191) (pc := 163) dX11_measure_163 (axH hG rfl) (axEx hG rfl) rfl (by decide) (by decide) rfl rfl WF_X11_23 ?_
          refine x_aload_n (pc := 166) dX11_measure_166 rfl ?_
          refine x_getI (t := 9) (j := 5) (pc := 167) dX11_measure_167 (axEx hG rfl) rfl (by decide) (by decide) rfl WF_X11_72 ?_
          refine x_iald2 (n := 162) (pc := 170) dX11_measure_170 (axEx hG rfl) rfl (by omega) (by omega) ?_
          refine x_goto (tgt := 175) (pc := 171) dX11_measure_171 rfl ?_
          refine x_istore (ls' := [some (vR 183), some (vI x1), some (vI x2), none, some (vR x4), some (vI v5), some (vI (mI M 191 (Int.toNat (mI M 183 5)))), none]) (pc := 175) dX11_measure_175 (Nat.le_of_ble_eq_true rfl) rfl rfl ?_
          refine x_aload_n (pc := 177) dX11_measure_177 rfl ?_
          refine x_dup (pc := 178) dX11_measure_178 rfl ?_
          refine x_getI (t := 9) (j := 5) (pc := 179) dX11_measure_179 (axEx hG rfl) rfl (by decide) (by decide) rfl WF_X11_72 ?_
          refine x_iconst (pc := 182) dX11_measure_182 ⟨by decide, by decide⟩ ?_
          refine x_iadd (z := ((mI M 183 5) + 1)) (pc := 183) dX11_measure_183 rfl (ax_i (by omega) (by omega)) ?_
          refine x_putI (t := 9) (j := 5) (pc := 184) dX11_measure_184 (axEx hG rfl) rfl (by decide) (by decide) rfl rfl WF_X11_72 ?_
          refine x_iconst (pc := 187) dX11_measure_187 ⟨by decide, by decide⟩ ?_
          refine x_istore (ls' := [some (vR 183), some (vI x1), some (vI x2), none, some (vR x4), some (vI v5), some (vI (mI M 191 (Int.toNat (mI M 183 5)))), some (vI 0)]) (pc := 188) dX11_measure_188 (Nat.le_of_ble_eq_true rfl) rfl rfl ?_
          obtain ⟨t31, t32, hf⟩ := bd1_some hf
          refine lp_ex (P := (fun s => ax_Ex G tX11_measure d 190 [some (vR 183), some (vI x1), some (vI x2), none, some (vR x4), some (vI v5), some (vI (mI M 191 (Int.toNat (mI M 183 5)))), some (vI s.1)] [] s.2 _ _)) (K := (fun t => ax_Ex G tX11_measure d 239 [some (vR 183), some (vI x1), some (vI x2), none, some (vR x4), some (vI v5), some (vI (mI M 191 (Int.toNat (mI M 183 5)))), none] [] t _ _)) (fun s y hy h1 h2 => B_X11_measure_190 (by omega) hG hy4 hy (fun s' e => h1 s' e) (fun t e => h2 t e)) _ _ _ t32 ?_
          refine x_iinc (z := (v5 + 1)) (ls' := [some (vR 183), some (vI x1), some (vI x2), none, some (vR x4), some (vI (v5 + 1)), some (vI (mI M 191 (Int.toNat (mI M 183 5)))), none]) (pc := 239) dX11_measure_239 rfl (Nat.le_of_ble_eq_true rfl) rfl rfl (ax_i (by omega) (by omega)) rfl ?_
          refine x_goto (tgt := 125) (pc := 242) dX11_measure_242 rfl ?_
          cases hf
          exact x_fgt (axS' (axS' (axS' (axN' (axS' (axS' (axN' (axN' axD)))))))) (h1 _ rfl)
theorem T_X11_measure {G : ax_G} {d : Nat} (hd : 2 ≤ d) (hG : axPs G 150 244) {M : ax_M} {a1 : Int} {a2 : Int} {M1 : ax_M} (hf : fX11_measure M a1 a2 = some M1) : ax_Ex G tX11_measure d 0 (ax_args [vR 183, vI a1, vI a2] ++ List.replicate 5 none) [] M (.inl none) M1 := by
  show ax_Ex G tX11_measure d 0 [some (vR 183), some (vI a1), some (vI a2), none, none, none, none, none] [] M _ _
  unfold fX11_measure at hf
  refine x_iload_n (pc := 0) dX11_measure_0 rfl ?_
  refine x_iconst (pc := 1) dX11_measure_1 ⟨by decide, by decide⟩ ?_
  refine x_imulw (pc := 2) dX11_measure_2 ?_
  refine x_iload_n (pc := 3) dX11_measure_3 rfl ?_
  refine x_iaddw (pc := 4) dX11_measure_4 ?_
  refine x_istore_n (ls' := [some (vR 183), some (vI a1), some (vI a2), some (vI (wr ((wr (a1 * 2)) + a2))), none, none, none, none]) (pc := 5) dX11_measure_5 (Nat.le_of_ble_eq_true rfl) rfl rfl ?_
  refine x_iload_n (pc := 6) dX11_measure_6 rfl ?_
  refine ax_cmp1 (fun b2a b2b => ?_)
  refine x_iflt (tgt := 35) (pc := 7) dX11_measure_7 rfl (fun h1 => ?_) (fun h1 => ?_)
  · replace hf := (if_pos h1).symm.trans hf
    cases hf
    exact x_retV (pc := 35) dX11_measure_35
  · replace hf := (if_neg (Int.not_lt.mpr h1)).symm.trans hf
    refine x_iload_n (pc := 10) dX11_measure_10 rfl ?_
    refine x_aload_n (pc := 11) dX11_measure_11 rfl ?_
    refine x_getF (t := 9) (j := 1) (r := 184) (pc := 12) dX11_measure_12 (axH hG rfl) (axEx hG rfl) rfl (by decide) (by decide) rfl rfl WF_X11_11 ?_
    refine x_alen (t := 5) (n := 4) (pc := 15) dX11_measure_15 (axEx hG rfl) rfl (by decide) (by decide) ?_
    refine ax_cmp (fun b4a b4b b4c b4e => ?_)
    refine x_icmpge (tgt := 35) (pc := 16) dX11_measure_16 rfl (fun h3 => ?_) (fun h3 => ?_)
    · replace hf := (if_neg (Int.not_lt.mpr h3)).symm.trans hf
      cases hf
      exact x_retV (pc := 35) dX11_measure_35
    · replace hf := (if_pos h3).symm.trans hf
      refine x_aload_n (pc := 19) dX11_measure_19 rfl ?_
      refine x_getF (t := 9) (j := 2) (r := 189) (pc := 20) dX11_measure_20 (axH hG rfl) (axEx hG rfl) rfl (by decide) (by decide) rfl rfl WF_X11_16 ?_
      refine x_iload_n (pc := 23) dX11_measure_23 rfl ?_
      refine x_iald2 (n := 4) (pc := 24) dX11_measure_24 (axEx hG rfl) rfl (by omega) (by omega) ?_
      refine x_aload_n (pc := 25) dX11_measure_25 rfl ?_
      refine x_getF (t := 9) (j := 0) (r := 169) (pc := 26) dX11_measure_26 (axH hG rfl) (axEx hG rfl) rfl (by decide) (by decide) rfl rfl WF_X11_26 ?_
      refine x_cr (v := vI (fX8_changes M)) (vs := [vR 169]) (rest := [vI (mI M 189 (Int.toNat (wr ((wr (a1 * 2)) + a2))))]) (k := 0) rfl (by omega) (ax_caV (pc := 29) dX11_measure_29 kX8_changes rfl rfl WM_X11_69 WI_X8_changes WS_X8_changes WN_X8 (ax_rcO (t := 6) (axEx hG rfl) rfl (by decide)) (Nat.le_of_ble_eq_true rfl)) kX8_changes rfl True.intro (T_X8_changes (by omega) (axPs.sub hG (Nat.le_of_ble_eq_true rfl) (Nat.le_of_ble_eq_true rfl)) rfl) ?_
      refine x_icmpne (tgt := 36) (pc := 32) dX11_measure_32 rfl (fun h5 => ?_) (fun h5 => ?_)
      · replace hf := (if_neg h5).symm.trans hf
        refine x_aload_n (pc := 36) dX11_measure_36 rfl ?_
        refine x_getF (t := 9) (j := 2) (r := 189) (pc := 37) dX11_measure_37 (axH hG rfl) (axEx hG rfl) rfl (by decide) (by decide) rfl rfl WF_X11_16 ?_
        refine x_iload_n (pc := 40) dX11_measure_40 rfl ?_
        refine x_aload_n (pc := 41) dX11_measure_41 rfl ?_
        refine x_getF (t := 9) (j := 0) (r := 169) (pc := 42) dX11_measure_42 (axH hG rfl) (axEx hG rfl) rfl (by decide) (by decide) rfl rfl WF_X11_26 ?_
        refine x_cr (v := vI (fX8_changes M)) (vs := [vR 169]) (rest := [vI (wr ((wr (a1 * 2)) + a2)), vR 189]) (k := 0) rfl (by omega) (ax_caV (pc := 45) dX11_measure_45 kX8_changes rfl rfl WM_X11_69 WI_X8_changes WS_X8_changes WN_X8 (ax_rcO (t := 6) (axEx hG rfl) rfl (by decide)) (Nat.le_of_ble_eq_true rfl)) kX8_changes rfl True.intro (T_X8_changes (by omega) (axPs.sub hG (Nat.le_of_ble_eq_true rfl) (Nat.le_of_ble_eq_true rfl)) rfl) ?_
        refine x_iast2 (n := 4) (pc := 48) dX11_measure_48 (axEx hG rfl) rfl (by omega) (by omega) ?_
        refine x_aload_n (pc := 49) dX11_measure_49 rfl ?_
        refine x_getF (t := 9) (j := 1) (r := 184) (pc := 50) dX11_measure_50 (axH hG rfl) (axEx hG rfl) rfl (by decide) (by decide) rfl rfl WF_X11_11 ?_
        refine x_iload_n (pc := 53) dX11_measure_53 rfl ?_
        refine x_aaldD (pc := 54) dX11_measure_54 (axH hG rfl) (by omega) (by omega) ?_
        refine x_astore (ls' := [some (vR 183), some (vI a1), some (vI a2), some (vI (wr ((wr (a1 * 2)) + a2))), some (vR (185 + (Int.toNat (wr ((wr (a1 * 2)) + a2))))), none, none, none]) (pc := 55) dX11_measure_55 (Nat.le_of_ble_eq_true rfl) rfl rfl ?_
        refine x_aload (pc := 57) dX11_measure_57 rfl ?_
        refine x_sipush (pc := 59) dX11_measure_59 (by decide) ⟨by decide, by decide⟩ ?_
        refine x_cv (vs := [vR (185 + (Int.toNat (wr ((wr (a1 * 2)) + a2)))), vI 1000]) (rest := []) (k := 2) rfl (by omega) (ax_caS (pc := 62) dX11_measure_62 kJ7_fill_53178 rfl rfl WM_X11_30 WT_J7_fill_53178 WN_J7 (Nat.le_of_ble_eq_true rfl)) kJ7_fill_53178 rfl True.intro (T_fill (n := 81) (axDi_ex hG (by omega)) (axDi_sh (by omega)) (by decide)) ?_
        refine x_aload_n (pc := 65) dX11_measure_65 rfl ?_
        refine x_bipush (pc := 66) dX11_measure_66 (by decide) ⟨by decide, by decide⟩ ?_
        refine x_putI (t := 9) (j := 5) (pc := 68) dX11_measure_68 (axEx hG rfl) rfl (by decide) (by decide) rfl rfl WF_X11_72 ?_
        refine x_aload_n (pc := 71) dX11_measure_71 rfl ?_
        refine x_bipush (pc := 72) dX11_measure_72 (by decide) ⟨by decide, by decide⟩ ?_
        refine x_putI (t := 9) (j := 6) (pc := 74) dX11_measure_74 (axEx hG rfl) rfl (by decide) (by decide) rfl rfl WF_X11_76 ?_
        refine x_iconst (pc := 77) dX11_measure_77 ⟨by decide, by decide⟩ ?_
        refine x_istore (ls' := [some (vR 183), some (vI a1), some (vI a2), some (vI (wr ((wr (a1 * 2)) + a2))), some (vR (185 + (Int.toNat (wr ((wr (a1 * 2)) + a2))))), some (vI 0), none, none]) (pc := 78) dX11_measure_78 (Nat.le_of_ble_eq_true rfl) rfl rfl ?_
        obtain ⟨t11, t12, hf⟩ := bd1_some hf
        refine x_fgt (axS' (axS' (axS' (axN' (axS' (axS' (axN' (axN' axD)))))))) (lp_ex (P := (fun s => ax_Ex G tX11_measure d 80 [some (vR 183), some (vI a1), some (vI a2), none, some (vR (185 + (Int.toNat (wr ((wr (a1 * 2)) + a2))))), some (vI s.1), none, none] [] s.2 _ _)) (K := (fun t => ax_Ex G tX11_measure d 122 [some (vR 183), some (vI a1), some (vI a2), none, some (vR (185 + (Int.toNat (wr ((wr (a1 * 2)) + a2))))), none, none, none] [] t _ _)) (fun s y hy h1 h2 => B_X11_measure_80 (by omega) hG (by omega) hy (fun s' e => h1 s' e) (fun t e => h2 t e)) _ _ _ t12 ?_)
        refine x_iconst (pc := 122) dX11_measure_122 ⟨by decide, by decide⟩ ?_
        refine x_istore (ls' := [some (vR 183), some (vI a1), some (vI a2), none, some (vR (185 + (Int.toNat (wr ((wr (a1 * 2)) + a2))))), some (vI 0), none, none]) (pc := 123) dX11_measure_123 (Nat.le_of_ble_eq_true rfl) rfl rfl ?_
        obtain ⟨t35, t36, hf⟩ := bd1_some hf
        refine lp_ex (P := (fun s => ax_Ex G tX11_measure d 125 [some (vR 183), some (vI a1), some (vI a2), none, some (vR (185 + (Int.toNat (wr ((wr (a1 * 2)) + a2))))), some (vI s.1), none, none] [] s.2 _ _)) (K := (fun t => ax_Ex G tX11_measure d 245 [some (vR 183), some (vI a1), some (vI a2), none, some (vR (185 + (Int.toNat (wr ((wr (a1 * 2)) + a2))))), none, none, none] [] t _ _)) (fun s y hy h1 h2 => B_X11_measure_125 (by omega) hG (by omega) hy (fun s' e => h1 s' e) (fun t e => h2 t e)) _ _ _ t36 ?_
        refine x_iload_n (pc := 245) dX11_measure_245 rfl ?_
        refine x_ifne (tgt := 273) (pc := 246) dX11_measure_246 rfl (fun h37 => ?_) (fun h37 => ?_)
        · replace hf := (if_neg h37).symm.trans hf
          cases hf
          exact x_retV (pc := 273) dX11_measure_273
        · replace hf := (if_pos h37).symm.trans hf
          refine x_iload_n (pc := 249) dX11_measure_249 rfl ?_
          refine ax_cmp1 (fun b39a b39b => ?_)
          refine x_iflt (tgt := 273) (pc := 250) dX11_measure_250 rfl (fun h38 => ?_) (fun h38 => ?_)
          · replace hf := (if_pos h38).symm.trans hf
            cases hf
            exact x_retV (pc := 273) dX11_measure_273
          · replace hf := (if_neg (Int.not_lt.mpr h38)).symm.trans hf
            refine x_iload_n (pc := 253) dX11_measure_253 rfl ?_
            refine x_aload_n (pc := 254) dX11_measure_254 rfl ?_
            refine x_getF (t := 9) (j := 3) (r := 190) (pc := 255) dX11_measure_255 (axH hG rfl) (axEx hG rfl) rfl (by decide) (by decide) rfl rfl WF_X11_20 ?_
            refine x_alen (t := 0) (n := 2) (pc := 258) dX11_measure_258 (axEx hG rfl) rfl (by decide) (by decide) ?_
            refine ax_cmp (fun b41a b41b b41c b41e => ?_)
            refine x_icmpge (tgt := 273) (pc := 259) dX11_measure_259 rfl (fun h40 => ?_) (fun h40 => ?_)
            · replace hf := (if_neg (Int.not_lt.mpr h40)).symm.trans hf
              cases hf
              exact x_retV (pc := 273) dX11_measure_273
            · replace hf := (if_pos h40).symm.trans hf
              refine x_aload_n (pc := 262) dX11_measure_262 rfl ?_
              refine x_getF (t := 9) (j := 3) (r := 190) (pc := 263) dX11_measure_263 (axH hG rfl) (axEx hG rfl) rfl (by decide) (by decide) rfl rfl WF_X11_20 ?_
              refine x_iload_n (pc := 266) dX11_measure_266 rfl ?_
              refine x_aload_n (pc := 267) dX11_measure_267 rfl ?_
              refine x_iload_n (pc := 268) dX11_measure_268 rfl ?_
              obtain ⟨v43, r42, hf⟩ := bd1_some hf
              refine x_cr (v := vI v43) (vs := [vR 183, vI a1]) (rest := [vI a1, vR 190]) (k := 2) rfl (by omega) (ax_caV (pc := 269) dX11_measure_269 kX11_fewestAtOtherShore rfl rfl WM_X11_90 WI_X11_fewestAtOtherShore WS_X11_fewestAtOtherShore WN_X11 (ax_rcO (t := 9) (axEx hG rfl) rfl (by decide)) (Nat.le_of_ble_eq_true rfl)) kX11_fewestAtOtherShore rfl True.intro (T_X11_fewestAtOtherShore (by omega) hG r42) ?_
              refine x_iast2 (n := 2) (pc := 272) dX11_measure_272 (axEx hG rfl) rfl (by omega) (by omega) ?_
              cases hf
              exact x_retV (pc := 273) dX11_measure_273
      · replace hf := (if_pos h5).symm.trans hf
        cases hf
        exact x_retV (pc := 35) dX11_measure_35
/- HexPond$Ways.look()V -/
def fX11_look_b2 (M : ax_M) (v1 : Int) : Option ((Int × ax_M) ⊕ ax_M) :=
  (if v1 < 2 then (bd1 (fX11_measure M 0 v1) fun M4 => (bd1 (fX11_measure M4 1 v1) fun M6 => (some (.inl ((v1 + 1), M6))))) else (some (.inr M)))
def fX11_look (M : ax_M) : Option ax_M :=
  (bd1 (lp (fun s => fX11_look_b2 s.2 s.1) lpN (0, M)) fun t7 => (some t7))
theorem B_X11_look_2 {G : ax_G} {d : Nat} (hd : 3 ≤ d) (hG : axPs G 150 244) {M : ax_M} {v1 : Int} {o : Option ax_V ⊕ String} {M' : ax_M} {y : (Int × ax_M) ⊕ ax_M} (hf : fX11_look_b2 M v1 = some y) (h1 : ∀ s', y = .inl s' → ax_Ex G tX11_look d 2 [some (vR 183), some (vI s'.1)] [] s'.2 o M') (h2a : ∀ t, y = .inr t → ax_Ex G tX11_look d 25 [some (vR 183), none] [] t o M') : ax_Ex G tX11_look d 2 [some (vR 183), some (vI v1)] [] M o M' := by
  unfold fX11_look_b2 at hf
  refine x_iload_n (pc := 2) dX11_look_2 rfl ?_
  refine x_iconst (pc := 3) dX11_look_3 ⟨by decide, by decide⟩ ?_
  refine ax_cmp (fun b2a b2b b2c b2e => ?_)
  refine x_icmpge (tgt := 25) (pc := 4) dX11_look_4 rfl (fun h1 => ?_) (fun h1 => ?_)
  · replace hf := (if_neg (Int.not_lt.mpr h1)).symm.trans hf
    cases hf
    exact x_fgt (axS' (axN' axD)) (h2a _ rfl)
  · replace hf := (if_pos h1).symm.trans hf
    refine x_aload_n (pc := 7) dX11_look_7 rfl ?_
    refine x_iconst (pc := 8) dX11_look_8 ⟨by decide, by decide⟩ ?_
    refine x_iload_n (pc := 9) dX11_look_9 rfl ?_
    obtain ⟨M4, r3, hf⟩ := bd1_some hf
    refine x_cv (vs := [vR 183, vI 0, vI v1]) (rest := []) (k := 5) rfl (by omega) (ax_caV (pc := 10) dX11_look_10 kX11_measure rfl rfl WM_X11_36 WI_X11_measure WS_X11_measure WN_X11 (ax_rcO (t := 9) (axEx hG rfl) rfl (by decide)) (Nat.le_of_ble_eq_true rfl)) kX11_measure rfl True.intro (T_X11_measure (by omega) hG r3) ?_
    refine x_aload_n (pc := 13) dX11_look_13 rfl ?_
    refine x_iconst (pc := 14) dX11_look_14 ⟨by decide, by decide⟩ ?_
    refine x_iload_n (pc := 15) dX11_look_15 rfl ?_
    obtain ⟨M6, r5, hf⟩ := bd1_some hf
    refine x_cv (vs := [vR 183, vI 1, vI v1]) (rest := []) (k := 5) rfl (by omega) (ax_caV (pc := 16) dX11_look_16 kX11_measure rfl rfl WM_X11_36 WI_X11_measure WS_X11_measure WN_X11 (ax_rcO (t := 9) (axEx hG rfl) rfl (by decide)) (Nat.le_of_ble_eq_true rfl)) kX11_measure rfl True.intro (T_X11_measure (by omega) hG r5) ?_
    refine x_iinc (z := (v1 + 1)) (ls' := [some (vR 183), some (vI (v1 + 1))]) (pc := 19) dX11_look_19 rfl (Nat.le_of_ble_eq_true rfl) rfl rfl (ax_i (by omega) (by omega)) rfl ?_
    refine x_goto (tgt := 2) (pc := 22) dX11_look_22 rfl ?_
    cases hf
    exact h1 _ rfl
theorem T_X11_look {G : ax_G} {d : Nat} (hd : 3 ≤ d) (hG : axPs G 150 244) {M : ax_M} {M1 : ax_M} (hf : fX11_look M = some M1) : ax_Ex G tX11_look d 0 (ax_args [vR 183] ++ List.replicate 1 none) [] M (.inl none) M1 := by
  show ax_Ex G tX11_look d 0 [some (vR 183), none] [] M _ _
  unfold fX11_look at hf
  refine x_iconst (pc := 0) dX11_look_0 ⟨by decide, by decide⟩ ?_
  refine x_istore_n (ls' := [some (vR 183), some (vI 0)]) (pc := 1) dX11_look_1 (Nat.le_of_ble_eq_true rfl) rfl rfl ?_
  obtain ⟨t7, t8, hf⟩ := bd1_some hf
  refine lp_ex (P := (fun s => ax_Ex G tX11_look d 2 [some (vR 183), some (vI s.1)] [] s.2 _ _)) (K := (fun t => ax_Ex G tX11_look d 25 [some (vR 183), none] [] t _ _)) (fun s y hy h1 h2 => B_X11_look_2 (by omega) hG hy (fun s' e => h1 s' e) (fun t e => h2 t e)) _ _ _ t8 ?_
  cases hf
  exact x_retV (pc := 25) dX11_look_25
/- HexPond$Ways.lookFromFirstShores()V -/
def fX11_lookFromFirstShores (M : ax_M) : Option ax_M :=
  (bd1 (fX11_measure M 0 0) fun M2 => (bd1 (fX11_measure M2 1 0) fun M4 => (some M4)))
theorem T_X11_lookFromFirstShores {G : ax_G} {d : Nat} (hd : 3 ≤ d) (hG : axPs G 150 244) {M : ax_M} {M1 : ax_M} (hf : fX11_lookFromFirstShores M = some M1) : ax_Ex G tX11_lookFromFirstShores d 0 (ax_args [vR 183] ++ List.replicate 0 none) [] M (.inl none) M1 := by
  show ax_Ex G tX11_lookFromFirstShores d 0 [some (vR 183)] [] M _ _
  unfold fX11_lookFromFirstShores at hf
  refine x_aload_n (pc := 0) dX11_lookFromFirstShores_0 rfl ?_
  refine x_iconst (pc := 1) dX11_lookFromFirstShores_1 ⟨by decide, by decide⟩ ?_
  refine x_iconst (pc := 2) dX11_lookFromFirstShores_2 ⟨by decide, by decide⟩ ?_
  obtain ⟨M2, r1, hf⟩ := bd1_some hf
  refine x_cv (vs := [vR 183, vI 0, vI 0]) (rest := []) (k := 5) rfl (by omega) (ax_caV (pc := 3) dX11_lookFromFirstShores_3 kX11_measure rfl rfl WM_X11_36 WI_X11_measure WS_X11_measure WN_X11 (ax_rcO (t := 9) (axEx hG rfl) rfl (by decide)) (Nat.le_of_ble_eq_true rfl)) kX11_measure rfl True.intro (T_X11_measure (by omega) hG r1) ?_
  refine x_aload_n (pc := 6) dX11_lookFromFirstShores_6 rfl ?_
  refine x_iconst (pc := 7) dX11_lookFromFirstShores_7 ⟨by decide, by decide⟩ ?_
  refine x_iconst (pc := 8) dX11_lookFromFirstShores_8 ⟨by decide, by decide⟩ ?_
  obtain ⟨M4, r3, hf⟩ := bd1_some hf
  refine x_cv (vs := [vR 183, vI 1, vI 0]) (rest := []) (k := 5) rfl (by omega) (ax_caV (pc := 9) dX11_lookFromFirstShores_9 kX11_measure rfl rfl WM_X11_36 WI_X11_measure WS_X11_measure WN_X11 (ax_rcO (t := 9) (axEx hG rfl) rfl (by decide)) (Nat.le_of_ble_eq_true rfl)) kX11_measure rfl True.intro (T_X11_measure (by omega) hG r3) ?_
  cases hf
  exact x_retV (pc := 12) dX11_lookFromFirstShores_12
/- HexPond$Ways.needed(I)I -/
def fX11_needed (M : ax_M) (a1 : Int) : Int :=
  (if a1 < 0 then (99) else (if a1 < 2 then ((mI M 190 (Int.toNat a1))) else (99)))
theorem T_X11_needed {G : ax_G} {d : Nat} (hd : 0 ≤ d) (hG : axPs G 150 244) {M : ax_M} {a1 : Int} {r : Int} (hf : fX11_needed M a1 = r) : ax_Ex G tX11_needed d 0 (ax_args [vR 183, vI a1] ++ List.replicate 0 none) [] M (.inl (some (vI r))) M := by
  show ax_Ex G tX11_needed d 0 [some (vR 183), some (vI a1)] [] M _ _
  unfold fX11_needed at hf
  refine x_iload_n (pc := 0) dX11_needed_0 rfl ?_
  refine ax_cmp1 (fun b2a b2b => ?_)
  refine x_iflt (tgt := 22) (pc := 1) dX11_needed_1 rfl (fun h1 => ?_) (fun h1 => ?_)
  · replace hf := (if_pos h1).symm.trans hf
    refine x_bipush (pc := 22) dX11_needed_22 (by decide) ⟨by decide, by decide⟩ ?_
    subst hf
    exact x_retI (pc := 24) dX11_needed_24
  · replace hf := (if_neg (Int.not_lt.mpr h1)).symm.trans hf
    refine x_iload_n (pc := 4) dX11_needed_4 rfl ?_
    refine x_aload_n (pc := 5) dX11_needed_5 rfl ?_
    refine x_getF (t := 9) (j := 3) (r := 190) (pc := 6) dX11_needed_6 (axH hG rfl) (axEx hG rfl) rfl (by decide) (by decide) rfl rfl WF_X11_20 ?_
    refine x_alen (t := 0) (n := 2) (pc := 9) dX11_needed_9 (axEx hG rfl) rfl (by decide) (by decide) ?_
    refine ax_cmp (fun b4a b4b b4c b4e => ?_)
    refine x_icmpge (tgt := 22) (pc := 10) dX11_needed_10 rfl (fun h3 => ?_) (fun h3 => ?_)
    · replace hf := (if_neg (Int.not_lt.mpr h3)).symm.trans hf
      refine x_bipush (pc := 22) dX11_needed_22 (by decide) ⟨by decide, by decide⟩ ?_
      subst hf
      exact x_retI (pc := 24) dX11_needed_24
    · replace hf := (if_pos h3).symm.trans hf
      refine x_aload_n (pc := 13) dX11_needed_13 rfl ?_
      refine x_getF (t := 9) (j := 3) (r := 190) (pc := 14) dX11_needed_14 (axH hG rfl) (axEx hG rfl) rfl (by decide) (by decide) rfl rfl WF_X11_20 ?_
      refine x_iload_n (pc := 17) dX11_needed_17 rfl ?_
      refine x_iald2 (n := 2) (pc := 18) dX11_needed_18 (axEx hG rfl) rfl (by omega) (by omega) ?_
      refine x_goto (tgt := 24) (pc := 19) dX11_needed_19 rfl ?_
      subst hf
      exact x_retI (pc := 24) dX11_needed_24
/- HexPond$Ways.through(II)I -/
def fX11_through (M : ax_M) (a1 : Int) (a2 : Int) : Int :=
  (if (fX11_distance M a1 0 a2) = 1000 then ((-1)) else (if (fX11_distance M a1 1 a2) = 1000 then ((-1)) else (if (fX8_ownerAt M a2) = 0 then ((wr ((wr ((fX11_distance M a1 0 a2) + (fX11_distance M a1 1 a2))) - 1))) else ((wr ((wr ((fX11_distance M a1 0 a2) + (fX11_distance M a1 1 a2))) - 0))))))
theorem T_X11_through {G : ax_G} {d : Nat} (hd : 1 ≤ d) (hG : axPs G 150 244) {M : ax_M} {a1 : Int} {a2 : Int} {r : Int} (hf : fX11_through M a1 a2 = r) : ax_Ex G tX11_through d 0 (ax_args [vR 183, vI a1, vI a2] ++ List.replicate 2 none) [] M (.inl (some (vI r))) M := by
  show ax_Ex G tX11_through d 0 [some (vR 183), some (vI a1), some (vI a2), none, none] [] M _ _
  unfold fX11_through at hf
  refine x_aload_n (pc := 0) dX11_through_0 rfl ?_
  refine x_iload_n (pc := 1) dX11_through_1 rfl ?_
  refine x_iconst (pc := 2) dX11_through_2 ⟨by decide, by decide⟩ ?_
  refine x_iload_n (pc := 3) dX11_through_3 rfl ?_
  refine x_cr (v := vI (fX11_distance M a1 0 a2)) (vs := [vR 183, vI a1, vI 0, vI a2]) (rest := []) (k := 2) rfl (by omega) (ax_caV (pc := 4) dX11_through_4 kX11_distance rfl rfl WM_X11_40 WI_X11_distance WS_X11_distance WN_X11 (ax_rcO (t := 9) (axEx hG rfl) rfl (by decide)) (Nat.le_of_ble_eq_true rfl)) kX11_distance rfl True.intro (T_X11_distance (by omega) hG rfl) ?_
  refine x_istore_n (ls' := [some (vR 183), some (vI a1), some (vI a2), some (vI (fX11_distance M a1 0 a2)), none]) (pc := 7) dX11_through_7 (Nat.le_of_ble_eq_true rfl) rfl rfl ?_
  refine x_aload_n (pc := 8) dX11_through_8 rfl ?_
  refine x_iload_n (pc := 9) dX11_through_9 rfl ?_
  refine x_iconst (pc := 10) dX11_through_10 ⟨by decide, by decide⟩ ?_
  refine x_iload_n (pc := 11) dX11_through_11 rfl ?_
  refine x_cr (v := vI (fX11_distance M a1 1 a2)) (vs := [vR 183, vI a1, vI 1, vI a2]) (rest := []) (k := 2) rfl (by omega) (ax_caV (pc := 12) dX11_through_12 kX11_distance rfl rfl WM_X11_40 WI_X11_distance WS_X11_distance WN_X11 (ax_rcO (t := 9) (axEx hG rfl) rfl (by decide)) (Nat.le_of_ble_eq_true rfl)) kX11_distance rfl True.intro (T_X11_distance (by omega) hG rfl) ?_
  refine x_istore (ls' := [some (vR 183), some (vI a1), some (vI a2), some (vI (fX11_distance M a1 0 a2)), some (vI (fX11_distance M a1 1 a2))]) (pc := 15) dX11_through_15 (Nat.le_of_ble_eq_true rfl) rfl rfl ?_
  refine x_iload_n (pc := 17) dX11_through_17 rfl ?_
  refine x_sipush (pc := 18) dX11_through_18 (by decide) ⟨by decide, by decide⟩ ?_
  refine x_icmpeq (tgt := 32) (pc := 21) dX11_through_21 rfl (fun h1 => ?_) (fun h1 => ?_)
  · replace hf := (if_pos h1).symm.trans hf
    refine x_iconst (pc := 32) dX11_through_32 ⟨by decide, by decide⟩ ?_
    subst hf
    exact x_retI (pc := 33) dX11_through_33
  · replace hf := (if_neg h1).symm.trans hf
    refine x_iload (pc := 24) dX11_through_24 rfl ?_
    refine x_sipush (pc := 26) dX11_through_26 (by decide) ⟨by decide, by decide⟩ ?_
    refine x_icmpne (tgt := 34) (pc := 29) dX11_through_29 rfl (fun h2 => ?_) (fun h2 => ?_)
    · replace hf := (if_neg h2).symm.trans hf
      refine x_iload_n (pc := 34) dX11_through_34 rfl ?_
      refine x_iload (pc := 35) dX11_through_35 rfl ?_
      refine x_iaddw (pc := 37) dX11_through_37 ?_
      refine x_aload_n (pc := 38) dX11_through_38 rfl ?_
      refine x_getF (t := 9) (j := 0) (r := 169) (pc := 39) dX11_through_39 (axH hG rfl) (axEx hG rfl) rfl (by decide) (by decide) rfl rfl WF_X11_26 ?_
      refine x_iload_n (pc := 42) dX11_through_42 rfl ?_
      refine x_cr (v := vI (fX8_ownerAt M a2)) (vs := [vR 169, vI a2]) (rest := [vI (wr ((fX11_distance M a1 0 a2) + (fX11_distance M a1 1 a2)))]) (k := 0) rfl (by omega) (ax_caV (pc := 43) dX11_through_43 kX8_ownerAt rfl rfl WM_X11_44 WI_X8_ownerAt WS_X8_ownerAt WN_X8 (ax_rcO (t := 6) (axEx hG rfl) rfl (by decide)) (Nat.le_of_ble_eq_true rfl)) kX8_ownerAt rfl True.intro (T_X8_ownerAt (by omega) (axPs.sub hG (Nat.le_of_ble_eq_true rfl) (Nat.le_of_ble_eq_true rfl)) rfl) ?_
      refine x_ifne (tgt := 53) (pc := 46) dX11_through_46 rfl (fun h3 => ?_) (fun h3 => ?_)
      · replace hf := (if_neg h3).symm.trans hf
        refine x_iconst (pc := 53) dX11_through_53 ⟨by decide, by decide⟩ ?_
        refine x_isubw (pc := 54) dX11_through_54 ?_
        subst hf
        exact x_retI (pc := 55) dX11_through_55
      · replace hf := (if_pos h3).symm.trans hf
        refine x_iconst (pc := 49) dX11_through_49 ⟨by decide, by decide⟩ ?_
        refine x_goto (tgt := 54) (pc := 50) dX11_through_50 rfl ?_
        refine x_isubw (pc := 54) dX11_through_54 ?_
        subst hf
        exact x_retI (pc := 55) dX11_through_55
    · replace hf := (if_pos h2).symm.trans hf
      refine x_iconst (pc := 32) dX11_through_32 ⟨by decide, by decide⟩ ?_
      subst hf
      exact x_retI (pc := 33) dX11_through_33
/- HexPond$Ways.wins(II)Z -/
def fX11_wins (M : ax_M) (a1 : Int) (a2 : Int) : Int :=
  (if (fX8_hasCell M a2) = 0 then (0) else (if (fX8_ownerAt M a2) = 0 then (if (fX11_through M a1 a2) = 1 then (1) else (if (fX11_needed M a1) = 0 then (1) else (0))) else (0)))
theorem T_X11_wins {G : ax_G} {d : Nat} (hd : 2 ≤ d) (hG : axPs G 150 244) {M : ax_M} {a1 : Int} {a2 : Int} {r : Int} (hf : fX11_wins M a1 a2 = r) : ax_Ex G tX11_wins d 0 (ax_args [vR 183, vI a1, vI a2] ++ List.replicate 1 none) [] M (.inl (some (vI r))) M := by
  show ax_Ex G tX11_wins d 0 [some (vR 183), some (vI a1), some (vI a2), none] [] M _ _
  unfold fX11_wins at hf
  refine x_aload_n (pc := 0) dX11_wins_0 rfl ?_
  refine x_getF (t := 9) (j := 0) (r := 169) (pc := 1) dX11_wins_1 (axH hG rfl) (axEx hG rfl) rfl (by decide) (by decide) rfl rfl WF_X11_26 ?_
  refine x_iload_n (pc := 4) dX11_wins_4 rfl ?_
  refine x_cr (v := vI (fX8_hasCell M a2)) (vs := [vR 169, vI a2]) (rest := []) (k := 0) rfl (by omega) (ax_caV (pc := 5) dX11_wins_5 kX8_hasCell rfl rfl WM_X11_50 WI_X8_hasCell WS_X8_hasCell WN_X8 (ax_rcO (t := 6) (axEx hG rfl) rfl (by decide)) (Nat.le_of_ble_eq_true rfl)) kX8_hasCell rfl (Z_X8_hasCell rfl) (T_X8_hasCell (by omega) (axPs.sub hG (Nat.le_of_ble_eq_true rfl) (Nat.le_of_ble_eq_true rfl)) rfl) ?_
  refine x_ifeq (tgt := 26) (pc := 8) dX11_wins_8 rfl (fun h1 => ?_) (fun h1 => ?_)
  · replace hf := (if_pos h1).symm.trans hf
    refine x_iconst (pc := 26) dX11_wins_26 ⟨by decide, by decide⟩ ?_
    refine x_istore_n (ls' := [some (vR 183), some (vI a1), some (vI a2), some (vI 0)]) (pc := 27) dX11_wins_27 (Nat.le_of_ble_eq_true rfl) rfl rfl ?_
    refine x_iload_n (pc := 28) dX11_wins_28 rfl ?_
    refine x_ifeq (tgt := 54) (pc := 29) dX11_wins_29 rfl (fun h2 => ?_) (fun h2 => absurd h2 (by omega))
    refine x_iconst (pc := 54) dX11_wins_54 ⟨by decide, by decide⟩ ?_
    subst hf
    exact x_retI (pc := 55) dX11_wins_55
  · replace hf := (if_neg h1).symm.trans hf
    refine x_aload_n (pc := 11) dX11_wins_11 rfl ?_
    refine x_getF (t := 9) (j := 0) (r := 169) (pc := 12) dX11_wins_12 (axH hG rfl) (axEx hG rfl) rfl (by decide) (by decide) rfl rfl WF_X11_26 ?_
    refine x_iload_n (pc := 15) dX11_wins_15 rfl ?_
    refine x_cr (v := vI (fX8_ownerAt M a2)) (vs := [vR 169, vI a2]) (rest := []) (k := 0) rfl (by omega) (ax_caV (pc := 16) dX11_wins_16 kX8_ownerAt rfl rfl WM_X11_44 WI_X8_ownerAt WS_X8_ownerAt WN_X8 (ax_rcO (t := 6) (axEx hG rfl) rfl (by decide)) (Nat.le_of_ble_eq_true rfl)) kX8_ownerAt rfl True.intro (T_X8_ownerAt (by omega) (axPs.sub hG (Nat.le_of_ble_eq_true rfl) (Nat.le_of_ble_eq_true rfl)) rfl) ?_
    refine x_ifne (tgt := 26) (pc := 19) dX11_wins_19 rfl (fun h3 => ?_) (fun h3 => ?_)
    · replace hf := (if_neg h3).symm.trans hf
      refine x_iconst (pc := 26) dX11_wins_26 ⟨by decide, by decide⟩ ?_
      refine x_istore_n (ls' := [some (vR 183), some (vI a1), some (vI a2), some (vI 0)]) (pc := 27) dX11_wins_27 (Nat.le_of_ble_eq_true rfl) rfl rfl ?_
      refine x_iload_n (pc := 28) dX11_wins_28 rfl ?_
      refine x_ifeq (tgt := 54) (pc := 29) dX11_wins_29 rfl (fun h7 => ?_) (fun h7 => absurd h7 (by omega))
      refine x_iconst (pc := 54) dX11_wins_54 ⟨by decide, by decide⟩ ?_
      subst hf
      exact x_retI (pc := 55) dX11_wins_55
    · replace hf := (if_pos h3).symm.trans hf
      refine x_iconst (pc := 22) dX11_wins_22 ⟨by decide, by decide⟩ ?_
      refine x_goto (tgt := 27) (pc := 23) dX11_wins_23 rfl ?_
      refine x_istore_n (ls' := [some (vR 183), some (vI a1), some (vI a2), some (vI 1)]) (pc := 27) dX11_wins_27 (Nat.le_of_ble_eq_true rfl) rfl rfl ?_
      refine x_iload_n (pc := 28) dX11_wins_28 rfl ?_
      refine x_ifeq (tgt := 54) (pc := 29) dX11_wins_29 rfl (fun h4 => absurd h4 (by omega)) (fun h4 => ?_)
      refine x_aload_n (pc := 32) dX11_wins_32 rfl ?_
      refine x_iload_n (pc := 33) dX11_wins_33 rfl ?_
      refine x_iload_n (pc := 34) dX11_wins_34 rfl ?_
      refine x_cr (v := vI (fX11_through M a1 a2)) (vs := [vR 183, vI a1, vI a2]) (rest := []) (k := 2) rfl (by omega) (ax_caV (pc := 35) dX11_wins_35 kX11_through rfl rfl WM_X11_54 WI_X11_through WS_X11_through WN_X11 (ax_rcO (t := 9) (axEx hG rfl) rfl (by decide)) (Nat.le_of_ble_eq_true rfl)) kX11_through rfl True.intro (T_X11_through (by omega) hG rfl) ?_
      refine x_iconst (pc := 38) dX11_wins_38 ⟨by decide, by decide⟩ ?_
      refine x_icmpeq (tgt := 50) (pc := 39) dX11_wins_39 rfl (fun h5 => ?_) (fun h5 => ?_)
      · replace hf := (if_pos h5).symm.trans hf
        refine x_iconst (pc := 50) dX11_wins_50 ⟨by decide, by decide⟩ ?_
        refine x_goto (tgt := 55) (pc := 51) dX11_wins_51 rfl ?_
        subst hf
        exact x_retI (pc := 55) dX11_wins_55
      · replace hf := (if_neg h5).symm.trans hf
        refine x_aload_n (pc := 42) dX11_wins_42 rfl ?_
        refine x_iload_n (pc := 43) dX11_wins_43 rfl ?_
        refine x_cr (v := vI (fX11_needed M a1)) (vs := [vR 183, vI a1]) (rest := []) (k := 0) rfl (by omega) (ax_caV (pc := 44) dX11_wins_44 kX11_needed rfl rfl WM_X11_58 WI_X11_needed WS_X11_needed WN_X11 (ax_rcO (t := 9) (axEx hG rfl) rfl (by decide)) (Nat.le_of_ble_eq_true rfl)) kX11_needed rfl True.intro (T_X11_needed (by omega) hG rfl) ?_
        refine x_ifne (tgt := 54) (pc := 47) dX11_wins_47 rfl (fun h6 => ?_) (fun h6 => ?_)
        · replace hf := (if_neg h6).symm.trans hf
          refine x_iconst (pc := 54) dX11_wins_54 ⟨by decide, by decide⟩ ?_
          subst hf
          exact x_retI (pc := 55) dX11_wins_55
        · replace hf := (if_pos h6).symm.trans hf
          refine x_iconst (pc := 50) dX11_wins_50 ⟨by decide, by decide⟩ ?_
          refine x_goto (tgt := 55) (pc := 51) dX11_wins_51 rfl ?_
          subst hf
          exact x_retI (pc := 55) dX11_wins_55
theorem Z_X11_wins {M : ax_M} {a1 : Int} {a2 : Int} {r : Int} (hf : fX11_wins M a1 a2 = r) : r = 0 ∨ r = 1 := by
  unfold fX11_wins at hf
  by_cases h1 : (fX8_hasCell M a2) = 0
  · replace hf := (if_pos h1).symm.trans hf
    subst hf
    exact Or.inl rfl
  · replace hf := (if_neg h1).symm.trans hf
    by_cases h3 : (fX8_ownerAt M a2) = 0
    · replace hf := (if_pos h3).symm.trans hf
      by_cases h5 : (fX11_through M a1 a2) = 1
      · replace hf := (if_pos h5).symm.trans hf
        subst hf
        exact Or.inr rfl
      · replace hf := (if_neg h5).symm.trans hf
        by_cases h6 : (fX11_needed M a1) = 0
        · replace hf := (if_pos h6).symm.trans hf
          subst hf
          exact Or.inr rfl
        · replace hf := (if_neg h6).symm.trans hf
          subst hf
          exact Or.inl rfl
    · replace hf := (if_neg h3).symm.trans hf
      subst hf
      exact Or.inl rfl
/- HexPond$Ways.winningCells(I)I -/
def fX11_winningCells_b4 (M : ax_M) (x1 : Int) (v2 : Int) (v3 : Int) : Option ((Int × Int) ⊕ Int) :=
  (if v3 < (fX8_cells M) then (if (fX11_wins M x1 v3) = 0 then (some (.inl (v2, (v3 + 1)))) else (some (.inl ((wr (v2 + 1)), (v3 + 1))))) else (some (.inr v2)))
def fX11_winningCells (M : ax_M) (a1 : Int) : Option Int :=
  (bd1 (lp (fun s => fX11_winningCells_b4 M a1 s.1 s.2) lpN (0, 0)) fun t4 => (some t4))
theorem B_X11_winningCells_4 {G : ax_G} {d : Nat} (hd : 3 ≤ d) (hG : axPs G 150 244) {M : ax_M} {x1 : Int} {v2 : Int} {v3 : Int} {o : Option ax_V ⊕ String} {M' : ax_M} {y : (Int × Int) ⊕ Int} (hf : fX11_winningCells_b4 M x1 v2 v3 = some y) (h1 : ∀ s', y = .inl s' → ax_Ex G tX11_winningCells d 4 [some (vR 183), some (vI x1), some (vI s'.1), some (vI s'.2)] [] M o M') (h2a : ∀ t, y = .inr t → ax_Ex G tX11_winningCells d 33 [some (vR 183), some (vI x1), some (vI t), none] [] M o M') : ax_Ex G tX11_winningCells d 4 [some (vR 183), some (vI x1), some (vI v2), some (vI v3)] [] M o M' := by
  unfold fX11_winningCells_b4 at hf
  refine x_iload_n (pc := 4) dX11_winningCells_4 rfl ?_
  refine x_aload_n (pc := 5) dX11_winningCells_5 rfl ?_
  refine x_getF (t := 9) (j := 0) (r := 169) (pc := 6) dX11_winningCells_6 (axH hG rfl) (axEx hG rfl) rfl (by decide) (by decide) rfl rfl WF_X11_26 ?_
  refine x_cr (v := vI (fX8_cells M)) (vs := [vR 169]) (rest := [vI v3]) (k := 0) rfl (by omega) (ax_caV (pc := 9) dX11_winningCells_9 kX8_cells rfl rfl WM_X11_61 WI_X8_cells WS_X8_cells WN_X8 (ax_rcO (t := 6) (axEx hG rfl) rfl (by decide)) (Nat.le_of_ble_eq_true rfl)) kX8_cells rfl True.intro (T_X8_cells (by omega) (axPs.sub hG (Nat.le_of_ble_eq_true rfl) (Nat.le_of_ble_eq_true rfl)) rfl) ?_
  refine ax_cmp (fun b2a b2b b2c b2e => ?_)
  refine x_icmpge (tgt := 33) (pc := 12) dX11_winningCells_12 rfl (fun h1 => ?_) (fun h1 => ?_)
  · replace hf := (if_neg (Int.not_lt.mpr h1)).symm.trans hf
    cases hf
    exact x_fgt (axS' (axS' (axS' (axN' axD)))) (h2a _ rfl)
  · replace hf := (if_pos h1).symm.trans hf
    refine x_aload_n (pc := 15) dX11_winningCells_15 rfl ?_
    refine x_iload_n (pc := 16) dX11_winningCells_16 rfl ?_
    refine x_iload_n (pc := 17) dX11_winningCells_17 rfl ?_
    refine x_cr (v := vI (fX11_wins M x1 v3)) (vs := [vR 183, vI x1, vI v3]) (rest := []) (k := 1) rfl (by omega) (ax_caV (pc := 18) dX11_winningCells_18 kX11_wins rfl rfl WM_X11_65 WI_X11_wins WS_X11_wins WN_X11 (ax_rcO (t := 9) (axEx hG rfl) rfl (by decide)) (Nat.le_of_ble_eq_true rfl)) kX11_wins rfl (Z_X11_wins rfl) (T_X11_wins (by omega) hG rfl) ?_
    refine x_ifeq (tgt := 27) (pc := 21) dX11_winningCells_21 rfl (fun h3 => ?_) (fun h3 => ?_)
    · replace hf := (if_pos h3).symm.trans hf
      refine x_iinc (z := (v3 + 1)) (ls' := [some (vR 183), some (vI x1), some (vI v2), some (vI (v3 + 1))]) (pc := 27) dX11_winningCells_27 rfl (Nat.le_of_ble_eq_true rfl) rfl rfl (ax_i (by omega) (by omega)) rfl ?_
      refine x_goto (tgt := 4) (pc := 30) dX11_winningCells_30 rfl ?_
      cases hf
      exact h1 _ rfl
    · replace hf := (if_neg h3).symm.trans hf
      refine x_iincw (ls' := [some (vR 183), some (vI x1), some (vI (wr (v2 + 1))), some (vI v3)]) (pc := 24) dX11_winningCells_24 rfl (Nat.le_of_ble_eq_true rfl) rfl rfl ?_
      refine x_iinc (z := (v3 + 1)) (ls' := [some (vR 183), some (vI x1), some (vI (wr (v2 + 1))), some (vI (v3 + 1))]) (pc := 27) dX11_winningCells_27 rfl (Nat.le_of_ble_eq_true rfl) rfl rfl (ax_i (by omega) (by omega)) rfl ?_
      refine x_goto (tgt := 4) (pc := 30) dX11_winningCells_30 rfl ?_
      cases hf
      exact h1 _ rfl
theorem T_X11_winningCells {G : ax_G} {d : Nat} (hd : 3 ≤ d) (hG : axPs G 150 244) {M : ax_M} {a1 : Int} {r : Int} (hf : fX11_winningCells M a1 = some r) : ax_Ex G tX11_winningCells d 0 (ax_args [vR 183, vI a1] ++ List.replicate 2 none) [] M (.inl (some (vI r))) M := by
  show ax_Ex G tX11_winningCells d 0 [some (vR 183), some (vI a1), none, none] [] M _ _
  unfold fX11_winningCells at hf
  refine x_iconst (pc := 0) dX11_winningCells_0 ⟨by decide, by decide⟩ ?_
  refine x_istore_n (ls' := [some (vR 183), some (vI a1), some (vI 0), none]) (pc := 1) dX11_winningCells_1 (Nat.le_of_ble_eq_true rfl) rfl rfl ?_
  refine x_iconst (pc := 2) dX11_winningCells_2 ⟨by decide, by decide⟩ ?_
  refine x_istore_n (ls' := [some (vR 183), some (vI a1), some (vI 0), some (vI 0)]) (pc := 3) dX11_winningCells_3 (Nat.le_of_ble_eq_true rfl) rfl rfl ?_
  obtain ⟨t4, t5, hf⟩ := bd1_some hf
  refine lp_ex (P := (fun s => ax_Ex G tX11_winningCells d 4 [some (vR 183), some (vI a1), some (vI s.1), some (vI s.2)] [] M _ _)) (K := (fun t => ax_Ex G tX11_winningCells d 33 [some (vR 183), some (vI a1), some (vI t), none] [] M _ _)) (fun s y hy h1 h2 => B_X11_winningCells_4 (by omega) hG hy (fun s' e => h1 s' e) (fun t e => h2 t e)) _ _ _ t5 ?_
  refine x_iload_n (pc := 33) dX11_winningCells_33 rfl ?_
  cases hf
  exact x_retI (pc := 34) dX11_winningCells_34
/- HexPond$Ways.firstWinning(I)I -/
def fX11_firstWinning_b2 (M : ax_M) (x1 : Int) (v2 : Int) : Option (Int ⊕ (Int ⊕ Unit)) :=
  (if v2 < (fX8_cells M) then (if (fX11_wins M x1 v2) = 0 then (some (.inl (v2 + 1))) else (some (.inr (.inl v2)))) else (some (.inr (.inr ()))))
def fX11_firstWinning (M : ax_M) (a1 : Int) : Option Int :=
  (bdS (lp (fun s => fX11_firstWinning_b2 M a1 s) lpN 0) (fun t4 => (some t4)) (fun t6 => (some (-1))))
theorem B_X11_firstWinning_2 {G : ax_G} {d : Nat} (hd : 3 ≤ d) (hG : axPs G 150 244) {M : ax_M} {x1 : Int} {v2 : Int} {o : Option ax_V ⊕ String} {M' : ax_M} {y : Int ⊕ (Int ⊕ Unit)} (hf : fX11_firstWinning_b2 M x1 v2 = some y) (h1 : ∀ s', y = .inl s' → ax_Ex G tX11_firstWinning d 2 [some (vR 183), some (vI x1), some (vI s')] [] M o M') (h2a : ∀ t, y = .inr (.inl t) → ax_Ex G tX11_firstWinning d 22 [some (vR 183), some (vI x1), some (vI t)] [] M o M') (h2b : ∀ t, y = .inr (.inr t) → ax_Ex G tX11_firstWinning d 30 [some (vR 183), some (vI x1), none] [] M o M') : ax_Ex G tX11_firstWinning d 2 [some (vR 183), some (vI x1), some (vI v2)] [] M o M' := by
  unfold fX11_firstWinning_b2 at hf
  refine x_iload_n (pc := 2) dX11_firstWinning_2 rfl ?_
  refine x_aload_n (pc := 3) dX11_firstWinning_3 rfl ?_
  refine x_getF (t := 9) (j := 0) (r := 169) (pc := 4) dX11_firstWinning_4 (axH hG rfl) (axEx hG rfl) rfl (by decide) (by decide) rfl rfl WF_X11_26 ?_
  refine x_cr (v := vI (fX8_cells M)) (vs := [vR 169]) (rest := [vI v2]) (k := 0) rfl (by omega) (ax_caV (pc := 7) dX11_firstWinning_7 kX8_cells rfl rfl WM_X11_61 WI_X8_cells WS_X8_cells WN_X8 (ax_rcO (t := 6) (axEx hG rfl) rfl (by decide)) (Nat.le_of_ble_eq_true rfl)) kX8_cells rfl True.intro (T_X8_cells (by omega) (axPs.sub hG (Nat.le_of_ble_eq_true rfl) (Nat.le_of_ble_eq_true rfl)) rfl) ?_
  refine ax_cmp (fun b2a b2b b2c b2e => ?_)
  refine x_icmpge (tgt := 30) (pc := 10) dX11_firstWinning_10 rfl (fun h1 => ?_) (fun h1 => ?_)
  · replace hf := (if_neg (Int.not_lt.mpr h1)).symm.trans hf
    cases hf
    exact x_fgt (axS' (axS' (axN' axD))) (h2b _ rfl)
  · replace hf := (if_pos h1).symm.trans hf
    refine x_aload_n (pc := 13) dX11_firstWinning_13 rfl ?_
    refine x_iload_n (pc := 14) dX11_firstWinning_14 rfl ?_
    refine x_iload_n (pc := 15) dX11_firstWinning_15 rfl ?_
    refine x_cr (v := vI (fX11_wins M x1 v2)) (vs := [vR 183, vI x1, vI v2]) (rest := []) (k := 1) rfl (by omega) (ax_caV (pc := 16) dX11_firstWinning_16 kX11_wins rfl rfl WM_X11_65 WI_X11_wins WS_X11_wins WN_X11 (ax_rcO (t := 9) (axEx hG rfl) rfl (by decide)) (Nat.le_of_ble_eq_true rfl)) kX11_wins rfl (Z_X11_wins rfl) (T_X11_wins (by omega) hG rfl) ?_
    refine x_ifeq (tgt := 24) (pc := 19) dX11_firstWinning_19 rfl (fun h3 => ?_) (fun h3 => ?_)
    · replace hf := (if_pos h3).symm.trans hf
      refine x_iinc (z := (v2 + 1)) (ls' := [some (vR 183), some (vI x1), some (vI (v2 + 1))]) (pc := 24) dX11_firstWinning_24 rfl (Nat.le_of_ble_eq_true rfl) rfl rfl (ax_i (by omega) (by omega)) rfl ?_
      refine x_goto (tgt := 2) (pc := 27) dX11_firstWinning_27 rfl ?_
      cases hf
      exact h1 _ rfl
    · replace hf := (if_neg h3).symm.trans hf
      cases hf
      exact h2a _ rfl
theorem T_X11_firstWinning {G : ax_G} {d : Nat} (hd : 3 ≤ d) (hG : axPs G 150 244) {M : ax_M} {a1 : Int} {r : Int} (hf : fX11_firstWinning M a1 = some r) : ax_Ex G tX11_firstWinning d 0 (ax_args [vR 183, vI a1] ++ List.replicate 1 none) [] M (.inl (some (vI r))) M := by
  show ax_Ex G tX11_firstWinning d 0 [some (vR 183), some (vI a1), none] [] M _ _
  unfold fX11_firstWinning at hf
  refine x_iconst (pc := 0) dX11_firstWinning_0 ⟨by decide, by decide⟩ ?_
  refine x_istore_n (ls' := [some (vR 183), some (vI a1), some (vI 0)]) (pc := 1) dX11_firstWinning_1 (Nat.le_of_ble_eq_true rfl) rfl rfl ?_
  rcases bdS_some hf with ⟨t4, t5, hf⟩ | ⟨t6, t7, hf⟩
  · refine lp_ex (P := (fun s => ax_Ex G tX11_firstWinning d 2 [some (vR 183), some (vI a1), some (vI s)] [] M _ _)) (K := (fun r => (∀ t, r = .inl t → ax_Ex G tX11_firstWinning d 22 [some (vR 183), some (vI a1), some (vI t)] [] M _ _) ∧ (∀ t, r = .inr t → ax_Ex G tX11_firstWinning d 30 [some (vR 183), some (vI a1), none] [] M _ _))) (fun s y hy h1 h2 => B_X11_firstWinning_2 (by omega) hG hy (fun s' e => h1 s' e) (fun t e => (h2 _ e).1 t rfl) (fun t e => (h2 _ e).2 t rfl)) _ _ _ t5 ?_
    refine ⟨fun t e => ?_, fun t e => (by cases e)⟩
    cases e
    refine x_iload_n (pc := 22) dX11_firstWinning_22 rfl ?_
    cases hf
    exact x_retI (pc := 23) dX11_firstWinning_23
  · refine lp_ex (P := (fun s => ax_Ex G tX11_firstWinning d 2 [some (vR 183), some (vI a1), some (vI s)] [] M _ _)) (K := (fun r => (∀ t, r = .inl t → ax_Ex G tX11_firstWinning d 22 [some (vR 183), some (vI a1), some (vI t)] [] M _ _) ∧ (∀ t, r = .inr t → ax_Ex G tX11_firstWinning d 30 [some (vR 183), some (vI a1), none] [] M _ _))) (fun s y hy h1 h2 => B_X11_firstWinning_2 (by omega) hG hy (fun s' e => h1 s' e) (fun t e => (h2 _ e).1 t rfl) (fun t e => (h2 _ e).2 t rfl)) _ _ _ t7 ?_
    refine ⟨fun t e => (by cases e), fun t e => ?_⟩
    cases e
    refine x_iconst (pc := 30) dX11_firstWinning_30 ⟨by decide, by decide⟩ ?_
    cases hf
    exact x_retI (pc := 31) dX11_firstWinning_31
/- HexPond$Ways.nearest(I)I -/
def fX11_nearest_b9 (M : ax_M) (x1 : Int) (v2 : Int) (v3 : Int) (v4 : Int) : Option ((Int × Int × Int) ⊕ Int) :=
  (if v4 < (fX8_cells M) then (if (fX8_ownerAt M v4) = 0 then (if (fX11_through M x1 v4) = (-1) then (some (.inl (v2, v3, (v4 + 1)))) else (if (fX11_through M x1 v4) < v3 then (some (.inl (v4, (fX11_through M x1 v4), (v4 + 1)))) else (some (.inl (v2, v3, (v4 + 1)))))) else (some (.inl (v2, v3, (v4 + 1))))) else (some (.inr v2)))
def fX11_nearest (M : ax_M) (a1 : Int) : Option Int :=
  (bd1 (lp (fun s => fX11_nearest_b9 M a1 s.1 s.2.1 s.2.2) lpN ((-1), 1000, 0)) fun t8 => (some t8))
theorem B_X11_nearest_9 {G : ax_G} {d : Nat} (hd : 2 ≤ d) (hG : axPs G 150 244) {M : ax_M} {x1 : Int} {v2 : Int} {v3 : Int} {v4 : Int} {o : Option ax_V ⊕ String} {M' : ax_M} {y : (Int × Int × Int) ⊕ Int} (hf : fX11_nearest_b9 M x1 v2 v3 v4 = some y) (h1 : ∀ s', y = .inl s' → ax_Ex G tX11_nearest d 9 [some (vR 183), some (vI x1), some (vI s'.1), some (vI s'.2.1), some (vI s'.2.2), none] [] M o M') (h2a : ∀ t, y = .inr t → ax_Ex G tX11_nearest d 70 [some (vR 183), some (vI x1), some (vI t), none, none, none] [] M o M') : ax_Ex G tX11_nearest d 9 [some (vR 183), some (vI x1), some (vI v2), some (vI v3), some (vI v4), none] [] M o M' := by
  unfold fX11_nearest_b9 at hf
  refine x_iload (pc := 9) dX11_nearest_9 rfl ?_
  refine x_aload_n (pc := 11) dX11_nearest_11 rfl ?_
  refine x_getF (t := 9) (j := 0) (r := 169) (pc := 12) dX11_nearest_12 (axH hG rfl) (axEx hG rfl) rfl (by decide) (by decide) rfl rfl WF_X11_26 ?_
  refine x_cr (v := vI (fX8_cells M)) (vs := [vR 169]) (rest := [vI v4]) (k := 0) rfl (by omega) (ax_caV (pc := 15) dX11_nearest_15 kX8_cells rfl rfl WM_X11_61 WI_X8_cells WS_X8_cells WN_X8 (ax_rcO (t := 6) (axEx hG rfl) rfl (by decide)) (Nat.le_of_ble_eq_true rfl)) kX8_cells rfl True.intro (T_X8_cells (by omega) (axPs.sub hG (Nat.le_of_ble_eq_true rfl) (Nat.le_of_ble_eq_true rfl)) rfl) ?_
  refine ax_cmp (fun b2a b2b b2c b2e => ?_)
  refine x_icmpge (tgt := 70) (pc := 18) dX11_nearest_18 rfl (fun h1 => ?_) (fun h1 => ?_)
  · replace hf := (if_neg (Int.not_lt.mpr h1)).symm.trans hf
    cases hf
    exact x_fgt (axS' (axS' (axS' (axN' (axN' (axN' axD)))))) (h2a _ rfl)
  · replace hf := (if_pos h1).symm.trans hf
    refine x_aload_n (pc := 21) dX11_nearest_21 rfl ?_
    refine x_getF (t := 9) (j := 0) (r := 169) (pc := 22) dX11_nearest_22 (axH hG rfl) (axEx hG rfl) rfl (by decide) (by decide) rfl rfl WF_X11_26 ?_
    refine x_iload (pc := 25) dX11_nearest_25 rfl ?_
    refine x_cr (v := vI (fX8_ownerAt M v4)) (vs := [vR 169, vI v4]) (rest := []) (k := 0) rfl (by omega) (ax_caV (pc := 27) dX11_nearest_27 kX8_ownerAt rfl rfl WM_X11_44 WI_X8_ownerAt WS_X8_ownerAt WN_X8 (ax_rcO (t := 6) (axEx hG rfl) rfl (by decide)) (Nat.le_of_ble_eq_true rfl)) kX8_ownerAt rfl True.intro (T_X8_ownerAt (by omega) (axPs.sub hG (Nat.le_of_ble_eq_true rfl) (Nat.le_of_ble_eq_true rfl)) rfl) ?_
    refine x_ifne (tgt := 43) (pc := 30) dX11_nearest_30 rfl (fun h3 => ?_) (fun h3 => ?_)
    · replace hf := (if_neg h3).symm.trans hf
      refine x_iconst (pc := 43) dX11_nearest_43 ⟨by decide, by decide⟩ ?_
      refine x_istore (ls' := [some (vR 183), some (vI x1), some (vI v2), some (vI v3), some (vI v4), some (vI (-1))]) (pc := 44) dX11_nearest_44 (Nat.le_of_ble_eq_true rfl) rfl rfl ?_
      refine x_iload (pc := 46) dX11_nearest_46 rfl ?_
      refine x_iconst (pc := 48) dX11_nearest_48 ⟨by decide, by decide⟩ ?_
      refine x_icmpeq (tgt := 64) (pc := 49) dX11_nearest_49 rfl (fun h7 => ?_) (fun h7 => absurd h7 (by omega))
      refine x_iinc (z := (v4 + 1)) (ls' := [some (vR 183), some (vI x1), some (vI v2), some (vI v3), some (vI (v4 + 1)), some (vI (-1))]) (pc := 64) dX11_nearest_64 rfl (Nat.le_of_ble_eq_true rfl) rfl rfl (ax_i (by omega) (by omega)) rfl ?_
      refine x_goto (tgt := 9) (pc := 67) dX11_nearest_67 rfl ?_
      cases hf
      exact x_fgt (axS' (axS' (axS' (axS' (axS' (axN' axD)))))) (h1 _ rfl)
    · replace hf := (if_pos h3).symm.trans hf
      refine x_aload_n (pc := 33) dX11_nearest_33 rfl ?_
      refine x_iload_n (pc := 34) dX11_nearest_34 rfl ?_
      refine x_iload (pc := 35) dX11_nearest_35 rfl ?_
      refine x_cr (v := vI (fX11_through M x1 v4)) (vs := [vR 183, vI x1, vI v4]) (rest := []) (k := 2) rfl (by omega) (ax_caV (pc := 37) dX11_nearest_37 kX11_through rfl rfl WM_X11_54 WI_X11_through WS_X11_through WN_X11 (ax_rcO (t := 9) (axEx hG rfl) rfl (by decide)) (Nat.le_of_ble_eq_true rfl)) kX11_through rfl True.intro (T_X11_through (by omega) hG rfl) ?_
      refine x_goto (tgt := 44) (pc := 40) dX11_nearest_40 rfl ?_
      refine x_istore (ls' := [some (vR 183), some (vI x1), some (vI v2), some (vI v3), some (vI v4), some (vI (fX11_through M x1 v4))]) (pc := 44) dX11_nearest_44 (Nat.le_of_ble_eq_true rfl) rfl rfl ?_
      refine x_iload (pc := 46) dX11_nearest_46 rfl ?_
      refine x_iconst (pc := 48) dX11_nearest_48 ⟨by decide, by decide⟩ ?_
      refine x_icmpeq (tgt := 64) (pc := 49) dX11_nearest_49 rfl (fun h4 => ?_) (fun h4 => ?_)
      · replace hf := (if_pos h4).symm.trans hf
        refine x_iinc (z := (v4 + 1)) (ls' := [some (vR 183), some (vI x1), some (vI v2), some (vI v3), some (vI (v4 + 1)), some (vI (fX11_through M x1 v4))]) (pc := 64) dX11_nearest_64 rfl (Nat.le_of_ble_eq_true rfl) rfl rfl (ax_i (by omega) (by omega)) rfl ?_
        refine x_goto (tgt := 9) (pc := 67) dX11_nearest_67 rfl ?_
        cases hf
        exact x_fgt (axS' (axS' (axS' (axS' (axS' (axN' axD)))))) (h1 _ rfl)
      · replace hf := (if_neg h4).symm.trans hf
        refine x_iload (pc := 52) dX11_nearest_52 rfl ?_
        refine x_iload_n (pc := 54) dX11_nearest_54 rfl ?_
        refine ax_cmp (fun b6a b6b b6c b6e => ?_)
        refine x_icmpge (tgt := 64) (pc := 55) dX11_nearest_55 rfl (fun h5 => ?_) (fun h5 => ?_)
        · replace hf := (if_neg (Int.not_lt.mpr h5)).symm.trans hf
          refine x_iinc (z := (v4 + 1)) (ls' := [some (vR 183), some (vI x1), some (vI v2), some (vI v3), some (vI (v4 + 1)), some (vI (fX11_through M x1 v4))]) (pc := 64) dX11_nearest_64 rfl (Nat.le_of_ble_eq_true rfl) rfl rfl (ax_i (by omega) (by omega)) rfl ?_
          refine x_goto (tgt := 9) (pc := 67) dX11_nearest_67 rfl ?_
          cases hf
          exact x_fgt (axS' (axS' (axS' (axS' (axS' (axN' axD)))))) (h1 _ rfl)
        · replace hf := (if_pos h5).symm.trans hf
          refine x_iload (pc := 58) dX11_nearest_58 rfl ?_
          refine x_istore_n (ls' := [some (vR 183), some (vI x1), some (vI v4), some (vI v3), some (vI v4), some (vI (fX11_through M x1 v4))]) (pc := 60) dX11_nearest_60 (Nat.le_of_ble_eq_true rfl) rfl rfl ?_
          refine x_iload (pc := 61) dX11_nearest_61 rfl ?_
          refine x_istore_n (ls' := [some (vR 183), some (vI x1), some (vI v4), some (vI (fX11_through M x1 v4)), some (vI v4), some (vI (fX11_through M x1 v4))]) (pc := 63) dX11_nearest_63 (Nat.le_of_ble_eq_true rfl) rfl rfl ?_
          refine x_iinc (z := (v4 + 1)) (ls' := [some (vR 183), some (vI x1), some (vI v4), some (vI (fX11_through M x1 v4)), some (vI (v4 + 1)), some (vI (fX11_through M x1 v4))]) (pc := 64) dX11_nearest_64 rfl (Nat.le_of_ble_eq_true rfl) rfl rfl (ax_i (by omega) (by omega)) rfl ?_
          refine x_goto (tgt := 9) (pc := 67) dX11_nearest_67 rfl ?_
          cases hf
          exact x_fgt (axS' (axS' (axS' (axS' (axS' (axN' axD)))))) (h1 _ rfl)
theorem T_X11_nearest {G : ax_G} {d : Nat} (hd : 2 ≤ d) (hG : axPs G 150 244) {M : ax_M} {a1 : Int} {r : Int} (hf : fX11_nearest M a1 = some r) : ax_Ex G tX11_nearest d 0 (ax_args [vR 183, vI a1] ++ List.replicate 4 none) [] M (.inl (some (vI r))) M := by
  show ax_Ex G tX11_nearest d 0 [some (vR 183), some (vI a1), none, none, none, none] [] M _ _
  unfold fX11_nearest at hf
  refine x_iconst (pc := 0) dX11_nearest_0 ⟨by decide, by decide⟩ ?_
  refine x_istore_n (ls' := [some (vR 183), some (vI a1), some (vI (-1)), none, none, none]) (pc := 1) dX11_nearest_1 (Nat.le_of_ble_eq_true rfl) rfl rfl ?_
  refine x_sipush (pc := 2) dX11_nearest_2 (by decide) ⟨by decide, by decide⟩ ?_
  refine x_istore_n (ls' := [some (vR 183), some (vI a1), some (vI (-1)), some (vI 1000), none, none]) (pc := 5) dX11_nearest_5 (Nat.le_of_ble_eq_true rfl) rfl rfl ?_
  refine x_iconst (pc := 6) dX11_nearest_6 ⟨by decide, by decide⟩ ?_
  refine x_istore (ls' := [some (vR 183), some (vI a1), some (vI (-1)), some (vI 1000), some (vI 0), none]) (pc := 7) dX11_nearest_7 (Nat.le_of_ble_eq_true rfl) rfl rfl ?_
  obtain ⟨t8, t9, hf⟩ := bd1_some hf
  refine lp_ex (P := (fun s => ax_Ex G tX11_nearest d 9 [some (vR 183), some (vI a1), some (vI s.1), some (vI s.2.1), some (vI s.2.2), none] [] M _ _)) (K := (fun t => ax_Ex G tX11_nearest d 70 [some (vR 183), some (vI a1), some (vI t), none, none, none] [] M _ _)) (fun s y hy h1 h2 => B_X11_nearest_9 (by omega) hG hy (fun s' e => h1 s' e) (fun t e => h2 t e)) _ _ _ t9 ?_
  refine x_iload_n (pc := 70) dX11_nearest_70 rfl ?_
  cases hf
  exact x_retI (pc := 71) dX11_nearest_71
