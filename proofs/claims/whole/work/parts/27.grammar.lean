/-! walks: Grammar -/
theorem x_getRq {G : ax_G} {mt : ax_T} {d pc : Nat} {ls : List (Option ax_V)} {st : List ax_V} {M M' : ax_M} {o : Option ax_V ⊕ String} {idx k t j n p : Nat} (hq : mR M k j = some p) (hd : decode mt.2.1 pc = .ok (.getfield idx, 3)) (hk : ax_ex G M k) (hs : ax_sh M k = (t, n)) (ht : t < 13) (hj : j < axN t) (hkd : ax_kd t j = 1) (hl : Cond.fieldLink mt.1.cls idx (axT t j).1 (axT t j).2.1 (axT t j).2.2.1 ∈ ax_W)
    (k' : ax_Ex G mt d (pc + 3) ls (vR p :: st) M o M') : ax_Ex G mt d pc ls (vR k :: st) M o M' :=
  x_getR hd hk hs ht hj hkd hl (by rw [hq]; exact k')
def SG3 (G : ax_G) (self : Nat → Nat → Int → ax_M → Option ax_M) (D : Nat) : Prop :=
  (∀ (d : Nat) {e : Int} (M M1 : ax_M), D ≤ d → self 0 0 e M = some M1 → ax_Ex G tX3_readTest d 0 (ax_args [vR 166, vI e] ++ List.replicate 1 none) [] M (.inl none) M1) ∧
  (∀ (d : Nat) {e : Int} (M M1 : ax_M), D ≤ d → self 1 0 e M = some M1 → ax_Ex G tX3_readBoth d 0 (ax_args [vR 166, vI e] ++ List.replicate 1 none) [] M (.inl none) M1) ∧
  (∀ (d : Nat) {e : Int} (M M1 : ax_M), D ≤ d → self 2 0 e M = some M1 → ax_Ex G tX3_readSingle d 0 (ax_args [vR 166, vI e] ++ List.replicate 1 none) [] M (.inl none) M1) ∧
  (∀ (d : Nat) {e : Int} (M M1 : ax_M), D ≤ d → self 3 0 e M = some M1 → ax_Ex G tX3_readSum d 0 (ax_args [vR 166, vI e] ++ List.replicate 2 none) [] M (.inl none) M1) ∧
  (∀ (d : Nat) {e : Int} (M M1 : ax_M), D ≤ d → self 4 0 e M = some M1 → ax_Ex G tX3_readProduct d 0 (ax_args [vR 166, vI e] ++ List.replicate 2 none) [] M (.inl none) M1) ∧
  (∀ (d : Nat) {e : Int} (M M1 : ax_M), D ≤ d → self 5 0 e M = some M1 → ax_Ex G tX3_readValue d 0 (ax_args [vR 166, vI e] ++ List.replicate 1 none) [] M (.inl none) M1) ∧
  (∀ (d : Nat) {k : Nat} (hk : 10 ≤ k ∧ k < 52) {e : Int} (M M1 : ax_M), D ≤ d → self 6 k e M = some M1 → ax_Ex G tX3_readPair d 0 (ax_args [vR 166, vR k, vI e] ++ List.replicate 0 none) [] M (.inl none) M1)
/- HexPond$Grammar.sees(LHexPond$Kind;)Z -/
def fX3_sees (M : ax_M) (a1 : Nat) : Int :=
  (if (mI M 166 3) = 0 then (if (fX10_kindOf M (mI M 166 2)) = a1 then (1) else (0)) else (0))
theorem T_X3_sees {G : ax_G} {d : Nat} (hd : 1 ≤ d) (hG : axPs G 150 244) {M : ax_M} {a1 : Nat} (y_a1 : 10 ≤ a1 ∧ a1 < 52) {r : Int} (hf : fX3_sees M a1 = r) : ax_Ex G tX3_sees d 0 (ax_args [vR 166, vR a1] ++ List.replicate 0 none) [] M (.inl (some (vI r))) M := by
  show ax_Ex G tX3_sees d 0 [some (vR 166), some (vR a1)] [] M _ _
  unfold fX3_sees at hf
  refine x_aload_n (pc := 0) dX3_sees_0 rfl ?_
  refine x_getI (t := 2) (j := 3) (pc := 1) dX3_sees_1 (axEx hG rfl) rfl (by decide) (by decide) rfl WF_X3_28 ?_
  refine x_ifne (tgt := 26) (pc := 4) dX3_sees_4 rfl (fun h1 => ?_) (fun h1 => ?_)
  · replace hf := (if_neg h1).symm.trans hf
    refine x_iconst (pc := 26) dX3_sees_26 ⟨by decide, by decide⟩ ?_
    subst hf
    exact x_retI (pc := 27) dX3_sees_27
  · replace hf := (if_pos h1).symm.trans hf
    refine x_aload_n (pc := 7) dX3_sees_7 rfl ?_
    refine x_getF (t := 2) (j := 0) (r := 153) (pc := 8) dX3_sees_8 (axH hG rfl) (axEx hG rfl) rfl (by decide) (by decide) rfl rfl WF_X3_9 ?_
    refine x_aload_n (pc := 11) dX3_sees_11 rfl ?_
    refine x_getI (t := 2) (j := 2) (pc := 12) dX3_sees_12 (axEx hG rfl) rfl (by decide) (by decide) rfl WF_X3_24 ?_
    refine ax_know (fun g2 _ _ => ?_)
    have q3 := R_X10_kindOf g2 (r := (fX10_kindOf M (mI M 166 2))) rfl
    refine x_cr (v := vR (fX10_kindOf M (mI M 166 2))) (vs := [vR 153, vI (mI M 166 2)]) (rest := []) (k := 1) rfl (by omega) (ax_caV (pc := 15) dX3_sees_15 kX10_kindOf rfl rfl WM_X3_104 WI_X10_kindOf WS_X10_kindOf WN_X10 (ax_rcO (t := 8) (axEx hG rfl) rfl (by decide)) (Nat.le_of_ble_eq_true rfl)) kX10_kindOf rfl True.intro (T_X10_kindOf (by omega) hG rfl) ?_
    refine x_aload_n (pc := 18) dX3_sees_18 rfl ?_
    refine x_acmpne (tgt := 26) (pc := 19) dX3_sees_19 rfl q3 y_a1 (fun h4 => ?_) (fun h4 => ?_)
    · replace hf := (if_neg h4).symm.trans hf
      refine x_iconst (pc := 26) dX3_sees_26 ⟨by decide, by decide⟩ ?_
      subst hf
      exact x_retI (pc := 27) dX3_sees_27
    · replace hf := (if_pos h4).symm.trans hf
      refine x_iconst (pc := 22) dX3_sees_22 ⟨by decide, by decide⟩ ?_
      refine x_goto (tgt := 27) (pc := 23) dX3_sees_23 rfl ?_
      subst hf
      exact x_retI (pc := 27) dX3_sees_27
theorem Z_X3_sees {M : ax_M} {a1 : Nat} {r : Int} (hf : fX3_sees M a1 = r) : r = 0 ∨ r = 1 := by
  unfold fX3_sees at hf
  by_cases h1 : (mI M 166 3) = 0
  · replace hf := (if_pos h1).symm.trans hf
    by_cases h4 : (fX10_kindOf M (mI M 166 2)) = a1
    · replace hf := (if_pos h4).symm.trans hf
      subst hf
      exact Or.inr rfl
    · replace hf := (if_neg h4).symm.trans hf
      subst hf
      exact Or.inl rfl
  · replace hf := (if_neg h1).symm.trans hf
    subst hf
    exact Or.inl rfl
/- HexPond$Grammar.take(LHexPond$Kind;)Z -/
def fX3_take (M : ax_M) (a1 : Nat) : Option (Int × ax_M) :=
  (if (mI M 166 3) = 0 then (if (fX10_kindOf M (mI M 166 2)) = a1 then (some (1, (mUI M 166 2 (wr ((mI M 166 2) + 1))))) else (some (0, M))) else (some (0, M)))
theorem T_X3_take {G : ax_G} {d : Nat} (hd : 1 ≤ d) (hG : axPs G 150 244) {M : ax_M} {a1 : Nat} (y_a1 : 10 ≤ a1 ∧ a1 < 52) {r : Int} {M1 : ax_M} (hf : fX3_take M a1 = some (r, M1)) : ax_Ex G tX3_take d 0 (ax_args [vR 166, vR a1] ++ List.replicate 1 none) [] M (.inl (some (vI r))) M1 := by
  show ax_Ex G tX3_take d 0 [some (vR 166), some (vR a1), none] [] M _ _
  unfold fX3_take at hf
  refine x_aload_n (pc := 0) dX3_take_0 rfl ?_
  refine x_getI (t := 2) (j := 3) (pc := 1) dX3_take_1 (axEx hG rfl) rfl (by decide) (by decide) rfl WF_X3_28 ?_
  refine x_ifne (tgt := 26) (pc := 4) dX3_take_4 rfl (fun h1 => ?_) (fun h1 => ?_)
  · replace hf := (if_neg h1).symm.trans hf
    refine x_iconst (pc := 26) dX3_take_26 ⟨by decide, by decide⟩ ?_
    refine x_istore_n (ls' := [some (vR 166), some (vR a1), some (vI 0)]) (pc := 27) dX3_take_27 (Nat.le_of_ble_eq_true rfl) rfl rfl ?_
    refine x_iload_n (pc := 28) dX3_take_28 rfl ?_
    refine x_ifeq (tgt := 42) (pc := 29) dX3_take_29 rfl (fun h7 => ?_) (fun h7 => absurd h7 (by omega))
    refine x_iload_n (pc := 42) dX3_take_42 rfl ?_
    cases hf
    exact x_retI (pc := 43) dX3_take_43
  · replace hf := (if_pos h1).symm.trans hf
    refine x_aload_n (pc := 7) dX3_take_7 rfl ?_
    refine x_getF (t := 2) (j := 0) (r := 153) (pc := 8) dX3_take_8 (axH hG rfl) (axEx hG rfl) rfl (by decide) (by decide) rfl rfl WF_X3_9 ?_
    refine x_aload_n (pc := 11) dX3_take_11 rfl ?_
    refine x_getI (t := 2) (j := 2) (pc := 12) dX3_take_12 (axEx hG rfl) rfl (by decide) (by decide) rfl WF_X3_24 ?_
    refine ax_know (fun g2 _ _ => ?_)
    have q3 := R_X10_kindOf g2 (r := (fX10_kindOf M (mI M 166 2))) rfl
    refine x_cr (v := vR (fX10_kindOf M (mI M 166 2))) (vs := [vR 153, vI (mI M 166 2)]) (rest := []) (k := 1) rfl (by omega) (ax_caV (pc := 15) dX3_take_15 kX10_kindOf rfl rfl WM_X3_104 WI_X10_kindOf WS_X10_kindOf WN_X10 (ax_rcO (t := 8) (axEx hG rfl) rfl (by decide)) (Nat.le_of_ble_eq_true rfl)) kX10_kindOf rfl True.intro (T_X10_kindOf (by omega) hG rfl) ?_
    refine x_aload_n (pc := 18) dX3_take_18 rfl ?_
    refine x_acmpne (tgt := 26) (pc := 19) dX3_take_19 rfl q3 y_a1 (fun h4 => ?_) (fun h4 => ?_)
    · replace hf := (if_neg h4).symm.trans hf
      refine x_iconst (pc := 26) dX3_take_26 ⟨by decide, by decide⟩ ?_
      refine x_istore_n (ls' := [some (vR 166), some (vR a1), some (vI 0)]) (pc := 27) dX3_take_27 (Nat.le_of_ble_eq_true rfl) rfl rfl ?_
      refine x_iload_n (pc := 28) dX3_take_28 rfl ?_
      refine x_ifeq (tgt := 42) (pc := 29) dX3_take_29 rfl (fun h6 => ?_) (fun h6 => absurd h6 (by omega))
      refine x_iload_n (pc := 42) dX3_take_42 rfl ?_
      cases hf
      exact x_retI (pc := 43) dX3_take_43
    · replace hf := (if_pos h4).symm.trans hf
      refine x_iconst (pc := 22) dX3_take_22 ⟨by decide, by decide⟩ ?_
      refine x_goto (tgt := 27) (pc := 23) dX3_take_23 rfl ?_
      refine x_istore_n (ls' := [some (vR 166), some (vR a1), some (vI 1)]) (pc := 27) dX3_take_27 (Nat.le_of_ble_eq_true rfl) rfl rfl ?_
      refine x_iload_n (pc := 28) dX3_take_28 rfl ?_
      refine x_ifeq (tgt := 42) (pc := 29) dX3_take_29 rfl (fun h5 => absurd h5 (by omega)) (fun h5 => ?_)
      refine x_aload_n (pc := 32) dX3_take_32 rfl ?_
      refine x_dup (pc := 33) dX3_take_33 rfl ?_
      refine x_getI (t := 2) (j := 2) (pc := 34) dX3_take_34 (axEx hG rfl) rfl (by decide) (by decide) rfl WF_X3_24 ?_
      refine x_iconst (pc := 37) dX3_take_37 ⟨by decide, by decide⟩ ?_
      refine x_iaddw (pc := 38) dX3_take_38 ?_
      refine x_putI (t := 2) (j := 2) (pc := 39) dX3_take_39 (axEx hG rfl) rfl (by decide) (by decide) rfl rfl WF_X3_24 ?_
      refine x_iload_n (pc := 42) dX3_take_42 rfl ?_
      cases hf
      exact x_retI (pc := 43) dX3_take_43
theorem Z_X3_take {M : ax_M} {a1 : Nat} {r : Int} {M1 : ax_M} (hf : fX3_take M a1 = some (r, M1)) : r = 0 ∨ r = 1 := by
  unfold fX3_take at hf
  by_cases h1 : (mI M 166 3) = 0
  · replace hf := (if_pos h1).symm.trans hf
    by_cases h4 : (fX10_kindOf M (mI M 166 2)) = a1
    · replace hf := (if_pos h4).symm.trans hf
      cases hf
      exact Or.inr rfl
    · replace hf := (if_neg h4).symm.trans hf
      cases hf
      exact Or.inl rfl
  · replace hf := (if_neg h1).symm.trans hf
    cases hf
    exact Or.inl rfl
/- HexPond$Grammar.need(LHexPond$Kind;)V -/
def fX3_need (M : ax_M) (a1 : Nat) : Option ax_M :=
  (if (mI M 166 3) = 0 then (if (fX10_kindOf M (mI M 166 2)) = a1 then (some (mUI M 166 2 (wr ((mI M 166 2) + 1)))) else (some (mUI M 166 3 1))) else (some (mUI M 166 3 1)))
theorem T_X3_need {G : ax_G} {d : Nat} (hd : 1 ≤ d) (hG : axPs G 150 244) {M : ax_M} {a1 : Nat} (y_a1 : 10 ≤ a1 ∧ a1 < 52) {M1 : ax_M} (hf : fX3_need M a1 = some M1) : ax_Ex G tX3_need d 0 (ax_args [vR 166, vR a1] ++ List.replicate 0 none) [] M (.inl none) M1 := by
  show ax_Ex G tX3_need d 0 [some (vR 166), some (vR a1)] [] M _ _
  unfold fX3_need at hf
  refine x_aload_n (pc := 0) dX3_need_0 rfl ?_
  refine x_getI (t := 2) (j := 3) (pc := 1) dX3_need_1 (axEx hG rfl) rfl (by decide) (by decide) rfl WF_X3_28 ?_
  refine x_ifne (tgt := 35) (pc := 4) dX3_need_4 rfl (fun h1 => ?_) (fun h1 => ?_)
  · replace hf := (if_neg h1).symm.trans hf
    refine x_aload_n (pc := 35) dX3_need_35 rfl ?_
    refine x_iconst (pc := 36) dX3_need_36 ⟨by decide, by decide⟩ ?_
    refine x_putZ (t := 2) (j := 3) (pc := 37) dX3_need_37 (axEx hG rfl) rfl (by decide) (by decide) rfl rfl WF_X3_28 (by decide) ?_
    cases hf
    exact x_retV (pc := 40) dX3_need_40
  · replace hf := (if_pos h1).symm.trans hf
    refine x_aload_n (pc := 7) dX3_need_7 rfl ?_
    refine x_getF (t := 2) (j := 0) (r := 153) (pc := 8) dX3_need_8 (axH hG rfl) (axEx hG rfl) rfl (by decide) (by decide) rfl rfl WF_X3_9 ?_
    refine x_aload_n (pc := 11) dX3_need_11 rfl ?_
    refine x_getI (t := 2) (j := 2) (pc := 12) dX3_need_12 (axEx hG rfl) rfl (by decide) (by decide) rfl WF_X3_24 ?_
    refine ax_know (fun g2 _ _ => ?_)
    have q3 := R_X10_kindOf g2 (r := (fX10_kindOf M (mI M 166 2))) rfl
    refine x_cr (v := vR (fX10_kindOf M (mI M 166 2))) (vs := [vR 153, vI (mI M 166 2)]) (rest := []) (k := 1) rfl (by omega) (ax_caV (pc := 15) dX3_need_15 kX10_kindOf rfl rfl WM_X3_104 WI_X10_kindOf WS_X10_kindOf WN_X10 (ax_rcO (t := 8) (axEx hG rfl) rfl (by decide)) (Nat.le_of_ble_eq_true rfl)) kX10_kindOf rfl True.intro (T_X10_kindOf (by omega) hG rfl) ?_
    refine x_aload_n (pc := 18) dX3_need_18 rfl ?_
    refine x_acmpne (tgt := 35) (pc := 19) dX3_need_19 rfl q3 y_a1 (fun h4 => ?_) (fun h4 => ?_)
    · replace hf := (if_neg h4).symm.trans hf
      refine x_aload_n (pc := 35) dX3_need_35 rfl ?_
      refine x_iconst (pc := 36) dX3_need_36 ⟨by decide, by decide⟩ ?_
      refine x_putZ (t := 2) (j := 3) (pc := 37) dX3_need_37 (axEx hG rfl) rfl (by decide) (by decide) rfl rfl WF_X3_28 (by decide) ?_
      cases hf
      exact x_retV (pc := 40) dX3_need_40
    · replace hf := (if_pos h4).symm.trans hf
      refine x_aload_n (pc := 22) dX3_need_22 rfl ?_
      refine x_dup (pc := 23) dX3_need_23 rfl ?_
      refine x_getI (t := 2) (j := 2) (pc := 24) dX3_need_24 (axEx hG rfl) rfl (by decide) (by decide) rfl WF_X3_24 ?_
      refine x_iconst (pc := 27) dX3_need_27 ⟨by decide, by decide⟩ ?_
      refine x_iaddw (pc := 28) dX3_need_28 ?_
      refine x_putI (t := 2) (j := 2) (pc := 29) dX3_need_29 (axEx hG rfl) rfl (by decide) (by decide) rfl rfl WF_X3_24 ?_
      refine x_goto (tgt := 40) (pc := 32) dX3_need_32 rfl ?_
      cases hf
      exact x_retV (pc := 40) dX3_need_40
/- HexPond$Grammar.readPlayer()I -/
def fX3_readPlayer (M : ax_M) : Option (Int × ax_M) :=
  (bd2 (fX3_take M 14) fun v3 M2 => (if v3 = 0 then (bd1 (fX3_need M2 15) fun M6 => (some (1, M6))) else (some (0, M2))))
theorem T_X3_readPlayer {G : ax_G} {d : Nat} (hd : 2 ≤ d) (hG : axPs G 150 244) {M : ax_M} {r : Int} {M1 : ax_M} (hf : fX3_readPlayer M = some (r, M1)) : ax_Ex G tX3_readPlayer d 0 (ax_args [vR 166] ++ List.replicate 0 none) [] M (.inl (some (vI r))) M1 := by
  show ax_Ex G tX3_readPlayer d 0 [some (vR 166)] [] M _ _
  unfold fX3_readPlayer at hf
  refine x_aload_n (pc := 0) dX3_readPlayer_0 rfl ?_
  refine x_gets (v := vR 14) _ (pc := 1) dX3_readPlayer_1 (axS_mem (n := 12) rfl) rfl trivial WF_X3_122 ?_
  obtain ⟨v3, M2, r1, hf⟩ := bd2_some hf
  refine x_cr (v := vI v3) (vs := [vR 166, vR 14]) (rest := []) (k := 1) rfl (by omega) (ax_caV (pc := 4) dX3_readPlayer_4 kX3_take rfl rfl WM_X3_38 WI_X3_take WS_X3_take WN_X3 (ax_rcO (t := 2) (axEx hG rfl) rfl (by decide)) (Nat.le_of_ble_eq_true rfl)) kX3_take rfl (Z_X3_take r1) (T_X3_take (by omega) hG (by decide) r1) ?_
  refine x_ifeq (tgt := 12) (pc := 7) dX3_readPlayer_7 rfl (fun h4 => ?_) (fun h4 => ?_)
  · replace hf := (if_pos h4).symm.trans hf
    refine x_aload_n (pc := 12) dX3_readPlayer_12 rfl ?_
    refine x_gets (v := vR 15) _ (pc := 13) dX3_readPlayer_13 (axS_mem (n := 13) rfl) rfl trivial WF_X3_125 ?_
    obtain ⟨M6, r5, hf⟩ := bd1_some hf
    refine x_cv (vs := [vR 166, vR 15]) (rest := []) (k := 0) rfl (by omega) (ax_caV (pc := 16) dX3_readPlayer_16 kX3_need rfl rfl WM_X3_45 WI_X3_need WS_X3_need WN_X3 (ax_rcO (t := 2) (axEx hG rfl) rfl (by decide)) (Nat.le_of_ble_eq_true rfl)) kX3_need rfl True.intro (T_X3_need (by omega) hG (by decide) r5) ?_
    refine x_iconst (pc := 19) dX3_readPlayer_19 ⟨by decide, by decide⟩ ?_
    cases hf
    exact x_retI (pc := 20) dX3_readPlayer_20
  · replace hf := (if_neg h4).symm.trans hf
    refine x_iconst (pc := 10) dX3_readPlayer_10 ⟨by decide, by decide⟩ ?_
    cases hf
    exact x_retI (pc := 11) dX3_readPlayer_11
/- HexPond$Grammar.readMove()LHexPond$Kind; -/
def fX3_readMove (M : ax_M) : Option (Nat × ax_M) :=
  (if (fX10_kindOf M (mI M 166 2)) = 16 then (bd1 (fX3_need M (fX10_kindOf M (mI M 166 2))) fun M6 => (some ((fX10_kindOf M (mI M 166 2)), M6))) else (if (fX10_kindOf M (mI M 166 2)) = 17 then (bd1 (fX3_need M (fX10_kindOf M (mI M 166 2))) fun M10 => (some ((fX10_kindOf M (mI M 166 2)), M10))) else (if (fX10_kindOf M (mI M 166 2)) = 18 then (bd1 (fX3_need M (fX10_kindOf M (mI M 166 2))) fun M14 => (some ((fX10_kindOf M (mI M 166 2)), M14))) else (if (fX10_kindOf M (mI M 166 2)) = 19 then (bd1 (fX3_need M (fX10_kindOf M (mI M 166 2))) fun M18 => (some ((fX10_kindOf M (mI M 166 2)), M18))) else (if (fX10_kindOf M (mI M 166 2)) = 20 then (bd1 (fX3_need M (fX10_kindOf M (mI M 166 2))) fun M22 => (some ((fX10_kindOf M (mI M 166 2)), M22))) else (bd1 (fX3_need M 16) fun M25 => (some ((fX10_kindOf M (mI M 166 2)), M25))))))))
theorem T_X3_readMove {G : ax_G} {d : Nat} (hd : 2 ≤ d) (hG : axPs G 150 244) {M : ax_M} {r : Nat} {M1 : ax_M} (hf : fX3_readMove M = some (r, M1)) : ax_Ex G tX3_readMove d 0 (ax_args [vR 166] ++ List.replicate 2 none) [] M (.inl (some (vR r))) M1 := by
  show ax_Ex G tX3_readMove d 0 [some (vR 166), none, none] [] M _ _
  unfold fX3_readMove at hf
  refine x_aload_n (pc := 0) dX3_readMove_0 rfl ?_
  refine x_getF (t := 2) (j := 0) (r := 153) (pc := 1) dX3_readMove_1 (axH hG rfl) (axEx hG rfl) rfl (by decide) (by decide) rfl rfl WF_X3_9 ?_
  refine x_aload_n (pc := 4) dX3_readMove_4 rfl ?_
  refine x_getI (t := 2) (j := 2) (pc := 5) dX3_readMove_5 (axEx hG rfl) rfl (by decide) (by decide) rfl WF_X3_24 ?_
  refine ax_know (fun g1 _ _ => ?_)
  have q2 := R_X10_kindOf g1 (r := (fX10_kindOf M (mI M 166 2))) rfl
  refine x_cr (v := vR (fX10_kindOf M (mI M 166 2))) (vs := [vR 153, vI (mI M 166 2)]) (rest := []) (k := 1) rfl (by omega) (ax_caV (pc := 8) dX3_readMove_8 kX10_kindOf rfl rfl WM_X3_104 WI_X10_kindOf WS_X10_kindOf WN_X10 (ax_rcO (t := 8) (axEx hG rfl) rfl (by decide)) (Nat.le_of_ble_eq_true rfl)) kX10_kindOf rfl True.intro (T_X10_kindOf (by omega) hG rfl) ?_
  refine x_astore_n (ls' := [some (vR 166), some (vR (fX10_kindOf M (mI M 166 2))), none]) (pc := 11) dX3_readMove_11 (Nat.le_of_ble_eq_true rfl) rfl rfl ?_
  refine x_aload_n (pc := 12) dX3_readMove_12 rfl ?_
  refine x_gets (v := vR 16) _ (pc := 13) dX3_readMove_13 (axS_mem (n := 14) rfl) rfl trivial WF_X3_110 ?_
  refine x_acmpeq (tgt := 47) (pc := 16) dX3_readMove_16 rfl q2 (by decide) (fun h3 => ?_) (fun h3 => ?_)
  · replace hf := (if_pos h3).symm.trans hf
    refine x_iconst (pc := 47) dX3_readMove_47 ⟨by decide, by decide⟩ ?_
    refine x_goto (tgt := 52) (pc := 48) dX3_readMove_48 rfl ?_
    refine x_istore_n (ls' := [some (vR 166), some (vR (fX10_kindOf M (mI M 166 2))), some (vI 1)]) (pc := 52) dX3_readMove_52 (Nat.le_of_ble_eq_true rfl) rfl rfl ?_
    refine x_aload_n (pc := 53) dX3_readMove_53 rfl ?_
    refine x_iload_n (pc := 54) dX3_readMove_54 rfl ?_
    refine x_ifeq (tgt := 62) (pc := 55) dX3_readMove_55 rfl (fun h4 => absurd h4 (by omega)) (fun h4 => ?_)
    refine x_aload_n (pc := 58) dX3_readMove_58 rfl ?_
    refine x_goto (tgt := 65) (pc := 59) dX3_readMove_59 rfl ?_
    obtain ⟨M6, r5, hf⟩ := bd1_some hf
    refine x_cv (vs := [vR 166, vR (fX10_kindOf M (mI M 166 2))]) (rest := []) (k := 0) rfl (by omega) (ax_caV (pc := 65) dX3_readMove_65 kX3_need rfl rfl WM_X3_45 WI_X3_need WS_X3_need WN_X3 (ax_rcO (t := 2) (axEx hG rfl) rfl (by decide)) (Nat.le_of_ble_eq_true rfl)) kX3_need rfl True.intro (T_X3_need (by omega) hG q2 r5) ?_
    refine x_aload_n (pc := 68) dX3_readMove_68 rfl ?_
    cases hf
    exact x_retR (pc := 69) dX3_readMove_69
  · replace hf := (if_neg h3).symm.trans hf
    refine x_aload_n (pc := 19) dX3_readMove_19 rfl ?_
    refine x_gets (v := vR 17) _ (pc := 20) dX3_readMove_20 (axS_mem (n := 15) rfl) rfl trivial WF_X3_113 ?_
    refine x_acmpeq (tgt := 47) (pc := 23) dX3_readMove_23 rfl q2 (by decide) (fun h7 => ?_) (fun h7 => ?_)
    · replace hf := (if_pos h7).symm.trans hf
      refine x_iconst (pc := 47) dX3_readMove_47 ⟨by decide, by decide⟩ ?_
      refine x_goto (tgt := 52) (pc := 48) dX3_readMove_48 rfl ?_
      refine x_istore_n (ls' := [some (vR 166), some (vR (fX10_kindOf M (mI M 166 2))), some (vI 1)]) (pc := 52) dX3_readMove_52 (Nat.le_of_ble_eq_true rfl) rfl rfl ?_
      refine x_aload_n (pc := 53) dX3_readMove_53 rfl ?_
      refine x_iload_n (pc := 54) dX3_readMove_54 rfl ?_
      refine x_ifeq (tgt := 62) (pc := 55) dX3_readMove_55 rfl (fun h8 => absurd h8 (by omega)) (fun h8 => ?_)
      refine x_aload_n (pc := 58) dX3_readMove_58 rfl ?_
      refine x_goto (tgt := 65) (pc := 59) dX3_readMove_59 rfl ?_
      obtain ⟨M10, r9, hf⟩ := bd1_some hf
      refine x_cv (vs := [vR 166, vR (fX10_kindOf M (mI M 166 2))]) (rest := []) (k := 0) rfl (by omega) (ax_caV (pc := 65) dX3_readMove_65 kX3_need rfl rfl WM_X3_45 WI_X3_need WS_X3_need WN_X3 (ax_rcO (t := 2) (axEx hG rfl) rfl (by decide)) (Nat.le_of_ble_eq_true rfl)) kX3_need rfl True.intro (T_X3_need (by omega) hG q2 r9) ?_
      refine x_aload_n (pc := 68) dX3_readMove_68 rfl ?_
      cases hf
      exact x_retR (pc := 69) dX3_readMove_69
    · replace hf := (if_neg h7).symm.trans hf
      refine x_aload_n (pc := 26) dX3_readMove_26 rfl ?_
      refine x_gets (v := vR 18) _ (pc := 27) dX3_readMove_27 (axS_mem (n := 16) rfl) rfl trivial WF_X3_116 ?_
      refine x_acmpeq (tgt := 47) (pc := 30) dX3_readMove_30 rfl q2 (by decide) (fun h11 => ?_) (fun h11 => ?_)
      · replace hf := (if_pos h11).symm.trans hf
        refine x_iconst (pc := 47) dX3_readMove_47 ⟨by decide, by decide⟩ ?_
        refine x_goto (tgt := 52) (pc := 48) dX3_readMove_48 rfl ?_
        refine x_istore_n (ls' := [some (vR 166), some (vR (fX10_kindOf M (mI M 166 2))), some (vI 1)]) (pc := 52) dX3_readMove_52 (Nat.le_of_ble_eq_true rfl) rfl rfl ?_
        refine x_aload_n (pc := 53) dX3_readMove_53 rfl ?_
        refine x_iload_n (pc := 54) dX3_readMove_54 rfl ?_
        refine x_ifeq (tgt := 62) (pc := 55) dX3_readMove_55 rfl (fun h12 => absurd h12 (by omega)) (fun h12 => ?_)
        refine x_aload_n (pc := 58) dX3_readMove_58 rfl ?_
        refine x_goto (tgt := 65) (pc := 59) dX3_readMove_59 rfl ?_
        obtain ⟨M14, r13, hf⟩ := bd1_some hf
        refine x_cv (vs := [vR 166, vR (fX10_kindOf M (mI M 166 2))]) (rest := []) (k := 0) rfl (by omega) (ax_caV (pc := 65) dX3_readMove_65 kX3_need rfl rfl WM_X3_45 WI_X3_need WS_X3_need WN_X3 (ax_rcO (t := 2) (axEx hG rfl) rfl (by decide)) (Nat.le_of_ble_eq_true rfl)) kX3_need rfl True.intro (T_X3_need (by omega) hG q2 r13) ?_
        refine x_aload_n (pc := 68) dX3_readMove_68 rfl ?_
        cases hf
        exact x_retR (pc := 69) dX3_readMove_69
      · replace hf := (if_neg h11).symm.trans hf
        refine x_aload_n (pc := 33) dX3_readMove_33 rfl ?_
        refine x_gets (v := vR 19) _ (pc := 34) dX3_readMove_34 (axS_mem (n := 17) rfl) rfl trivial WF_X3_119 ?_
        refine x_acmpeq (tgt := 47) (pc := 37) dX3_readMove_37 rfl q2 (by decide) (fun h15 => ?_) (fun h15 => ?_)
        · replace hf := (if_pos h15).symm.trans hf
          refine x_iconst (pc := 47) dX3_readMove_47 ⟨by decide, by decide⟩ ?_
          refine x_goto (tgt := 52) (pc := 48) dX3_readMove_48 rfl ?_
          refine x_istore_n (ls' := [some (vR 166), some (vR (fX10_kindOf M (mI M 166 2))), some (vI 1)]) (pc := 52) dX3_readMove_52 (Nat.le_of_ble_eq_true rfl) rfl rfl ?_
          refine x_aload_n (pc := 53) dX3_readMove_53 rfl ?_
          refine x_iload_n (pc := 54) dX3_readMove_54 rfl ?_
          refine x_ifeq (tgt := 62) (pc := 55) dX3_readMove_55 rfl (fun h16 => absurd h16 (by omega)) (fun h16 => ?_)
          refine x_aload_n (pc := 58) dX3_readMove_58 rfl ?_
          refine x_goto (tgt := 65) (pc := 59) dX3_readMove_59 rfl ?_
          obtain ⟨M18, r17, hf⟩ := bd1_some hf
          refine x_cv (vs := [vR 166, vR (fX10_kindOf M (mI M 166 2))]) (rest := []) (k := 0) rfl (by omega) (ax_caV (pc := 65) dX3_readMove_65 kX3_need rfl rfl WM_X3_45 WI_X3_need WS_X3_need WN_X3 (ax_rcO (t := 2) (axEx hG rfl) rfl (by decide)) (Nat.le_of_ble_eq_true rfl)) kX3_need rfl True.intro (T_X3_need (by omega) hG q2 r17) ?_
          refine x_aload_n (pc := 68) dX3_readMove_68 rfl ?_
          cases hf
          exact x_retR (pc := 69) dX3_readMove_69
        · replace hf := (if_neg h15).symm.trans hf
          refine x_aload_n (pc := 40) dX3_readMove_40 rfl ?_
          refine x_gets (v := vR 20) _ (pc := 41) dX3_readMove_41 (axS_mem (n := 18) rfl) rfl trivial WF_X3_87 ?_
          refine x_acmpne (tgt := 51) (pc := 44) dX3_readMove_44 rfl q2 (by decide) (fun h19 => ?_) (fun h19 => ?_)
          · replace hf := (if_neg h19).symm.trans hf
            refine x_iconst (pc := 51) dX3_readMove_51 ⟨by decide, by decide⟩ ?_
            refine x_istore_n (ls' := [some (vR 166), some (vR (fX10_kindOf M (mI M 166 2))), some (vI 0)]) (pc := 52) dX3_readMove_52 (Nat.le_of_ble_eq_true rfl) rfl rfl ?_
            refine x_aload_n (pc := 53) dX3_readMove_53 rfl ?_
            refine x_iload_n (pc := 54) dX3_readMove_54 rfl ?_
            refine x_ifeq (tgt := 62) (pc := 55) dX3_readMove_55 rfl (fun h23 => ?_) (fun h23 => absurd h23 (by omega))
            refine x_gets (v := vR 16) _ (pc := 62) dX3_readMove_62 (axS_mem (n := 14) rfl) rfl trivial WF_X3_110 ?_
            obtain ⟨M25, r24, hf⟩ := bd1_some hf
            refine x_cv (vs := [vR 166, vR 16]) (rest := []) (k := 0) rfl (by omega) (ax_caV (pc := 65) dX3_readMove_65 kX3_need rfl rfl WM_X3_45 WI_X3_need WS_X3_need WN_X3 (ax_rcO (t := 2) (axEx hG rfl) rfl (by decide)) (Nat.le_of_ble_eq_true rfl)) kX3_need rfl True.intro (T_X3_need (by omega) hG (by decide) r24) ?_
            refine x_aload_n (pc := 68) dX3_readMove_68 rfl ?_
            cases hf
            exact x_retR (pc := 69) dX3_readMove_69
          · replace hf := (if_pos h19).symm.trans hf
            refine x_iconst (pc := 47) dX3_readMove_47 ⟨by decide, by decide⟩ ?_
            refine x_goto (tgt := 52) (pc := 48) dX3_readMove_48 rfl ?_
            refine x_istore_n (ls' := [some (vR 166), some (vR (fX10_kindOf M (mI M 166 2))), some (vI 1)]) (pc := 52) dX3_readMove_52 (Nat.le_of_ble_eq_true rfl) rfl rfl ?_
            refine x_aload_n (pc := 53) dX3_readMove_53 rfl ?_
            refine x_iload_n (pc := 54) dX3_readMove_54 rfl ?_
            refine x_ifeq (tgt := 62) (pc := 55) dX3_readMove_55 rfl (fun h20 => absurd h20 (by omega)) (fun h20 => ?_)
            refine x_aload_n (pc := 58) dX3_readMove_58 rfl ?_
            refine x_goto (tgt := 65) (pc := 59) dX3_readMove_59 rfl ?_
            obtain ⟨M22, r21, hf⟩ := bd1_some hf
            refine x_cv (vs := [vR 166, vR (fX10_kindOf M (mI M 166 2))]) (rest := []) (k := 0) rfl (by omega) (ax_caV (pc := 65) dX3_readMove_65 kX3_need rfl rfl WM_X3_45 WI_X3_need WS_X3_need WN_X3 (ax_rcO (t := 2) (axEx hG rfl) rfl (by decide)) (Nat.le_of_ble_eq_true rfl)) kX3_need rfl True.intro (T_X3_need (by omega) hG q2 r21) ?_
            refine x_aload_n (pc := 68) dX3_readMove_68 rfl ?_
            cases hf
            exact x_retR (pc := 69) dX3_readMove_69
theorem R_X3_readMove {M : ax_M} (g : ax_g M) {r : Nat} {M1 : ax_M} (hf : fX3_readMove M = some (r, M1)) : 10 ≤ r ∧ r < 52 := by
  unfold fX3_readMove at hf
  have q2 := R_X10_kindOf g (r := (fX10_kindOf M (mI M 166 2))) rfl
  by_cases h3 : (fX10_kindOf M (mI M 166 2)) = 16
  · replace hf := (if_pos h3).symm.trans hf
    obtain ⟨M6, r5, hf⟩ := bd1_some hf
    cases hf
    exact q2
  · replace hf := (if_neg h3).symm.trans hf
    by_cases h7 : (fX10_kindOf M (mI M 166 2)) = 17
    · replace hf := (if_pos h7).symm.trans hf
      obtain ⟨M10, r9, hf⟩ := bd1_some hf
      cases hf
      exact q2
    · replace hf := (if_neg h7).symm.trans hf
      by_cases h11 : (fX10_kindOf M (mI M 166 2)) = 18
      · replace hf := (if_pos h11).symm.trans hf
        obtain ⟨M14, r13, hf⟩ := bd1_some hf
        cases hf
        exact q2
      · replace hf := (if_neg h11).symm.trans hf
        by_cases h15 : (fX10_kindOf M (mI M 166 2)) = 19
        · replace hf := (if_pos h15).symm.trans hf
          obtain ⟨M18, r17, hf⟩ := bd1_some hf
          cases hf
          exact q2
        · replace hf := (if_neg h15).symm.trans hf
          by_cases h19 : (fX10_kindOf M (mI M 166 2)) = 20
          · replace hf := (if_pos h19).symm.trans hf
            obtain ⟨M22, r21, hf⟩ := bd1_some hf
            cases hf
            exact q2
          · replace hf := (if_neg h19).symm.trans hf
            obtain ⟨M25, r24, hf⟩ := bd1_some hf
            cases hf
            exact q2
/- HexPond$Grammar.readRelation()LHexPond$Kind; -/
def fX3_readRelation (M : ax_M) : Option (Nat × ax_M) :=
  (if (fX10_kindOf M (mI M 166 2)) = 43 then (bd1 (fX3_need M (fX10_kindOf M (mI M 166 2))) fun M6 => (some ((fX10_kindOf M (mI M 166 2)), M6))) else (if (fX10_kindOf M (mI M 166 2)) = 44 then (bd1 (fX3_need M (fX10_kindOf M (mI M 166 2))) fun M10 => (some ((fX10_kindOf M (mI M 166 2)), M10))) else (if (fX10_kindOf M (mI M 166 2)) = 45 then (bd1 (fX3_need M (fX10_kindOf M (mI M 166 2))) fun M14 => (some ((fX10_kindOf M (mI M 166 2)), M14))) else (if (fX10_kindOf M (mI M 166 2)) = 46 then (bd1 (fX3_need M (fX10_kindOf M (mI M 166 2))) fun M18 => (some ((fX10_kindOf M (mI M 166 2)), M18))) else (if (fX10_kindOf M (mI M 166 2)) = 47 then (bd1 (fX3_need M (fX10_kindOf M (mI M 166 2))) fun M22 => (some ((fX10_kindOf M (mI M 166 2)), M22))) else (bd1 (fX3_need M 43) fun M25 => (some ((fX10_kindOf M (mI M 166 2)), M25))))))))
theorem T_X3_readRelation {G : ax_G} {d : Nat} (hd : 2 ≤ d) (hG : axPs G 150 244) {M : ax_M} {r : Nat} {M1 : ax_M} (hf : fX3_readRelation M = some (r, M1)) : ax_Ex G tX3_readRelation d 0 (ax_args [vR 166] ++ List.replicate 2 none) [] M (.inl (some (vR r))) M1 := by
  show ax_Ex G tX3_readRelation d 0 [some (vR 166), none, none] [] M _ _
  unfold fX3_readRelation at hf
  refine x_aload_n (pc := 0) dX3_readRelation_0 rfl ?_
  refine x_getF (t := 2) (j := 0) (r := 153) (pc := 1) dX3_readRelation_1 (axH hG rfl) (axEx hG rfl) rfl (by decide) (by decide) rfl rfl WF_X3_9 ?_
  refine x_aload_n (pc := 4) dX3_readRelation_4 rfl ?_
  refine x_getI (t := 2) (j := 2) (pc := 5) dX3_readRelation_5 (axEx hG rfl) rfl (by decide) (by decide) rfl WF_X3_24 ?_
  refine ax_know (fun g1 _ _ => ?_)
  have q2 := R_X10_kindOf g1 (r := (fX10_kindOf M (mI M 166 2))) rfl
  refine x_cr (v := vR (fX10_kindOf M (mI M 166 2))) (vs := [vR 153, vI (mI M 166 2)]) (rest := []) (k := 1) rfl (by omega) (ax_caV (pc := 8) dX3_readRelation_8 kX10_kindOf rfl rfl WM_X3_104 WI_X10_kindOf WS_X10_kindOf WN_X10 (ax_rcO (t := 8) (axEx hG rfl) rfl (by decide)) (Nat.le_of_ble_eq_true rfl)) kX10_kindOf rfl True.intro (T_X10_kindOf (by omega) hG rfl) ?_
  refine x_astore_n (ls' := [some (vR 166), some (vR (fX10_kindOf M (mI M 166 2))), none]) (pc := 11) dX3_readRelation_11 (Nat.le_of_ble_eq_true rfl) rfl rfl ?_
  refine x_aload_n (pc := 12) dX3_readRelation_12 rfl ?_
  refine x_gets (v := vR 43) _ (pc := 13) dX3_readRelation_13 (axS_mem (n := 41) rfl) rfl trivial WF_X3_159 ?_
  refine x_acmpeq (tgt := 47) (pc := 16) dX3_readRelation_16 rfl q2 (by decide) (fun h3 => ?_) (fun h3 => ?_)
  · replace hf := (if_pos h3).symm.trans hf
    refine x_iconst (pc := 47) dX3_readRelation_47 ⟨by decide, by decide⟩ ?_
    refine x_goto (tgt := 52) (pc := 48) dX3_readRelation_48 rfl ?_
    refine x_istore_n (ls' := [some (vR 166), some (vR (fX10_kindOf M (mI M 166 2))), some (vI 1)]) (pc := 52) dX3_readRelation_52 (Nat.le_of_ble_eq_true rfl) rfl rfl ?_
    refine x_aload_n (pc := 53) dX3_readRelation_53 rfl ?_
    refine x_iload_n (pc := 54) dX3_readRelation_54 rfl ?_
    refine x_ifeq (tgt := 62) (pc := 55) dX3_readRelation_55 rfl (fun h4 => absurd h4 (by omega)) (fun h4 => ?_)
    refine x_aload_n (pc := 58) dX3_readRelation_58 rfl ?_
    refine x_goto (tgt := 65) (pc := 59) dX3_readRelation_59 rfl ?_
    obtain ⟨M6, r5, hf⟩ := bd1_some hf
    refine x_cv (vs := [vR 166, vR (fX10_kindOf M (mI M 166 2))]) (rest := []) (k := 0) rfl (by omega) (ax_caV (pc := 65) dX3_readRelation_65 kX3_need rfl rfl WM_X3_45 WI_X3_need WS_X3_need WN_X3 (ax_rcO (t := 2) (axEx hG rfl) rfl (by decide)) (Nat.le_of_ble_eq_true rfl)) kX3_need rfl True.intro (T_X3_need (by omega) hG q2 r5) ?_
    refine x_aload_n (pc := 68) dX3_readRelation_68 rfl ?_
    cases hf
    exact x_retR (pc := 69) dX3_readRelation_69
  · replace hf := (if_neg h3).symm.trans hf
    refine x_aload_n (pc := 19) dX3_readRelation_19 rfl ?_
    refine x_gets (v := vR 44) _ (pc := 20) dX3_readRelation_20 (axS_mem (n := 42) rfl) rfl trivial WF_X3_162 ?_
    refine x_acmpeq (tgt := 47) (pc := 23) dX3_readRelation_23 rfl q2 (by decide) (fun h7 => ?_) (fun h7 => ?_)
    · replace hf := (if_pos h7).symm.trans hf
      refine x_iconst (pc := 47) dX3_readRelation_47 ⟨by decide, by decide⟩ ?_
      refine x_goto (tgt := 52) (pc := 48) dX3_readRelation_48 rfl ?_
      refine x_istore_n (ls' := [some (vR 166), some (vR (fX10_kindOf M (mI M 166 2))), some (vI 1)]) (pc := 52) dX3_readRelation_52 (Nat.le_of_ble_eq_true rfl) rfl rfl ?_
      refine x_aload_n (pc := 53) dX3_readRelation_53 rfl ?_
      refine x_iload_n (pc := 54) dX3_readRelation_54 rfl ?_
      refine x_ifeq (tgt := 62) (pc := 55) dX3_readRelation_55 rfl (fun h8 => absurd h8 (by omega)) (fun h8 => ?_)
      refine x_aload_n (pc := 58) dX3_readRelation_58 rfl ?_
      refine x_goto (tgt := 65) (pc := 59) dX3_readRelation_59 rfl ?_
      obtain ⟨M10, r9, hf⟩ := bd1_some hf
      refine x_cv (vs := [vR 166, vR (fX10_kindOf M (mI M 166 2))]) (rest := []) (k := 0) rfl (by omega) (ax_caV (pc := 65) dX3_readRelation_65 kX3_need rfl rfl WM_X3_45 WI_X3_need WS_X3_need WN_X3 (ax_rcO (t := 2) (axEx hG rfl) rfl (by decide)) (Nat.le_of_ble_eq_true rfl)) kX3_need rfl True.intro (T_X3_need (by omega) hG q2 r9) ?_
      refine x_aload_n (pc := 68) dX3_readRelation_68 rfl ?_
      cases hf
      exact x_retR (pc := 69) dX3_readRelation_69
    · replace hf := (if_neg h7).symm.trans hf
      refine x_aload_n (pc := 26) dX3_readRelation_26 rfl ?_
      refine x_gets (v := vR 45) _ (pc := 27) dX3_readRelation_27 (axS_mem (n := 43) rfl) rfl trivial WF_X3_165 ?_
      refine x_acmpeq (tgt := 47) (pc := 30) dX3_readRelation_30 rfl q2 (by decide) (fun h11 => ?_) (fun h11 => ?_)
      · replace hf := (if_pos h11).symm.trans hf
        refine x_iconst (pc := 47) dX3_readRelation_47 ⟨by decide, by decide⟩ ?_
        refine x_goto (tgt := 52) (pc := 48) dX3_readRelation_48 rfl ?_
        refine x_istore_n (ls' := [some (vR 166), some (vR (fX10_kindOf M (mI M 166 2))), some (vI 1)]) (pc := 52) dX3_readRelation_52 (Nat.le_of_ble_eq_true rfl) rfl rfl ?_
        refine x_aload_n (pc := 53) dX3_readRelation_53 rfl ?_
        refine x_iload_n (pc := 54) dX3_readRelation_54 rfl ?_
        refine x_ifeq (tgt := 62) (pc := 55) dX3_readRelation_55 rfl (fun h12 => absurd h12 (by omega)) (fun h12 => ?_)
        refine x_aload_n (pc := 58) dX3_readRelation_58 rfl ?_
        refine x_goto (tgt := 65) (pc := 59) dX3_readRelation_59 rfl ?_
        obtain ⟨M14, r13, hf⟩ := bd1_some hf
        refine x_cv (vs := [vR 166, vR (fX10_kindOf M (mI M 166 2))]) (rest := []) (k := 0) rfl (by omega) (ax_caV (pc := 65) dX3_readRelation_65 kX3_need rfl rfl WM_X3_45 WI_X3_need WS_X3_need WN_X3 (ax_rcO (t := 2) (axEx hG rfl) rfl (by decide)) (Nat.le_of_ble_eq_true rfl)) kX3_need rfl True.intro (T_X3_need (by omega) hG q2 r13) ?_
        refine x_aload_n (pc := 68) dX3_readRelation_68 rfl ?_
        cases hf
        exact x_retR (pc := 69) dX3_readRelation_69
      · replace hf := (if_neg h11).symm.trans hf
        refine x_aload_n (pc := 33) dX3_readRelation_33 rfl ?_
        refine x_gets (v := vR 46) _ (pc := 34) dX3_readRelation_34 (axS_mem (n := 44) rfl) rfl trivial WF_X3_168 ?_
        refine x_acmpeq (tgt := 47) (pc := 37) dX3_readRelation_37 rfl q2 (by decide) (fun h15 => ?_) (fun h15 => ?_)
        · replace hf := (if_pos h15).symm.trans hf
          refine x_iconst (pc := 47) dX3_readRelation_47 ⟨by decide, by decide⟩ ?_
          refine x_goto (tgt := 52) (pc := 48) dX3_readRelation_48 rfl ?_
          refine x_istore_n (ls' := [some (vR 166), some (vR (fX10_kindOf M (mI M 166 2))), some (vI 1)]) (pc := 52) dX3_readRelation_52 (Nat.le_of_ble_eq_true rfl) rfl rfl ?_
          refine x_aload_n (pc := 53) dX3_readRelation_53 rfl ?_
          refine x_iload_n (pc := 54) dX3_readRelation_54 rfl ?_
          refine x_ifeq (tgt := 62) (pc := 55) dX3_readRelation_55 rfl (fun h16 => absurd h16 (by omega)) (fun h16 => ?_)
          refine x_aload_n (pc := 58) dX3_readRelation_58 rfl ?_
          refine x_goto (tgt := 65) (pc := 59) dX3_readRelation_59 rfl ?_
          obtain ⟨M18, r17, hf⟩ := bd1_some hf
          refine x_cv (vs := [vR 166, vR (fX10_kindOf M (mI M 166 2))]) (rest := []) (k := 0) rfl (by omega) (ax_caV (pc := 65) dX3_readRelation_65 kX3_need rfl rfl WM_X3_45 WI_X3_need WS_X3_need WN_X3 (ax_rcO (t := 2) (axEx hG rfl) rfl (by decide)) (Nat.le_of_ble_eq_true rfl)) kX3_need rfl True.intro (T_X3_need (by omega) hG q2 r17) ?_
          refine x_aload_n (pc := 68) dX3_readRelation_68 rfl ?_
          cases hf
          exact x_retR (pc := 69) dX3_readRelation_69
        · replace hf := (if_neg h15).symm.trans hf
          refine x_aload_n (pc := 40) dX3_readRelation_40 rfl ?_
          refine x_gets (v := vR 47) _ (pc := 41) dX3_readRelation_41 (axS_mem (n := 45) rfl) rfl trivial WF_X3_171 ?_
          refine x_acmpne (tgt := 51) (pc := 44) dX3_readRelation_44 rfl q2 (by decide) (fun h19 => ?_) (fun h19 => ?_)
          · replace hf := (if_neg h19).symm.trans hf
            refine x_iconst (pc := 51) dX3_readRelation_51 ⟨by decide, by decide⟩ ?_
            refine x_istore_n (ls' := [some (vR 166), some (vR (fX10_kindOf M (mI M 166 2))), some (vI 0)]) (pc := 52) dX3_readRelation_52 (Nat.le_of_ble_eq_true rfl) rfl rfl ?_
            refine x_aload_n (pc := 53) dX3_readRelation_53 rfl ?_
            refine x_iload_n (pc := 54) dX3_readRelation_54 rfl ?_
            refine x_ifeq (tgt := 62) (pc := 55) dX3_readRelation_55 rfl (fun h23 => ?_) (fun h23 => absurd h23 (by omega))
            refine x_gets (v := vR 43) _ (pc := 62) dX3_readRelation_62 (axS_mem (n := 41) rfl) rfl trivial WF_X3_159 ?_
            obtain ⟨M25, r24, hf⟩ := bd1_some hf
            refine x_cv (vs := [vR 166, vR 43]) (rest := []) (k := 0) rfl (by omega) (ax_caV (pc := 65) dX3_readRelation_65 kX3_need rfl rfl WM_X3_45 WI_X3_need WS_X3_need WN_X3 (ax_rcO (t := 2) (axEx hG rfl) rfl (by decide)) (Nat.le_of_ble_eq_true rfl)) kX3_need rfl True.intro (T_X3_need (by omega) hG (by decide) r24) ?_
            refine x_aload_n (pc := 68) dX3_readRelation_68 rfl ?_
            cases hf
            exact x_retR (pc := 69) dX3_readRelation_69
          · replace hf := (if_pos h19).symm.trans hf
            refine x_iconst (pc := 47) dX3_readRelation_47 ⟨by decide, by decide⟩ ?_
            refine x_goto (tgt := 52) (pc := 48) dX3_readRelation_48 rfl ?_
            refine x_istore_n (ls' := [some (vR 166), some (vR (fX10_kindOf M (mI M 166 2))), some (vI 1)]) (pc := 52) dX3_readRelation_52 (Nat.le_of_ble_eq_true rfl) rfl rfl ?_
            refine x_aload_n (pc := 53) dX3_readRelation_53 rfl ?_
            refine x_iload_n (pc := 54) dX3_readRelation_54 rfl ?_
            refine x_ifeq (tgt := 62) (pc := 55) dX3_readRelation_55 rfl (fun h20 => absurd h20 (by omega)) (fun h20 => ?_)
            refine x_aload_n (pc := 58) dX3_readRelation_58 rfl ?_
            refine x_goto (tgt := 65) (pc := 59) dX3_readRelation_59 rfl ?_
            obtain ⟨M22, r21, hf⟩ := bd1_some hf
            refine x_cv (vs := [vR 166, vR (fX10_kindOf M (mI M 166 2))]) (rest := []) (k := 0) rfl (by omega) (ax_caV (pc := 65) dX3_readRelation_65 kX3_need rfl rfl WM_X3_45 WI_X3_need WS_X3_need WN_X3 (ax_rcO (t := 2) (axEx hG rfl) rfl (by decide)) (Nat.le_of_ble_eq_true rfl)) kX3_need rfl True.intro (T_X3_need (by omega) hG q2 r21) ?_
            refine x_aload_n (pc := 68) dX3_readRelation_68 rfl ?_
            cases hf
            exact x_retR (pc := 69) dX3_readRelation_69
theorem R_X3_readRelation {M : ax_M} (g : ax_g M) {r : Nat} {M1 : ax_M} (hf : fX3_readRelation M = some (r, M1)) : 10 ≤ r ∧ r < 52 := by
  unfold fX3_readRelation at hf
  have q2 := R_X10_kindOf g (r := (fX10_kindOf M (mI M 166 2))) rfl
  by_cases h3 : (fX10_kindOf M (mI M 166 2)) = 43
  · replace hf := (if_pos h3).symm.trans hf
    obtain ⟨M6, r5, hf⟩ := bd1_some hf
    cases hf
    exact q2
  · replace hf := (if_neg h3).symm.trans hf
    by_cases h7 : (fX10_kindOf M (mI M 166 2)) = 44
    · replace hf := (if_pos h7).symm.trans hf
      obtain ⟨M10, r9, hf⟩ := bd1_some hf
      cases hf
      exact q2
    · replace hf := (if_neg h7).symm.trans hf
      by_cases h11 : (fX10_kindOf M (mI M 166 2)) = 45
      · replace hf := (if_pos h11).symm.trans hf
        obtain ⟨M14, r13, hf⟩ := bd1_some hf
        cases hf
        exact q2
      · replace hf := (if_neg h11).symm.trans hf
        by_cases h15 : (fX10_kindOf M (mI M 166 2)) = 46
        · replace hf := (if_pos h15).symm.trans hf
          obtain ⟨M18, r17, hf⟩ := bd1_some hf
          cases hf
          exact q2
        · replace hf := (if_neg h15).symm.trans hf
          by_cases h19 : (fX10_kindOf M (mI M 166 2)) = 47
          · replace hf := (if_pos h19).symm.trans hf
            obtain ⟨M22, r21, hf⟩ := bd1_some hf
            cases hf
            exact q2
          · replace hf := (if_neg h19).symm.trans hf
            obtain ⟨M25, r24, hf⟩ := bd1_some hf
            cases hf
            exact q2
/- HexPond$Grammar.readStone()V -/
def fX3_readStone (M : ax_M) : Option ax_M :=
  (bd2 (fX3_readPlayer M) fun v3 M2 => (bd1 (fX3_need M2 48) fun M5 => (bd1 (fX3_need M5 38) fun M7 => (bd1 (fX3_need M7 48) fun M9 => (some M9)))))
theorem T_X3_readStone {G : ax_G} {d : Nat} (hd : 3 ≤ d) (hG : axPs G 150 244) {M : ax_M} {M1 : ax_M} (hf : fX3_readStone M = some M1) : ax_Ex G tX3_readStone d 0 (ax_args [vR 166] ++ List.replicate 0 none) [] M (.inl none) M1 := by
  show ax_Ex G tX3_readStone d 0 [some (vR 166)] [] M _ _
  unfold fX3_readStone at hf
  refine x_aload_n (pc := 0) dX3_readStone_0 rfl ?_
  obtain ⟨v3, M2, r1, hf⟩ := bd2_some hf
  refine x_cr (v := vI v3) (vs := [vR 166]) (rest := []) (k := 0) rfl (by omega) (ax_caV (pc := 1) dX3_readStone_1 kX3_readPlayer rfl rfl WM_X3_73 WI_X3_readPlayer WS_X3_readPlayer WN_X3 (ax_rcO (t := 2) (axEx hG rfl) rfl (by decide)) (Nat.le_of_ble_eq_true rfl)) kX3_readPlayer rfl True.intro (T_X3_readPlayer (by omega) hG r1) ?_
  refine x_pop (pc := 4) dX3_readStone_4 rfl ?_
  refine x_aload_n (pc := 5) dX3_readStone_5 rfl ?_
  refine x_gets (v := vR 48) _ (pc := 6) dX3_readStone_6 (axS_mem (n := 46) rfl) rfl trivial WF_X3_42 ?_
  obtain ⟨M5, r4, hf⟩ := bd1_some hf
  refine x_cv (vs := [vR 166, vR 48]) (rest := []) (k := 0) rfl (by omega) (ax_caV (pc := 9) dX3_readStone_9 kX3_need rfl rfl WM_X3_45 WI_X3_need WS_X3_need WN_X3 (ax_rcO (t := 2) (axEx hG rfl) rfl (by decide)) (Nat.le_of_ble_eq_true rfl)) kX3_need rfl True.intro (T_X3_need (by omega) hG (by decide) r4) ?_
  refine x_aload_n (pc := 12) dX3_readStone_12 rfl ?_
  refine x_gets (v := vR 38) _ (pc := 13) dX3_readStone_13 (axS_mem (n := 36) rfl) rfl trivial WF_X3_77 ?_
  obtain ⟨M7, r6, hf⟩ := bd1_some hf
  refine x_cv (vs := [vR 166, vR 38]) (rest := []) (k := 0) rfl (by omega) (ax_caV (pc := 16) dX3_readStone_16 kX3_need rfl rfl WM_X3_45 WI_X3_need WS_X3_need WN_X3 (ax_rcO (t := 2) (axEx hG rfl) rfl (by decide)) (Nat.le_of_ble_eq_true rfl)) kX3_need rfl True.intro (T_X3_need (by omega) hG (by decide) r6) ?_
  refine x_aload_n (pc := 19) dX3_readStone_19 rfl ?_
  refine x_gets (v := vR 48) _ (pc := 20) dX3_readStone_20 (axS_mem (n := 46) rfl) rfl trivial WF_X3_42 ?_
  obtain ⟨M9, r8, hf⟩ := bd1_some hf
  refine x_cv (vs := [vR 166, vR 48]) (rest := []) (k := 0) rfl (by omega) (ax_caV (pc := 23) dX3_readStone_23 kX3_need rfl rfl WM_X3_45 WI_X3_need WS_X3_need WN_X3 (ax_rcO (t := 2) (axEx hG rfl) rfl (by decide)) (Nat.le_of_ble_eq_true rfl)) kX3_need rfl True.intro (T_X3_need (by omega) hG (by decide) r8) ?_
  cases hf
  exact x_retV (pc := 26) dX3_readStone_26
/- HexPond$Grammar.readTest(I)V -/
def fX3_readTest_b7 (self : Nat → Nat → Int → ax_M → Option ax_M) (M : ax_M) (x1 : Int) (v2 : Int) : Option ((Int × ax_M) ⊕ ax_M) :=
  (if v2 < 400 then (bd2 (fX3_take M 30) fun v7 M6 => (if v7 = 0 then (some (.inr M6)) else (bd1 (self 1 0 x1 M6) fun M10 => (oq (mR M10 166 1) none fun p12 => if (p12 = 157 ∨ p12 = 194) then (bd1 (fX7_write M10 p12 30 0) fun M15 => (some (.inl ((v2 + 1), M15)))) else none)))) else (some (.inr M)))
def fX3_readTest (self : Nat → Nat → Int → ax_M → Option ax_M) (M : ax_M) (a1 : Int) : Option ax_M :=
  (bd1 (self 1 0 a1 M) fun M2 => (bd1 (lp (fun s => fX3_readTest_b7 self s.2 a1 s.1) lpN (0, M2)) fun t16 => (some t16)))
theorem B_X3_readTest_7 {G : ax_G} {d : Nat} {D : Nat} {self : Nat → Nat → Int → ax_M → Option ax_M} (hD : 8 ≤ D) (hS : SG3 G self D) (hd : D + 1 ≤ d) (hG : axPs G 150 244) {M : ax_M} {x1 : Int} {v2 : Int} {o : Option ax_V ⊕ String} {M' : ax_M} {y : (Int × ax_M) ⊕ ax_M} (hf : fX3_readTest_b7 self M x1 v2 = some y) (h1 : ∀ s', y = .inl s' → ax_Ex G tX3_readTest d 7 [some (vR 166), some (vI x1), some (vI s'.1)] [] s'.2 o M') (h2a : ∀ t, y = .inr t → ax_Ex G tX3_readTest d 46 [some (vR 166), some (vI x1), none] [] t o M') : ax_Ex G tX3_readTest d 7 [some (vR 166), some (vI x1), some (vI v2)] [] M o M' := by
  unfold fX3_readTest_b7 at hf
  refine x_iload_n (pc := 7) dX3_readTest_7 rfl ?_
  refine x_sipush (pc := 8) dX3_readTest_8 (by decide) ⟨by decide, by decide⟩ ?_
  refine ax_cmp (fun b4a b4b b4c b4e => ?_)
  refine x_icmpge (tgt := 46) (pc := 11) dX3_readTest_11 rfl (fun h3 => ?_) (fun h3 => ?_)
  · replace hf := (if_neg (Int.not_lt.mpr h3)).symm.trans hf
    cases hf
    exact x_fgt (axS' (axS' (axN' axD))) (h2a _ rfl)
  · replace hf := (if_pos h3).symm.trans hf
    refine x_aload_n (pc := 14) dX3_readTest_14 rfl ?_
    refine x_gets (v := vR 30) _ (pc := 15) dX3_readTest_15 (axS_mem (n := 28) rfl) rfl trivial WF_X3_131 ?_
    obtain ⟨v7, M6, r5, hf⟩ := bd2_some hf
    refine x_cr (v := vI v7) (vs := [vR 166, vR 30]) (rest := []) (k := 1) rfl (by omega) (ax_caV (pc := 18) dX3_readTest_18 kX3_take rfl rfl WM_X3_38 WI_X3_take WS_X3_take WN_X3 (ax_rcO (t := 2) (axEx hG rfl) rfl (by decide)) (Nat.le_of_ble_eq_true rfl)) kX3_take rfl (Z_X3_take r5) (T_X3_take (by omega) hG (by decide) r5) ?_
    refine x_ifeq (tgt := 46) (pc := 21) dX3_readTest_21 rfl (fun h8 => ?_) (fun h8 => ?_)
    · replace hf := (if_pos h8).symm.trans hf
      cases hf
      exact x_fgt (axS' (axS' (axN' axD))) (h2a _ rfl)
    · replace hf := (if_neg h8).symm.trans hf
      refine x_aload_n (pc := 24) dX3_readTest_24 rfl ?_
      refine x_iload_n (pc := 25) dX3_readTest_25 rfl ?_
      obtain ⟨M10, r9, hf⟩ := bd1_some hf
      refine x_cv (vs := [vR 166, vI x1]) (rest := []) (k := 1) rfl (by omega) (ax_caV (pc := 26) dX3_readTest_26 kX3_readBoth rfl rfl WM_X3_128 WI_X3_readBoth WS_X3_readBoth WN_X3 (ax_rcO (t := 2) (axEx hG rfl) rfl (by decide)) (Nat.le_of_ble_eq_true rfl)) kX3_readBoth rfl True.intro (hS.2.1 (d - 1) _ _ (by omega) r9) ?_
      refine x_aload_n (pc := 29) dX3_readTest_29 rfl ?_
      rcases h11 : (mR M10 166 1) with _ | p12
      · replace hf := (oq_none h11).symm.trans hf
        cases hf
      · replace hf := (oq_some h11).symm.trans hf
        by_cases h13 : (p12 = 157 ∨ p12 = 194)
        · replace hf := (if_pos h13).symm.trans hf
          refine x_getRq h11 (t := 2) (j := 1) (pc := 30) dX3_readTest_30 (axEx hG rfl) rfl (by decide) (by decide) rfl WF_X3_15 ?_
          refine x_gets (v := vR 30) _ (pc := 33) dX3_readTest_33 (axS_mem (n := 28) rfl) rfl trivial WF_X3_131 ?_
          refine x_iconst (pc := 36) dX3_readTest_36 ⟨by decide, by decide⟩ ?_
          obtain ⟨M15, r14, hf⟩ := bd1_some hf
          refine x_cv (vs := [vR p12, vR 30, vI 0]) (rest := []) (k := 0) rfl (by omega) (ax_caV (pc := 37) dX3_readTest_37 kX7_write rfl rfl WM_X3_134 WI_X7_write WS_X7_write WN_X7 (ax_rcO (t := 5) (by rcases h13 with rfl | rfl <;> exact axEx hG rfl) (by rcases h13 with rfl | rfl <;> rfl) (by decide)) (Nat.le_of_ble_eq_true rfl)) kX7_write rfl True.intro (T_X7_write (by omega) hG h13 (by decide) r14) ?_
          refine x_iinc (z := (v2 + 1)) (ls' := [some (vR 166), some (vI x1), some (vI (v2 + 1))]) (pc := 40) dX3_readTest_40 rfl (Nat.le_of_ble_eq_true rfl) rfl rfl (ax_i (by omega) (by omega)) rfl ?_
          refine x_goto (tgt := 7) (pc := 43) dX3_readTest_43 rfl ?_
          cases hf
          exact h1 _ rfl
        · replace hf := (if_neg h13).symm.trans hf
          cases hf
theorem T_X3_readTest {G : ax_G} {d : Nat} {D : Nat} {self : Nat → Nat → Int → ax_M → Option ax_M} (hD : 8 ≤ D) (hS : SG3 G self D) (hd : D + 1 ≤ d) (hG : axPs G 150 244) {M : ax_M} {a1 : Int} {M1 : ax_M} (hf : fX3_readTest self M a1 = some M1) : ax_Ex G tX3_readTest d 0 (ax_args [vR 166, vI a1] ++ List.replicate 1 none) [] M (.inl none) M1 := by
  show ax_Ex G tX3_readTest d 0 [some (vR 166), some (vI a1), none] [] M _ _
  unfold fX3_readTest at hf
  refine x_aload_n (pc := 0) dX3_readTest_0 rfl ?_
  refine x_iload_n (pc := 1) dX3_readTest_1 rfl ?_
  obtain ⟨M2, r1, hf⟩ := bd1_some hf
  refine x_cv (vs := [vR 166, vI a1]) (rest := []) (k := 1) rfl (by omega) (ax_caV (pc := 2) dX3_readTest_2 kX3_readBoth rfl rfl WM_X3_128 WI_X3_readBoth WS_X3_readBoth WN_X3 (ax_rcO (t := 2) (axEx hG rfl) rfl (by decide)) (Nat.le_of_ble_eq_true rfl)) kX3_readBoth rfl True.intro (hS.2.1 (d - 1) _ _ (by omega) r1) ?_
  refine x_iconst (pc := 5) dX3_readTest_5 ⟨by decide, by decide⟩ ?_
  refine x_istore_n (ls' := [some (vR 166), some (vI a1), some (vI 0)]) (pc := 6) dX3_readTest_6 (Nat.le_of_ble_eq_true rfl) rfl rfl ?_
  obtain ⟨t16, t17, hf⟩ := bd1_some hf
  refine lp_ex (P := (fun s => ax_Ex G tX3_readTest d 7 [some (vR 166), some (vI a1), some (vI s.1)] [] s.2 _ _)) (K := (fun t => ax_Ex G tX3_readTest d 46 [some (vR 166), some (vI a1), none] [] t _ _)) (fun s y hy h1 h2 => B_X3_readTest_7 hD hS (by omega) hG hy (fun s' e => h1 s' e) (fun t e => h2 t e)) _ _ _ t17 ?_
  cases hf
  exact x_retV (pc := 46) dX3_readTest_46
/- HexPond$Grammar.readBoth(I)V -/
def fX3_readBoth_b7 (self : Nat → Nat → Int → ax_M → Option ax_M) (M : ax_M) (x1 : Int) (v2 : Int) : Option ((Int × ax_M) ⊕ ax_M) :=
  (if v2 < 400 then (bd2 (fX3_take M 29) fun v7 M6 => (if v7 = 0 then (some (.inr M6)) else (bd1 (self 2 0 x1 M6) fun M10 => (oq (mR M10 166 1) none fun p12 => if (p12 = 157 ∨ p12 = 194) then (bd1 (fX7_write M10 p12 29 0) fun M15 => (some (.inl ((v2 + 1), M15)))) else none)))) else (some (.inr M)))
def fX3_readBoth (self : Nat → Nat → Int → ax_M → Option ax_M) (M : ax_M) (a1 : Int) : Option ax_M :=
  (bd1 (self 2 0 a1 M) fun M2 => (bd1 (lp (fun s => fX3_readBoth_b7 self s.2 a1 s.1) lpN (0, M2)) fun t16 => (some t16)))
theorem B_X3_readBoth_7 {G : ax_G} {d : Nat} {D : Nat} {self : Nat → Nat → Int → ax_M → Option ax_M} (hD : 8 ≤ D) (hS : SG3 G self D) (hd : D + 1 ≤ d) (hG : axPs G 150 244) {M : ax_M} {x1 : Int} {v2 : Int} {o : Option ax_V ⊕ String} {M' : ax_M} {y : (Int × ax_M) ⊕ ax_M} (hf : fX3_readBoth_b7 self M x1 v2 = some y) (h1 : ∀ s', y = .inl s' → ax_Ex G tX3_readBoth d 7 [some (vR 166), some (vI x1), some (vI s'.1)] [] s'.2 o M') (h2a : ∀ t, y = .inr t → ax_Ex G tX3_readBoth d 46 [some (vR 166), some (vI x1), none] [] t o M') : ax_Ex G tX3_readBoth d 7 [some (vR 166), some (vI x1), some (vI v2)] [] M o M' := by
  unfold fX3_readBoth_b7 at hf
  refine x_iload_n (pc := 7) dX3_readBoth_7 rfl ?_
  refine x_sipush (pc := 8) dX3_readBoth_8 (by decide) ⟨by decide, by decide⟩ ?_
  refine ax_cmp (fun b4a b4b b4c b4e => ?_)
  refine x_icmpge (tgt := 46) (pc := 11) dX3_readBoth_11 rfl (fun h3 => ?_) (fun h3 => ?_)
  · replace hf := (if_neg (Int.not_lt.mpr h3)).symm.trans hf
    cases hf
    exact x_fgt (axS' (axS' (axN' axD))) (h2a _ rfl)
  · replace hf := (if_pos h3).symm.trans hf
    refine x_aload_n (pc := 14) dX3_readBoth_14 rfl ?_
    refine x_gets (v := vR 29) _ (pc := 15) dX3_readBoth_15 (axS_mem (n := 27) rfl) rfl trivial WF_X3_141 ?_
    obtain ⟨v7, M6, r5, hf⟩ := bd2_some hf
    refine x_cr (v := vI v7) (vs := [vR 166, vR 29]) (rest := []) (k := 1) rfl (by omega) (ax_caV (pc := 18) dX3_readBoth_18 kX3_take rfl rfl WM_X3_38 WI_X3_take WS_X3_take WN_X3 (ax_rcO (t := 2) (axEx hG rfl) rfl (by decide)) (Nat.le_of_ble_eq_true rfl)) kX3_take rfl (Z_X3_take r5) (T_X3_take (by omega) hG (by decide) r5) ?_
    refine x_ifeq (tgt := 46) (pc := 21) dX3_readBoth_21 rfl (fun h8 => ?_) (fun h8 => ?_)
    · replace hf := (if_pos h8).symm.trans hf
      cases hf
      exact x_fgt (axS' (axS' (axN' axD))) (h2a _ rfl)
    · replace hf := (if_neg h8).symm.trans hf
      refine x_aload_n (pc := 24) dX3_readBoth_24 rfl ?_
      refine x_iload_n (pc := 25) dX3_readBoth_25 rfl ?_
      obtain ⟨M10, r9, hf⟩ := bd1_some hf
      refine x_cv (vs := [vR 166, vI x1]) (rest := []) (k := 1) rfl (by omega) (ax_caV (pc := 26) dX3_readBoth_26 kX3_readSingle rfl rfl WM_X3_138 WI_X3_readSingle WS_X3_readSingle WN_X3 (ax_rcO (t := 2) (axEx hG rfl) rfl (by decide)) (Nat.le_of_ble_eq_true rfl)) kX3_readSingle rfl True.intro (hS.2.2.1 (d - 1) _ _ (by omega) r9) ?_
      refine x_aload_n (pc := 29) dX3_readBoth_29 rfl ?_
      rcases h11 : (mR M10 166 1) with _ | p12
      · replace hf := (oq_none h11).symm.trans hf
        cases hf
      · replace hf := (oq_some h11).symm.trans hf
        by_cases h13 : (p12 = 157 ∨ p12 = 194)
        · replace hf := (if_pos h13).symm.trans hf
          refine x_getRq h11 (t := 2) (j := 1) (pc := 30) dX3_readBoth_30 (axEx hG rfl) rfl (by decide) (by decide) rfl WF_X3_15 ?_
          refine x_gets (v := vR 29) _ (pc := 33) dX3_readBoth_33 (axS_mem (n := 27) rfl) rfl trivial WF_X3_141 ?_
          refine x_iconst (pc := 36) dX3_readBoth_36 ⟨by decide, by decide⟩ ?_
          obtain ⟨M15, r14, hf⟩ := bd1_some hf
          refine x_cv (vs := [vR p12, vR 29, vI 0]) (rest := []) (k := 0) rfl (by omega) (ax_caV (pc := 37) dX3_readBoth_37 kX7_write rfl rfl WM_X3_134 WI_X7_write WS_X7_write WN_X7 (ax_rcO (t := 5) (by rcases h13 with rfl | rfl <;> exact axEx hG rfl) (by rcases h13 with rfl | rfl <;> rfl) (by decide)) (Nat.le_of_ble_eq_true rfl)) kX7_write rfl True.intro (T_X7_write (by omega) hG h13 (by decide) r14) ?_
          refine x_iinc (z := (v2 + 1)) (ls' := [some (vR 166), some (vI x1), some (vI (v2 + 1))]) (pc := 40) dX3_readBoth_40 rfl (Nat.le_of_ble_eq_true rfl) rfl rfl (ax_i (by omega) (by omega)) rfl ?_
          refine x_goto (tgt := 7) (pc := 43) dX3_readBoth_43 rfl ?_
          cases hf
          exact h1 _ rfl
        · replace hf := (if_neg h13).symm.trans hf
          cases hf
theorem T_X3_readBoth {G : ax_G} {d : Nat} {D : Nat} {self : Nat → Nat → Int → ax_M → Option ax_M} (hD : 8 ≤ D) (hS : SG3 G self D) (hd : D + 1 ≤ d) (hG : axPs G 150 244) {M : ax_M} {a1 : Int} {M1 : ax_M} (hf : fX3_readBoth self M a1 = some M1) : ax_Ex G tX3_readBoth d 0 (ax_args [vR 166, vI a1] ++ List.replicate 1 none) [] M (.inl none) M1 := by
  show ax_Ex G tX3_readBoth d 0 [some (vR 166), some (vI a1), none] [] M _ _
  unfold fX3_readBoth at hf
  refine x_aload_n (pc := 0) dX3_readBoth_0 rfl ?_
  refine x_iload_n (pc := 1) dX3_readBoth_1 rfl ?_
  obtain ⟨M2, r1, hf⟩ := bd1_some hf
  refine x_cv (vs := [vR 166, vI a1]) (rest := []) (k := 1) rfl (by omega) (ax_caV (pc := 2) dX3_readBoth_2 kX3_readSingle rfl rfl WM_X3_138 WI_X3_readSingle WS_X3_readSingle WN_X3 (ax_rcO (t := 2) (axEx hG rfl) rfl (by decide)) (Nat.le_of_ble_eq_true rfl)) kX3_readSingle rfl True.intro (hS.2.2.1 (d - 1) _ _ (by omega) r1) ?_
  refine x_iconst (pc := 5) dX3_readBoth_5 ⟨by decide, by decide⟩ ?_
  refine x_istore_n (ls' := [some (vR 166), some (vI a1), some (vI 0)]) (pc := 6) dX3_readBoth_6 (Nat.le_of_ble_eq_true rfl) rfl rfl ?_
  obtain ⟨t16, t17, hf⟩ := bd1_some hf
  refine lp_ex (P := (fun s => ax_Ex G tX3_readBoth d 7 [some (vR 166), some (vI a1), some (vI s.1)] [] s.2 _ _)) (K := (fun t => ax_Ex G tX3_readBoth d 46 [some (vR 166), some (vI a1), none] [] t _ _)) (fun s y hy h1 h2 => B_X3_readBoth_7 hD hS (by omega) hG hy (fun s' e => h1 s' e) (fun t e => h2 t e)) _ _ _ t17 ?_
  cases hf
  exact x_retV (pc := 46) dX3_readBoth_46
/- HexPond$Grammar.readSingle(I)V -/
def fX3_readSingle (self : Nat → Nat → Int → ax_M → Option ax_M) (M : ax_M) (a1 : Int) : Option ax_M :=
  (if a1 < 8 then (bd2 (fX3_take M 28) fun v5 M4 => (if v5 = 0 then (bd2 (fX3_take M4 35) fun v11 M10 => (if v11 = 0 then (bd2 (fX3_take M10 27) fun v15 M14 => (if v15 = 0 then (bd1 (self 3 0 a1 M14) fun M18 => (bd2 (fX3_readRelation M18) fun v21 M20 => (bd1 (self 3 0 a1 M20) fun M25 => (oq (mR M25 166 1) none fun p27 => if (p27 = 157 ∨ p27 = 194) then (bd1 (fX7_write M25 p27 v21 0) fun M30 => (some M30)) else none)))) else (oq (mR M14 166 1) none fun p32 => if (p32 = 157 ∨ p32 = 194) then (bd2 (fX3_readPlayer M14) fun v36 M35 => (bd1 (fX7_write M35 p32 27 v36) fun M38 => (some M38))) else none))) else (bd1 (self 0 0 (a1 + 1) M10) fun M40 => (bd1 (fX3_need M40 36) fun M42 => (some M42))))) else (bd1 (self 2 0 (a1 + 1) M4) fun M44 => (oq (mR M44 166 1) none fun p46 => if (p46 = 157 ∨ p46 = 194) then (bd1 (fX7_write M44 p46 28 0) fun M49 => (some M49)) else none)))) else (bd2 (fX3_take M 27) fun v54 M53 => (if v54 = 0 then (bd1 (self 3 0 a1 M53) fun M57 => (bd2 (fX3_readRelation M57) fun v60 M59 => (bd1 (self 3 0 a1 M59) fun M64 => (oq (mR M64 166 1) none fun p66 => if (p66 = 157 ∨ p66 = 194) then (bd1 (fX7_write M64 p66 v60 0) fun M69 => (some M69)) else none)))) else (oq (mR M53 166 1) none fun p71 => if (p71 = 157 ∨ p71 = 194) then (bd2 (fX3_readPlayer M53) fun v75 M74 => (bd1 (fX7_write M74 p71 27 v75) fun M77 => (some M77))) else none))))
theorem T_X3_readSingle {G : ax_G} {d : Nat} {D : Nat} {self : Nat → Nat → Int → ax_M → Option ax_M} (hD : 8 ≤ D) (hS : SG3 G self D) (hd : D + 1 ≤ d) (hG : axPs G 150 244) {M : ax_M} {a1 : Int} {M1 : ax_M} (hf : fX3_readSingle self M a1 = some M1) : ax_Ex G tX3_readSingle d 0 (ax_args [vR 166, vI a1] ++ List.replicate 1 none) [] M (.inl none) M1 := by
  show ax_Ex G tX3_readSingle d 0 [some (vR 166), some (vI a1), none] [] M _ _
  unfold fX3_readSingle at hf
  refine x_iload_n (pc := 0) dX3_readSingle_0 rfl ?_
  refine x_bipush (pc := 1) dX3_readSingle_1 (by decide) ⟨by decide, by decide⟩ ?_
  refine ax_cmp (fun b2a b2b b2c b2e => ?_)
  refine x_icmpge (tgt := 37) (pc := 3) dX3_readSingle_3 rfl (fun h1 => ?_) (fun h1 => ?_)
  · replace hf := (if_neg (Int.not_lt.mpr h1)).symm.trans hf
    refine x_iload_n (pc := 37) dX3_readSingle_37 rfl ?_
    refine x_bipush (pc := 38) dX3_readSingle_38 (by decide) ⟨by decide, by decide⟩ ?_
    refine ax_cmp (fun b51a b51b b51c b51e => ?_)
    refine x_icmpge (tgt := 70) (pc := 40) dX3_readSingle_40 rfl (fun h50 => ?_) (fun h50 => absurd h50 (by omega))
    refine x_aload_n (pc := 70) dX3_readSingle_70 rfl ?_
    refine x_gets (v := vR 27) _ (pc := 71) dX3_readSingle_71 (axS_mem (n := 25) rfl) rfl trivial WF_X3_153 ?_
    obtain ⟨v54, M53, r52, hf⟩ := bd2_some hf
    refine x_cr (v := vI v54) (vs := [vR 166, vR 27]) (rest := []) (k := 1) rfl (by omega) (ax_caV (pc := 74) dX3_readSingle_74 kX3_take rfl rfl WM_X3_38 WI_X3_take WS_X3_take WN_X3 (ax_rcO (t := 2) (axEx hG rfl) rfl (by decide)) (Nat.le_of_ble_eq_true rfl)) kX3_take rfl (Z_X3_take r52) (T_X3_take (by omega) hG (by decide) r52) ?_
    refine x_ifeq (tgt := 97) (pc := 77) dX3_readSingle_77 rfl (fun h55 => ?_) (fun h55 => ?_)
    · replace hf := (if_pos h55).symm.trans hf
      refine x_aload_n (pc := 97) dX3_readSingle_97 rfl ?_
      refine x_iload_n (pc := 98) dX3_readSingle_98 rfl ?_
      obtain ⟨M57, r56, hf⟩ := bd1_some hf
      refine x_cv (vs := [vR 166, vI a1]) (rest := []) (k := 2) rfl (by omega) (ax_caV (pc := 99) dX3_readSingle_99 kX3_readSum rfl rfl WM_X3_90 WI_X3_readSum WS_X3_readSum WN_X3 (ax_rcO (t := 2) (axEx hG rfl) rfl (by decide)) (Nat.le_of_ble_eq_true rfl)) kX3_readSum rfl True.intro (hS.2.2.2.1 (d - 1) _ _ (by omega) r56) ?_
      refine x_aload_n (pc := 102) dX3_readSingle_102 rfl ?_
      obtain ⟨v60, M59, r58, hf⟩ := bd2_some hf
      refine ax_know (fun g61 _ _ => ?_)
      have q62 := R_X3_readRelation g61 r58
      refine x_cr (v := vR v60) (vs := [vR 166]) (rest := []) (k := 2) rfl (by omega) (ax_caV (pc := 103) dX3_readSingle_103 kX3_readRelation rfl rfl WM_X3_156 WI_X3_readRelation WS_X3_readRelation WN_X3 (ax_rcO (t := 2) (axEx hG rfl) rfl (by decide)) (Nat.le_of_ble_eq_true rfl)) kX3_readRelation rfl True.intro (T_X3_readRelation (by omega) hG r58) ?_
      refine x_astore_n (ls' := [some (vR 166), some (vI a1), some (vR v60)]) (pc := 106) dX3_readSingle_106 (Nat.le_of_ble_eq_true rfl) rfl rfl ?_
      refine x_aload_n (pc := 107) dX3_readSingle_107 rfl ?_
      refine x_iload_n (pc := 108) dX3_readSingle_108 rfl ?_
      obtain ⟨M64, r63, hf⟩ := bd1_some hf
      refine x_cv (vs := [vR 166, vI a1]) (rest := []) (k := 2) rfl (by omega) (ax_caV (pc := 109) dX3_readSingle_109 kX3_readSum rfl rfl WM_X3_90 WI_X3_readSum WS_X3_readSum WN_X3 (ax_rcO (t := 2) (axEx hG rfl) rfl (by decide)) (Nat.le_of_ble_eq_true rfl)) kX3_readSum rfl True.intro (hS.2.2.2.1 (d - 1) _ _ (by omega) r63) ?_
      refine x_aload_n (pc := 112) dX3_readSingle_112 rfl ?_
      rcases h65 : (mR M64 166 1) with _ | p66
      · replace hf := (oq_none h65).symm.trans hf
        cases hf
      · replace hf := (oq_some h65).symm.trans hf
        by_cases h67 : (p66 = 157 ∨ p66 = 194)
        · replace hf := (if_pos h67).symm.trans hf
          refine x_getRq h65 (t := 2) (j := 1) (pc := 113) dX3_readSingle_113 (axEx hG rfl) rfl (by decide) (by decide) rfl WF_X3_15 ?_
          refine x_aload_n (pc := 116) dX3_readSingle_116 rfl ?_
          refine x_iconst (pc := 117) dX3_readSingle_117 ⟨by decide, by decide⟩ ?_
          obtain ⟨M69, r68, hf⟩ := bd1_some hf
          refine x_cv (vs := [vR p66, vR v60, vI 0]) (rest := []) (k := 0) rfl (by omega) (ax_caV (pc := 118) dX3_readSingle_118 kX7_write rfl rfl WM_X3_134 WI_X7_write WS_X7_write WN_X7 (ax_rcO (t := 5) (by rcases h67 with rfl | rfl <;> exact axEx hG rfl) (by rcases h67 with rfl | rfl <;> rfl) (by decide)) (Nat.le_of_ble_eq_true rfl)) kX7_write rfl True.intro (T_X7_write (by omega) hG h67 q62 r68) ?_
          cases hf
          exact x_retV (pc := 121) dX3_readSingle_121
        · replace hf := (if_neg h67).symm.trans hf
          cases hf
    · replace hf := (if_neg h55).symm.trans hf
      refine x_aload_n (pc := 80) dX3_readSingle_80 rfl ?_
      rcases h70 : (mR M53 166 1) with _ | p71
      · replace hf := (oq_none h70).symm.trans hf
        cases hf
      · replace hf := (oq_some h70).symm.trans hf
        by_cases h72 : (p71 = 157 ∨ p71 = 194)
        · replace hf := (if_pos h72).symm.trans hf
          refine x_getRq h70 (t := 2) (j := 1) (pc := 81) dX3_readSingle_81 (axEx hG rfl) rfl (by decide) (by decide) rfl WF_X3_15 ?_
          refine x_gets (v := vR 27) _ (pc := 84) dX3_readSingle_84 (axS_mem (n := 25) rfl) rfl trivial WF_X3_153 ?_
          refine x_aload_n (pc := 87) dX3_readSingle_87 rfl ?_
          obtain ⟨v75, M74, r73, hf⟩ := bd2_some hf
          refine x_cr (v := vI v75) (vs := [vR 166]) (rest := [vR 27, vR p71]) (k := 0) rfl (by omega) (ax_caV (pc := 88) dX3_readSingle_88 kX3_readPlayer rfl rfl WM_X3_73 WI_X3_readPlayer WS_X3_readPlayer WN_X3 (ax_rcO (t := 2) (axEx hG rfl) rfl (by decide)) (Nat.le_of_ble_eq_true rfl)) kX3_readPlayer rfl True.intro (T_X3_readPlayer (by omega) hG r73) ?_
          obtain ⟨M77, r76, hf⟩ := bd1_some hf
          refine x_cv (vs := [vR p71, vR 27, vI v75]) (rest := []) (k := 0) rfl (by omega) (ax_caV (pc := 91) dX3_readSingle_91 kX7_write rfl rfl WM_X3_134 WI_X7_write WS_X7_write WN_X7 (ax_rcO (t := 5) (by rcases h72 with rfl | rfl <;> exact axEx hG rfl) (by rcases h72 with rfl | rfl <;> rfl) (by decide)) (Nat.le_of_ble_eq_true rfl)) kX7_write rfl True.intro (T_X7_write (by omega) hG h72 (by decide) r76) ?_
          refine x_goto (tgt := 121) (pc := 94) dX3_readSingle_94 rfl ?_
          cases hf
          exact x_retV (pc := 121) dX3_readSingle_121
        · replace hf := (if_neg h72).symm.trans hf
          cases hf
  · replace hf := (if_pos h1).symm.trans hf
    refine x_aload_n (pc := 6) dX3_readSingle_6 rfl ?_
    refine x_gets (v := vR 28) _ (pc := 7) dX3_readSingle_7 (axS_mem (n := 26) rfl) rfl trivial WF_X3_144 ?_
    obtain ⟨v5, M4, r3, hf⟩ := bd2_some hf
    refine x_cr (v := vI v5) (vs := [vR 166, vR 28]) (rest := []) (k := 1) rfl (by omega) (ax_caV (pc := 10) dX3_readSingle_10 kX3_take rfl rfl WM_X3_38 WI_X3_take WS_X3_take WN_X3 (ax_rcO (t := 2) (axEx hG rfl) rfl (by decide)) (Nat.le_of_ble_eq_true rfl)) kX3_take rfl (Z_X3_take r3) (T_X3_take (by omega) hG (by decide) r3) ?_
    refine x_ifeq (tgt := 37) (pc := 13) dX3_readSingle_13 rfl (fun h6 => ?_) (fun h6 => ?_)
    · replace hf := (if_pos h6).symm.trans hf
      refine x_iload_n (pc := 37) dX3_readSingle_37 rfl ?_
      refine x_bipush (pc := 38) dX3_readSingle_38 (by decide) ⟨by decide, by decide⟩ ?_
      refine ax_cmp (fun b8a b8b b8c b8e => ?_)
      refine x_icmpge (tgt := 70) (pc := 40) dX3_readSingle_40 rfl (fun h7 => absurd h7 (by omega)) (fun h7 => ?_)
      refine x_aload_n (pc := 43) dX3_readSingle_43 rfl ?_
      refine x_gets (v := vR 35) _ (pc := 44) dX3_readSingle_44 (axS_mem (n := 33) rfl) rfl trivial WF_X3_147 ?_
      obtain ⟨v11, M10, r9, hf⟩ := bd2_some hf
      refine x_cr (v := vI v11) (vs := [vR 166, vR 35]) (rest := []) (k := 1) rfl (by omega) (ax_caV (pc := 47) dX3_readSingle_47 kX3_take rfl rfl WM_X3_38 WI_X3_take WS_X3_take WN_X3 (ax_rcO (t := 2) (axEx hG rfl) rfl (by decide)) (Nat.le_of_ble_eq_true rfl)) kX3_take rfl (Z_X3_take r9) (T_X3_take (by omega) hG (by decide) r9) ?_
      refine x_ifeq (tgt := 70) (pc := 50) dX3_readSingle_50 rfl (fun h12 => ?_) (fun h12 => ?_)
      · replace hf := (if_pos h12).symm.trans hf
        refine x_aload_n (pc := 70) dX3_readSingle_70 rfl ?_
        refine x_gets (v := vR 27) _ (pc := 71) dX3_readSingle_71 (axS_mem (n := 25) rfl) rfl trivial WF_X3_153 ?_
        obtain ⟨v15, M14, r13, hf⟩ := bd2_some hf
        refine x_cr (v := vI v15) (vs := [vR 166, vR 27]) (rest := []) (k := 1) rfl (by omega) (ax_caV (pc := 74) dX3_readSingle_74 kX3_take rfl rfl WM_X3_38 WI_X3_take WS_X3_take WN_X3 (ax_rcO (t := 2) (axEx hG rfl) rfl (by decide)) (Nat.le_of_ble_eq_true rfl)) kX3_take rfl (Z_X3_take r13) (T_X3_take (by omega) hG (by decide) r13) ?_
        refine x_ifeq (tgt := 97) (pc := 77) dX3_readSingle_77 rfl (fun h16 => ?_) (fun h16 => ?_)
        · replace hf := (if_pos h16).symm.trans hf
          refine x_aload_n (pc := 97) dX3_readSingle_97 rfl ?_
          refine x_iload_n (pc := 98) dX3_readSingle_98 rfl ?_
          obtain ⟨M18, r17, hf⟩ := bd1_some hf
          refine x_cv (vs := [vR 166, vI a1]) (rest := []) (k := 2) rfl (by omega) (ax_caV (pc := 99) dX3_readSingle_99 kX3_readSum rfl rfl WM_X3_90 WI_X3_readSum WS_X3_readSum WN_X3 (ax_rcO (t := 2) (axEx hG rfl) rfl (by decide)) (Nat.le_of_ble_eq_true rfl)) kX3_readSum rfl True.intro (hS.2.2.2.1 (d - 1) _ _ (by omega) r17) ?_
          refine x_aload_n (pc := 102) dX3_readSingle_102 rfl ?_
          obtain ⟨v21, M20, r19, hf⟩ := bd2_some hf
          refine ax_know (fun g22 _ _ => ?_)
          have q23 := R_X3_readRelation g22 r19
          refine x_cr (v := vR v21) (vs := [vR 166]) (rest := []) (k := 2) rfl (by omega) (ax_caV (pc := 103) dX3_readSingle_103 kX3_readRelation rfl rfl WM_X3_156 WI_X3_readRelation WS_X3_readRelation WN_X3 (ax_rcO (t := 2) (axEx hG rfl) rfl (by decide)) (Nat.le_of_ble_eq_true rfl)) kX3_readRelation rfl True.intro (T_X3_readRelation (by omega) hG r19) ?_
          refine x_astore_n (ls' := [some (vR 166), some (vI a1), some (vR v21)]) (pc := 106) dX3_readSingle_106 (Nat.le_of_ble_eq_true rfl) rfl rfl ?_
          refine x_aload_n (pc := 107) dX3_readSingle_107 rfl ?_
          refine x_iload_n (pc := 108) dX3_readSingle_108 rfl ?_
          obtain ⟨M25, r24, hf⟩ := bd1_some hf
          refine x_cv (vs := [vR 166, vI a1]) (rest := []) (k := 2) rfl (by omega) (ax_caV (pc := 109) dX3_readSingle_109 kX3_readSum rfl rfl WM_X3_90 WI_X3_readSum WS_X3_readSum WN_X3 (ax_rcO (t := 2) (axEx hG rfl) rfl (by decide)) (Nat.le_of_ble_eq_true rfl)) kX3_readSum rfl True.intro (hS.2.2.2.1 (d - 1) _ _ (by omega) r24) ?_
          refine x_aload_n (pc := 112) dX3_readSingle_112 rfl ?_
          rcases h26 : (mR M25 166 1) with _ | p27
          · replace hf := (oq_none h26).symm.trans hf
            cases hf
          · replace hf := (oq_some h26).symm.trans hf
            by_cases h28 : (p27 = 157 ∨ p27 = 194)
            · replace hf := (if_pos h28).symm.trans hf
              refine x_getRq h26 (t := 2) (j := 1) (pc := 113) dX3_readSingle_113 (axEx hG rfl) rfl (by decide) (by decide) rfl WF_X3_15 ?_
              refine x_aload_n (pc := 116) dX3_readSingle_116 rfl ?_
              refine x_iconst (pc := 117) dX3_readSingle_117 ⟨by decide, by decide⟩ ?_
              obtain ⟨M30, r29, hf⟩ := bd1_some hf
              refine x_cv (vs := [vR p27, vR v21, vI 0]) (rest := []) (k := 0) rfl (by omega) (ax_caV (pc := 118) dX3_readSingle_118 kX7_write rfl rfl WM_X3_134 WI_X7_write WS_X7_write WN_X7 (ax_rcO (t := 5) (by rcases h28 with rfl | rfl <;> exact axEx hG rfl) (by rcases h28 with rfl | rfl <;> rfl) (by decide)) (Nat.le_of_ble_eq_true rfl)) kX7_write rfl True.intro (T_X7_write (by omega) hG h28 q23 r29) ?_
              cases hf
              exact x_retV (pc := 121) dX3_readSingle_121
            · replace hf := (if_neg h28).symm.trans hf
              cases hf
        · replace hf := (if_neg h16).symm.trans hf
          refine x_aload_n (pc := 80) dX3_readSingle_80 rfl ?_
          rcases h31 : (mR M14 166 1) with _ | p32
          · replace hf := (oq_none h31).symm.trans hf
            cases hf
          · replace hf := (oq_some h31).symm.trans hf
            by_cases h33 : (p32 = 157 ∨ p32 = 194)
            · replace hf := (if_pos h33).symm.trans hf
              refine x_getRq h31 (t := 2) (j := 1) (pc := 81) dX3_readSingle_81 (axEx hG rfl) rfl (by decide) (by decide) rfl WF_X3_15 ?_
              refine x_gets (v := vR 27) _ (pc := 84) dX3_readSingle_84 (axS_mem (n := 25) rfl) rfl trivial WF_X3_153 ?_
              refine x_aload_n (pc := 87) dX3_readSingle_87 rfl ?_
              obtain ⟨v36, M35, r34, hf⟩ := bd2_some hf
              refine x_cr (v := vI v36) (vs := [vR 166]) (rest := [vR 27, vR p32]) (k := 0) rfl (by omega) (ax_caV (pc := 88) dX3_readSingle_88 kX3_readPlayer rfl rfl WM_X3_73 WI_X3_readPlayer WS_X3_readPlayer WN_X3 (ax_rcO (t := 2) (axEx hG rfl) rfl (by decide)) (Nat.le_of_ble_eq_true rfl)) kX3_readPlayer rfl True.intro (T_X3_readPlayer (by omega) hG r34) ?_
              obtain ⟨M38, r37, hf⟩ := bd1_some hf
              refine x_cv (vs := [vR p32, vR 27, vI v36]) (rest := []) (k := 0) rfl (by omega) (ax_caV (pc := 91) dX3_readSingle_91 kX7_write rfl rfl WM_X3_134 WI_X7_write WS_X7_write WN_X7 (ax_rcO (t := 5) (by rcases h33 with rfl | rfl <;> exact axEx hG rfl) (by rcases h33 with rfl | rfl <;> rfl) (by decide)) (Nat.le_of_ble_eq_true rfl)) kX7_write rfl True.intro (T_X7_write (by omega) hG h33 (by decide) r37) ?_
              refine x_goto (tgt := 121) (pc := 94) dX3_readSingle_94 rfl ?_
              cases hf
              exact x_retV (pc := 121) dX3_readSingle_121
            · replace hf := (if_neg h33).symm.trans hf
              cases hf
      · replace hf := (if_neg h12).symm.trans hf
        refine x_aload_n (pc := 53) dX3_readSingle_53 rfl ?_
        refine x_iload_n (pc := 54) dX3_readSingle_54 rfl ?_
        refine x_iconst (pc := 55) dX3_readSingle_55 ⟨by decide, by decide⟩ ?_
        refine x_iadd (z := (a1 + 1)) (pc := 56) dX3_readSingle_56 rfl (ax_i (by omega) (by omega)) ?_
        obtain ⟨M40, r39, hf⟩ := bd1_some hf
        refine x_cv (vs := [vR 166, vI (a1 + 1)]) (rest := []) (k := 1) rfl (by omega) (ax_caV (pc := 57) dX3_readSingle_57 kX3_readTest rfl rfl WM_X3_97 WI_X3_readTest WS_X3_readTest WN_X3 (ax_rcO (t := 2) (axEx hG rfl) rfl (by decide)) (Nat.le_of_ble_eq_true rfl)) kX3_readTest rfl True.intro (hS.1 (d - 1) _ _ (by omega) r39) ?_
        refine x_aload_n (pc := 60) dX3_readSingle_60 rfl ?_
        refine x_gets (v := vR 36) _ (pc := 61) dX3_readSingle_61 (axS_mem (n := 34) rfl) rfl trivial WF_X3_150 ?_
        obtain ⟨M42, r41, hf⟩ := bd1_some hf
        refine x_cv (vs := [vR 166, vR 36]) (rest := []) (k := 0) rfl (by omega) (ax_caV (pc := 64) dX3_readSingle_64 kX3_need rfl rfl WM_X3_45 WI_X3_need WS_X3_need WN_X3 (ax_rcO (t := 2) (axEx hG rfl) rfl (by decide)) (Nat.le_of_ble_eq_true rfl)) kX3_need rfl True.intro (T_X3_need (by omega) hG (by decide) r41) ?_
        refine x_goto (tgt := 121) (pc := 67) dX3_readSingle_67 rfl ?_
        cases hf
        exact x_retV (pc := 121) dX3_readSingle_121
    · replace hf := (if_neg h6).symm.trans hf
      refine x_aload_n (pc := 16) dX3_readSingle_16 rfl ?_
      refine x_iload_n (pc := 17) dX3_readSingle_17 rfl ?_
      refine x_iconst (pc := 18) dX3_readSingle_18 ⟨by decide, by decide⟩ ?_
      refine x_iadd (z := (a1 + 1)) (pc := 19) dX3_readSingle_19 rfl (ax_i (by omega) (by omega)) ?_
      obtain ⟨M44, r43, hf⟩ := bd1_some hf
      refine x_cv (vs := [vR 166, vI (a1 + 1)]) (rest := []) (k := 1) rfl (by omega) (ax_caV (pc := 20) dX3_readSingle_20 kX3_readSingle rfl rfl WM_X3_138 WI_X3_readSingle WS_X3_readSingle WN_X3 (ax_rcO (t := 2) (axEx hG rfl) rfl (by decide)) (Nat.le_of_ble_eq_true rfl)) kX3_readSingle rfl True.intro (hS.2.2.1 (d - 1) _ _ (by omega) r43) ?_
      refine x_aload_n (pc := 23) dX3_readSingle_23 rfl ?_
      rcases h45 : (mR M44 166 1) with _ | p46
      · replace hf := (oq_none h45).symm.trans hf
        cases hf
      · replace hf := (oq_some h45).symm.trans hf
        by_cases h47 : (p46 = 157 ∨ p46 = 194)
        · replace hf := (if_pos h47).symm.trans hf
          refine x_getRq h45 (t := 2) (j := 1) (pc := 24) dX3_readSingle_24 (axEx hG rfl) rfl (by decide) (by decide) rfl WF_X3_15 ?_
          refine x_gets (v := vR 28) _ (pc := 27) dX3_readSingle_27 (axS_mem (n := 26) rfl) rfl trivial WF_X3_144 ?_
          refine x_iconst (pc := 30) dX3_readSingle_30 ⟨by decide, by decide⟩ ?_
          obtain ⟨M49, r48, hf⟩ := bd1_some hf
          refine x_cv (vs := [vR p46, vR 28, vI 0]) (rest := []) (k := 0) rfl (by omega) (ax_caV (pc := 31) dX3_readSingle_31 kX7_write rfl rfl WM_X3_134 WI_X7_write WS_X7_write WN_X7 (ax_rcO (t := 5) (by rcases h47 with rfl | rfl <;> exact axEx hG rfl) (by rcases h47 with rfl | rfl <;> rfl) (by decide)) (Nat.le_of_ble_eq_true rfl)) kX7_write rfl True.intro (T_X7_write (by omega) hG h47 (by decide) r48) ?_
          refine x_goto (tgt := 121) (pc := 34) dX3_readSingle_34 rfl ?_
          cases hf
          exact x_retV (pc := 121) dX3_readSingle_121
        · replace hf := (if_neg h47).symm.trans hf
          cases hf
/- HexPond$Grammar.readSum(I)V -/
def fX3_readSum_b7 (self : Nat → Nat → Int → ax_M → Option ax_M) (M : ax_M) (x1 : Int) (v2 : Int) : Option ((Int × ax_M) ⊕ ax_M) :=
  (if v2 < 400 then (if (fX3_sees M 39) = 0 then (if (fX3_sees M 40) = 0 then (some (.inr M)) else (bd1 (fX3_need M (fX10_kindOf M (mI M 166 2))) fun M10 => (bd1 (self 4 0 x1 M10) fun M12 => (oq (mR M12 166 1) none fun p14 => if (p14 = 157 ∨ p14 = 194) then (bd1 (fX7_write M12 p14 (fX10_kindOf M (mI M 166 2)) 0) fun M17 => (some (.inl ((v2 + 1), M17)))) else none)))) else (bd1 (fX3_need M (fX10_kindOf M (mI M 166 2))) fun M21 => (bd1 (self 4 0 x1 M21) fun M23 => (oq (mR M23 166 1) none fun p25 => if (p25 = 157 ∨ p25 = 194) then (bd1 (fX7_write M23 p25 (fX10_kindOf M (mI M 166 2)) 0) fun M28 => (some (.inl ((v2 + 1), M28)))) else none)))) else (some (.inr M)))
def fX3_readSum (self : Nat → Nat → Int → ax_M → Option ax_M) (M : ax_M) (a1 : Int) : Option ax_M :=
  (bd1 (self 4 0 a1 M) fun M2 => (bd1 (lp (fun s => fX3_readSum_b7 self s.2 a1 s.1) lpN (0, M2)) fun t29 => (some t29)))
theorem B_X3_readSum_7 {G : ax_G} {d : Nat} {D : Nat} {self : Nat → Nat → Int → ax_M → Option ax_M} (hD : 8 ≤ D) (hS : SG3 G self D) (hd : D + 1 ≤ d) (hG : axPs G 150 244) {M : ax_M} {x1 : Int} {v2 : Int} {o : Option ax_V ⊕ String} {M' : ax_M} {y : (Int × ax_M) ⊕ ax_M} (hf : fX3_readSum_b7 self M x1 v2 = some y) (h1 : ∀ s', y = .inl s' → ax_Ex G tX3_readSum d 7 [some (vR 166), some (vI x1), some (vI s'.1), none] [] s'.2 o M') (h2a : ∀ t, y = .inr t → ax_Ex G tX3_readSum d 71 [some (vR 166), some (vI x1), none, none] [] t o M') : ax_Ex G tX3_readSum d 7 [some (vR 166), some (vI x1), some (vI v2), none] [] M o M' := by
  unfold fX3_readSum_b7 at hf
  refine x_iload_n (pc := 7) dX3_readSum_7 rfl ?_
  refine x_sipush (pc := 8) dX3_readSum_8 (by decide) ⟨by decide, by decide⟩ ?_
  refine ax_cmp (fun b4a b4b b4c b4e => ?_)
  refine x_icmpge (tgt := 71) (pc := 11) dX3_readSum_11 rfl (fun h3 => ?_) (fun h3 => ?_)
  · replace hf := (if_neg (Int.not_lt.mpr h3)).symm.trans hf
    cases hf
    exact x_fgt (axS' (axS' (axN' (axN' axD)))) (h2a _ rfl)
  · replace hf := (if_pos h3).symm.trans hf
    refine x_aload_n (pc := 14) dX3_readSum_14 rfl ?_
    refine x_gets (v := vR 39) _ (pc := 15) dX3_readSum_15 (axS_mem (n := 37) rfl) rfl trivial WF_X3_177 ?_
    refine x_cr (v := vI (fX3_sees M 39)) (vs := [vR 166, vR 39]) (rest := []) (k := 0) rfl (by omega) (ax_caV (pc := 18) dX3_readSum_18 kX3_sees rfl rfl WM_X3_58 WI_X3_sees WS_X3_sees WN_X3 (ax_rcO (t := 2) (axEx hG rfl) rfl (by decide)) (Nat.le_of_ble_eq_true rfl)) kX3_sees rfl (Z_X3_sees rfl) (T_X3_sees (by omega) hG (by decide) rfl) ?_
    refine x_ifne (tgt := 34) (pc := 21) dX3_readSum_21 rfl (fun h5 => ?_) (fun h5 => ?_)
    · replace hf := (if_neg h5).symm.trans hf
      refine x_aload_n (pc := 34) dX3_readSum_34 rfl ?_
      refine x_getF (t := 2) (j := 0) (r := 153) (pc := 35) dX3_readSum_35 (axH hG rfl) (axEx hG rfl) rfl (by decide) (by decide) rfl rfl WF_X3_9 ?_
      refine x_aload_n (pc := 38) dX3_readSum_38 rfl ?_
      refine x_getI (t := 2) (j := 2) (pc := 39) dX3_readSum_39 (axEx hG rfl) rfl (by decide) (by decide) rfl WF_X3_24 ?_
      refine ax_know (fun g18 _ _ => ?_)
      have q19 := R_X10_kindOf g18 (r := (fX10_kindOf M (mI M 166 2))) rfl
      refine x_cr (v := vR (fX10_kindOf M (mI M 166 2))) (vs := [vR 153, vI (mI M 166 2)]) (rest := []) (k := 1) rfl (by omega) (ax_caV (pc := 42) dX3_readSum_42 kX10_kindOf rfl rfl WM_X3_104 WI_X10_kindOf WS_X10_kindOf WN_X10 (ax_rcO (t := 8) (axEx hG rfl) rfl (by decide)) (Nat.le_of_ble_eq_true rfl)) kX10_kindOf rfl True.intro (T_X10_kindOf (by omega) hG rfl) ?_
      refine x_astore_n (ls' := [some (vR 166), some (vI x1), some (vI v2), some (vR (fX10_kindOf M (mI M 166 2)))]) (pc := 45) dX3_readSum_45 (Nat.le_of_ble_eq_true rfl) rfl rfl ?_
      refine x_aload_n (pc := 46) dX3_readSum_46 rfl ?_
      refine x_aload_n (pc := 47) dX3_readSum_47 rfl ?_
      obtain ⟨M21, r20, hf⟩ := bd1_some hf
      refine x_cv (vs := [vR 166, vR (fX10_kindOf M (mI M 166 2))]) (rest := []) (k := 0) rfl (by omega) (ax_caV (pc := 48) dX3_readSum_48 kX3_need rfl rfl WM_X3_45 WI_X3_need WS_X3_need WN_X3 (ax_rcO (t := 2) (axEx hG rfl) rfl (by decide)) (Nat.le_of_ble_eq_true rfl)) kX3_need rfl True.intro (T_X3_need (by omega) hG q19 r20) ?_
      refine x_aload_n (pc := 51) dX3_readSum_51 rfl ?_
      refine x_iload_n (pc := 52) dX3_readSum_52 rfl ?_
      obtain ⟨M23, r22, hf⟩ := bd1_some hf
      refine x_cv (vs := [vR 166, vI x1]) (rest := []) (k := 2) rfl (by omega) (ax_caV (pc := 53) dX3_readSum_53 kX3_readProduct rfl rfl WM_X3_174 WI_X3_readProduct WS_X3_readProduct WN_X3 (ax_rcO (t := 2) (axEx hG rfl) rfl (by decide)) (Nat.le_of_ble_eq_true rfl)) kX3_readProduct rfl True.intro (hS.2.2.2.2.1 (d - 1) _ _ (by omega) r22) ?_
      refine x_aload_n (pc := 56) dX3_readSum_56 rfl ?_
      rcases h24 : (mR M23 166 1) with _ | p25
      · replace hf := (oq_none h24).symm.trans hf
        cases hf
      · replace hf := (oq_some h24).symm.trans hf
        by_cases h26 : (p25 = 157 ∨ p25 = 194)
        · replace hf := (if_pos h26).symm.trans hf
          refine x_getRq h24 (t := 2) (j := 1) (pc := 57) dX3_readSum_57 (axEx hG rfl) rfl (by decide) (by decide) rfl WF_X3_15 ?_
          refine x_aload_n (pc := 60) dX3_readSum_60 rfl ?_
          refine x_iconst (pc := 61) dX3_readSum_61 ⟨by decide, by decide⟩ ?_
          obtain ⟨M28, r27, hf⟩ := bd1_some hf
          refine x_cv (vs := [vR p25, vR (fX10_kindOf M (mI M 166 2)), vI 0]) (rest := []) (k := 0) rfl (by omega) (ax_caV (pc := 62) dX3_readSum_62 kX7_write rfl rfl WM_X3_134 WI_X7_write WS_X7_write WN_X7 (ax_rcO (t := 5) (by rcases h26 with rfl | rfl <;> exact axEx hG rfl) (by rcases h26 with rfl | rfl <;> rfl) (by decide)) (Nat.le_of_ble_eq_true rfl)) kX7_write rfl True.intro (T_X7_write (by omega) hG h26 q19 r27) ?_
          refine x_iinc (z := (v2 + 1)) (ls' := [some (vR 166), some (vI x1), some (vI (v2 + 1)), some (vR (fX10_kindOf M (mI M 166 2)))]) (pc := 65) dX3_readSum_65 rfl (Nat.le_of_ble_eq_true rfl) rfl rfl (ax_i (by omega) (by omega)) rfl ?_
          refine x_goto (tgt := 7) (pc := 68) dX3_readSum_68 rfl ?_
          cases hf
          exact x_fgt (axS' (axS' (axS' (axN' axD)))) (h1 _ rfl)
        · replace hf := (if_neg h26).symm.trans hf
          cases hf
    · replace hf := (if_pos h5).symm.trans hf
      refine x_aload_n (pc := 24) dX3_readSum_24 rfl ?_
      refine x_gets (v := vR 40) _ (pc := 25) dX3_readSum_25 (axS_mem (n := 38) rfl) rfl trivial WF_X3_180 ?_
      refine x_cr (v := vI (fX3_sees M 40)) (vs := [vR 166, vR 40]) (rest := []) (k := 0) rfl (by omega) (ax_caV (pc := 28) dX3_readSum_28 kX3_sees rfl rfl WM_X3_58 WI_X3_sees WS_X3_sees WN_X3 (ax_rcO (t := 2) (axEx hG rfl) rfl (by decide)) (Nat.le_of_ble_eq_true rfl)) kX3_sees rfl (Z_X3_sees rfl) (T_X3_sees (by omega) hG (by decide) rfl) ?_
      refine x_ifeq (tgt := 71) (pc := 31) dX3_readSum_31 rfl (fun h6 => ?_) (fun h6 => ?_)
      · replace hf := (if_pos h6).symm.trans hf
        cases hf
        exact x_fgt (axS' (axS' (axN' (axN' axD)))) (h2a _ rfl)
      · replace hf := (if_neg h6).symm.trans hf
        refine x_aload_n (pc := 34) dX3_readSum_34 rfl ?_
        refine x_getF (t := 2) (j := 0) (r := 153) (pc := 35) dX3_readSum_35 (axH hG rfl) (axEx hG rfl) rfl (by decide) (by decide) rfl rfl WF_X3_9 ?_
        refine x_aload_n (pc := 38) dX3_readSum_38 rfl ?_
        refine x_getI (t := 2) (j := 2) (pc := 39) dX3_readSum_39 (axEx hG rfl) rfl (by decide) (by decide) rfl WF_X3_24 ?_
        refine ax_know (fun g7 _ _ => ?_)
        have q8 := R_X10_kindOf g7 (r := (fX10_kindOf M (mI M 166 2))) rfl
        refine x_cr (v := vR (fX10_kindOf M (mI M 166 2))) (vs := [vR 153, vI (mI M 166 2)]) (rest := []) (k := 1) rfl (by omega) (ax_caV (pc := 42) dX3_readSum_42 kX10_kindOf rfl rfl WM_X3_104 WI_X10_kindOf WS_X10_kindOf WN_X10 (ax_rcO (t := 8) (axEx hG rfl) rfl (by decide)) (Nat.le_of_ble_eq_true rfl)) kX10_kindOf rfl True.intro (T_X10_kindOf (by omega) hG rfl) ?_
        refine x_astore_n (ls' := [some (vR 166), some (vI x1), some (vI v2), some (vR (fX10_kindOf M (mI M 166 2)))]) (pc := 45) dX3_readSum_45 (Nat.le_of_ble_eq_true rfl) rfl rfl ?_
        refine x_aload_n (pc := 46) dX3_readSum_46 rfl ?_
        refine x_aload_n (pc := 47) dX3_readSum_47 rfl ?_
        obtain ⟨M10, r9, hf⟩ := bd1_some hf
        refine x_cv (vs := [vR 166, vR (fX10_kindOf M (mI M 166 2))]) (rest := []) (k := 0) rfl (by omega) (ax_caV (pc := 48) dX3_readSum_48 kX3_need rfl rfl WM_X3_45 WI_X3_need WS_X3_need WN_X3 (ax_rcO (t := 2) (axEx hG rfl) rfl (by decide)) (Nat.le_of_ble_eq_true rfl)) kX3_need rfl True.intro (T_X3_need (by omega) hG q8 r9) ?_
        refine x_aload_n (pc := 51) dX3_readSum_51 rfl ?_
        refine x_iload_n (pc := 52) dX3_readSum_52 rfl ?_
        obtain ⟨M12, r11, hf⟩ := bd1_some hf
        refine x_cv (vs := [vR 166, vI x1]) (rest := []) (k := 2) rfl (by omega) (ax_caV (pc := 53) dX3_readSum_53 kX3_readProduct rfl rfl WM_X3_174 WI_X3_readProduct WS_X3_readProduct WN_X3 (ax_rcO (t := 2) (axEx hG rfl) rfl (by decide)) (Nat.le_of_ble_eq_true rfl)) kX3_readProduct rfl True.intro (hS.2.2.2.2.1 (d - 1) _ _ (by omega) r11) ?_
        refine x_aload_n (pc := 56) dX3_readSum_56 rfl ?_
        rcases h13 : (mR M12 166 1) with _ | p14
        · replace hf := (oq_none h13).symm.trans hf
          cases hf
        · replace hf := (oq_some h13).symm.trans hf
          by_cases h15 : (p14 = 157 ∨ p14 = 194)
          · replace hf := (if_pos h15).symm.trans hf
            refine x_getRq h13 (t := 2) (j := 1) (pc := 57) dX3_readSum_57 (axEx hG rfl) rfl (by decide) (by decide) rfl WF_X3_15 ?_
            refine x_aload_n (pc := 60) dX3_readSum_60 rfl ?_
            refine x_iconst (pc := 61) dX3_readSum_61 ⟨by decide, by decide⟩ ?_
            obtain ⟨M17, r16, hf⟩ := bd1_some hf
            refine x_cv (vs := [vR p14, vR (fX10_kindOf M (mI M 166 2)), vI 0]) (rest := []) (k := 0) rfl (by omega) (ax_caV (pc := 62) dX3_readSum_62 kX7_write rfl rfl WM_X3_134 WI_X7_write WS_X7_write WN_X7 (ax_rcO (t := 5) (by rcases h15 with rfl | rfl <;> exact axEx hG rfl) (by rcases h15 with rfl | rfl <;> rfl) (by decide)) (Nat.le_of_ble_eq_true rfl)) kX7_write rfl True.intro (T_X7_write (by omega) hG h15 q8 r16) ?_
            refine x_iinc (z := (v2 + 1)) (ls' := [some (vR 166), some (vI x1), some (vI (v2 + 1)), some (vR (fX10_kindOf M (mI M 166 2)))]) (pc := 65) dX3_readSum_65 rfl (Nat.le_of_ble_eq_true rfl) rfl rfl (ax_i (by omega) (by omega)) rfl ?_
            refine x_goto (tgt := 7) (pc := 68) dX3_readSum_68 rfl ?_
            cases hf
            exact x_fgt (axS' (axS' (axS' (axN' axD)))) (h1 _ rfl)
          · replace hf := (if_neg h15).symm.trans hf
            cases hf
theorem T_X3_readSum {G : ax_G} {d : Nat} {D : Nat} {self : Nat → Nat → Int → ax_M → Option ax_M} (hD : 8 ≤ D) (hS : SG3 G self D) (hd : D + 1 ≤ d) (hG : axPs G 150 244) {M : ax_M} {a1 : Int} {M1 : ax_M} (hf : fX3_readSum self M a1 = some M1) : ax_Ex G tX3_readSum d 0 (ax_args [vR 166, vI a1] ++ List.replicate 2 none) [] M (.inl none) M1 := by
  show ax_Ex G tX3_readSum d 0 [some (vR 166), some (vI a1), none, none] [] M _ _
  unfold fX3_readSum at hf
  refine x_aload_n (pc := 0) dX3_readSum_0 rfl ?_
  refine x_iload_n (pc := 1) dX3_readSum_1 rfl ?_
  obtain ⟨M2, r1, hf⟩ := bd1_some hf
  refine x_cv (vs := [vR 166, vI a1]) (rest := []) (k := 2) rfl (by omega) (ax_caV (pc := 2) dX3_readSum_2 kX3_readProduct rfl rfl WM_X3_174 WI_X3_readProduct WS_X3_readProduct WN_X3 (ax_rcO (t := 2) (axEx hG rfl) rfl (by decide)) (Nat.le_of_ble_eq_true rfl)) kX3_readProduct rfl True.intro (hS.2.2.2.2.1 (d - 1) _ _ (by omega) r1) ?_
  refine x_iconst (pc := 5) dX3_readSum_5 ⟨by decide, by decide⟩ ?_
  refine x_istore_n (ls' := [some (vR 166), some (vI a1), some (vI 0), none]) (pc := 6) dX3_readSum_6 (Nat.le_of_ble_eq_true rfl) rfl rfl ?_
  obtain ⟨t29, t30, hf⟩ := bd1_some hf
  refine lp_ex (P := (fun s => ax_Ex G tX3_readSum d 7 [some (vR 166), some (vI a1), some (vI s.1), none] [] s.2 _ _)) (K := (fun t => ax_Ex G tX3_readSum d 71 [some (vR 166), some (vI a1), none, none] [] t _ _)) (fun s y hy h1 h2 => B_X3_readSum_7 hD hS (by omega) hG hy (fun s' e => h1 s' e) (fun t e => h2 t e)) _ _ _ t30 ?_
  cases hf
  exact x_retV (pc := 71) dX3_readSum_71
/- HexPond$Grammar.readProduct(I)V -/
def fX3_readProduct_b7 (self : Nat → Nat → Int → ax_M → Option ax_M) (M : ax_M) (x1 : Int) (v2 : Int) : Option ((Int × ax_M) ⊕ ax_M) :=
  (if v2 < 400 then (if (fX3_sees M 41) = 0 then (if (fX3_sees M 42) = 0 then (some (.inr M)) else (bd1 (fX3_need M (fX10_kindOf M (mI M 166 2))) fun M10 => (bd1 (self 5 0 x1 M10) fun M12 => (oq (mR M12 166 1) none fun p14 => if (p14 = 157 ∨ p14 = 194) then (bd1 (fX7_write M12 p14 (fX10_kindOf M (mI M 166 2)) 0) fun M17 => (some (.inl ((v2 + 1), M17)))) else none)))) else (bd1 (fX3_need M (fX10_kindOf M (mI M 166 2))) fun M21 => (bd1 (self 5 0 x1 M21) fun M23 => (oq (mR M23 166 1) none fun p25 => if (p25 = 157 ∨ p25 = 194) then (bd1 (fX7_write M23 p25 (fX10_kindOf M (mI M 166 2)) 0) fun M28 => (some (.inl ((v2 + 1), M28)))) else none)))) else (some (.inr M)))
def fX3_readProduct (self : Nat → Nat → Int → ax_M → Option ax_M) (M : ax_M) (a1 : Int) : Option ax_M :=
  (bd1 (self 5 0 a1 M) fun M2 => (bd1 (lp (fun s => fX3_readProduct_b7 self s.2 a1 s.1) lpN (0, M2)) fun t29 => (some t29)))
theorem B_X3_readProduct_7 {G : ax_G} {d : Nat} {D : Nat} {self : Nat → Nat → Int → ax_M → Option ax_M} (hD : 8 ≤ D) (hS : SG3 G self D) (hd : D + 1 ≤ d) (hG : axPs G 150 244) {M : ax_M} {x1 : Int} {v2 : Int} {o : Option ax_V ⊕ String} {M' : ax_M} {y : (Int × ax_M) ⊕ ax_M} (hf : fX3_readProduct_b7 self M x1 v2 = some y) (h1 : ∀ s', y = .inl s' → ax_Ex G tX3_readProduct d 7 [some (vR 166), some (vI x1), some (vI s'.1), none] [] s'.2 o M') (h2a : ∀ t, y = .inr t → ax_Ex G tX3_readProduct d 71 [some (vR 166), some (vI x1), none, none] [] t o M') : ax_Ex G tX3_readProduct d 7 [some (vR 166), some (vI x1), some (vI v2), none] [] M o M' := by
  unfold fX3_readProduct_b7 at hf
  refine x_iload_n (pc := 7) dX3_readProduct_7 rfl ?_
  refine x_sipush (pc := 8) dX3_readProduct_8 (by decide) ⟨by decide, by decide⟩ ?_
  refine ax_cmp (fun b4a b4b b4c b4e => ?_)
  refine x_icmpge (tgt := 71) (pc := 11) dX3_readProduct_11 rfl (fun h3 => ?_) (fun h3 => ?_)
  · replace hf := (if_neg (Int.not_lt.mpr h3)).symm.trans hf
    cases hf
    exact x_fgt (axS' (axS' (axN' (axN' axD)))) (h2a _ rfl)
  · replace hf := (if_pos h3).symm.trans hf
    refine x_aload_n (pc := 14) dX3_readProduct_14 rfl ?_
    refine x_gets (v := vR 41) _ (pc := 15) dX3_readProduct_15 (axS_mem (n := 39) rfl) rfl trivial WF_X3_186 ?_
    refine x_cr (v := vI (fX3_sees M 41)) (vs := [vR 166, vR 41]) (rest := []) (k := 0) rfl (by omega) (ax_caV (pc := 18) dX3_readProduct_18 kX3_sees rfl rfl WM_X3_58 WI_X3_sees WS_X3_sees WN_X3 (ax_rcO (t := 2) (axEx hG rfl) rfl (by decide)) (Nat.le_of_ble_eq_true rfl)) kX3_sees rfl (Z_X3_sees rfl) (T_X3_sees (by omega) hG (by decide) rfl) ?_
    refine x_ifne (tgt := 34) (pc := 21) dX3_readProduct_21 rfl (fun h5 => ?_) (fun h5 => ?_)
    · replace hf := (if_neg h5).symm.trans hf
      refine x_aload_n (pc := 34) dX3_readProduct_34 rfl ?_
      refine x_getF (t := 2) (j := 0) (r := 153) (pc := 35) dX3_readProduct_35 (axH hG rfl) (axEx hG rfl) rfl (by decide) (by decide) rfl rfl WF_X3_9 ?_
      refine x_aload_n (pc := 38) dX3_readProduct_38 rfl ?_
      refine x_getI (t := 2) (j := 2) (pc := 39) dX3_readProduct_39 (axEx hG rfl) rfl (by decide) (by decide) rfl WF_X3_24 ?_
      refine ax_know (fun g18 _ _ => ?_)
      have q19 := R_X10_kindOf g18 (r := (fX10_kindOf M (mI M 166 2))) rfl
      refine x_cr (v := vR (fX10_kindOf M (mI M 166 2))) (vs := [vR 153, vI (mI M 166 2)]) (rest := []) (k := 1) rfl (by omega) (ax_caV (pc := 42) dX3_readProduct_42 kX10_kindOf rfl rfl WM_X3_104 WI_X10_kindOf WS_X10_kindOf WN_X10 (ax_rcO (t := 8) (axEx hG rfl) rfl (by decide)) (Nat.le_of_ble_eq_true rfl)) kX10_kindOf rfl True.intro (T_X10_kindOf (by omega) hG rfl) ?_
      refine x_astore_n (ls' := [some (vR 166), some (vI x1), some (vI v2), some (vR (fX10_kindOf M (mI M 166 2)))]) (pc := 45) dX3_readProduct_45 (Nat.le_of_ble_eq_true rfl) rfl rfl ?_
      refine x_aload_n (pc := 46) dX3_readProduct_46 rfl ?_
      refine x_aload_n (pc := 47) dX3_readProduct_47 rfl ?_
      obtain ⟨M21, r20, hf⟩ := bd1_some hf
      refine x_cv (vs := [vR 166, vR (fX10_kindOf M (mI M 166 2))]) (rest := []) (k := 0) rfl (by omega) (ax_caV (pc := 48) dX3_readProduct_48 kX3_need rfl rfl WM_X3_45 WI_X3_need WS_X3_need WN_X3 (ax_rcO (t := 2) (axEx hG rfl) rfl (by decide)) (Nat.le_of_ble_eq_true rfl)) kX3_need rfl True.intro (T_X3_need (by omega) hG q19 r20) ?_
      refine x_aload_n (pc := 51) dX3_readProduct_51 rfl ?_
      refine x_iload_n (pc := 52) dX3_readProduct_52 rfl ?_
      obtain ⟨M23, r22, hf⟩ := bd1_some hf
      refine x_cv (vs := [vR 166, vI x1]) (rest := []) (k := 1) rfl (by omega) (ax_caV (pc := 53) dX3_readProduct_53 kX3_readValue rfl rfl WM_X3_183 WI_X3_readValue WS_X3_readValue WN_X3 (ax_rcO (t := 2) (axEx hG rfl) rfl (by decide)) (Nat.le_of_ble_eq_true rfl)) kX3_readValue rfl True.intro (hS.2.2.2.2.2.1 (d - 1) _ _ (by omega) r22) ?_
      refine x_aload_n (pc := 56) dX3_readProduct_56 rfl ?_
      rcases h24 : (mR M23 166 1) with _ | p25
      · replace hf := (oq_none h24).symm.trans hf
        cases hf
      · replace hf := (oq_some h24).symm.trans hf
        by_cases h26 : (p25 = 157 ∨ p25 = 194)
        · replace hf := (if_pos h26).symm.trans hf
          refine x_getRq h24 (t := 2) (j := 1) (pc := 57) dX3_readProduct_57 (axEx hG rfl) rfl (by decide) (by decide) rfl WF_X3_15 ?_
          refine x_aload_n (pc := 60) dX3_readProduct_60 rfl ?_
          refine x_iconst (pc := 61) dX3_readProduct_61 ⟨by decide, by decide⟩ ?_
          obtain ⟨M28, r27, hf⟩ := bd1_some hf
          refine x_cv (vs := [vR p25, vR (fX10_kindOf M (mI M 166 2)), vI 0]) (rest := []) (k := 0) rfl (by omega) (ax_caV (pc := 62) dX3_readProduct_62 kX7_write rfl rfl WM_X3_134 WI_X7_write WS_X7_write WN_X7 (ax_rcO (t := 5) (by rcases h26 with rfl | rfl <;> exact axEx hG rfl) (by rcases h26 with rfl | rfl <;> rfl) (by decide)) (Nat.le_of_ble_eq_true rfl)) kX7_write rfl True.intro (T_X7_write (by omega) hG h26 q19 r27) ?_
          refine x_iinc (z := (v2 + 1)) (ls' := [some (vR 166), some (vI x1), some (vI (v2 + 1)), some (vR (fX10_kindOf M (mI M 166 2)))]) (pc := 65) dX3_readProduct_65 rfl (Nat.le_of_ble_eq_true rfl) rfl rfl (ax_i (by omega) (by omega)) rfl ?_
          refine x_goto (tgt := 7) (pc := 68) dX3_readProduct_68 rfl ?_
          cases hf
          exact x_fgt (axS' (axS' (axS' (axN' axD)))) (h1 _ rfl)
        · replace hf := (if_neg h26).symm.trans hf
          cases hf
    · replace hf := (if_pos h5).symm.trans hf
      refine x_aload_n (pc := 24) dX3_readProduct_24 rfl ?_
      refine x_gets (v := vR 42) _ (pc := 25) dX3_readProduct_25 (axS_mem (n := 40) rfl) rfl trivial WF_X3_189 ?_
      refine x_cr (v := vI (fX3_sees M 42)) (vs := [vR 166, vR 42]) (rest := []) (k := 0) rfl (by omega) (ax_caV (pc := 28) dX3_readProduct_28 kX3_sees rfl rfl WM_X3_58 WI_X3_sees WS_X3_sees WN_X3 (ax_rcO (t := 2) (axEx hG rfl) rfl (by decide)) (Nat.le_of_ble_eq_true rfl)) kX3_sees rfl (Z_X3_sees rfl) (T_X3_sees (by omega) hG (by decide) rfl) ?_
      refine x_ifeq (tgt := 71) (pc := 31) dX3_readProduct_31 rfl (fun h6 => ?_) (fun h6 => ?_)
      · replace hf := (if_pos h6).symm.trans hf
        cases hf
        exact x_fgt (axS' (axS' (axN' (axN' axD)))) (h2a _ rfl)
      · replace hf := (if_neg h6).symm.trans hf
        refine x_aload_n (pc := 34) dX3_readProduct_34 rfl ?_
        refine x_getF (t := 2) (j := 0) (r := 153) (pc := 35) dX3_readProduct_35 (axH hG rfl) (axEx hG rfl) rfl (by decide) (by decide) rfl rfl WF_X3_9 ?_
        refine x_aload_n (pc := 38) dX3_readProduct_38 rfl ?_
        refine x_getI (t := 2) (j := 2) (pc := 39) dX3_readProduct_39 (axEx hG rfl) rfl (by decide) (by decide) rfl WF_X3_24 ?_
        refine ax_know (fun g7 _ _ => ?_)
        have q8 := R_X10_kindOf g7 (r := (fX10_kindOf M (mI M 166 2))) rfl
        refine x_cr (v := vR (fX10_kindOf M (mI M 166 2))) (vs := [vR 153, vI (mI M 166 2)]) (rest := []) (k := 1) rfl (by omega) (ax_caV (pc := 42) dX3_readProduct_42 kX10_kindOf rfl rfl WM_X3_104 WI_X10_kindOf WS_X10_kindOf WN_X10 (ax_rcO (t := 8) (axEx hG rfl) rfl (by decide)) (Nat.le_of_ble_eq_true rfl)) kX10_kindOf rfl True.intro (T_X10_kindOf (by omega) hG rfl) ?_
        refine x_astore_n (ls' := [some (vR 166), some (vI x1), some (vI v2), some (vR (fX10_kindOf M (mI M 166 2)))]) (pc := 45) dX3_readProduct_45 (Nat.le_of_ble_eq_true rfl) rfl rfl ?_
        refine x_aload_n (pc := 46) dX3_readProduct_46 rfl ?_
        refine x_aload_n (pc := 47) dX3_readProduct_47 rfl ?_
        obtain ⟨M10, r9, hf⟩ := bd1_some hf
        refine x_cv (vs := [vR 166, vR (fX10_kindOf M (mI M 166 2))]) (rest := []) (k := 0) rfl (by omega) (ax_caV (pc := 48) dX3_readProduct_48 kX3_need rfl rfl WM_X3_45 WI_X3_need WS_X3_need WN_X3 (ax_rcO (t := 2) (axEx hG rfl) rfl (by decide)) (Nat.le_of_ble_eq_true rfl)) kX3_need rfl True.intro (T_X3_need (by omega) hG q8 r9) ?_
        refine x_aload_n (pc := 51) dX3_readProduct_51 rfl ?_
        refine x_iload_n (pc := 52) dX3_readProduct_52 rfl ?_
        obtain ⟨M12, r11, hf⟩ := bd1_some hf
        refine x_cv (vs := [vR 166, vI x1]) (rest := []) (k := 1) rfl (by omega) (ax_caV (pc := 53) dX3_readProduct_53 kX3_readValue rfl rfl WM_X3_183 WI_X3_readValue WS_X3_readValue WN_X3 (ax_rcO (t := 2) (axEx hG rfl) rfl (by decide)) (Nat.le_of_ble_eq_true rfl)) kX3_readValue rfl True.intro (hS.2.2.2.2.2.1 (d - 1) _ _ (by omega) r11) ?_
        refine x_aload_n (pc := 56) dX3_readProduct_56 rfl ?_
        rcases h13 : (mR M12 166 1) with _ | p14
        · replace hf := (oq_none h13).symm.trans hf
          cases hf
        · replace hf := (oq_some h13).symm.trans hf
          by_cases h15 : (p14 = 157 ∨ p14 = 194)
          · replace hf := (if_pos h15).symm.trans hf
            refine x_getRq h13 (t := 2) (j := 1) (pc := 57) dX3_readProduct_57 (axEx hG rfl) rfl (by decide) (by decide) rfl WF_X3_15 ?_
            refine x_aload_n (pc := 60) dX3_readProduct_60 rfl ?_
            refine x_iconst (pc := 61) dX3_readProduct_61 ⟨by decide, by decide⟩ ?_
            obtain ⟨M17, r16, hf⟩ := bd1_some hf
            refine x_cv (vs := [vR p14, vR (fX10_kindOf M (mI M 166 2)), vI 0]) (rest := []) (k := 0) rfl (by omega) (ax_caV (pc := 62) dX3_readProduct_62 kX7_write rfl rfl WM_X3_134 WI_X7_write WS_X7_write WN_X7 (ax_rcO (t := 5) (by rcases h15 with rfl | rfl <;> exact axEx hG rfl) (by rcases h15 with rfl | rfl <;> rfl) (by decide)) (Nat.le_of_ble_eq_true rfl)) kX7_write rfl True.intro (T_X7_write (by omega) hG h15 q8 r16) ?_
            refine x_iinc (z := (v2 + 1)) (ls' := [some (vR 166), some (vI x1), some (vI (v2 + 1)), some (vR (fX10_kindOf M (mI M 166 2)))]) (pc := 65) dX3_readProduct_65 rfl (Nat.le_of_ble_eq_true rfl) rfl rfl (ax_i (by omega) (by omega)) rfl ?_
            refine x_goto (tgt := 7) (pc := 68) dX3_readProduct_68 rfl ?_
            cases hf
            exact x_fgt (axS' (axS' (axS' (axN' axD)))) (h1 _ rfl)
          · replace hf := (if_neg h15).symm.trans hf
            cases hf
theorem T_X3_readProduct {G : ax_G} {d : Nat} {D : Nat} {self : Nat → Nat → Int → ax_M → Option ax_M} (hD : 8 ≤ D) (hS : SG3 G self D) (hd : D + 1 ≤ d) (hG : axPs G 150 244) {M : ax_M} {a1 : Int} {M1 : ax_M} (hf : fX3_readProduct self M a1 = some M1) : ax_Ex G tX3_readProduct d 0 (ax_args [vR 166, vI a1] ++ List.replicate 2 none) [] M (.inl none) M1 := by
  show ax_Ex G tX3_readProduct d 0 [some (vR 166), some (vI a1), none, none] [] M _ _
  unfold fX3_readProduct at hf
  refine x_aload_n (pc := 0) dX3_readProduct_0 rfl ?_
  refine x_iload_n (pc := 1) dX3_readProduct_1 rfl ?_
  obtain ⟨M2, r1, hf⟩ := bd1_some hf
  refine x_cv (vs := [vR 166, vI a1]) (rest := []) (k := 1) rfl (by omega) (ax_caV (pc := 2) dX3_readProduct_2 kX3_readValue rfl rfl WM_X3_183 WI_X3_readValue WS_X3_readValue WN_X3 (ax_rcO (t := 2) (axEx hG rfl) rfl (by decide)) (Nat.le_of_ble_eq_true rfl)) kX3_readValue rfl True.intro (hS.2.2.2.2.2.1 (d - 1) _ _ (by omega) r1) ?_
  refine x_iconst (pc := 5) dX3_readProduct_5 ⟨by decide, by decide⟩ ?_
  refine x_istore_n (ls' := [some (vR 166), some (vI a1), some (vI 0), none]) (pc := 6) dX3_readProduct_6 (Nat.le_of_ble_eq_true rfl) rfl rfl ?_
  obtain ⟨t29, t30, hf⟩ := bd1_some hf
  refine lp_ex (P := (fun s => ax_Ex G tX3_readProduct d 7 [some (vR 166), some (vI a1), some (vI s.1), none] [] s.2 _ _)) (K := (fun t => ax_Ex G tX3_readProduct d 71 [some (vR 166), some (vI a1), none, none] [] t _ _)) (fun s y hy h1 h2 => B_X3_readProduct_7 hD hS (by omega) hG hy (fun s' e => h1 s' e) (fun t e => h2 t e)) _ _ _ t30 ?_
  cases hf
  exact x_retV (pc := 71) dX3_readProduct_71
/- HexPond$Grammar.readValue(I)V -/
def fX3_readValue (self : Nat → Nat → Int → ax_M → Option ax_M) (M : ax_M) (a1 : Int) : Option ax_M :=
  (bd2 (fX3_take M 48) fun v5 M4 => (if v5 = 0 then (bd2 (fX3_take M4 22) fun v9 M8 => (if v9 = 0 then (bd2 (fX3_take M8 25) fun v13 M12 => (if v13 = 0 then (bd2 (fX3_take M12 23) fun v17 M16 => (if v17 = 0 then (bd2 (fX3_take M16 24) fun v21 M20 => (if v21 = 0 then (bd2 (fX3_take M20 26) fun v25 M24 => (if v25 = 0 then (if a1 < 8 then (bd2 (fX3_take M24 40) fun v31 M30 => (if v31 = 0 then (bd2 (fX3_take M30 31) fun v35 M34 => (if v35 = 0 then (bd2 (fX3_take M34 32) fun v39 M38 => (if v39 = 0 then (bd2 (fX3_take M38 33) fun v45 M44 => (if v45 = 0 then (some (mUI M44 166 3 1)) else (bd1 (self 3 0 (a1 + 1) M44) fun M48 => (bd1 (fX3_need M48 34) fun M50 => (some M50))))) else (bd1 (self 6 (fX10_kindOf M (mI M 166 2)) a1 M38) fun M52 => (some M52)))) else (bd1 (self 6 (fX10_kindOf M (mI M 166 2)) a1 M34) fun M54 => (some M54)))) else (bd1 (self 5 0 (a1 + 1) M30) fun M56 => (oq (mR M56 166 1) none fun p58 => if (p58 = 157 ∨ p58 = 194) then (bd1 (fX7_write M56 p58 51 0) fun M61 => (some M61)) else none)))) else (bd2 (fX3_take M24 31) fun v64 M63 => (if v64 = 0 then (bd2 (fX3_take M63 32) fun v68 M67 => (if v68 = 0 then (some (mUI M67 166 3 1)) else (bd1 (self 6 (fX10_kindOf M (mI M 166 2)) a1 M67) fun M73 => (some M73)))) else (bd1 (self 6 (fX10_kindOf M (mI M 166 2)) a1 M63) fun M75 => (some M75))))) else (oq (mR M24 166 1) none fun p77 => if (p77 = 157 ∨ p77 = 194) then (bd2 (fX3_readPlayer M24) fun v81 M80 => (bd1 (fX7_write M80 p77 (fX10_kindOf M (mI M 166 2)) v81) fun M83 => (some M83))) else none))) else (oq (mR M20 166 1) none fun p85 => if (p85 = 157 ∨ p85 = 194) then (bd2 (fX3_readPlayer M20) fun v89 M88 => (bd1 (fX7_write M88 p85 (fX10_kindOf M (mI M 166 2)) v89) fun M91 => (some M91))) else none))) else (oq (mR M16 166 1) none fun p93 => if (p93 = 157 ∨ p93 = 194) then (bd2 (fX3_readPlayer M16) fun v97 M96 => (bd1 (fX7_write M96 p93 (fX10_kindOf M (mI M 166 2)) v97) fun M99 => (some M99))) else none))) else (oq (mR M12 166 1) none fun p101 => if (p101 = 157 ∨ p101 = 194) then (bd1 (fX7_write M12 p101 (fX10_kindOf M (mI M 166 2)) 0) fun M104 => (some M104)) else none))) else (oq (mR M8 166 1) none fun p106 => if (p106 = 157 ∨ p106 = 194) then (bd1 (fX7_write M8 p106 (fX10_kindOf M (mI M 166 2)) 0) fun M109 => (some M109)) else none))) else (oq (mR M4 166 1) none fun p111 => if (p111 = 157 ∨ p111 = 194) then (bd1 (fX7_write M4 p111 (fX10_kindOf M (mI M 166 2)) (fX10_valueOf M4 (wr ((mI M4 166 2) - 1)))) fun M114 => (some M114)) else none)))
theorem T_X3_readValue {G : ax_G} {d : Nat} {D : Nat} {self : Nat → Nat → Int → ax_M → Option ax_M} (hD : 8 ≤ D) (hS : SG3 G self D) (hd : D + 1 ≤ d) (hG : axPs G 150 244) {M : ax_M} {a1 : Int} {M1 : ax_M} (hf : fX3_readValue self M a1 = some M1) : ax_Ex G tX3_readValue d 0 (ax_args [vR 166, vI a1] ++ List.replicate 1 none) [] M (.inl none) M1 := by
  show ax_Ex G tX3_readValue d 0 [some (vR 166), some (vI a1), none] [] M _ _
  unfold fX3_readValue at hf
  refine x_aload_n (pc := 0) dX3_readValue_0 rfl ?_
  refine x_getF (t := 2) (j := 0) (r := 153) (pc := 1) dX3_readValue_1 (axH hG rfl) (axEx hG rfl) rfl (by decide) (by decide) rfl rfl WF_X3_9 ?_
  refine x_aload_n (pc := 4) dX3_readValue_4 rfl ?_
  refine x_getI (t := 2) (j := 2) (pc := 5) dX3_readValue_5 (axEx hG rfl) rfl (by decide) (by decide) rfl WF_X3_24 ?_
  refine ax_know (fun g1 _ _ => ?_)
  have q2 := R_X10_kindOf g1 (r := (fX10_kindOf M (mI M 166 2))) rfl
  refine x_cr (v := vR (fX10_kindOf M (mI M 166 2))) (vs := [vR 153, vI (mI M 166 2)]) (rest := []) (k := 1) rfl (by omega) (ax_caV (pc := 8) dX3_readValue_8 kX10_kindOf rfl rfl WM_X3_104 WI_X10_kindOf WS_X10_kindOf WN_X10 (ax_rcO (t := 8) (axEx hG rfl) rfl (by decide)) (Nat.le_of_ble_eq_true rfl)) kX10_kindOf rfl True.intro (T_X10_kindOf (by omega) hG rfl) ?_
  refine x_astore_n (ls' := [some (vR 166), some (vI a1), some (vR (fX10_kindOf M (mI M 166 2)))]) (pc := 11) dX3_readValue_11 (Nat.le_of_ble_eq_true rfl) rfl rfl ?_
  refine x_aload_n (pc := 12) dX3_readValue_12 rfl ?_
  refine x_gets (v := vR 48) _ (pc := 13) dX3_readValue_13 (axS_mem (n := 46) rfl) rfl trivial WF_X3_42 ?_
  obtain ⟨v5, M4, r3, hf⟩ := bd2_some hf
  refine x_cr (v := vI v5) (vs := [vR 166, vR 48]) (rest := []) (k := 1) rfl (by omega) (ax_caV (pc := 16) dX3_readValue_16 kX3_take rfl rfl WM_X3_38 WI_X3_take WS_X3_take WN_X3 (ax_rcO (t := 2) (axEx hG rfl) rfl (by decide)) (Nat.le_of_ble_eq_true rfl)) kX3_take rfl (Z_X3_take r3) (T_X3_take (by omega) hG (by decide) r3) ?_
  refine x_ifeq (tgt := 46) (pc := 19) dX3_readValue_19 rfl (fun h6 => ?_) (fun h6 => ?_)
  · replace hf := (if_pos h6).symm.trans hf
    refine x_aload_n (pc := 46) dX3_readValue_46 rfl ?_
    refine x_gets (v := vR 22) _ (pc := 47) dX3_readValue_47 (axS_mem (n := 20) rfl) rfl trivial WF_X3_196 ?_
    obtain ⟨v9, M8, r7, hf⟩ := bd2_some hf
    refine x_cr (v := vI v9) (vs := [vR 166, vR 22]) (rest := []) (k := 1) rfl (by omega) (ax_caV (pc := 50) dX3_readValue_50 kX3_take rfl rfl WM_X3_38 WI_X3_take WS_X3_take WN_X3 (ax_rcO (t := 2) (axEx hG rfl) rfl (by decide)) (Nat.le_of_ble_eq_true rfl)) kX3_take rfl (Z_X3_take r7) (T_X3_take (by omega) hG (by decide) r7) ?_
    refine x_ifne (tgt := 66) (pc := 53) dX3_readValue_53 rfl (fun h10 => ?_) (fun h10 => ?_)
    · replace hf := (if_neg h10).symm.trans hf
      refine x_aload_n (pc := 66) dX3_readValue_66 rfl ?_
      rcases h105 : (mR M8 166 1) with _ | p106
      · replace hf := (oq_none h105).symm.trans hf
        cases hf
      · replace hf := (oq_some h105).symm.trans hf
        by_cases h107 : (p106 = 157 ∨ p106 = 194)
        · replace hf := (if_pos h107).symm.trans hf
          refine x_getRq h105 (t := 2) (j := 1) (pc := 67) dX3_readValue_67 (axEx hG rfl) rfl (by decide) (by decide) rfl WF_X3_15 ?_
          refine x_aload_n (pc := 70) dX3_readValue_70 rfl ?_
          refine x_iconst (pc := 71) dX3_readValue_71 ⟨by decide, by decide⟩ ?_
          obtain ⟨M109, r108, hf⟩ := bd1_some hf
          refine x_cv (vs := [vR p106, vR (fX10_kindOf M (mI M 166 2)), vI 0]) (rest := []) (k := 0) rfl (by omega) (ax_caV (pc := 72) dX3_readValue_72 kX7_write rfl rfl WM_X3_134 WI_X7_write WS_X7_write WN_X7 (ax_rcO (t := 5) (by rcases h107 with rfl | rfl <;> exact axEx hG rfl) (by rcases h107 with rfl | rfl <;> rfl) (by decide)) (Nat.le_of_ble_eq_true rfl)) kX7_write rfl True.intro (T_X7_write (by omega) hG h107 q2 r108) ?_
          refine x_goto (tgt := 227) (pc := 75) dX3_readValue_75 rfl ?_
          cases hf
          exact x_retV (pc := 227) dX3_readValue_227
        · replace hf := (if_neg h107).symm.trans hf
          cases hf
    · replace hf := (if_pos h10).symm.trans hf
      refine x_aload_n (pc := 56) dX3_readValue_56 rfl ?_
      refine x_gets (v := vR 25) _ (pc := 57) dX3_readValue_57 (axS_mem (n := 23) rfl) rfl trivial WF_X3_199 ?_
      obtain ⟨v13, M12, r11, hf⟩ := bd2_some hf
      refine x_cr (v := vI v13) (vs := [vR 166, vR 25]) (rest := []) (k := 1) rfl (by omega) (ax_caV (pc := 60) dX3_readValue_60 kX3_take rfl rfl WM_X3_38 WI_X3_take WS_X3_take WN_X3 (ax_rcO (t := 2) (axEx hG rfl) rfl (by decide)) (Nat.le_of_ble_eq_true rfl)) kX3_take rfl (Z_X3_take r11) (T_X3_take (by omega) hG (by decide) r11) ?_
      refine x_ifeq (tgt := 78) (pc := 63) dX3_readValue_63 rfl (fun h14 => ?_) (fun h14 => ?_)
      · replace hf := (if_pos h14).symm.trans hf
        refine x_aload_n (pc := 78) dX3_readValue_78 rfl ?_
        refine x_gets (v := vR 23) _ (pc := 79) dX3_readValue_79 (axS_mem (n := 21) rfl) rfl trivial WF_X3_202 ?_
        obtain ⟨v17, M16, r15, hf⟩ := bd2_some hf
        refine x_cr (v := vI v17) (vs := [vR 166, vR 23]) (rest := []) (k := 1) rfl (by omega) (ax_caV (pc := 82) dX3_readValue_82 kX3_take rfl rfl WM_X3_38 WI_X3_take WS_X3_take WN_X3 (ax_rcO (t := 2) (axEx hG rfl) rfl (by decide)) (Nat.le_of_ble_eq_true rfl)) kX3_take rfl (Z_X3_take r15) (T_X3_take (by omega) hG (by decide) r15) ?_
        refine x_ifne (tgt := 108) (pc := 85) dX3_readValue_85 rfl (fun h18 => ?_) (fun h18 => ?_)
        · replace hf := (if_neg h18).symm.trans hf
          refine x_aload_n (pc := 108) dX3_readValue_108 rfl ?_
          rcases h92 : (mR M16 166 1) with _ | p93
          · replace hf := (oq_none h92).symm.trans hf
            cases hf
          · replace hf := (oq_some h92).symm.trans hf
            by_cases h94 : (p93 = 157 ∨ p93 = 194)
            · replace hf := (if_pos h94).symm.trans hf
              refine x_getRq h92 (t := 2) (j := 1) (pc := 109) dX3_readValue_109 (axEx hG rfl) rfl (by decide) (by decide) rfl WF_X3_15 ?_
              refine x_aload_n (pc := 112) dX3_readValue_112 rfl ?_
              refine x_aload_n (pc := 113) dX3_readValue_113 rfl ?_
              obtain ⟨v97, M96, r95, hf⟩ := bd2_some hf
              refine x_cr (v := vI v97) (vs := [vR 166]) (rest := [vR (fX10_kindOf M (mI M 166 2)), vR p93]) (k := 0) rfl (by omega) (ax_caV (pc := 114) dX3_readValue_114 kX3_readPlayer rfl rfl WM_X3_73 WI_X3_readPlayer WS_X3_readPlayer WN_X3 (ax_rcO (t := 2) (axEx hG rfl) rfl (by decide)) (Nat.le_of_ble_eq_true rfl)) kX3_readPlayer rfl True.intro (T_X3_readPlayer (by omega) hG r95) ?_
              obtain ⟨M99, r98, hf⟩ := bd1_some hf
              refine x_cv (vs := [vR p93, vR (fX10_kindOf M (mI M 166 2)), vI v97]) (rest := []) (k := 0) rfl (by omega) (ax_caV (pc := 117) dX3_readValue_117 kX7_write rfl rfl WM_X3_134 WI_X7_write WS_X7_write WN_X7 (ax_rcO (t := 5) (by rcases h94 with rfl | rfl <;> exact axEx hG rfl) (by rcases h94 with rfl | rfl <;> rfl) (by decide)) (Nat.le_of_ble_eq_true rfl)) kX7_write rfl True.intro (T_X7_write (by omega) hG h94 q2 r98) ?_
              refine x_goto (tgt := 227) (pc := 120) dX3_readValue_120 rfl ?_
              cases hf
              exact x_retV (pc := 227) dX3_readValue_227
            · replace hf := (if_neg h94).symm.trans hf
              cases hf
        · replace hf := (if_pos h18).symm.trans hf
          refine x_aload_n (pc := 88) dX3_readValue_88 rfl ?_
          refine x_gets (v := vR 24) _ (pc := 89) dX3_readValue_89 (axS_mem (n := 22) rfl) rfl trivial WF_X3_205 ?_
          obtain ⟨v21, M20, r19, hf⟩ := bd2_some hf
          refine x_cr (v := vI v21) (vs := [vR 166, vR 24]) (rest := []) (k := 1) rfl (by omega) (ax_caV (pc := 92) dX3_readValue_92 kX3_take rfl rfl WM_X3_38 WI_X3_take WS_X3_take WN_X3 (ax_rcO (t := 2) (axEx hG rfl) rfl (by decide)) (Nat.le_of_ble_eq_true rfl)) kX3_take rfl (Z_X3_take r19) (T_X3_take (by omega) hG (by decide) r19) ?_
          refine x_ifne (tgt := 108) (pc := 95) dX3_readValue_95 rfl (fun h22 => ?_) (fun h22 => ?_)
          · replace hf := (if_neg h22).symm.trans hf
            refine x_aload_n (pc := 108) dX3_readValue_108 rfl ?_
            rcases h84 : (mR M20 166 1) with _ | p85
            · replace hf := (oq_none h84).symm.trans hf
              cases hf
            · replace hf := (oq_some h84).symm.trans hf
              by_cases h86 : (p85 = 157 ∨ p85 = 194)
              · replace hf := (if_pos h86).symm.trans hf
                refine x_getRq h84 (t := 2) (j := 1) (pc := 109) dX3_readValue_109 (axEx hG rfl) rfl (by decide) (by decide) rfl WF_X3_15 ?_
                refine x_aload_n (pc := 112) dX3_readValue_112 rfl ?_
                refine x_aload_n (pc := 113) dX3_readValue_113 rfl ?_
                obtain ⟨v89, M88, r87, hf⟩ := bd2_some hf
                refine x_cr (v := vI v89) (vs := [vR 166]) (rest := [vR (fX10_kindOf M (mI M 166 2)), vR p85]) (k := 0) rfl (by omega) (ax_caV (pc := 114) dX3_readValue_114 kX3_readPlayer rfl rfl WM_X3_73 WI_X3_readPlayer WS_X3_readPlayer WN_X3 (ax_rcO (t := 2) (axEx hG rfl) rfl (by decide)) (Nat.le_of_ble_eq_true rfl)) kX3_readPlayer rfl True.intro (T_X3_readPlayer (by omega) hG r87) ?_
                obtain ⟨M91, r90, hf⟩ := bd1_some hf
                refine x_cv (vs := [vR p85, vR (fX10_kindOf M (mI M 166 2)), vI v89]) (rest := []) (k := 0) rfl (by omega) (ax_caV (pc := 117) dX3_readValue_117 kX7_write rfl rfl WM_X3_134 WI_X7_write WS_X7_write WN_X7 (ax_rcO (t := 5) (by rcases h86 with rfl | rfl <;> exact axEx hG rfl) (by rcases h86 with rfl | rfl <;> rfl) (by decide)) (Nat.le_of_ble_eq_true rfl)) kX7_write rfl True.intro (T_X7_write (by omega) hG h86 q2 r90) ?_
                refine x_goto (tgt := 227) (pc := 120) dX3_readValue_120 rfl ?_
                cases hf
                exact x_retV (pc := 227) dX3_readValue_227
              · replace hf := (if_neg h86).symm.trans hf
                cases hf
          · replace hf := (if_pos h22).symm.trans hf
            refine x_aload_n (pc := 98) dX3_readValue_98 rfl ?_
            refine x_gets (v := vR 26) _ (pc := 99) dX3_readValue_99 (axS_mem (n := 24) rfl) rfl trivial WF_X3_208 ?_
            obtain ⟨v25, M24, r23, hf⟩ := bd2_some hf
            refine x_cr (v := vI v25) (vs := [vR 166, vR 26]) (rest := []) (k := 1) rfl (by omega) (ax_caV (pc := 102) dX3_readValue_102 kX3_take rfl rfl WM_X3_38 WI_X3_take WS_X3_take WN_X3 (ax_rcO (t := 2) (axEx hG rfl) rfl (by decide)) (Nat.le_of_ble_eq_true rfl)) kX3_take rfl (Z_X3_take r23) (T_X3_take (by omega) hG (by decide) r23) ?_
            refine x_ifeq (tgt := 123) (pc := 105) dX3_readValue_105 rfl (fun h26 => ?_) (fun h26 => ?_)
            · replace hf := (if_pos h26).symm.trans hf
              refine x_iload_n (pc := 123) dX3_readValue_123 rfl ?_
              refine x_bipush (pc := 124) dX3_readValue_124 (by decide) ⟨by decide, by decide⟩ ?_
              refine ax_cmp (fun b28a b28b b28c b28e => ?_)
              refine x_icmpge (tgt := 160) (pc := 126) dX3_readValue_126 rfl (fun h27 => ?_) (fun h27 => ?_)
              · replace hf := (if_neg (Int.not_lt.mpr h27)).symm.trans hf
                refine x_aload_n (pc := 160) dX3_readValue_160 rfl ?_
                refine x_gets (v := vR 31) _ (pc := 161) dX3_readValue_161 (axS_mem (n := 29) rfl) rfl trivial WF_X3_214 ?_
                obtain ⟨v64, M63, r62, hf⟩ := bd2_some hf
                refine x_cr (v := vI v64) (vs := [vR 166, vR 31]) (rest := []) (k := 1) rfl (by omega) (ax_caV (pc := 164) dX3_readValue_164 kX3_take rfl rfl WM_X3_38 WI_X3_take WS_X3_take WN_X3 (ax_rcO (t := 2) (axEx hG rfl) rfl (by decide)) (Nat.le_of_ble_eq_true rfl)) kX3_take rfl (Z_X3_take r62) (T_X3_take (by omega) hG (by decide) r62) ?_
                refine x_ifne (tgt := 180) (pc := 167) dX3_readValue_167 rfl (fun h65 => ?_) (fun h65 => ?_)
                · replace hf := (if_neg h65).symm.trans hf
                  refine x_aload_n (pc := 180) dX3_readValue_180 rfl ?_
                  refine x_aload_n (pc := 181) dX3_readValue_181 rfl ?_
                  refine x_iload_n (pc := 182) dX3_readValue_182 rfl ?_
                  obtain ⟨M75, r74, hf⟩ := bd1_some hf
                  refine x_cv (vs := [vR 166, vR (fX10_kindOf M (mI M 166 2)), vI a1]) (rest := []) (k := 0) rfl (by omega) (ax_caV (pc := 183) dX3_readValue_183 kX3_readPair rfl rfl WM_X3_220 WI_X3_readPair WS_X3_readPair WN_X3 (ax_rcO (t := 2) (axEx hG rfl) rfl (by decide)) (Nat.le_of_ble_eq_true rfl)) kX3_readPair rfl True.intro (hS.2.2.2.2.2.2 (d - 1) q2 _ _ (by omega) r74) ?_
                  refine x_goto (tgt := 227) (pc := 186) dX3_readValue_186 rfl ?_
                  cases hf
                  exact x_retV (pc := 227) dX3_readValue_227
                · replace hf := (if_pos h65).symm.trans hf
                  refine x_aload_n (pc := 170) dX3_readValue_170 rfl ?_
                  refine x_gets (v := vR 32) _ (pc := 171) dX3_readValue_171 (axS_mem (n := 30) rfl) rfl trivial WF_X3_217 ?_
                  obtain ⟨v68, M67, r66, hf⟩ := bd2_some hf
                  refine x_cr (v := vI v68) (vs := [vR 166, vR 32]) (rest := []) (k := 1) rfl (by omega) (ax_caV (pc := 174) dX3_readValue_174 kX3_take rfl rfl WM_X3_38 WI_X3_take WS_X3_take WN_X3 (ax_rcO (t := 2) (axEx hG rfl) rfl (by decide)) (Nat.le_of_ble_eq_true rfl)) kX3_take rfl (Z_X3_take r66) (T_X3_take (by omega) hG (by decide) r66) ?_
                  refine x_ifeq (tgt := 189) (pc := 177) dX3_readValue_177 rfl (fun h69 => ?_) (fun h69 => ?_)
                  · replace hf := (if_pos h69).symm.trans hf
                    refine x_iload_n (pc := 189) dX3_readValue_189 rfl ?_
                    refine x_bipush (pc := 190) dX3_readValue_190 (by decide) ⟨by decide, by decide⟩ ?_
                    refine ax_cmp (fun b71a b71b b71c b71e => ?_)
                    refine x_icmpge (tgt := 222) (pc := 192) dX3_readValue_192 rfl (fun h70 => ?_) (fun h70 => absurd h70 (by omega))
                    refine x_aload_n (pc := 222) dX3_readValue_222 rfl ?_
                    refine x_iconst (pc := 223) dX3_readValue_223 ⟨by decide, by decide⟩ ?_
                    refine x_putZ (t := 2) (j := 3) (pc := 224) dX3_readValue_224 (axEx hG rfl) rfl (by decide) (by decide) rfl rfl WF_X3_28 (by decide) ?_
                    cases hf
                    exact x_retV (pc := 227) dX3_readValue_227
                  · replace hf := (if_neg h69).symm.trans hf
                    refine x_aload_n (pc := 180) dX3_readValue_180 rfl ?_
                    refine x_aload_n (pc := 181) dX3_readValue_181 rfl ?_
                    refine x_iload_n (pc := 182) dX3_readValue_182 rfl ?_
                    obtain ⟨M73, r72, hf⟩ := bd1_some hf
                    refine x_cv (vs := [vR 166, vR (fX10_kindOf M (mI M 166 2)), vI a1]) (rest := []) (k := 0) rfl (by omega) (ax_caV (pc := 183) dX3_readValue_183 kX3_readPair rfl rfl WM_X3_220 WI_X3_readPair WS_X3_readPair WN_X3 (ax_rcO (t := 2) (axEx hG rfl) rfl (by decide)) (Nat.le_of_ble_eq_true rfl)) kX3_readPair rfl True.intro (hS.2.2.2.2.2.2 (d - 1) q2 _ _ (by omega) r72) ?_
                    refine x_goto (tgt := 227) (pc := 186) dX3_readValue_186 rfl ?_
                    cases hf
                    exact x_retV (pc := 227) dX3_readValue_227
              · replace hf := (if_pos h27).symm.trans hf
                refine x_aload_n (pc := 129) dX3_readValue_129 rfl ?_
                refine x_gets (v := vR 40) _ (pc := 130) dX3_readValue_130 (axS_mem (n := 38) rfl) rfl trivial WF_X3_180 ?_
                obtain ⟨v31, M30, r29, hf⟩ := bd2_some hf
                refine x_cr (v := vI v31) (vs := [vR 166, vR 40]) (rest := []) (k := 1) rfl (by omega) (ax_caV (pc := 133) dX3_readValue_133 kX3_take rfl rfl WM_X3_38 WI_X3_take WS_X3_take WN_X3 (ax_rcO (t := 2) (axEx hG rfl) rfl (by decide)) (Nat.le_of_ble_eq_true rfl)) kX3_take rfl (Z_X3_take r29) (T_X3_take (by omega) hG (by decide) r29) ?_
                refine x_ifeq (tgt := 160) (pc := 136) dX3_readValue_136 rfl (fun h32 => ?_) (fun h32 => ?_)
                · replace hf := (if_pos h32).symm.trans hf
                  refine x_aload_n (pc := 160) dX3_readValue_160 rfl ?_
                  refine x_gets (v := vR 31) _ (pc := 161) dX3_readValue_161 (axS_mem (n := 29) rfl) rfl trivial WF_X3_214 ?_
                  obtain ⟨v35, M34, r33, hf⟩ := bd2_some hf
                  refine x_cr (v := vI v35) (vs := [vR 166, vR 31]) (rest := []) (k := 1) rfl (by omega) (ax_caV (pc := 164) dX3_readValue_164 kX3_take rfl rfl WM_X3_38 WI_X3_take WS_X3_take WN_X3 (ax_rcO (t := 2) (axEx hG rfl) rfl (by decide)) (Nat.le_of_ble_eq_true rfl)) kX3_take rfl (Z_X3_take r33) (T_X3_take (by omega) hG (by decide) r33) ?_
                  refine x_ifne (tgt := 180) (pc := 167) dX3_readValue_167 rfl (fun h36 => ?_) (fun h36 => ?_)
                  · replace hf := (if_neg h36).symm.trans hf
                    refine x_aload_n (pc := 180) dX3_readValue_180 rfl ?_
                    refine x_aload_n (pc := 181) dX3_readValue_181 rfl ?_
                    refine x_iload_n (pc := 182) dX3_readValue_182 rfl ?_
                    obtain ⟨M54, r53, hf⟩ := bd1_some hf
                    refine x_cv (vs := [vR 166, vR (fX10_kindOf M (mI M 166 2)), vI a1]) (rest := []) (k := 0) rfl (by omega) (ax_caV (pc := 183) dX3_readValue_183 kX3_readPair rfl rfl WM_X3_220 WI_X3_readPair WS_X3_readPair WN_X3 (ax_rcO (t := 2) (axEx hG rfl) rfl (by decide)) (Nat.le_of_ble_eq_true rfl)) kX3_readPair rfl True.intro (hS.2.2.2.2.2.2 (d - 1) q2 _ _ (by omega) r53) ?_
                    refine x_goto (tgt := 227) (pc := 186) dX3_readValue_186 rfl ?_
                    cases hf
                    exact x_retV (pc := 227) dX3_readValue_227
                  · replace hf := (if_pos h36).symm.trans hf
                    refine x_aload_n (pc := 170) dX3_readValue_170 rfl ?_
                    refine x_gets (v := vR 32) _ (pc := 171) dX3_readValue_171 (axS_mem (n := 30) rfl) rfl trivial WF_X3_217 ?_
                    obtain ⟨v39, M38, r37, hf⟩ := bd2_some hf
                    refine x_cr (v := vI v39) (vs := [vR 166, vR 32]) (rest := []) (k := 1) rfl (by omega) (ax_caV (pc := 174) dX3_readValue_174 kX3_take rfl rfl WM_X3_38 WI_X3_take WS_X3_take WN_X3 (ax_rcO (t := 2) (axEx hG rfl) rfl (by decide)) (Nat.le_of_ble_eq_true rfl)) kX3_take rfl (Z_X3_take r37) (T_X3_take (by omega) hG (by decide) r37) ?_
                    refine x_ifeq (tgt := 189) (pc := 177) dX3_readValue_177 rfl (fun h40 => ?_) (fun h40 => ?_)
                    · replace hf := (if_pos h40).symm.trans hf
                      refine x_iload_n (pc := 189) dX3_readValue_189 rfl ?_
                      refine x_bipush (pc := 190) dX3_readValue_190 (by decide) ⟨by decide, by decide⟩ ?_
                      refine ax_cmp (fun b42a b42b b42c b42e => ?_)
                      refine x_icmpge (tgt := 222) (pc := 192) dX3_readValue_192 rfl (fun h41 => absurd h41 (by omega)) (fun h41 => ?_)
                      refine x_aload_n (pc := 195) dX3_readValue_195 rfl ?_
                      refine x_gets (v := vR 33) _ (pc := 196) dX3_readValue_196 (axS_mem (n := 31) rfl) rfl trivial WF_X3_223 ?_
                      obtain ⟨v45, M44, r43, hf⟩ := bd2_some hf
                      refine x_cr (v := vI v45) (vs := [vR 166, vR 33]) (rest := []) (k := 1) rfl (by omega) (ax_caV (pc := 199) dX3_readValue_199 kX3_take rfl rfl WM_X3_38 WI_X3_take WS_X3_take WN_X3 (ax_rcO (t := 2) (axEx hG rfl) rfl (by decide)) (Nat.le_of_ble_eq_true rfl)) kX3_take rfl (Z_X3_take r43) (T_X3_take (by omega) hG (by decide) r43) ?_
                      refine x_ifeq (tgt := 222) (pc := 202) dX3_readValue_202 rfl (fun h46 => ?_) (fun h46 => ?_)
                      · replace hf := (if_pos h46).symm.trans hf
                        refine x_aload_n (pc := 222) dX3_readValue_222 rfl ?_
                        refine x_iconst (pc := 223) dX3_readValue_223 ⟨by decide, by decide⟩ ?_
                        refine x_putZ (t := 2) (j := 3) (pc := 224) dX3_readValue_224 (axEx hG rfl) rfl (by decide) (by decide) rfl rfl WF_X3_28 (by decide) ?_
                        cases hf
                        exact x_retV (pc := 227) dX3_readValue_227
                      · replace hf := (if_neg h46).symm.trans hf
                        refine x_aload_n (pc := 205) dX3_readValue_205 rfl ?_
                        refine x_iload_n (pc := 206) dX3_readValue_206 rfl ?_
                        refine x_iconst (pc := 207) dX3_readValue_207 ⟨by decide, by decide⟩ ?_
                        refine x_iadd (z := (a1 + 1)) (pc := 208) dX3_readValue_208 rfl (ax_i (by omega) (by omega)) ?_
                        obtain ⟨M48, r47, hf⟩ := bd1_some hf
                        refine x_cv (vs := [vR 166, vI (a1 + 1)]) (rest := []) (k := 2) rfl (by omega) (ax_caV (pc := 209) dX3_readValue_209 kX3_readSum rfl rfl WM_X3_90 WI_X3_readSum WS_X3_readSum WN_X3 (ax_rcO (t := 2) (axEx hG rfl) rfl (by decide)) (Nat.le_of_ble_eq_true rfl)) kX3_readSum rfl True.intro (hS.2.2.2.1 (d - 1) _ _ (by omega) r47) ?_
                        refine x_aload_n (pc := 212) dX3_readValue_212 rfl ?_
                        refine x_gets (v := vR 34) _ (pc := 213) dX3_readValue_213 (axS_mem (n := 32) rfl) rfl trivial WF_X3_226 ?_
                        obtain ⟨M50, r49, hf⟩ := bd1_some hf
                        refine x_cv (vs := [vR 166, vR 34]) (rest := []) (k := 0) rfl (by omega) (ax_caV (pc := 216) dX3_readValue_216 kX3_need rfl rfl WM_X3_45 WI_X3_need WS_X3_need WN_X3 (ax_rcO (t := 2) (axEx hG rfl) rfl (by decide)) (Nat.le_of_ble_eq_true rfl)) kX3_need rfl True.intro (T_X3_need (by omega) hG (by decide) r49) ?_
                        refine x_goto (tgt := 227) (pc := 219) dX3_readValue_219 rfl ?_
                        cases hf
                        exact x_retV (pc := 227) dX3_readValue_227
                    · replace hf := (if_neg h40).symm.trans hf
                      refine x_aload_n (pc := 180) dX3_readValue_180 rfl ?_
                      refine x_aload_n (pc := 181) dX3_readValue_181 rfl ?_
                      refine x_iload_n (pc := 182) dX3_readValue_182 rfl ?_
                      obtain ⟨M52, r51, hf⟩ := bd1_some hf
                      refine x_cv (vs := [vR 166, vR (fX10_kindOf M (mI M 166 2)), vI a1]) (rest := []) (k := 0) rfl (by omega) (ax_caV (pc := 183) dX3_readValue_183 kX3_readPair rfl rfl WM_X3_220 WI_X3_readPair WS_X3_readPair WN_X3 (ax_rcO (t := 2) (axEx hG rfl) rfl (by decide)) (Nat.le_of_ble_eq_true rfl)) kX3_readPair rfl True.intro (hS.2.2.2.2.2.2 (d - 1) q2 _ _ (by omega) r51) ?_
                      refine x_goto (tgt := 227) (pc := 186) dX3_readValue_186 rfl ?_
                      cases hf
                      exact x_retV (pc := 227) dX3_readValue_227
                · replace hf := (if_neg h32).symm.trans hf
                  refine x_aload_n (pc := 139) dX3_readValue_139 rfl ?_
                  refine x_iload_n (pc := 140) dX3_readValue_140 rfl ?_
                  refine x_iconst (pc := 141) dX3_readValue_141 ⟨by decide, by decide⟩ ?_
                  refine x_iadd (z := (a1 + 1)) (pc := 142) dX3_readValue_142 rfl (ax_i (by omega) (by omega)) ?_
                  obtain ⟨M56, r55, hf⟩ := bd1_some hf
                  refine x_cv (vs := [vR 166, vI (a1 + 1)]) (rest := []) (k := 1) rfl (by omega) (ax_caV (pc := 143) dX3_readValue_143 kX3_readValue rfl rfl WM_X3_183 WI_X3_readValue WS_X3_readValue WN_X3 (ax_rcO (t := 2) (axEx hG rfl) rfl (by decide)) (Nat.le_of_ble_eq_true rfl)) kX3_readValue rfl True.intro (hS.2.2.2.2.2.1 (d - 1) _ _ (by omega) r55) ?_
                  refine x_aload_n (pc := 146) dX3_readValue_146 rfl ?_
                  rcases h57 : (mR M56 166 1) with _ | p58
                  · replace hf := (oq_none h57).symm.trans hf
                    cases hf
                  · replace hf := (oq_some h57).symm.trans hf
                    by_cases h59 : (p58 = 157 ∨ p58 = 194)
                    · replace hf := (if_pos h59).symm.trans hf
                      refine x_getRq h57 (t := 2) (j := 1) (pc := 147) dX3_readValue_147 (axEx hG rfl) rfl (by decide) (by decide) rfl WF_X3_15 ?_
                      refine x_gets (v := vR 51) _ (pc := 150) dX3_readValue_150 (axS_mem (n := 49) rfl) rfl trivial WF_X3_211 ?_
                      refine x_iconst (pc := 153) dX3_readValue_153 ⟨by decide, by decide⟩ ?_
                      obtain ⟨M61, r60, hf⟩ := bd1_some hf
                      refine x_cv (vs := [vR p58, vR 51, vI 0]) (rest := []) (k := 0) rfl (by omega) (ax_caV (pc := 154) dX3_readValue_154 kX7_write rfl rfl WM_X3_134 WI_X7_write WS_X7_write WN_X7 (ax_rcO (t := 5) (by rcases h59 with rfl | rfl <;> exact axEx hG rfl) (by rcases h59 with rfl | rfl <;> rfl) (by decide)) (Nat.le_of_ble_eq_true rfl)) kX7_write rfl True.intro (T_X7_write (by omega) hG h59 (by decide) r60) ?_
                      refine x_goto (tgt := 227) (pc := 157) dX3_readValue_157 rfl ?_
                      cases hf
                      exact x_retV (pc := 227) dX3_readValue_227
                    · replace hf := (if_neg h59).symm.trans hf
                      cases hf
            · replace hf := (if_neg h26).symm.trans hf
              refine x_aload_n (pc := 108) dX3_readValue_108 rfl ?_
              rcases h76 : (mR M24 166 1) with _ | p77
              · replace hf := (oq_none h76).symm.trans hf
                cases hf
              · replace hf := (oq_some h76).symm.trans hf
                by_cases h78 : (p77 = 157 ∨ p77 = 194)
                · replace hf := (if_pos h78).symm.trans hf
                  refine x_getRq h76 (t := 2) (j := 1) (pc := 109) dX3_readValue_109 (axEx hG rfl) rfl (by decide) (by decide) rfl WF_X3_15 ?_
                  refine x_aload_n (pc := 112) dX3_readValue_112 rfl ?_
                  refine x_aload_n (pc := 113) dX3_readValue_113 rfl ?_
                  obtain ⟨v81, M80, r79, hf⟩ := bd2_some hf
                  refine x_cr (v := vI v81) (vs := [vR 166]) (rest := [vR (fX10_kindOf M (mI M 166 2)), vR p77]) (k := 0) rfl (by omega) (ax_caV (pc := 114) dX3_readValue_114 kX3_readPlayer rfl rfl WM_X3_73 WI_X3_readPlayer WS_X3_readPlayer WN_X3 (ax_rcO (t := 2) (axEx hG rfl) rfl (by decide)) (Nat.le_of_ble_eq_true rfl)) kX3_readPlayer rfl True.intro (T_X3_readPlayer (by omega) hG r79) ?_
                  obtain ⟨M83, r82, hf⟩ := bd1_some hf
                  refine x_cv (vs := [vR p77, vR (fX10_kindOf M (mI M 166 2)), vI v81]) (rest := []) (k := 0) rfl (by omega) (ax_caV (pc := 117) dX3_readValue_117 kX7_write rfl rfl WM_X3_134 WI_X7_write WS_X7_write WN_X7 (ax_rcO (t := 5) (by rcases h78 with rfl | rfl <;> exact axEx hG rfl) (by rcases h78 with rfl | rfl <;> rfl) (by decide)) (Nat.le_of_ble_eq_true rfl)) kX7_write rfl True.intro (T_X7_write (by omega) hG h78 q2 r82) ?_
                  refine x_goto (tgt := 227) (pc := 120) dX3_readValue_120 rfl ?_
                  cases hf
                  exact x_retV (pc := 227) dX3_readValue_227
                · replace hf := (if_neg h78).symm.trans hf
                  cases hf
      · replace hf := (if_neg h14).symm.trans hf
        refine x_aload_n (pc := 66) dX3_readValue_66 rfl ?_
        rcases h100 : (mR M12 166 1) with _ | p101
        · replace hf := (oq_none h100).symm.trans hf
          cases hf
        · replace hf := (oq_some h100).symm.trans hf
          by_cases h102 : (p101 = 157 ∨ p101 = 194)
          · replace hf := (if_pos h102).symm.trans hf
            refine x_getRq h100 (t := 2) (j := 1) (pc := 67) dX3_readValue_67 (axEx hG rfl) rfl (by decide) (by decide) rfl WF_X3_15 ?_
            refine x_aload_n (pc := 70) dX3_readValue_70 rfl ?_
            refine x_iconst (pc := 71) dX3_readValue_71 ⟨by decide, by decide⟩ ?_
            obtain ⟨M104, r103, hf⟩ := bd1_some hf
            refine x_cv (vs := [vR p101, vR (fX10_kindOf M (mI M 166 2)), vI 0]) (rest := []) (k := 0) rfl (by omega) (ax_caV (pc := 72) dX3_readValue_72 kX7_write rfl rfl WM_X3_134 WI_X7_write WS_X7_write WN_X7 (ax_rcO (t := 5) (by rcases h102 with rfl | rfl <;> exact axEx hG rfl) (by rcases h102 with rfl | rfl <;> rfl) (by decide)) (Nat.le_of_ble_eq_true rfl)) kX7_write rfl True.intro (T_X7_write (by omega) hG h102 q2 r103) ?_
            refine x_goto (tgt := 227) (pc := 75) dX3_readValue_75 rfl ?_
            cases hf
            exact x_retV (pc := 227) dX3_readValue_227
          · replace hf := (if_neg h102).symm.trans hf
            cases hf
  · replace hf := (if_neg h6).symm.trans hf
    refine x_aload_n (pc := 22) dX3_readValue_22 rfl ?_
    rcases h110 : (mR M4 166 1) with _ | p111
    · replace hf := (oq_none h110).symm.trans hf
      cases hf
    · replace hf := (oq_some h110).symm.trans hf
      by_cases h112 : (p111 = 157 ∨ p111 = 194)
      · replace hf := (if_pos h112).symm.trans hf
        refine x_getRq h110 (t := 2) (j := 1) (pc := 23) dX3_readValue_23 (axEx hG rfl) rfl (by decide) (by decide) rfl WF_X3_15 ?_
        refine x_aload_n (pc := 26) dX3_readValue_26 rfl ?_
        refine x_aload_n (pc := 27) dX3_readValue_27 rfl ?_
        refine x_getF (t := 2) (j := 0) (r := 153) (pc := 28) dX3_readValue_28 (axH hG rfl) (axEx hG rfl) rfl (by decide) (by decide) rfl rfl WF_X3_9 ?_
        refine x_aload_n (pc := 31) dX3_readValue_31 rfl ?_
        refine x_getI (t := 2) (j := 2) (pc := 32) dX3_readValue_32 (axEx hG rfl) rfl (by decide) (by decide) rfl WF_X3_24 ?_
        refine x_iconst (pc := 35) dX3_readValue_35 ⟨by decide, by decide⟩ ?_
        refine x_isubw (pc := 36) dX3_readValue_36 ?_
        refine x_cr (v := vI (fX10_valueOf M4 (wr ((mI M4 166 2) - 1)))) (vs := [vR 153, vI (wr ((mI M4 166 2) - 1))]) (rest := [vR (fX10_kindOf M (mI M 166 2)), vR p111]) (k := 0) rfl (by omega) (ax_caV (pc := 37) dX3_readValue_37 kX10_valueOf rfl rfl WM_X3_192 WI_X10_valueOf WS_X10_valueOf WN_X10 (ax_rcO (t := 8) (axEx hG rfl) rfl (by decide)) (Nat.le_of_ble_eq_true rfl)) kX10_valueOf rfl True.intro (T_X10_valueOf (by omega) hG rfl) ?_
        obtain ⟨M114, r113, hf⟩ := bd1_some hf
        refine x_cv (vs := [vR p111, vR (fX10_kindOf M (mI M 166 2)), vI (fX10_valueOf M4 (wr ((mI M4 166 2) - 1)))]) (rest := []) (k := 0) rfl (by omega) (ax_caV (pc := 40) dX3_readValue_40 kX7_write rfl rfl WM_X3_134 WI_X7_write WS_X7_write WN_X7 (ax_rcO (t := 5) (by rcases h112 with rfl | rfl <;> exact axEx hG rfl) (by rcases h112 with rfl | rfl <;> rfl) (by decide)) (Nat.le_of_ble_eq_true rfl)) kX7_write rfl True.intro (T_X7_write (by omega) hG h112 q2 r113) ?_
        refine x_goto (tgt := 227) (pc := 43) dX3_readValue_43 rfl ?_
        cases hf
        exact x_retV (pc := 227) dX3_readValue_227
      · replace hf := (if_neg h112).symm.trans hf
        cases hf
/- HexPond$Grammar.readPair(LHexPond$Kind;I)V -/
def fX3_readPair (self : Nat → Nat → Int → ax_M → Option ax_M) (M : ax_M) (a1 : Nat) (a2 : Int) : Option ax_M :=
  (if a2 < 8 then (bd2 (fX3_take M 33) fun v5 M4 => (if v5 = 0 then (some (mUI M4 166 3 1)) else (bd1 (self 3 0 (a2 + 1) M4) fun M8 => (bd1 (fX3_need M8 38) fun M10 => (bd1 (self 3 0 (a2 + 1) M10) fun M12 => (bd1 (fX3_need M12 34) fun M14 => (oq (mR M14 166 1) none fun p16 => if (p16 = 157 ∨ p16 = 194) then (bd1 (fX7_write M14 p16 a1 0) fun M19 => (some M19)) else none))))))) else (some (mUI M 166 3 1)))
theorem T_X3_readPair {G : ax_G} {d : Nat} {D : Nat} {self : Nat → Nat → Int → ax_M → Option ax_M} (hD : 8 ≤ D) (hS : SG3 G self D) (hd : D + 1 ≤ d) (hG : axPs G 150 244) {M : ax_M} {a1 : Nat} {a2 : Int} (y_a1 : 10 ≤ a1 ∧ a1 < 52) {M1 : ax_M} (hf : fX3_readPair self M a1 a2 = some M1) : ax_Ex G tX3_readPair d 0 (ax_args [vR 166, vR a1, vI a2] ++ List.replicate 0 none) [] M (.inl none) M1 := by
  show ax_Ex G tX3_readPair d 0 [some (vR 166), some (vR a1), some (vI a2)] [] M _ _
  unfold fX3_readPair at hf
  refine x_iload_n (pc := 0) dX3_readPair_0 rfl ?_
  refine x_bipush (pc := 1) dX3_readPair_1 (by decide) ⟨by decide, by decide⟩ ?_
  refine ax_cmp (fun b2a b2b b2c b2e => ?_)
  refine x_icmpge (tgt := 56) (pc := 3) dX3_readPair_3 rfl (fun h1 => ?_) (fun h1 => ?_)
  · replace hf := (if_neg (Int.not_lt.mpr h1)).symm.trans hf
    refine x_aload_n (pc := 56) dX3_readPair_56 rfl ?_
    refine x_iconst (pc := 57) dX3_readPair_57 ⟨by decide, by decide⟩ ?_
    refine x_putZ (t := 2) (j := 3) (pc := 58) dX3_readPair_58 (axEx hG rfl) rfl (by decide) (by decide) rfl rfl WF_X3_28 (by decide) ?_
    cases hf
    exact x_retV (pc := 61) dX3_readPair_61
  · replace hf := (if_pos h1).symm.trans hf
    refine x_aload_n (pc := 6) dX3_readPair_6 rfl ?_
    refine x_gets (v := vR 33) _ (pc := 7) dX3_readPair_7 (axS_mem (n := 31) rfl) rfl trivial WF_X3_223 ?_
    obtain ⟨v5, M4, r3, hf⟩ := bd2_some hf
    refine x_cr (v := vI v5) (vs := [vR 166, vR 33]) (rest := []) (k := 1) rfl (by omega) (ax_caV (pc := 10) dX3_readPair_10 kX3_take rfl rfl WM_X3_38 WI_X3_take WS_X3_take WN_X3 (ax_rcO (t := 2) (axEx hG rfl) rfl (by decide)) (Nat.le_of_ble_eq_true rfl)) kX3_take rfl (Z_X3_take r3) (T_X3_take (by omega) hG (by decide) r3) ?_
    refine x_ifeq (tgt := 56) (pc := 13) dX3_readPair_13 rfl (fun h6 => ?_) (fun h6 => ?_)
    · replace hf := (if_pos h6).symm.trans hf
      refine x_aload_n (pc := 56) dX3_readPair_56 rfl ?_
      refine x_iconst (pc := 57) dX3_readPair_57 ⟨by decide, by decide⟩ ?_
      refine x_putZ (t := 2) (j := 3) (pc := 58) dX3_readPair_58 (axEx hG rfl) rfl (by decide) (by decide) rfl rfl WF_X3_28 (by decide) ?_
      cases hf
      exact x_retV (pc := 61) dX3_readPair_61
    · replace hf := (if_neg h6).symm.trans hf
      refine x_aload_n (pc := 16) dX3_readPair_16 rfl ?_
      refine x_iload_n (pc := 17) dX3_readPair_17 rfl ?_
      refine x_iconst (pc := 18) dX3_readPair_18 ⟨by decide, by decide⟩ ?_
      refine x_iadd (z := (a2 + 1)) (pc := 19) dX3_readPair_19 rfl (ax_i (by omega) (by omega)) ?_
      obtain ⟨M8, r7, hf⟩ := bd1_some hf
      refine x_cv (vs := [vR 166, vI (a2 + 1)]) (rest := []) (k := 2) rfl (by omega) (ax_caV (pc := 20) dX3_readPair_20 kX3_readSum rfl rfl WM_X3_90 WI_X3_readSum WS_X3_readSum WN_X3 (ax_rcO (t := 2) (axEx hG rfl) rfl (by decide)) (Nat.le_of_ble_eq_true rfl)) kX3_readSum rfl True.intro (hS.2.2.2.1 (d - 1) _ _ (by omega) r7) ?_
      refine x_aload_n (pc := 23) dX3_readPair_23 rfl ?_
      refine x_gets (v := vR 38) _ (pc := 24) dX3_readPair_24 (axS_mem (n := 36) rfl) rfl trivial WF_X3_77 ?_
      obtain ⟨M10, r9, hf⟩ := bd1_some hf
      refine x_cv (vs := [vR 166, vR 38]) (rest := []) (k := 0) rfl (by omega) (ax_caV (pc := 27) dX3_readPair_27 kX3_need rfl rfl WM_X3_45 WI_X3_need WS_X3_need WN_X3 (ax_rcO (t := 2) (axEx hG rfl) rfl (by decide)) (Nat.le_of_ble_eq_true rfl)) kX3_need rfl True.intro (T_X3_need (by omega) hG (by decide) r9) ?_
      refine x_aload_n (pc := 30) dX3_readPair_30 rfl ?_
      refine x_iload_n (pc := 31) dX3_readPair_31 rfl ?_
      refine x_iconst (pc := 32) dX3_readPair_32 ⟨by decide, by decide⟩ ?_
      refine x_iadd (z := (a2 + 1)) (pc := 33) dX3_readPair_33 rfl (ax_i (by omega) (by omega)) ?_
      obtain ⟨M12, r11, hf⟩ := bd1_some hf
      refine x_cv (vs := [vR 166, vI (a2 + 1)]) (rest := []) (k := 2) rfl (by omega) (ax_caV (pc := 34) dX3_readPair_34 kX3_readSum rfl rfl WM_X3_90 WI_X3_readSum WS_X3_readSum WN_X3 (ax_rcO (t := 2) (axEx hG rfl) rfl (by decide)) (Nat.le_of_ble_eq_true rfl)) kX3_readSum rfl True.intro (hS.2.2.2.1 (d - 1) _ _ (by omega) r11) ?_
      refine x_aload_n (pc := 37) dX3_readPair_37 rfl ?_
      refine x_gets (v := vR 34) _ (pc := 38) dX3_readPair_38 (axS_mem (n := 32) rfl) rfl trivial WF_X3_226 ?_
      obtain ⟨M14, r13, hf⟩ := bd1_some hf
      refine x_cv (vs := [vR 166, vR 34]) (rest := []) (k := 0) rfl (by omega) (ax_caV (pc := 41) dX3_readPair_41 kX3_need rfl rfl WM_X3_45 WI_X3_need WS_X3_need WN_X3 (ax_rcO (t := 2) (axEx hG rfl) rfl (by decide)) (Nat.le_of_ble_eq_true rfl)) kX3_need rfl True.intro (T_X3_need (by omega) hG (by decide) r13) ?_
      refine x_aload_n (pc := 44) dX3_readPair_44 rfl ?_
      rcases h15 : (mR M14 166 1) with _ | p16
      · replace hf := (oq_none h15).symm.trans hf
        cases hf
      · replace hf := (oq_some h15).symm.trans hf
        by_cases h17 : (p16 = 157 ∨ p16 = 194)
        · replace hf := (if_pos h17).symm.trans hf
          refine x_getRq h15 (t := 2) (j := 1) (pc := 45) dX3_readPair_45 (axEx hG rfl) rfl (by decide) (by decide) rfl WF_X3_15 ?_
          refine x_aload_n (pc := 48) dX3_readPair_48 rfl ?_
          refine x_iconst (pc := 49) dX3_readPair_49 ⟨by decide, by decide⟩ ?_
          obtain ⟨M19, r18, hf⟩ := bd1_some hf
          refine x_cv (vs := [vR p16, vR a1, vI 0]) (rest := []) (k := 0) rfl (by omega) (ax_caV (pc := 50) dX3_readPair_50 kX7_write rfl rfl WM_X3_134 WI_X7_write WS_X7_write WN_X7 (ax_rcO (t := 5) (by rcases h17 with rfl | rfl <;> exact axEx hG rfl) (by rcases h17 with rfl | rfl <;> rfl) (by decide)) (Nat.le_of_ble_eq_true rfl)) kX7_write rfl True.intro (T_X7_write (by omega) hG h17 y_a1 r18) ?_
          refine x_goto (tgt := 61) (pc := 53) dX3_readPair_53 rfl ?_
          cases hf
          exact x_retV (pc := 61) dX3_readPair_61
        · replace hf := (if_neg h17).symm.trans hf
          cases hf
def fG3 : Nat → Nat → Nat → Int → ax_M → Option ax_M
  | 0, _, _, _, _ => none
  | n + 1, tag, k, e, M => if tag = 0 then fX3_readTest (fG3 n) M e else if tag = 1 then fX3_readBoth (fG3 n) M e else if tag = 2 then fX3_readSingle (fG3 n) M e else if tag = 3 then fX3_readSum (fG3 n) M e else if tag = 4 then fX3_readProduct (fG3 n) M e else if tag = 5 then fX3_readValue (fG3 n) M e else fX3_readPair (fG3 n) M k e
theorem TG3 {G : ax_G} (hG : axPs G 150 244) : ∀ n : Nat, SG3 G (fG3 n) (n + 8)
  | 0 => ⟨(fun _ _ _ _ _ h => nomatch h), (fun _ _ _ _ _ h => nomatch h), (fun _ _ _ _ _ h => nomatch h), (fun _ _ _ _ _ h => nomatch h), (fun _ _ _ _ _ h => nomatch h), (fun _ _ _ _ _ h => nomatch h), (fun _ _ _ _ _ _ _ h => nomatch h)⟩
  | n + 1 => ⟨fun d e M M1 hd h => T_X3_readTest (by omega) (TG3 hG n) (by omega) hG h, fun d e M M1 hd h => T_X3_readBoth (by omega) (TG3 hG n) (by omega) hG h, fun d e M M1 hd h => T_X3_readSingle (by omega) (TG3 hG n) (by omega) hG h, fun d e M M1 hd h => T_X3_readSum (by omega) (TG3 hG n) (by omega) hG h, fun d e M M1 hd h => T_X3_readProduct (by omega) (TG3 hG n) (by omega) hG h, fun d e M M1 hd h => T_X3_readValue (by omega) (TG3 hG n) (by omega) hG h, fun d k hk e M M1 hd h => T_X3_readPair (by omega) (TG3 hG n) (by omega) hG hk h⟩
/- HexPond$Grammar.readPlan()V -/
def fX3_readPlan (M : ax_M) : Option ax_M :=
  (bd2 (fX3_readPlayer M) fun v3 M2 => (oq (mR M2 166 1) none fun p5 => if (p5 = 157 ∨ p5 = 194) then (bd2 (fX3_readMove M2) fun v9 M8 => (if v9 = 20 then (bd1 (fG3 60 3 0 0 M8) fun M14 => (oq (mR M14 166 1) none fun p16 => if (p16 = 157 ∨ p16 = 194) then (bd1 (fX3_need M14 38) fun M19 => (bd1 (fG3 60 3 0 0 M19) fun M21 => (oq (mR M21 166 1) none fun p23 => if (p23 = 157 ∨ p23 = 194) then (bd2 (fX3_take M21 21) fun v27 M26 => (if v27 = 0 then (oq (mR M26 166 1) none fun p30 => if (p30 = 157 ∨ p30 = 194) then (bd1 (fX7_add M26 p30 v3 v9 (fX7_codeLength M2 p5) (fX7_codeLength M14 p16) (fX7_codeLength M21 p23)) fun M33 => (some M33)) else none) else (bd1 (fG3 60 0 0 0 M26) fun M35 => (oq (mR M35 166 1) none fun p37 => if (p37 = 157 ∨ p37 = 194) then (bd1 (fX7_add M35 p37 v3 v9 (fX7_codeLength M2 p5) (fX7_codeLength M14 p16) (fX7_codeLength M21 p23)) fun M40 => (some M40)) else none)))) else none))) else none)) else (oq (mR M8 166 1) none fun p42 => if (p42 = 157 ∨ p42 = 194) then (bd2 (fX3_take M8 21) fun v46 M45 => (if v46 = 0 then (oq (mR M45 166 1) none fun p49 => if (p49 = 157 ∨ p49 = 194) then (bd1 (fX7_add M45 p49 v3 v9 (fX7_codeLength M2 p5) (fX7_codeLength M2 p5) (fX7_codeLength M8 p42)) fun M52 => (some M52)) else none) else (bd1 (fG3 60 0 0 0 M45) fun M54 => (oq (mR M54 166 1) none fun p56 => if (p56 = 157 ∨ p56 = 194) then (bd1 (fX7_add M54 p56 v3 v9 (fX7_codeLength M2 p5) (fX7_codeLength M2 p5) (fX7_codeLength M8 p42)) fun M59 => (some M59)) else none)))) else none))) else none))
theorem T_X3_readPlan {G : ax_G} {d : Nat} (hd : 69 ≤ d) (hG : axPs G 150 244) {M : ax_M} {M1 : ax_M} (hf : fX3_readPlan M = some M1) : ax_Ex G tX3_readPlan d 0 (ax_args [vR 166] ++ List.replicate 5 none) [] M (.inl none) M1 := by
  show ax_Ex G tX3_readPlan d 0 [some (vR 166), none, none, none, none, none] [] M _ _
  unfold fX3_readPlan at hf
  refine x_aload_n (pc := 0) dX3_readPlan_0 rfl ?_
  obtain ⟨v3, M2, r1, hf⟩ := bd2_some hf
  refine x_cr (v := vI v3) (vs := [vR 166]) (rest := []) (k := 0) rfl (by omega) (ax_caV (pc := 1) dX3_readPlan_1 kX3_readPlayer rfl rfl WM_X3_73 WI_X3_readPlayer WS_X3_readPlayer WN_X3 (ax_rcO (t := 2) (axEx hG rfl) rfl (by decide)) (Nat.le_of_ble_eq_true rfl)) kX3_readPlayer rfl True.intro (T_X3_readPlayer (by omega) hG r1) ?_
  refine x_istore_n (ls' := [some (vR 166), some (vI v3), none, none, none, none]) (pc := 4) dX3_readPlan_4 (Nat.le_of_ble_eq_true rfl) rfl rfl ?_
  refine x_aload_n (pc := 5) dX3_readPlan_5 rfl ?_
  rcases h4 : (mR M2 166 1) with _ | p5
  · replace hf := (oq_none h4).symm.trans hf
    cases hf
  · replace hf := (oq_some h4).symm.trans hf
    by_cases h6 : (p5 = 157 ∨ p5 = 194)
    · replace hf := (if_pos h6).symm.trans hf
      refine x_getRq h4 (t := 2) (j := 1) (pc := 6) dX3_readPlan_6 (axEx hG rfl) rfl (by decide) (by decide) rfl WF_X3_15 ?_
      refine x_cr (v := vI (fX7_codeLength M2 p5)) (vs := [vR p5]) (rest := []) (k := 0) rfl (by omega) (ax_caV (pc := 9) dX3_readPlan_9 kX7_codeLength rfl rfl WM_X3_80 WI_X7_codeLength WS_X7_codeLength WN_X7 (ax_rcO (t := 5) (by rcases h6 with rfl | rfl <;> exact axEx hG rfl) (by rcases h6 with rfl | rfl <;> rfl) (by decide)) (Nat.le_of_ble_eq_true rfl)) kX7_codeLength rfl True.intro (T_X7_codeLength (by omega) hG h6 rfl) ?_
      refine x_istore_n (ls' := [some (vR 166), some (vI v3), some (vI (fX7_codeLength M2 p5)), none, none, none]) (pc := 12) dX3_readPlan_12 (Nat.le_of_ble_eq_true rfl) rfl rfl ?_
      refine x_iload_n (pc := 13) dX3_readPlan_13 rfl ?_
      refine x_istore_n (ls' := [some (vR 166), some (vI v3), some (vI (fX7_codeLength M2 p5)), some (vI (fX7_codeLength M2 p5)), none, none]) (pc := 14) dX3_readPlan_14 (Nat.le_of_ble_eq_true rfl) rfl rfl ?_
      refine x_aload_n (pc := 15) dX3_readPlan_15 rfl ?_
      obtain ⟨v9, M8, r7, hf⟩ := bd2_some hf
      refine ax_know (fun g10 _ _ => ?_)
      have q11 := R_X3_readMove g10 r7
      refine x_cr (v := vR v9) (vs := [vR 166]) (rest := []) (k := 2) rfl (by omega) (ax_caV (pc := 16) dX3_readPlan_16 kX3_readMove rfl rfl WM_X3_83 WI_X3_readMove WS_X3_readMove WN_X3 (ax_rcO (t := 2) (axEx hG rfl) rfl (by decide)) (Nat.le_of_ble_eq_true rfl)) kX3_readMove rfl True.intro (T_X3_readMove (by omega) hG r7) ?_
      refine x_astore (ls' := [some (vR 166), some (vI v3), some (vI (fX7_codeLength M2 p5)), some (vI (fX7_codeLength M2 p5)), some (vR v9), none]) (pc := 19) dX3_readPlan_19 (Nat.le_of_ble_eq_true rfl) rfl rfl ?_
      refine x_aload (pc := 21) dX3_readPlan_21 rfl ?_
      refine x_gets (v := vR 20) _ (pc := 23) dX3_readPlan_23 (axS_mem (n := 18) rfl) rfl trivial WF_X3_87 ?_
      refine x_acmpne (tgt := 54) (pc := 26) dX3_readPlan_26 rfl q11 (by decide) (fun h12 => ?_) (fun h12 => ?_)
      · replace hf := (if_neg h12).symm.trans hf
        refine x_aload_n (pc := 54) dX3_readPlan_54 rfl ?_
        rcases h41 : (mR M8 166 1) with _ | p42
        · replace hf := (oq_none h41).symm.trans hf
          cases hf
        · replace hf := (oq_some h41).symm.trans hf
          by_cases h43 : (p42 = 157 ∨ p42 = 194)
          · replace hf := (if_pos h43).symm.trans hf
            refine x_getRq h41 (t := 2) (j := 1) (pc := 55) dX3_readPlan_55 (axEx hG rfl) rfl (by decide) (by decide) rfl WF_X3_15 ?_
            refine x_cr (v := vI (fX7_codeLength M8 p42)) (vs := [vR p42]) (rest := []) (k := 0) rfl (by omega) (ax_caV (pc := 58) dX3_readPlan_58 kX7_codeLength rfl rfl WM_X3_80 WI_X7_codeLength WS_X7_codeLength WN_X7 (ax_rcO (t := 5) (by rcases h43 with rfl | rfl <;> exact axEx hG rfl) (by rcases h43 with rfl | rfl <;> rfl) (by decide)) (Nat.le_of_ble_eq_true rfl)) kX7_codeLength rfl True.intro (T_X7_codeLength (by omega) hG h43 rfl) ?_
            refine x_istore (ls' := [some (vR 166), some (vI v3), some (vI (fX7_codeLength M2 p5)), some (vI (fX7_codeLength M2 p5)), some (vR v9), some (vI (fX7_codeLength M8 p42))]) (pc := 61) dX3_readPlan_61 (Nat.le_of_ble_eq_true rfl) rfl rfl ?_
            refine x_aload_n (pc := 63) dX3_readPlan_63 rfl ?_
            refine x_gets (v := vR 21) _ (pc := 64) dX3_readPlan_64 (axS_mem (n := 19) rfl) rfl trivial WF_X3_94 ?_
            obtain ⟨v46, M45, r44, hf⟩ := bd2_some hf
            refine x_cr (v := vI v46) (vs := [vR 166, vR 21]) (rest := []) (k := 1) rfl (by omega) (ax_caV (pc := 67) dX3_readPlan_67 kX3_take rfl rfl WM_X3_38 WI_X3_take WS_X3_take WN_X3 (ax_rcO (t := 2) (axEx hG rfl) rfl (by decide)) (Nat.le_of_ble_eq_true rfl)) kX3_take rfl (Z_X3_take r44) (T_X3_take (by omega) hG (by decide) r44) ?_
            refine x_ifeq (tgt := 78) (pc := 70) dX3_readPlan_70 rfl (fun h47 => ?_) (fun h47 => ?_)
            · replace hf := (if_pos h47).symm.trans hf
              refine x_aload_n (pc := 78) dX3_readPlan_78 rfl ?_
              rcases h48 : (mR M45 166 1) with _ | p49
              · replace hf := (oq_none h48).symm.trans hf
                cases hf
              · replace hf := (oq_some h48).symm.trans hf
                by_cases h50 : (p49 = 157 ∨ p49 = 194)
                · replace hf := (if_pos h50).symm.trans hf
                  refine x_getRq h48 (t := 2) (j := 1) (pc := 79) dX3_readPlan_79 (axEx hG rfl) rfl (by decide) (by decide) rfl WF_X3_15 ?_
                  refine x_iload_n (pc := 82) dX3_readPlan_82 rfl ?_
                  refine x_aload (pc := 83) dX3_readPlan_83 rfl ?_
                  refine x_iload_n (pc := 85) dX3_readPlan_85 rfl ?_
                  refine x_iload_n (pc := 86) dX3_readPlan_86 rfl ?_
                  refine x_iload (pc := 87) dX3_readPlan_87 rfl ?_
                  obtain ⟨M52, r51, hf⟩ := bd1_some hf
                  refine x_cv (vs := [vR p49, vI v3, vR v9, vI (fX7_codeLength M2 p5), vI (fX7_codeLength M2 p5), vI (fX7_codeLength M8 p42)]) (rest := []) (k := 0) rfl (by omega) (ax_caV (pc := 89) dX3_readPlan_89 kX7_add rfl rfl WM_X3_100 WI_X7_add WS_X7_add WN_X7 (ax_rcO (t := 5) (by rcases h50 with rfl | rfl <;> exact axEx hG rfl) (by rcases h50 with rfl | rfl <;> rfl) (by decide)) (Nat.le_of_ble_eq_true rfl)) kX7_add rfl True.intro (T_X7_add (by omega) hG h50 q11 r51) ?_
                  cases hf
                  exact x_retV (pc := 92) dX3_readPlan_92
                · replace hf := (if_neg h50).symm.trans hf
                  cases hf
            · replace hf := (if_neg h47).symm.trans hf
              refine x_aload_n (pc := 73) dX3_readPlan_73 rfl ?_
              refine x_iconst (pc := 74) dX3_readPlan_74 ⟨by decide, by decide⟩ ?_
              obtain ⟨M54, r53, hf⟩ := bd1_some hf
              refine x_cv (vs := [vR 166, vI 0]) (rest := []) (k := 1) rfl (by omega) (ax_caV (pc := 75) dX3_readPlan_75 kX3_readTest rfl rfl WM_X3_97 WI_X3_readTest WS_X3_readTest WN_X3 (ax_rcO (t := 2) (axEx hG rfl) rfl (by decide)) (Nat.le_of_ble_eq_true rfl)) kX3_readTest rfl True.intro ((TG3 hG 60).1 (d - 1) _ _ (by omega) r53) ?_
              refine x_aload_n (pc := 78) dX3_readPlan_78 rfl ?_
              rcases h55 : (mR M54 166 1) with _ | p56
              · replace hf := (oq_none h55).symm.trans hf
                cases hf
              · replace hf := (oq_some h55).symm.trans hf
                by_cases h57 : (p56 = 157 ∨ p56 = 194)
                · replace hf := (if_pos h57).symm.trans hf
                  refine x_getRq h55 (t := 2) (j := 1) (pc := 79) dX3_readPlan_79 (axEx hG rfl) rfl (by decide) (by decide) rfl WF_X3_15 ?_
                  refine x_iload_n (pc := 82) dX3_readPlan_82 rfl ?_
                  refine x_aload (pc := 83) dX3_readPlan_83 rfl ?_
                  refine x_iload_n (pc := 85) dX3_readPlan_85 rfl ?_
                  refine x_iload_n (pc := 86) dX3_readPlan_86 rfl ?_
                  refine x_iload (pc := 87) dX3_readPlan_87 rfl ?_
                  obtain ⟨M59, r58, hf⟩ := bd1_some hf
                  refine x_cv (vs := [vR p56, vI v3, vR v9, vI (fX7_codeLength M2 p5), vI (fX7_codeLength M2 p5), vI (fX7_codeLength M8 p42)]) (rest := []) (k := 0) rfl (by omega) (ax_caV (pc := 89) dX3_readPlan_89 kX7_add rfl rfl WM_X3_100 WI_X7_add WS_X7_add WN_X7 (ax_rcO (t := 5) (by rcases h57 with rfl | rfl <;> exact axEx hG rfl) (by rcases h57 with rfl | rfl <;> rfl) (by decide)) (Nat.le_of_ble_eq_true rfl)) kX7_add rfl True.intro (T_X7_add (by omega) hG h57 q11 r58) ?_
                  cases hf
                  exact x_retV (pc := 92) dX3_readPlan_92
                · replace hf := (if_neg h57).symm.trans hf
                  cases hf
          · replace hf := (if_neg h43).symm.trans hf
            cases hf
      · replace hf := (if_pos h12).symm.trans hf
        refine x_aload_n (pc := 29) dX3_readPlan_29 rfl ?_
        refine x_iconst (pc := 30) dX3_readPlan_30 ⟨by decide, by decide⟩ ?_
        obtain ⟨M14, r13, hf⟩ := bd1_some hf
        refine x_cv (vs := [vR 166, vI 0]) (rest := []) (k := 2) rfl (by omega) (ax_caV (pc := 31) dX3_readPlan_31 kX3_readSum rfl rfl WM_X3_90 WI_X3_readSum WS_X3_readSum WN_X3 (ax_rcO (t := 2) (axEx hG rfl) rfl (by decide)) (Nat.le_of_ble_eq_true rfl)) kX3_readSum rfl True.intro ((TG3 hG 60).2.2.2.1 (d - 1) _ _ (by omega) r13) ?_
        refine x_aload_n (pc := 34) dX3_readPlan_34 rfl ?_
        rcases h15 : (mR M14 166 1) with _ | p16
        · replace hf := (oq_none h15).symm.trans hf
          cases hf
        · replace hf := (oq_some h15).symm.trans hf
          by_cases h17 : (p16 = 157 ∨ p16 = 194)
          · replace hf := (if_pos h17).symm.trans hf
            refine x_getRq h15 (t := 2) (j := 1) (pc := 35) dX3_readPlan_35 (axEx hG rfl) rfl (by decide) (by decide) rfl WF_X3_15 ?_
            refine x_cr (v := vI (fX7_codeLength M14 p16)) (vs := [vR p16]) (rest := []) (k := 0) rfl (by omega) (ax_caV (pc := 38) dX3_readPlan_38 kX7_codeLength rfl rfl WM_X3_80 WI_X7_codeLength WS_X7_codeLength WN_X7 (ax_rcO (t := 5) (by rcases h17 with rfl | rfl <;> exact axEx hG rfl) (by rcases h17 with rfl | rfl <;> rfl) (by decide)) (Nat.le_of_ble_eq_true rfl)) kX7_codeLength rfl True.intro (T_X7_codeLength (by omega) hG h17 rfl) ?_
            refine x_istore_n (ls' := [some (vR 166), some (vI v3), some (vI (fX7_codeLength M2 p5)), some (vI (fX7_codeLength M14 p16)), some (vR v9), none]) (pc := 41) dX3_readPlan_41 (Nat.le_of_ble_eq_true rfl) rfl rfl ?_
            refine x_aload_n (pc := 42) dX3_readPlan_42 rfl ?_
            refine x_gets (v := vR 38) _ (pc := 43) dX3_readPlan_43 (axS_mem (n := 36) rfl) rfl trivial WF_X3_77 ?_
            obtain ⟨M19, r18, hf⟩ := bd1_some hf
            refine x_cv (vs := [vR 166, vR 38]) (rest := []) (k := 0) rfl (by omega) (ax_caV (pc := 46) dX3_readPlan_46 kX3_need rfl rfl WM_X3_45 WI_X3_need WS_X3_need WN_X3 (ax_rcO (t := 2) (axEx hG rfl) rfl (by decide)) (Nat.le_of_ble_eq_true rfl)) kX3_need rfl True.intro (T_X3_need (by omega) hG (by decide) r18) ?_
            refine x_aload_n (pc := 49) dX3_readPlan_49 rfl ?_
            refine x_iconst (pc := 50) dX3_readPlan_50 ⟨by decide, by decide⟩ ?_
            obtain ⟨M21, r20, hf⟩ := bd1_some hf
            refine x_cv (vs := [vR 166, vI 0]) (rest := []) (k := 2) rfl (by omega) (ax_caV (pc := 51) dX3_readPlan_51 kX3_readSum rfl rfl WM_X3_90 WI_X3_readSum WS_X3_readSum WN_X3 (ax_rcO (t := 2) (axEx hG rfl) rfl (by decide)) (Nat.le_of_ble_eq_true rfl)) kX3_readSum rfl True.intro ((TG3 hG 60).2.2.2.1 (d - 1) _ _ (by omega) r20) ?_
            refine x_aload_n (pc := 54) dX3_readPlan_54 rfl ?_
            rcases h22 : (mR M21 166 1) with _ | p23
            · replace hf := (oq_none h22).symm.trans hf
              cases hf
            · replace hf := (oq_some h22).symm.trans hf
              by_cases h24 : (p23 = 157 ∨ p23 = 194)
              · replace hf := (if_pos h24).symm.trans hf
                refine x_getRq h22 (t := 2) (j := 1) (pc := 55) dX3_readPlan_55 (axEx hG rfl) rfl (by decide) (by decide) rfl WF_X3_15 ?_
                refine x_cr (v := vI (fX7_codeLength M21 p23)) (vs := [vR p23]) (rest := []) (k := 0) rfl (by omega) (ax_caV (pc := 58) dX3_readPlan_58 kX7_codeLength rfl rfl WM_X3_80 WI_X7_codeLength WS_X7_codeLength WN_X7 (ax_rcO (t := 5) (by rcases h24 with rfl | rfl <;> exact axEx hG rfl) (by rcases h24 with rfl | rfl <;> rfl) (by decide)) (Nat.le_of_ble_eq_true rfl)) kX7_codeLength rfl True.intro (T_X7_codeLength (by omega) hG h24 rfl) ?_
                refine x_istore (ls' := [some (vR 166), some (vI v3), some (vI (fX7_codeLength M2 p5)), some (vI (fX7_codeLength M14 p16)), some (vR v9), some (vI (fX7_codeLength M21 p23))]) (pc := 61) dX3_readPlan_61 (Nat.le_of_ble_eq_true rfl) rfl rfl ?_
                refine x_aload_n (pc := 63) dX3_readPlan_63 rfl ?_
                refine x_gets (v := vR 21) _ (pc := 64) dX3_readPlan_64 (axS_mem (n := 19) rfl) rfl trivial WF_X3_94 ?_
                obtain ⟨v27, M26, r25, hf⟩ := bd2_some hf
                refine x_cr (v := vI v27) (vs := [vR 166, vR 21]) (rest := []) (k := 1) rfl (by omega) (ax_caV (pc := 67) dX3_readPlan_67 kX3_take rfl rfl WM_X3_38 WI_X3_take WS_X3_take WN_X3 (ax_rcO (t := 2) (axEx hG rfl) rfl (by decide)) (Nat.le_of_ble_eq_true rfl)) kX3_take rfl (Z_X3_take r25) (T_X3_take (by omega) hG (by decide) r25) ?_
                refine x_ifeq (tgt := 78) (pc := 70) dX3_readPlan_70 rfl (fun h28 => ?_) (fun h28 => ?_)
                · replace hf := (if_pos h28).symm.trans hf
                  refine x_aload_n (pc := 78) dX3_readPlan_78 rfl ?_
                  rcases h29 : (mR M26 166 1) with _ | p30
                  · replace hf := (oq_none h29).symm.trans hf
                    cases hf
                  · replace hf := (oq_some h29).symm.trans hf
                    by_cases h31 : (p30 = 157 ∨ p30 = 194)
                    · replace hf := (if_pos h31).symm.trans hf
                      refine x_getRq h29 (t := 2) (j := 1) (pc := 79) dX3_readPlan_79 (axEx hG rfl) rfl (by decide) (by decide) rfl WF_X3_15 ?_
                      refine x_iload_n (pc := 82) dX3_readPlan_82 rfl ?_
                      refine x_aload (pc := 83) dX3_readPlan_83 rfl ?_
                      refine x_iload_n (pc := 85) dX3_readPlan_85 rfl ?_
                      refine x_iload_n (pc := 86) dX3_readPlan_86 rfl ?_
                      refine x_iload (pc := 87) dX3_readPlan_87 rfl ?_
                      obtain ⟨M33, r32, hf⟩ := bd1_some hf
                      refine x_cv (vs := [vR p30, vI v3, vR v9, vI (fX7_codeLength M2 p5), vI (fX7_codeLength M14 p16), vI (fX7_codeLength M21 p23)]) (rest := []) (k := 0) rfl (by omega) (ax_caV (pc := 89) dX3_readPlan_89 kX7_add rfl rfl WM_X3_100 WI_X7_add WS_X7_add WN_X7 (ax_rcO (t := 5) (by rcases h31 with rfl | rfl <;> exact axEx hG rfl) (by rcases h31 with rfl | rfl <;> rfl) (by decide)) (Nat.le_of_ble_eq_true rfl)) kX7_add rfl True.intro (T_X7_add (by omega) hG h31 q11 r32) ?_
                      cases hf
                      exact x_retV (pc := 92) dX3_readPlan_92
                    · replace hf := (if_neg h31).symm.trans hf
                      cases hf
                · replace hf := (if_neg h28).symm.trans hf
                  refine x_aload_n (pc := 73) dX3_readPlan_73 rfl ?_
                  refine x_iconst (pc := 74) dX3_readPlan_74 ⟨by decide, by decide⟩ ?_
                  obtain ⟨M35, r34, hf⟩ := bd1_some hf
                  refine x_cv (vs := [vR 166, vI 0]) (rest := []) (k := 1) rfl (by omega) (ax_caV (pc := 75) dX3_readPlan_75 kX3_readTest rfl rfl WM_X3_97 WI_X3_readTest WS_X3_readTest WN_X3 (ax_rcO (t := 2) (axEx hG rfl) rfl (by decide)) (Nat.le_of_ble_eq_true rfl)) kX3_readTest rfl True.intro ((TG3 hG 60).1 (d - 1) _ _ (by omega) r34) ?_
                  refine x_aload_n (pc := 78) dX3_readPlan_78 rfl ?_
                  rcases h36 : (mR M35 166 1) with _ | p37
                  · replace hf := (oq_none h36).symm.trans hf
                    cases hf
                  · replace hf := (oq_some h36).symm.trans hf
                    by_cases h38 : (p37 = 157 ∨ p37 = 194)
                    · replace hf := (if_pos h38).symm.trans hf
                      refine x_getRq h36 (t := 2) (j := 1) (pc := 79) dX3_readPlan_79 (axEx hG rfl) rfl (by decide) (by decide) rfl WF_X3_15 ?_
                      refine x_iload_n (pc := 82) dX3_readPlan_82 rfl ?_
                      refine x_aload (pc := 83) dX3_readPlan_83 rfl ?_
                      refine x_iload_n (pc := 85) dX3_readPlan_85 rfl ?_
                      refine x_iload_n (pc := 86) dX3_readPlan_86 rfl ?_
                      refine x_iload (pc := 87) dX3_readPlan_87 rfl ?_
                      obtain ⟨M40, r39, hf⟩ := bd1_some hf
                      refine x_cv (vs := [vR p37, vI v3, vR v9, vI (fX7_codeLength M2 p5), vI (fX7_codeLength M14 p16), vI (fX7_codeLength M21 p23)]) (rest := []) (k := 0) rfl (by omega) (ax_caV (pc := 89) dX3_readPlan_89 kX7_add rfl rfl WM_X3_100 WI_X7_add WS_X7_add WN_X7 (ax_rcO (t := 5) (by rcases h38 with rfl | rfl <;> exact axEx hG rfl) (by rcases h38 with rfl | rfl <;> rfl) (by decide)) (Nat.le_of_ble_eq_true rfl)) kX7_add rfl True.intro (T_X7_add (by omega) hG h38 q11 r39) ?_
                      cases hf
                      exact x_retV (pc := 92) dX3_readPlan_92
                    · replace hf := (if_neg h38).symm.trans hf
                      cases hf
              · replace hf := (if_neg h24).symm.trans hf
                cases hf
          · replace hf := (if_neg h17).symm.trans hf
            cases hf
    · replace hf := (if_neg h6).symm.trans hf
      cases hf
/- HexPond$Grammar.firstWrong(LHexPond$Plans;)I -/
def fX3_firstWrong_b62 (M : ax_M) (v2 : Int) : Option ((Int × ax_M) ⊕ ax_M) :=
  (if v2 < 400 then (if (mI M 166 3) = 0 then (if (fX3_sees M 49) = 0 then (bd2 (fX3_take M 12) fun v16 M15 => (if v16 = 0 then (bd1 (fX3_need M15 13) fun M19 => (bd1 (fX3_readPlan M19) fun M21 => (bd1 (fX3_need M21 37) fun M23 => (some (.inl ((v2 + 1), M23)))))) else (bd1 (fX3_readStone M15) fun M25 => (bd1 (fX3_need M25 37) fun M27 => (some (.inl ((v2 + 1), M27))))))) else (some (.inr M))) else (some (.inr M))) else (some (.inr M)))
def fX3_firstWrong (M : ax_M) (a1 : Nat) : Option (Int × ax_M) :=
  (oq (mR (mUR M 166 1 (some a1)) 166 1) none fun p2 => if (p2 = 157 ∨ p2 = 194) then (bd1 (fX7_begin (mUR M 166 1 (some a1)) p2) fun M5 => (bd2 (fX3_take (mUI (mUI M5 166 2 0) 166 3 0) 10) fun v8 M7 => (if v8 = 0 then (bd1 (lp (fun s => fX3_firstWrong_b62 s.2 s.1) lpN (0, M7)) fun t28 => (if (mI t28 166 3) = 0 then (some ((-1), t28)) else (some ((mI t28 166 2), t28)))) else (bd1 (fX3_need M7 48) fun M32 => (bd1 (fX3_need M32 11) fun M34 => (bd1 (fX3_need M34 48) fun M36 => (bd1 (fX3_need M36 37) fun M38 => (bd1 (lp (fun s => fX3_firstWrong_b62 s.2 s.1) lpN (0, M38)) fun t39 => (if (mI t39 166 3) = 0 then (some ((-1), t39)) else (some ((mI t39 166 2), t39))))))))))) else none)
theorem B_X3_firstWrong_62 {G : ax_G} {d : Nat} (hd : 70 ≤ d) (hG : axPs G 150 244) {M : ax_M} {v2 : Int} {o : Option ax_V ⊕ String} {M' : ax_M} {y : (Int × ax_M) ⊕ ax_M} (hf : fX3_firstWrong_b62 M v2 = some y) (h1 : ∀ s', y = .inl s' → ax_Ex G tX3_firstWrong d 62 [some (vR 166), none, some (vI s'.1)] [] s'.2 o M') (h2a : ∀ t, y = .inr t → ax_Ex G tX3_firstWrong d 127 [some (vR 166), none, none] [] t o M') : ax_Ex G tX3_firstWrong d 62 [some (vR 166), none, some (vI v2)] [] M o M' := by
  unfold fX3_firstWrong_b62 at hf
  refine x_iload_n (pc := 62) dX3_firstWrong_62 rfl ?_
  refine x_sipush (pc := 63) dX3_firstWrong_63 (by decide) ⟨by decide, by decide⟩ ?_
  refine ax_cmp (fun b11a b11b b11c b11e => ?_)
  refine x_icmpge (tgt := 127) (pc := 66) dX3_firstWrong_66 rfl (fun h10 => ?_) (fun h10 => ?_)
  · replace hf := (if_neg (Int.not_lt.mpr h10)).symm.trans hf
    cases hf
    exact x_fgt (axS' (axN' (axN' axD))) (h2a _ rfl)
  · replace hf := (if_pos h10).symm.trans hf
    refine x_aload_n (pc := 69) dX3_firstWrong_69 rfl ?_
    refine x_getI (t := 2) (j := 3) (pc := 70) dX3_firstWrong_70 (axEx hG rfl) rfl (by decide) (by decide) rfl WF_X3_28 ?_
    refine x_ifne (tgt := 127) (pc := 73) dX3_firstWrong_73 rfl (fun h12 => ?_) (fun h12 => ?_)
    · replace hf := (if_neg h12).symm.trans hf
      cases hf
      exact x_fgt (axS' (axN' (axN' axD))) (h2a _ rfl)
    · replace hf := (if_pos h12).symm.trans hf
      refine x_aload_n (pc := 76) dX3_firstWrong_76 rfl ?_
      refine x_gets (v := vR 49) _ (pc := 77) dX3_firstWrong_77 (axS_mem (n := 47) rfl) rfl trivial WF_X3_55 ?_
      refine x_cr (v := vI (fX3_sees M 49)) (vs := [vR 166, vR 49]) (rest := []) (k := 0) rfl (by omega) (ax_caV (pc := 80) dX3_firstWrong_80 kX3_sees rfl rfl WM_X3_58 WI_X3_sees WS_X3_sees WN_X3 (ax_rcO (t := 2) (axEx hG rfl) rfl (by decide)) (Nat.le_of_ble_eq_true rfl)) kX3_sees rfl (Z_X3_sees rfl) (T_X3_sees (by omega) hG (by decide) rfl) ?_
      refine x_ifne (tgt := 127) (pc := 83) dX3_firstWrong_83 rfl (fun h13 => ?_) (fun h13 => ?_)
      · replace hf := (if_neg h13).symm.trans hf
        cases hf
        exact x_fgt (axS' (axN' (axN' axD))) (h2a _ rfl)
      · replace hf := (if_pos h13).symm.trans hf
        refine x_aload_n (pc := 86) dX3_firstWrong_86 rfl ?_
        refine x_gets (v := vR 12) _ (pc := 87) dX3_firstWrong_87 (axS_mem (n := 10) rfl) rfl trivial WF_X3_61 ?_
        obtain ⟨v16, M15, r14, hf⟩ := bd2_some hf
        refine x_cr (v := vI v16) (vs := [vR 166, vR 12]) (rest := []) (k := 1) rfl (by omega) (ax_caV (pc := 90) dX3_firstWrong_90 kX3_take rfl rfl WM_X3_38 WI_X3_take WS_X3_take WN_X3 (ax_rcO (t := 2) (axEx hG rfl) rfl (by decide)) (Nat.le_of_ble_eq_true rfl)) kX3_take rfl (Z_X3_take r14) (T_X3_take (by omega) hG (by decide) r14) ?_
        refine x_ifeq (tgt := 103) (pc := 93) dX3_firstWrong_93 rfl (fun h17 => ?_) (fun h17 => ?_)
        · replace hf := (if_pos h17).symm.trans hf
          refine x_aload_n (pc := 103) dX3_firstWrong_103 rfl ?_
          refine x_gets (v := vR 13) _ (pc := 104) dX3_firstWrong_104 (axS_mem (n := 11) rfl) rfl trivial WF_X3_67 ?_
          obtain ⟨M19, r18, hf⟩ := bd1_some hf
          refine x_cv (vs := [vR 166, vR 13]) (rest := []) (k := 0) rfl (by omega) (ax_caV (pc := 107) dX3_firstWrong_107 kX3_need rfl rfl WM_X3_45 WI_X3_need WS_X3_need WN_X3 (ax_rcO (t := 2) (axEx hG rfl) rfl (by decide)) (Nat.le_of_ble_eq_true rfl)) kX3_need rfl True.intro (T_X3_need (by omega) hG (by decide) r18) ?_
          refine x_aload_n (pc := 110) dX3_firstWrong_110 rfl ?_
          obtain ⟨M21, r20, hf⟩ := bd1_some hf
          refine x_cv (vs := [vR 166]) (rest := []) (k := 5) rfl (by omega) (ax_caV (pc := 111) dX3_firstWrong_111 kX3_readPlan rfl rfl WM_X3_70 WI_X3_readPlan WS_X3_readPlan WN_X3 (ax_rcO (t := 2) (axEx hG rfl) rfl (by decide)) (Nat.le_of_ble_eq_true rfl)) kX3_readPlan rfl True.intro (T_X3_readPlan (by omega) hG r20) ?_
          refine x_aload_n (pc := 114) dX3_firstWrong_114 rfl ?_
          refine x_gets (v := vR 37) _ (pc := 115) dX3_firstWrong_115 (axS_mem (n := 35) rfl) rfl trivial WF_X3_52 ?_
          obtain ⟨M23, r22, hf⟩ := bd1_some hf
          refine x_cv (vs := [vR 166, vR 37]) (rest := []) (k := 0) rfl (by omega) (ax_caV (pc := 118) dX3_firstWrong_118 kX3_need rfl rfl WM_X3_45 WI_X3_need WS_X3_need WN_X3 (ax_rcO (t := 2) (axEx hG rfl) rfl (by decide)) (Nat.le_of_ble_eq_true rfl)) kX3_need rfl True.intro (T_X3_need (by omega) hG (by decide) r22) ?_
          refine x_iinc (z := (v2 + 1)) (ls' := [some (vR 166), none, some (vI (v2 + 1))]) (pc := 121) dX3_firstWrong_121 rfl (Nat.le_of_ble_eq_true rfl) rfl rfl (ax_i (by omega) (by omega)) rfl ?_
          refine x_goto (tgt := 62) (pc := 124) dX3_firstWrong_124 rfl ?_
          cases hf
          exact h1 _ rfl
        · replace hf := (if_neg h17).symm.trans hf
          refine x_aload_n (pc := 96) dX3_firstWrong_96 rfl ?_
          obtain ⟨M25, r24, hf⟩ := bd1_some hf
          refine x_cv (vs := [vR 166]) (rest := []) (k := 0) rfl (by omega) (ax_caV (pc := 97) dX3_firstWrong_97 kX3_readStone rfl rfl WM_X3_64 WI_X3_readStone WS_X3_readStone WN_X3 (ax_rcO (t := 2) (axEx hG rfl) rfl (by decide)) (Nat.le_of_ble_eq_true rfl)) kX3_readStone rfl True.intro (T_X3_readStone (by omega) hG r24) ?_
          refine x_goto (tgt := 114) (pc := 100) dX3_firstWrong_100 rfl ?_
          refine x_aload_n (pc := 114) dX3_firstWrong_114 rfl ?_
          refine x_gets (v := vR 37) _ (pc := 115) dX3_firstWrong_115 (axS_mem (n := 35) rfl) rfl trivial WF_X3_52 ?_
          obtain ⟨M27, r26, hf⟩ := bd1_some hf
          refine x_cv (vs := [vR 166, vR 37]) (rest := []) (k := 0) rfl (by omega) (ax_caV (pc := 118) dX3_firstWrong_118 kX3_need rfl rfl WM_X3_45 WI_X3_need WS_X3_need WN_X3 (ax_rcO (t := 2) (axEx hG rfl) rfl (by decide)) (Nat.le_of_ble_eq_true rfl)) kX3_need rfl True.intro (T_X3_need (by omega) hG (by decide) r26) ?_
          refine x_iinc (z := (v2 + 1)) (ls' := [some (vR 166), none, some (vI (v2 + 1))]) (pc := 121) dX3_firstWrong_121 rfl (Nat.le_of_ble_eq_true rfl) rfl rfl (ax_i (by omega) (by omega)) rfl ?_
          refine x_goto (tgt := 62) (pc := 124) dX3_firstWrong_124 rfl ?_
          cases hf
          exact h1 _ rfl
theorem T_X3_firstWrong {G : ax_G} {d : Nat} (hd : 70 ≤ d) (hG : axPs G 150 244) {M : ax_M} {a1 : Nat} (y_a1 : (a1 = 157 ∨ a1 = 194)) {r : Int} {M1 : ax_M} (hf : fX3_firstWrong M a1 = some (r, M1)) : ax_Ex G tX3_firstWrong d 0 (ax_args [vR 166, vR a1] ++ List.replicate 1 none) [] M (.inl (some (vI r))) M1 := by
  show ax_Ex G tX3_firstWrong d 0 [some (vR 166), some (vR a1), none] [] M _ _
  unfold fX3_firstWrong at hf
  refine x_aload_n (pc := 0) dX3_firstWrong_0 rfl ?_
  refine x_aload_n (pc := 1) dX3_firstWrong_1 rfl ?_
  refine x_putR (t := 2) (j := 1) (pc := 2) dX3_firstWrong_2 (axEx hG rfl) rfl (by decide) (by decide) rfl ⟨_, rfl⟩ rfl WF_X3_15 (fun _ => Or.inl rfl) rfl ?_
  refine x_aload_n (pc := 5) dX3_firstWrong_5 rfl ?_
  rcases h1 : (mR (mUR M 166 1 (some a1)) 166 1) with _ | p2
  · replace hf := (oq_none h1).symm.trans hf
    cases hf
  · replace hf := (oq_some h1).symm.trans hf
    by_cases h3 : (p2 = 157 ∨ p2 = 194)
    · replace hf := (if_pos h3).symm.trans hf
      refine x_getRq h1 (t := 2) (j := 1) (pc := 6) dX3_firstWrong_6 (axEx hG rfl) rfl (by decide) (by decide) rfl WF_X3_15 ?_
      obtain ⟨M5, r4, hf⟩ := bd1_some hf
      refine x_cv (vs := [vR p2]) (rest := []) (k := 0) rfl (by omega) (ax_caV (pc := 9) dX3_firstWrong_9 kX7_begin rfl rfl WM_X3_19 WI_X7_begin WS_X7_begin WN_X7 (ax_rcO (t := 5) (by rcases h3 with rfl | rfl <;> exact axEx hG rfl) (by rcases h3 with rfl | rfl <;> rfl) (by decide)) (Nat.le_of_ble_eq_true rfl)) kX7_begin rfl True.intro (T_X7_begin (by omega) hG h3 r4) ?_
      refine x_aload_n (pc := 12) dX3_firstWrong_12 rfl ?_
      refine x_iconst (pc := 13) dX3_firstWrong_13 ⟨by decide, by decide⟩ ?_
      refine x_putI (t := 2) (j := 2) (pc := 14) dX3_firstWrong_14 (axEx hG rfl) rfl (by decide) (by decide) rfl rfl WF_X3_24 ?_
      refine x_aload_n (pc := 17) dX3_firstWrong_17 rfl ?_
      refine x_iconst (pc := 18) dX3_firstWrong_18 ⟨by decide, by decide⟩ ?_
      refine x_putZ (t := 2) (j := 3) (pc := 19) dX3_firstWrong_19 (axEx hG rfl) rfl (by decide) (by decide) rfl rfl WF_X3_28 (by decide) ?_
      refine x_aload_n (pc := 22) dX3_firstWrong_22 rfl ?_
      refine x_gets (v := vR 10) _ (pc := 23) dX3_firstWrong_23 (axS_mem (n := 8) rfl) rfl trivial WF_X3_32 ?_
      obtain ⟨v8, M7, r6, hf⟩ := bd2_some hf
      refine x_cr (v := vI v8) (vs := [vR 166, vR 10]) (rest := []) (k := 1) rfl (by omega) (ax_caV (pc := 26) dX3_firstWrong_26 kX3_take rfl rfl WM_X3_38 WI_X3_take WS_X3_take WN_X3 (ax_rcO (t := 2) (axEx hG rfl) rfl (by decide)) (Nat.le_of_ble_eq_true rfl)) kX3_take rfl (Z_X3_take r6) (T_X3_take (by omega) hG (by decide) r6) ?_
      refine x_ifeq (tgt := 60) (pc := 29) dX3_firstWrong_29 rfl (fun h9 => ?_) (fun h9 => ?_)
      · replace hf := (if_pos h9).symm.trans hf
        refine x_iconst (pc := 60) dX3_firstWrong_60 ⟨by decide, by decide⟩ ?_
        refine x_istore_n (ls' := [some (vR 166), some (vR a1), some (vI 0)]) (pc := 61) dX3_firstWrong_61 (Nat.le_of_ble_eq_true rfl) rfl rfl ?_
        obtain ⟨t28, t29, hf⟩ := bd1_some hf
        refine x_fgt (axS' (axN' (axS' axD))) (lp_ex (P := (fun s => ax_Ex G tX3_firstWrong d 62 [some (vR 166), none, some (vI s.1)] [] s.2 _ _)) (K := (fun t => ax_Ex G tX3_firstWrong d 127 [some (vR 166), none, none] [] t _ _)) (fun s y hy h1 h2 => B_X3_firstWrong_62 (by omega) hG hy (fun s' e => h1 s' e) (fun t e => h2 t e)) _ _ _ t29 ?_)
        refine x_aload_n (pc := 127) dX3_firstWrong_127 rfl ?_
        refine x_getI (t := 2) (j := 3) (pc := 128) dX3_firstWrong_128 (axEx hG rfl) rfl (by decide) (by decide) rfl WF_X3_28 ?_
        refine x_ifeq (tgt := 141) (pc := 131) dX3_firstWrong_131 rfl (fun h30 => ?_) (fun h30 => ?_)
        · replace hf := (if_pos h30).symm.trans hf
          refine x_iconst (pc := 141) dX3_firstWrong_141 ⟨by decide, by decide⟩ ?_
          cases hf
          exact x_retI (pc := 142) dX3_firstWrong_142
        · replace hf := (if_neg h30).symm.trans hf
          refine x_aload_n (pc := 134) dX3_firstWrong_134 rfl ?_
          refine x_getI (t := 2) (j := 2) (pc := 135) dX3_firstWrong_135 (axEx hG rfl) rfl (by decide) (by decide) rfl WF_X3_24 ?_
          refine x_goto (tgt := 142) (pc := 138) dX3_firstWrong_138 rfl ?_
          cases hf
          exact x_retI (pc := 142) dX3_firstWrong_142
      · replace hf := (if_neg h9).symm.trans hf
        refine x_aload_n (pc := 32) dX3_firstWrong_32 rfl ?_
        refine x_gets (v := vR 48) _ (pc := 33) dX3_firstWrong_33 (axS_mem (n := 46) rfl) rfl trivial WF_X3_42 ?_
        obtain ⟨M32, r31, hf⟩ := bd1_some hf
        refine x_cv (vs := [vR 166, vR 48]) (rest := []) (k := 0) rfl (by omega) (ax_caV (pc := 36) dX3_firstWrong_36 kX3_need rfl rfl WM_X3_45 WI_X3_need WS_X3_need WN_X3 (ax_rcO (t := 2) (axEx hG rfl) rfl (by decide)) (Nat.le_of_ble_eq_true rfl)) kX3_need rfl True.intro (T_X3_need (by omega) hG (by decide) r31) ?_
        refine x_aload_n (pc := 39) dX3_firstWrong_39 rfl ?_
        refine x_gets (v := vR 11) _ (pc := 40) dX3_firstWrong_40 (axS_mem (n := 9) rfl) rfl trivial WF_X3_49 ?_
        obtain ⟨M34, r33, hf⟩ := bd1_some hf
        refine x_cv (vs := [vR 166, vR 11]) (rest := []) (k := 0) rfl (by omega) (ax_caV (pc := 43) dX3_firstWrong_43 kX3_need rfl rfl WM_X3_45 WI_X3_need WS_X3_need WN_X3 (ax_rcO (t := 2) (axEx hG rfl) rfl (by decide)) (Nat.le_of_ble_eq_true rfl)) kX3_need rfl True.intro (T_X3_need (by omega) hG (by decide) r33) ?_
        refine x_aload_n (pc := 46) dX3_firstWrong_46 rfl ?_
        refine x_gets (v := vR 48) _ (pc := 47) dX3_firstWrong_47 (axS_mem (n := 46) rfl) rfl trivial WF_X3_42 ?_
        obtain ⟨M36, r35, hf⟩ := bd1_some hf
        refine x_cv (vs := [vR 166, vR 48]) (rest := []) (k := 0) rfl (by omega) (ax_caV (pc := 50) dX3_firstWrong_50 kX3_need rfl rfl WM_X3_45 WI_X3_need WS_X3_need WN_X3 (ax_rcO (t := 2) (axEx hG rfl) rfl (by decide)) (Nat.le_of_ble_eq_true rfl)) kX3_need rfl True.intro (T_X3_need (by omega) hG (by decide) r35) ?_
        refine x_aload_n (pc := 53) dX3_firstWrong_53 rfl ?_
        refine x_gets (v := vR 37) _ (pc := 54) dX3_firstWrong_54 (axS_mem (n := 35) rfl) rfl trivial WF_X3_52 ?_
        obtain ⟨M38, r37, hf⟩ := bd1_some hf
        refine x_cv (vs := [vR 166, vR 37]) (rest := []) (k := 0) rfl (by omega) (ax_caV (pc := 57) dX3_firstWrong_57 kX3_need rfl rfl WM_X3_45 WI_X3_need WS_X3_need WN_X3 (ax_rcO (t := 2) (axEx hG rfl) rfl (by decide)) (Nat.le_of_ble_eq_true rfl)) kX3_need rfl True.intro (T_X3_need (by omega) hG (by decide) r37) ?_
        refine x_iconst (pc := 60) dX3_firstWrong_60 ⟨by decide, by decide⟩ ?_
        refine x_istore_n (ls' := [some (vR 166), some (vR a1), some (vI 0)]) (pc := 61) dX3_firstWrong_61 (Nat.le_of_ble_eq_true rfl) rfl rfl ?_
        obtain ⟨t39, t40, hf⟩ := bd1_some hf
        refine x_fgt (axS' (axN' (axS' axD))) (lp_ex (P := (fun s => ax_Ex G tX3_firstWrong d 62 [some (vR 166), none, some (vI s.1)] [] s.2 _ _)) (K := (fun t => ax_Ex G tX3_firstWrong d 127 [some (vR 166), none, none] [] t _ _)) (fun s y hy h1 h2 => B_X3_firstWrong_62 (by omega) hG hy (fun s' e => h1 s' e) (fun t e => h2 t e)) _ _ _ t40 ?_)
        refine x_aload_n (pc := 127) dX3_firstWrong_127 rfl ?_
        refine x_getI (t := 2) (j := 3) (pc := 128) dX3_firstWrong_128 (axEx hG rfl) rfl (by decide) (by decide) rfl WF_X3_28 ?_
        refine x_ifeq (tgt := 141) (pc := 131) dX3_firstWrong_131 rfl (fun h41 => ?_) (fun h41 => ?_)
        · replace hf := (if_pos h41).symm.trans hf
          refine x_iconst (pc := 141) dX3_firstWrong_141 ⟨by decide, by decide⟩ ?_
          cases hf
          exact x_retI (pc := 142) dX3_firstWrong_142
        · replace hf := (if_neg h41).symm.trans hf
          refine x_aload_n (pc := 134) dX3_firstWrong_134 rfl ?_
          refine x_getI (t := 2) (j := 2) (pc := 135) dX3_firstWrong_135 (axEx hG rfl) rfl (by decide) (by decide) rfl WF_X3_24 ?_
          refine x_goto (tgt := 142) (pc := 138) dX3_firstWrong_138 rfl ?_
          cases hf
          exact x_retI (pc := 142) dX3_firstWrong_142
    · replace hf := (if_neg h3).symm.trans hf
      cases hf
