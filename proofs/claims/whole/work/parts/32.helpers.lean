/-! walks: HexPondLaw, the helpers -/
theorem x_cc {G : ax_G} {mt mt' : ax_T} {d pc : Nat} {ls ls' : List (Option ax_V)} {rest vs : List ax_V} {M M' M1 : ax_M} {o : Option ax_V ⊕ String} {n k : Nat} {E : String} {i len : Nat} {x : ExceptionTableEntry} {pre suf : List ExceptionTableEntry} {stk : List ax_V} (hst : vs.reverse ++ rest = stk) (h1 : 1 ≤ d) (ca : ax_Ca G mt mt' (d - 1) pc vs rest M (.inr E) M1) (K : ax_Kn mt' n) (hlen : (ax_args vs).length + k = mt'.2.2.1)
    (htb : tableOf mt.2.2.2.2 = pre ++ x :: suf) (hpass : ∀ z ∈ pre, z.catchType ≠ 0 ∧ ∃ nm : String, Cond.classLink mt.1.cls z.catchType nm ∈ ax_W ∧ (E, nm) ∈ axNc) (hx : covers x pc = true) (h0x : x.catchType ≠ 0) (hlk : Cond.classLink mt.1.cls x.catchType E ∈ ax_W) (hcs : Cond.castable E E ∈ axNw)
    (hd : (∃ i' : Fin 4, (i' : Nat) = i ∧ len = 1 ∧ decode mt.2.1 x.handlerPc = .ok (.astore_n i', 1)) ∨ (len = 2 ∧ decode mt.2.1 x.handlerPc = .ok (.astore i, 2))) (hi : i < mt.2.2.1) (hc1 : ax_c1 ls i = true) (hls : ls.set i none = ls')
    (h : ax_Ex G mt' (d - 1) 0 (ax_args vs ++ List.replicate k none) [] M (.inr E) M1) (k' : ax_Ex G mt d (x.handlerPc + len) ls' [] M1 o M') :
    ax_Ex G mt d pc ls stk M o M' := by
  obtain ⟨d, rfl⟩ : ∃ d', d = d' + 1 := ⟨d - 1, by omega⟩
  rw [← hst]
  exact x_catch ca K hlen htb hpass hx h0x hlk hcs hd hi hc1 hls h k'
theorem CS_IllegalStateException : Cond.castable "java/lang/IllegalStateException" "java/lang/IllegalStateException" ∈ axNw := ax_tn (ax_t5 (List.mem_of_getElem? (i := 105) (by decide +kernel))) rfl
theorem CS_IllegalArgumentException : Cond.castable "java/lang/IllegalArgumentException" "java/lang/IllegalArgumentException" ∈ axNw := ax_tn (ax_t5 (List.mem_of_getElem? (i := 184) (by decide +kernel))) rfl
theorem CS_IndexOutOfBoundsException : Cond.castable "java/lang/IndexOutOfBoundsException" "java/lang/IndexOutOfBoundsException" ∈ axNw := ax_tn (ax_t5 (List.mem_of_getElem? (i := 211) (by decide +kernel))) rfl

/- HexPondLaw.feed(LHexPond;IIIII[J)I -/
def fL_feed (M : ax_M) (a2 : Int) (a3 : Int) (a4 : Int) (a5 : Int) (a6 : Int) : Option (Int × ax_M) :=
  (bdC (fX12_feed M a2 a3 a4 a5 a6) (fun v2 M3 => (some (0, (mUJ M3 243 0 (il v2))))) (fun E5 M6 => (if E5 = "java/lang/IllegalStateException" then (some (1, M6)) else none)))
theorem T_L_feed {G : ax_G} {d : Nat} (hd : 7 ≤ d) (hG : axPs G 150 244) (hX : (gL G).stackTraces = false) {M : ax_M} {a2 : Int} {a3 : Int} {a4 : Int} {a5 : Int} {a6 : Int} {r : Int} {M1 : ax_M} (hf : fL_feed M a2 a3 a4 a5 a6 = some (r, M1)) : ax_Ex G tL_feed d 0 (ax_args [vR 150, vI a2, vI a3, vI a4, vI a5, vI a6, vR 243] ++ List.replicate 1 none) [] M (.inl (some (vI r))) M1 := by
  show ax_Ex G tL_feed d 0 [some (vR 150), some (vI a2), some (vI a3), some (vI a4), some (vI a5), some (vI a6), some (vR 243), none] [] M _ _
  unfold fL_feed at hf
  refine x_aload (pc := 0) dL_feed_0 rfl ?_
  refine x_iconst (pc := 2) dL_feed_2 ⟨by decide, by decide⟩ ?_
  refine x_aload_n (pc := 3) dL_feed_3 rfl ?_
  refine x_iload_n (pc := 4) dL_feed_4 rfl ?_
  refine x_iload_n (pc := 5) dL_feed_5 rfl ?_
  refine x_iload_n (pc := 6) dL_feed_6 rfl ?_
  refine x_iload (pc := 7) dL_feed_7 rfl ?_
  refine x_iload (pc := 9) dL_feed_9 rfl ?_
  rcases bdC_some hf with ⟨v2, M3, r1, hf⟩ | ⟨E5, M6, r1, hf⟩
  · skip
    refine x_cr (v := vI v2) (vs := [vR 150, vI a2, vI a3, vI a4, vI a5, vI a6]) (rest := [vI 0, vR 243]) (k := 0) rfl (by omega) (ax_caV (pc := 11) dL_feed_11 kX12_feed rfl rfl WM_L_7 WI_X12_feed WS_X12_feed WN_X12 (ax_rcO (t := 10) (axEx hG rfl) rfl (by decide)) (Nat.le_of_ble_eq_true rfl)) kX12_feed rfl True.intro (T_X12_feed (by omega) hG hX r1) ?_
    refine x_i2l (pc := 14) dL_feed_14 ?_
    refine x_last (j := 0) (n := 1) (pc := 15) dL_feed_15 (axEx hG rfl) rfl rfl (by decide) ?_
    refine x_goto (tgt := 23) (pc := 16) dL_feed_16 rfl ?_
    refine x_iconst (pc := 23) dL_feed_23 ⟨by decide, by decide⟩ ?_
    cases hf
    exact x_retI (pc := 24) dL_feed_24
  · skip
    by_cases h7 : E5 = "java/lang/IllegalStateException"
    · replace hf := (if_pos h7).symm.trans hf
      subst h7
      refine x_cc (vs := [vR 150, vI a2, vI a3, vI a4, vI a5, vI a6]) (rest := [vI 0, vR 243]) (k := 0) (i := 7) (len := 2) (x := ⟨0, 16, 19, 13⟩) (pre := []) (suf := []) rfl (by omega) (ax_caV (pc := 11) dL_feed_11 kX12_feed rfl rfl WM_L_7 WI_X12_feed WS_X12_feed WN_X12 (ax_rcO (t := 10) (axEx hG rfl) rfl (by decide)) (Nat.le_of_ble_eq_true rfl)) kX12_feed rfl rfl (fun z hz => by cases hz) rfl (by decide) WC_L_13 CS_IllegalStateException (Or.inr ⟨rfl, dL_feed_19⟩) (by decide) rfl rfl (T_X12_feed (by omega) hG hX r1) ?_
      refine x_iconst (pc := 21) dL_feed_21 ⟨by decide, by decide⟩ ?_
      cases hf
      exact x_retI (pc := 22) dL_feed_22
    replace hf := (if_neg h7).symm.trans hf
    cases hf
/- HexPondLaw.trim(LHexPond;I[J)I -/
def fL_trim (M : ax_M) (a2 : Int) : Option (Int × ax_M) :=
  (bdC (fX12_trim M a2) (fun v2 M3 => (some (0, (mUJ M3 243 0 (il v2))))) (fun E5 M6 => (if E5 = "java/lang/IllegalArgumentException" then (some (1, M6)) else none)))
theorem T_L_trim {G : ax_G} {d : Nat} (hd : 7 ≤ d) (hG : axPs G 150 244) (hX : (gL G).stackTraces = false) {M : ax_M} {a2 : Int} {r : Int} {M1 : ax_M} (hf : fL_trim M a2 = some (r, M1)) : ax_Ex G tL_trim d 0 (ax_args [vR 150, vI a2, vR 243] ++ List.replicate 1 none) [] M (.inl (some (vI r))) M1 := by
  show ax_Ex G tL_trim d 0 [some (vR 150), some (vI a2), some (vR 243), none] [] M _ _
  unfold fL_trim at hf
  refine x_aload_n (pc := 0) dL_trim_0 rfl ?_
  refine x_iconst (pc := 1) dL_trim_1 ⟨by decide, by decide⟩ ?_
  refine x_aload_n (pc := 2) dL_trim_2 rfl ?_
  refine x_iload_n (pc := 3) dL_trim_3 rfl ?_
  rcases bdC_some hf with ⟨v2, M3, r1, hf⟩ | ⟨E5, M6, r1, hf⟩
  · skip
    refine x_cr (v := vI v2) (vs := [vR 150, vI a2]) (rest := [vI 0, vR 243]) (k := 0) rfl (by omega) (ax_caV (pc := 4) dL_trim_4 kX12_trim rfl rfl WM_L_15 WI_X12_trim WS_X12_trim WN_X12 (ax_rcO (t := 10) (axEx hG rfl) rfl (by decide)) (Nat.le_of_ble_eq_true rfl)) kX12_trim rfl True.intro (T_X12_trim (by omega) hG hX r1) ?_
    refine x_i2l (pc := 7) dL_trim_7 ?_
    refine x_last (j := 0) (n := 1) (pc := 8) dL_trim_8 (axEx hG rfl) rfl rfl (by decide) ?_
    refine x_goto (tgt := 15) (pc := 9) dL_trim_9 rfl ?_
    refine x_iconst (pc := 15) dL_trim_15 ⟨by decide, by decide⟩ ?_
    cases hf
    exact x_retI (pc := 16) dL_trim_16
  · skip
    by_cases h7 : E5 = "java/lang/IllegalArgumentException"
    · replace hf := (if_pos h7).symm.trans hf
      subst h7
      refine x_cc (vs := [vR 150, vI a2]) (rest := [vI 0, vR 243]) (k := 0) (i := 3) (len := 1) (x := ⟨0, 9, 12, 19⟩) (pre := []) (suf := []) rfl (by omega) (ax_caV (pc := 4) dL_trim_4 kX12_trim rfl rfl WM_L_15 WI_X12_trim WS_X12_trim WN_X12 (ax_rcO (t := 10) (axEx hG rfl) rfl (by decide)) (Nat.le_of_ble_eq_true rfl)) kX12_trim rfl rfl (fun z hz => by cases hz) rfl (by decide) WC_L_19 CS_IllegalArgumentException (Or.inl ⟨3, rfl, rfl, dL_trim_12⟩) (by decide) rfl rfl (T_X12_trim (by omega) hG hX r1) ?_
      refine x_iconst (pc := 13) dL_trim_13 ⟨by decide, by decide⟩ ?_
      cases hf
      exact x_retI (pc := 14) dL_trim_14
    replace hf := (if_neg h7).symm.trans hf
    cases hf
/- HexPondLaw.stonesOf(LHexPond;I[J)I -/
def fL_stonesOf (M : ax_M) (a2 : Int) : Option (Int × ax_M) :=
  (bdC (fX12_stonesOf M a2) (fun v2 M3 => (some (0, (mUJ M3 243 0 (il v2))))) (fun E5 M6 => (if E5 = "java/lang/IndexOutOfBoundsException" then (some (1, M6)) else none)))
theorem T_L_stonesOf {G : ax_G} {d : Nat} (hd : 8 ≤ d) (hG : axPs G 150 244) (hX : (gL G).stackTraces = false) {M : ax_M} {a2 : Int} {r : Int} {M1 : ax_M} (hf : fL_stonesOf M a2 = some (r, M1)) : ax_Ex G tL_stonesOf d 0 (ax_args [vR 150, vI a2, vR 243] ++ List.replicate 1 none) [] M (.inl (some (vI r))) M1 := by
  show ax_Ex G tL_stonesOf d 0 [some (vR 150), some (vI a2), some (vR 243), none] [] M _ _
  unfold fL_stonesOf at hf
  refine x_aload_n (pc := 0) dL_stonesOf_0 rfl ?_
  refine x_iconst (pc := 1) dL_stonesOf_1 ⟨by decide, by decide⟩ ?_
  refine x_aload_n (pc := 2) dL_stonesOf_2 rfl ?_
  refine x_iload_n (pc := 3) dL_stonesOf_3 rfl ?_
  rcases bdC_some hf with ⟨v2, M3, r1, hf⟩ | ⟨E5, M6, r1, hf⟩
  · skip
    refine x_cr (v := vI v2) (vs := [vR 150, vI a2]) (rest := [vI 0, vR 243]) (k := 0) rfl (by omega) (ax_caV (pc := 4) dL_stonesOf_4 kX12_stonesOf rfl rfl WM_L_21 WI_X12_stonesOf WS_X12_stonesOf WN_X12 (ax_rcO (t := 10) (axEx hG rfl) rfl (by decide)) (Nat.le_of_ble_eq_true rfl)) kX12_stonesOf rfl True.intro (T_X12_stonesOf (by omega) hG hX r1) ?_
    refine x_i2l (pc := 7) dL_stonesOf_7 ?_
    refine x_last (j := 0) (n := 1) (pc := 8) dL_stonesOf_8 (axEx hG rfl) rfl rfl (by decide) ?_
    refine x_goto (tgt := 15) (pc := 9) dL_stonesOf_9 rfl ?_
    refine x_iconst (pc := 15) dL_stonesOf_15 ⟨by decide, by decide⟩ ?_
    cases hf
    exact x_retI (pc := 16) dL_stonesOf_16
  · skip
    by_cases h7 : E5 = "java/lang/IndexOutOfBoundsException"
    · replace hf := (if_pos h7).symm.trans hf
      subst h7
      refine x_cc (vs := [vR 150, vI a2]) (rest := [vI 0, vR 243]) (k := 0) (i := 3) (len := 1) (x := ⟨0, 9, 12, 24⟩) (pre := []) (suf := []) rfl (by omega) (ax_caV (pc := 4) dL_stonesOf_4 kX12_stonesOf rfl rfl WM_L_21 WI_X12_stonesOf WS_X12_stonesOf WN_X12 (ax_rcO (t := 10) (axEx hG rfl) rfl (by decide)) (Nat.le_of_ble_eq_true rfl)) kX12_stonesOf rfl rfl (fun z hz => by cases hz) rfl (by decide) WC_L_24 CS_IndexOutOfBoundsException (Or.inl ⟨3, rfl, rfl, dL_stonesOf_12⟩) (by decide) rfl rfl (T_X12_stonesOf (by omega) hG hX r1) ?_
      refine x_iconst (pc := 13) dL_stonesOf_13 ⟨by decide, by decide⟩ ?_
      cases hf
      exact x_retI (pc := 14) dL_stonesOf_14
    replace hf := (if_neg h7).symm.trans hf
    cases hf
/- HexPondLaw.isEmpty(LHexPond;II[J)I -/
def fL_isEmpty (M : ax_M) (a2 : Int) (a3 : Int) : Option (Int × ax_M) :=
  (bdC (fX12_isEmpty M a2 a3) (fun v2 M3 => (if v2 = 0 then (some (0, (mUJ M3 243 0 (Int64.ofNat 0)))) else (some (0, (mUJ M3 243 0 (Int64.ofNat 1)))))) (fun E5 M6 => (if E5 = "java/lang/IndexOutOfBoundsException" then (some (1, M6)) else none)))
theorem T_L_isEmpty {G : ax_G} {d : Nat} (hd : 8 ≤ d) (hG : axPs G 150 244) (hX : (gL G).stackTraces = false) {M : ax_M} {a2 : Int} {a3 : Int} {r : Int} {M1 : ax_M} (hf : fL_isEmpty M a2 a3 = some (r, M1)) : ax_Ex G tL_isEmpty d 0 (ax_args [vR 150, vI a2, vI a3, vR 243] ++ List.replicate 1 none) [] M (.inl (some (vI r))) M1 := by
  show ax_Ex G tL_isEmpty d 0 [some (vR 150), some (vI a2), some (vI a3), some (vR 243), none] [] M _ _
  unfold fL_isEmpty at hf
  refine x_aload_n (pc := 0) dL_isEmpty_0 rfl ?_
  refine x_iconst (pc := 1) dL_isEmpty_1 ⟨by decide, by decide⟩ ?_
  refine x_aload_n (pc := 2) dL_isEmpty_2 rfl ?_
  refine x_iload_n (pc := 3) dL_isEmpty_3 rfl ?_
  refine x_iload_n (pc := 4) dL_isEmpty_4 rfl ?_
  rcases bdC_some hf with ⟨v2, M3, r1, hf⟩ | ⟨E5, M6, r1, hf⟩
  · skip
    refine x_cr (v := vI v2) (vs := [vR 150, vI a2, vI a3]) (rest := [vI 0, vR 243]) (k := 0) rfl (by omega) (ax_caV (pc := 5) dL_isEmpty_5 kX12_isEmpty rfl rfl WM_L_26 WI_X12_isEmpty WS_X12_isEmpty WN_X12 (ax_rcO (t := 10) (axEx hG rfl) rfl (by decide)) (Nat.le_of_ble_eq_true rfl)) kX12_isEmpty rfl (Z_X12_isEmpty r1) (T_X12_isEmpty (by omega) hG hX r1) ?_
    refine x_ifeq (tgt := 15) (pc := 8) dL_isEmpty_8 rfl (fun h8 => ?_) (fun h8 => ?_)
    · replace hf := (if_pos h8).symm.trans hf
      refine x_lconst (pc := 15) dL_isEmpty_15 ?_
      refine x_last (j := 0) (n := 1) (pc := 16) dL_isEmpty_16 (axEx hG rfl) rfl rfl (by decide) ?_
      refine x_goto (tgt := 24) (pc := 17) dL_isEmpty_17 rfl ?_
      refine x_iconst (pc := 24) dL_isEmpty_24 ⟨by decide, by decide⟩ ?_
      cases hf
      exact x_retI (pc := 25) dL_isEmpty_25
    · replace hf := (if_neg h8).symm.trans hf
      refine x_lconst (pc := 11) dL_isEmpty_11 ?_
      refine x_goto (tgt := 16) (pc := 12) dL_isEmpty_12 rfl ?_
      refine x_last (j := 0) (n := 1) (pc := 16) dL_isEmpty_16 (axEx hG rfl) rfl rfl (by decide) ?_
      refine x_goto (tgt := 24) (pc := 17) dL_isEmpty_17 rfl ?_
      refine x_iconst (pc := 24) dL_isEmpty_24 ⟨by decide, by decide⟩ ?_
      cases hf
      exact x_retI (pc := 25) dL_isEmpty_25
  · skip
    by_cases h7 : E5 = "java/lang/IndexOutOfBoundsException"
    · replace hf := (if_pos h7).symm.trans hf
      subst h7
      refine x_cc (vs := [vR 150, vI a2, vI a3]) (rest := [vI 0, vR 243]) (k := 0) (i := 4) (len := 2) (x := ⟨0, 17, 20, 24⟩) (pre := []) (suf := []) rfl (by omega) (ax_caV (pc := 5) dL_isEmpty_5 kX12_isEmpty rfl rfl WM_L_26 WI_X12_isEmpty WS_X12_isEmpty WN_X12 (ax_rcO (t := 10) (axEx hG rfl) rfl (by decide)) (Nat.le_of_ble_eq_true rfl)) kX12_isEmpty rfl rfl (fun z hz => by cases hz) rfl (by decide) WC_L_24 CS_IndexOutOfBoundsException (Or.inr ⟨rfl, dL_isEmpty_20⟩) (by decide) rfl rfl (T_X12_isEmpty (by omega) hG hX r1) ?_
      refine x_iconst (pc := 22) dL_isEmpty_22 ⟨by decide, by decide⟩ ?_
      cases hf
      exact x_retI (pc := 23) dL_isEmpty_23
    replace hf := (if_neg h7).symm.trans hf
    cases hf
/- HexPondLaw.ownerOf(LHexPond;II[J)I -/
def fL_ownerOf (M : ax_M) (a2 : Int) (a3 : Int) : Option (Int × ax_M) :=
  (bdC (fX12_ownerOf M a2 a3) (fun v2 M3 => (some (0, (mUJ M3 243 0 (il v2))))) (fun E5 M6 => (if E5 = "java/lang/IndexOutOfBoundsException" then (some (1, M6)) else (if E5 = "java/lang/IllegalStateException" then (some (2, M6)) else none))))
theorem T_L_ownerOf {G : ax_G} {d : Nat} (hd : 9 ≤ d) (hG : axPs G 150 244) (hX : (gL G).stackTraces = false) {M : ax_M} {a2 : Int} {a3 : Int} {r : Int} {M1 : ax_M} (hf : fL_ownerOf M a2 a3 = some (r, M1)) : ax_Ex G tL_ownerOf d 0 (ax_args [vR 150, vI a2, vI a3, vR 243] ++ List.replicate 1 none) [] M (.inl (some (vI r))) M1 := by
  show ax_Ex G tL_ownerOf d 0 [some (vR 150), some (vI a2), some (vI a3), some (vR 243), none] [] M _ _
  unfold fL_ownerOf at hf
  refine x_aload_n (pc := 0) dL_ownerOf_0 rfl ?_
  refine x_iconst (pc := 1) dL_ownerOf_1 ⟨by decide, by decide⟩ ?_
  refine x_aload_n (pc := 2) dL_ownerOf_2 rfl ?_
  refine x_iload_n (pc := 3) dL_ownerOf_3 rfl ?_
  refine x_iload_n (pc := 4) dL_ownerOf_4 rfl ?_
  rcases bdC_some hf with ⟨v2, M3, r1, hf⟩ | ⟨E5, M6, r1, hf⟩
  · skip
    refine x_cr (v := vI v2) (vs := [vR 150, vI a2, vI a3]) (rest := [vI 0, vR 243]) (k := 0) rfl (by omega) (ax_caV (pc := 5) dL_ownerOf_5 kX12_ownerOf rfl rfl WM_L_30 WI_X12_ownerOf WS_X12_ownerOf WN_X12 (ax_rcO (t := 10) (axEx hG rfl) rfl (by decide)) (Nat.le_of_ble_eq_true rfl)) kX12_ownerOf rfl True.intro (T_X12_ownerOf (by omega) hG hX r1) ?_
    refine x_i2l (pc := 8) dL_ownerOf_8 ?_
    refine x_last (j := 0) (n := 1) (pc := 9) dL_ownerOf_9 (axEx hG rfl) rfl rfl (by decide) ?_
    refine x_goto (tgt := 21) (pc := 10) dL_ownerOf_10 rfl ?_
    refine x_iconst (pc := 21) dL_ownerOf_21 ⟨by decide, by decide⟩ ?_
    cases hf
    exact x_retI (pc := 22) dL_ownerOf_22
  · skip
    by_cases h7 : E5 = "java/lang/IndexOutOfBoundsException"
    · replace hf := (if_pos h7).symm.trans hf
      subst h7
      refine x_cc (vs := [vR 150, vI a2, vI a3]) (rest := [vI 0, vR 243]) (k := 0) (i := 4) (len := 2) (x := ⟨0, 10, 13, 24⟩) (pre := []) (suf := [⟨0, 10, 17, 13⟩]) rfl (by omega) (ax_caV (pc := 5) dL_ownerOf_5 kX12_ownerOf rfl rfl WM_L_30 WI_X12_ownerOf WS_X12_ownerOf WN_X12 (ax_rcO (t := 10) (axEx hG rfl) rfl (by decide)) (Nat.le_of_ble_eq_true rfl)) kX12_ownerOf rfl rfl (fun z hz => by cases hz) rfl (by decide) WC_L_24 CS_IndexOutOfBoundsException (Or.inr ⟨rfl, dL_ownerOf_13⟩) (by decide) rfl rfl (T_X12_ownerOf (by omega) hG hX r1) ?_
      refine x_iconst (pc := 15) dL_ownerOf_15 ⟨by decide, by decide⟩ ?_
      cases hf
      exact x_retI (pc := 16) dL_ownerOf_16
    replace hf := (if_neg h7).symm.trans hf
    by_cases h8 : E5 = "java/lang/IllegalStateException"
    · replace hf := (if_pos h8).symm.trans hf
      subst h8
      refine x_cc (vs := [vR 150, vI a2, vI a3]) (rest := [vI 0, vR 243]) (k := 0) (i := 4) (len := 2) (x := ⟨0, 10, 17, 13⟩) (pre := [⟨0, 10, 13, 24⟩]) (suf := []) rfl (by omega) (ax_caV (pc := 5) dL_ownerOf_5 kX12_ownerOf rfl rfl WM_L_30 WI_X12_ownerOf WS_X12_ownerOf WN_X12 (ax_rcO (t := 10) (axEx hG rfl) rfl (by decide)) (Nat.le_of_ble_eq_true rfl)) kX12_ownerOf rfl rfl (fun z hz => by rcases List.mem_singleton.mp hz with rfl; exact ⟨by decide, _, WC_L_24, List.mem_singleton.mpr rfl⟩) rfl (by decide) WC_L_13 CS_IllegalStateException (Or.inr ⟨rfl, dL_ownerOf_17⟩) (by decide) rfl rfl (T_X12_ownerOf (by omega) hG hX r1) ?_
      refine x_iconst (pc := 19) dL_ownerOf_19 ⟨by decide, by decide⟩ ?_
      cases hf
      exact x_retI (pc := 20) dL_ownerOf_20
    replace hf := (if_neg h8).symm.trans hf
    cases hf
/- HexPondLaw.hasWon(LHexPond;I[J)I -/
def fL_hasWon (M : ax_M) (a2 : Int) : Option (Int × ax_M) :=
  (bdC (fX12_hasWon M a2) (fun v2 M3 => (if v2 = 0 then (some (0, (mUJ M3 243 0 (Int64.ofNat 0)))) else (some (0, (mUJ M3 243 0 (Int64.ofNat 1)))))) (fun E5 M6 => (if E5 = "java/lang/IndexOutOfBoundsException" then (some (1, M6)) else none)))
theorem T_L_hasWon {G : ax_G} {d : Nat} (hd : 8 ≤ d) (hG : axPs G 150 244) (hX : (gL G).stackTraces = false) {M : ax_M} {a2 : Int} {r : Int} {M1 : ax_M} (hf : fL_hasWon M a2 = some (r, M1)) : ax_Ex G tL_hasWon d 0 (ax_args [vR 150, vI a2, vR 243] ++ List.replicate 1 none) [] M (.inl (some (vI r))) M1 := by
  show ax_Ex G tL_hasWon d 0 [some (vR 150), some (vI a2), some (vR 243), none] [] M _ _
  unfold fL_hasWon at hf
  refine x_aload_n (pc := 0) dL_hasWon_0 rfl ?_
  refine x_iconst (pc := 1) dL_hasWon_1 ⟨by decide, by decide⟩ ?_
  refine x_aload_n (pc := 2) dL_hasWon_2 rfl ?_
  refine x_iload_n (pc := 3) dL_hasWon_3 rfl ?_
  rcases bdC_some hf with ⟨v2, M3, r1, hf⟩ | ⟨E5, M6, r1, hf⟩
  · skip
    refine x_cr (v := vI v2) (vs := [vR 150, vI a2]) (rest := [vI 0, vR 243]) (k := 0) rfl (by omega) (ax_caV (pc := 4) dL_hasWon_4 kX12_hasWon rfl rfl WM_L_34 WI_X12_hasWon WS_X12_hasWon WN_X12 (ax_rcO (t := 10) (axEx hG rfl) rfl (by decide)) (Nat.le_of_ble_eq_true rfl)) kX12_hasWon rfl (Z_X12_hasWon r1) (T_X12_hasWon (by omega) hG hX r1) ?_
    refine x_ifeq (tgt := 14) (pc := 7) dL_hasWon_7 rfl (fun h8 => ?_) (fun h8 => ?_)
    · replace hf := (if_pos h8).symm.trans hf
      refine x_lconst (pc := 14) dL_hasWon_14 ?_
      refine x_last (j := 0) (n := 1) (pc := 15) dL_hasWon_15 (axEx hG rfl) rfl rfl (by decide) ?_
      refine x_goto (tgt := 22) (pc := 16) dL_hasWon_16 rfl ?_
      refine x_iconst (pc := 22) dL_hasWon_22 ⟨by decide, by decide⟩ ?_
      cases hf
      exact x_retI (pc := 23) dL_hasWon_23
    · replace hf := (if_neg h8).symm.trans hf
      refine x_lconst (pc := 10) dL_hasWon_10 ?_
      refine x_goto (tgt := 15) (pc := 11) dL_hasWon_11 rfl ?_
      refine x_last (j := 0) (n := 1) (pc := 15) dL_hasWon_15 (axEx hG rfl) rfl rfl (by decide) ?_
      refine x_goto (tgt := 22) (pc := 16) dL_hasWon_16 rfl ?_
      refine x_iconst (pc := 22) dL_hasWon_22 ⟨by decide, by decide⟩ ?_
      cases hf
      exact x_retI (pc := 23) dL_hasWon_23
  · skip
    by_cases h7 : E5 = "java/lang/IndexOutOfBoundsException"
    · replace hf := (if_pos h7).symm.trans hf
      subst h7
      refine x_cc (vs := [vR 150, vI a2]) (rest := [vI 0, vR 243]) (k := 0) (i := 3) (len := 1) (x := ⟨0, 16, 19, 24⟩) (pre := []) (suf := []) rfl (by omega) (ax_caV (pc := 4) dL_hasWon_4 kX12_hasWon rfl rfl WM_L_34 WI_X12_hasWon WS_X12_hasWon WN_X12 (ax_rcO (t := 10) (axEx hG rfl) rfl (by decide)) (Nat.le_of_ble_eq_true rfl)) kX12_hasWon rfl rfl (fun z hz => by cases hz) rfl (by decide) WC_L_24 CS_IndexOutOfBoundsException (Or.inl ⟨3, rfl, rfl, dL_hasWon_19⟩) (by decide) rfl rfl (T_X12_hasWon (by omega) hG hX r1) ?_
      refine x_iconst (pc := 20) dL_hasWon_20 ⟨by decide, by decide⟩ ?_
      cases hf
      exact x_retI (pc := 21) dL_hasWon_21
    replace hf := (if_neg h7).symm.trans hf
    cases hf
/- HexPondLaw.playerInTurn(LHexPond;[J)I -/
def fL_playerInTurn (M : ax_M) : Option (Int × ax_M) :=
  (bdC (fX12_playerInTurn M) (fun v2 M3 => (some (0, (mUJ M3 243 0 (il v2))))) (fun E5 M6 => (if E5 = "java/lang/IllegalStateException" then (some (1, M6)) else none)))
theorem T_L_playerInTurn {G : ax_G} {d : Nat} (hd : 8 ≤ d) (hG : axPs G 150 244) (hX : (gL G).stackTraces = false) {M : ax_M} {r : Int} {M1 : ax_M} (hf : fL_playerInTurn M = some (r, M1)) : ax_Ex G tL_playerInTurn d 0 (ax_args [vR 150, vR 243] ++ List.replicate 1 none) [] M (.inl (some (vI r))) M1 := by
  show ax_Ex G tL_playerInTurn d 0 [some (vR 150), some (vR 243), none] [] M _ _
  unfold fL_playerInTurn at hf
  refine x_aload_n (pc := 0) dL_playerInTurn_0 rfl ?_
  refine x_iconst (pc := 1) dL_playerInTurn_1 ⟨by decide, by decide⟩ ?_
  refine x_aload_n (pc := 2) dL_playerInTurn_2 rfl ?_
  rcases bdC_some hf with ⟨v2, M3, r1, hf⟩ | ⟨E5, M6, r1, hf⟩
  · skip
    refine x_cr (v := vI v2) (vs := [vR 150]) (rest := [vI 0, vR 243]) (k := 0) rfl (by omega) (ax_caV (pc := 3) dL_playerInTurn_3 kX12_playerInTurn rfl rfl WM_L_38 WI_X12_playerInTurn WS_X12_playerInTurn WN_X12 (ax_rcO (t := 10) (axEx hG rfl) rfl (by decide)) (Nat.le_of_ble_eq_true rfl)) kX12_playerInTurn rfl True.intro (T_X12_playerInTurn (by omega) hG hX r1) ?_
    refine x_i2l (pc := 6) dL_playerInTurn_6 ?_
    refine x_last (j := 0) (n := 1) (pc := 7) dL_playerInTurn_7 (axEx hG rfl) rfl rfl (by decide) ?_
    refine x_goto (tgt := 14) (pc := 8) dL_playerInTurn_8 rfl ?_
    refine x_iconst (pc := 14) dL_playerInTurn_14 ⟨by decide, by decide⟩ ?_
    cases hf
    exact x_retI (pc := 15) dL_playerInTurn_15
  · skip
    by_cases h7 : E5 = "java/lang/IllegalStateException"
    · replace hf := (if_pos h7).symm.trans hf
      subst h7
      refine x_cc (vs := [vR 150]) (rest := [vI 0, vR 243]) (k := 0) (i := 2) (len := 1) (x := ⟨0, 8, 11, 13⟩) (pre := []) (suf := []) rfl (by omega) (ax_caV (pc := 3) dL_playerInTurn_3 kX12_playerInTurn rfl rfl WM_L_38 WI_X12_playerInTurn WS_X12_playerInTurn WN_X12 (ax_rcO (t := 10) (axEx hG rfl) rfl (by decide)) (Nat.le_of_ble_eq_true rfl)) kX12_playerInTurn rfl rfl (fun z hz => by cases hz) rfl (by decide) WC_L_13 CS_IllegalStateException (Or.inl ⟨2, rfl, rfl, dL_playerInTurn_11⟩) (by decide) rfl rfl (T_X12_playerInTurn (by omega) hG hX r1) ?_
      refine x_iconst (pc := 12) dL_playerInTurn_12 ⟨by decide, by decide⟩ ?_
      cases hf
      exact x_retI (pc := 13) dL_playerInTurn_13
    replace hf := (if_neg h7).symm.trans hf
    cases hf
/- HexPondLaw.stonesBeside(LHexPond;III[J)I -/
def fL_stonesBeside (M : ax_M) (a2 : Int) (a3 : Int) (a4 : Int) : Option (Int × ax_M) :=
  (bdC (fX12_stonesBeside M a2 a3 a4) (fun v2 M3 => (some (0, (mUJ M3 243 0 (il v2))))) (fun E5 M6 => (if E5 = "java/lang/IndexOutOfBoundsException" then (some (1, M6)) else none)))
theorem T_L_stonesBeside {G : ax_G} {d : Nat} (hd : 8 ≤ d) (hG : axPs G 150 244) (hX : (gL G).stackTraces = false) {M : ax_M} {a2 : Int} {a3 : Int} {a4 : Int} {r : Int} {M1 : ax_M} (hf : fL_stonesBeside M a2 a3 a4 = some (r, M1)) : ax_Ex G tL_stonesBeside d 0 (ax_args [vR 150, vI a2, vI a3, vI a4, vR 243] ++ List.replicate 1 none) [] M (.inl (some (vI r))) M1 := by
  show ax_Ex G tL_stonesBeside d 0 [some (vR 150), some (vI a2), some (vI a3), some (vI a4), some (vR 243), none] [] M _ _
  unfold fL_stonesBeside at hf
  refine x_aload (pc := 0) dL_stonesBeside_0 rfl ?_
  refine x_iconst (pc := 2) dL_stonesBeside_2 ⟨by decide, by decide⟩ ?_
  refine x_aload_n (pc := 3) dL_stonesBeside_3 rfl ?_
  refine x_iload_n (pc := 4) dL_stonesBeside_4 rfl ?_
  refine x_iload_n (pc := 5) dL_stonesBeside_5 rfl ?_
  refine x_iload_n (pc := 6) dL_stonesBeside_6 rfl ?_
  rcases bdC_some hf with ⟨v2, M3, r1, hf⟩ | ⟨E5, M6, r1, hf⟩
  · skip
    refine x_cr (v := vI v2) (vs := [vR 150, vI a2, vI a3, vI a4]) (rest := [vI 0, vR 243]) (k := 3) rfl (by omega) (ax_caV (pc := 7) dL_stonesBeside_7 kX12_stonesBeside rfl rfl WM_L_42 WI_X12_stonesBeside WS_X12_stonesBeside WN_X12 (ax_rcO (t := 10) (axEx hG rfl) rfl (by decide)) (Nat.le_of_ble_eq_true rfl)) kX12_stonesBeside rfl True.intro (T_X12_stonesBeside (by omega) hG hX r1) ?_
    refine x_i2l (pc := 10) dL_stonesBeside_10 ?_
    refine x_last (j := 0) (n := 1) (pc := 11) dL_stonesBeside_11 (axEx hG rfl) rfl rfl (by decide) ?_
    refine x_goto (tgt := 19) (pc := 12) dL_stonesBeside_12 rfl ?_
    refine x_iconst (pc := 19) dL_stonesBeside_19 ⟨by decide, by decide⟩ ?_
    cases hf
    exact x_retI (pc := 20) dL_stonesBeside_20
  · skip
    by_cases h7 : E5 = "java/lang/IndexOutOfBoundsException"
    · replace hf := (if_pos h7).symm.trans hf
      subst h7
      refine x_cc (vs := [vR 150, vI a2, vI a3, vI a4]) (rest := [vI 0, vR 243]) (k := 3) (i := 5) (len := 2) (x := ⟨0, 12, 15, 24⟩) (pre := []) (suf := []) rfl (by omega) (ax_caV (pc := 7) dL_stonesBeside_7 kX12_stonesBeside rfl rfl WM_L_42 WI_X12_stonesBeside WS_X12_stonesBeside WN_X12 (ax_rcO (t := 10) (axEx hG rfl) rfl (by decide)) (Nat.le_of_ble_eq_true rfl)) kX12_stonesBeside rfl rfl (fun z hz => by cases hz) rfl (by decide) WC_L_24 CS_IndexOutOfBoundsException (Or.inr ⟨rfl, dL_stonesBeside_15⟩) (by decide) rfl rfl (T_X12_stonesBeside (by omega) hG hX r1) ?_
      refine x_iconst (pc := 17) dL_stonesBeside_17 ⟨by decide, by decide⟩ ?_
      cases hf
      exact x_retI (pc := 18) dL_stonesBeside_18
    replace hf := (if_neg h7).symm.trans hf
    cases hf
/- HexPondLaw.groupSize(LHexPond;II[J)I -/
def fL_groupSize (M : ax_M) (a2 : Int) (a3 : Int) : Option (Int × ax_M) :=
  (bdC (fX12_groupSize M a2 a3) (fun v2 M3 => (some (0, (mUJ M3 243 0 (il v2))))) (fun E5 M6 => (if E5 = "java/lang/IndexOutOfBoundsException" then (some (1, M6)) else (if E5 = "java/lang/IllegalStateException" then (some (2, M6)) else none))))
theorem T_L_groupSize {G : ax_G} {d : Nat} (hd : 9 ≤ d) (hG : axPs G 150 244) (hX : (gL G).stackTraces = false) {M : ax_M} {a2 : Int} {a3 : Int} {r : Int} {M1 : ax_M} (hf : fL_groupSize M a2 a3 = some (r, M1)) : ax_Ex G tL_groupSize d 0 (ax_args [vR 150, vI a2, vI a3, vR 243] ++ List.replicate 1 none) [] M (.inl (some (vI r))) M1 := by
  show ax_Ex G tL_groupSize d 0 [some (vR 150), some (vI a2), some (vI a3), some (vR 243), none] [] M _ _
  unfold fL_groupSize at hf
  refine x_aload_n (pc := 0) dL_groupSize_0 rfl ?_
  refine x_iconst (pc := 1) dL_groupSize_1 ⟨by decide, by decide⟩ ?_
  refine x_aload_n (pc := 2) dL_groupSize_2 rfl ?_
  refine x_iload_n (pc := 3) dL_groupSize_3 rfl ?_
  refine x_iload_n (pc := 4) dL_groupSize_4 rfl ?_
  rcases bdC_some hf with ⟨v2, M3, r1, hf⟩ | ⟨E5, M6, r1, hf⟩
  · skip
    refine x_cr (v := vI v2) (vs := [vR 150, vI a2, vI a3]) (rest := [vI 0, vR 243]) (k := 0) rfl (by omega) (ax_caV (pc := 5) dL_groupSize_5 kX12_groupSize rfl rfl WM_L_46 WI_X12_groupSize WS_X12_groupSize WN_X12 (ax_rcO (t := 10) (axEx hG rfl) rfl (by decide)) (Nat.le_of_ble_eq_true rfl)) kX12_groupSize rfl True.intro (T_X12_groupSize (by omega) hG hX r1) ?_
    refine x_i2l (pc := 8) dL_groupSize_8 ?_
    refine x_last (j := 0) (n := 1) (pc := 9) dL_groupSize_9 (axEx hG rfl) rfl rfl (by decide) ?_
    refine x_goto (tgt := 21) (pc := 10) dL_groupSize_10 rfl ?_
    refine x_iconst (pc := 21) dL_groupSize_21 ⟨by decide, by decide⟩ ?_
    cases hf
    exact x_retI (pc := 22) dL_groupSize_22
  · skip
    by_cases h7 : E5 = "java/lang/IndexOutOfBoundsException"
    · replace hf := (if_pos h7).symm.trans hf
      subst h7
      refine x_cc (vs := [vR 150, vI a2, vI a3]) (rest := [vI 0, vR 243]) (k := 0) (i := 4) (len := 2) (x := ⟨0, 10, 13, 24⟩) (pre := []) (suf := [⟨0, 10, 17, 13⟩]) rfl (by omega) (ax_caV (pc := 5) dL_groupSize_5 kX12_groupSize rfl rfl WM_L_46 WI_X12_groupSize WS_X12_groupSize WN_X12 (ax_rcO (t := 10) (axEx hG rfl) rfl (by decide)) (Nat.le_of_ble_eq_true rfl)) kX12_groupSize rfl rfl (fun z hz => by cases hz) rfl (by decide) WC_L_24 CS_IndexOutOfBoundsException (Or.inr ⟨rfl, dL_groupSize_13⟩) (by decide) rfl rfl (T_X12_groupSize (by omega) hG hX r1) ?_
      refine x_iconst (pc := 15) dL_groupSize_15 ⟨by decide, by decide⟩ ?_
      cases hf
      exact x_retI (pc := 16) dL_groupSize_16
    replace hf := (if_neg h7).symm.trans hf
    by_cases h8 : E5 = "java/lang/IllegalStateException"
    · replace hf := (if_pos h8).symm.trans hf
      subst h8
      refine x_cc (vs := [vR 150, vI a2, vI a3]) (rest := [vI 0, vR 243]) (k := 0) (i := 4) (len := 2) (x := ⟨0, 10, 17, 13⟩) (pre := [⟨0, 10, 13, 24⟩]) (suf := []) rfl (by omega) (ax_caV (pc := 5) dL_groupSize_5 kX12_groupSize rfl rfl WM_L_46 WI_X12_groupSize WS_X12_groupSize WN_X12 (ax_rcO (t := 10) (axEx hG rfl) rfl (by decide)) (Nat.le_of_ble_eq_true rfl)) kX12_groupSize rfl rfl (fun z hz => by rcases List.mem_singleton.mp hz with rfl; exact ⟨by decide, _, WC_L_24, List.mem_singleton.mpr rfl⟩) rfl (by decide) WC_L_13 CS_IllegalStateException (Or.inr ⟨rfl, dL_groupSize_17⟩) (by decide) rfl rfl (T_X12_groupSize (by omega) hG hX r1) ?_
      refine x_iconst (pc := 19) dL_groupSize_19 ⟨by decide, by decide⟩ ?_
      cases hf
      exact x_retI (pc := 20) dL_groupSize_20
    replace hf := (if_neg h8).symm.trans hf
    cases hf
/- HexPondLaw.shoresOf(LHexPond;II[J)I -/
def fL_shoresOf (M : ax_M) (a2 : Int) (a3 : Int) : Option (Int × ax_M) :=
  (bdC (fX12_shoresOf M a2 a3) (fun v2 M3 => (some (0, (mUJ M3 243 0 (il v2))))) (fun E5 M6 => (if E5 = "java/lang/IndexOutOfBoundsException" then (some (1, M6)) else (if E5 = "java/lang/IllegalStateException" then (some (2, M6)) else none))))
theorem T_L_shoresOf {G : ax_G} {d : Nat} (hd : 9 ≤ d) (hG : axPs G 150 244) (hX : (gL G).stackTraces = false) {M : ax_M} {a2 : Int} {a3 : Int} {r : Int} {M1 : ax_M} (hf : fL_shoresOf M a2 a3 = some (r, M1)) : ax_Ex G tL_shoresOf d 0 (ax_args [vR 150, vI a2, vI a3, vR 243] ++ List.replicate 1 none) [] M (.inl (some (vI r))) M1 := by
  show ax_Ex G tL_shoresOf d 0 [some (vR 150), some (vI a2), some (vI a3), some (vR 243), none] [] M _ _
  unfold fL_shoresOf at hf
  refine x_aload_n (pc := 0) dL_shoresOf_0 rfl ?_
  refine x_iconst (pc := 1) dL_shoresOf_1 ⟨by decide, by decide⟩ ?_
  refine x_aload_n (pc := 2) dL_shoresOf_2 rfl ?_
  refine x_iload_n (pc := 3) dL_shoresOf_3 rfl ?_
  refine x_iload_n (pc := 4) dL_shoresOf_4 rfl ?_
  rcases bdC_some hf with ⟨v2, M3, r1, hf⟩ | ⟨E5, M6, r1, hf⟩
  · skip
    refine x_cr (v := vI v2) (vs := [vR 150, vI a2, vI a3]) (rest := [vI 0, vR 243]) (k := 0) rfl (by omega) (ax_caV (pc := 5) dL_shoresOf_5 kX12_shoresOf rfl rfl WM_L_49 WI_X12_shoresOf WS_X12_shoresOf WN_X12 (ax_rcO (t := 10) (axEx hG rfl) rfl (by decide)) (Nat.le_of_ble_eq_true rfl)) kX12_shoresOf rfl True.intro (T_X12_shoresOf (by omega) hG hX r1) ?_
    refine x_i2l (pc := 8) dL_shoresOf_8 ?_
    refine x_last (j := 0) (n := 1) (pc := 9) dL_shoresOf_9 (axEx hG rfl) rfl rfl (by decide) ?_
    refine x_goto (tgt := 21) (pc := 10) dL_shoresOf_10 rfl ?_
    refine x_iconst (pc := 21) dL_shoresOf_21 ⟨by decide, by decide⟩ ?_
    cases hf
    exact x_retI (pc := 22) dL_shoresOf_22
  · skip
    by_cases h7 : E5 = "java/lang/IndexOutOfBoundsException"
    · replace hf := (if_pos h7).symm.trans hf
      subst h7
      refine x_cc (vs := [vR 150, vI a2, vI a3]) (rest := [vI 0, vR 243]) (k := 0) (i := 4) (len := 2) (x := ⟨0, 10, 13, 24⟩) (pre := []) (suf := [⟨0, 10, 17, 13⟩]) rfl (by omega) (ax_caV (pc := 5) dL_shoresOf_5 kX12_shoresOf rfl rfl WM_L_49 WI_X12_shoresOf WS_X12_shoresOf WN_X12 (ax_rcO (t := 10) (axEx hG rfl) rfl (by decide)) (Nat.le_of_ble_eq_true rfl)) kX12_shoresOf rfl rfl (fun z hz => by cases hz) rfl (by decide) WC_L_24 CS_IndexOutOfBoundsException (Or.inr ⟨rfl, dL_shoresOf_13⟩) (by decide) rfl rfl (T_X12_shoresOf (by omega) hG hX r1) ?_
      refine x_iconst (pc := 15) dL_shoresOf_15 ⟨by decide, by decide⟩ ?_
      cases hf
      exact x_retI (pc := 16) dL_shoresOf_16
    replace hf := (if_neg h7).symm.trans hf
    by_cases h8 : E5 = "java/lang/IllegalStateException"
    · replace hf := (if_pos h8).symm.trans hf
      subst h8
      refine x_cc (vs := [vR 150, vI a2, vI a3]) (rest := [vI 0, vR 243]) (k := 0) (i := 4) (len := 2) (x := ⟨0, 10, 17, 13⟩) (pre := [⟨0, 10, 13, 24⟩]) (suf := []) rfl (by omega) (ax_caV (pc := 5) dL_shoresOf_5 kX12_shoresOf rfl rfl WM_L_49 WI_X12_shoresOf WS_X12_shoresOf WN_X12 (ax_rcO (t := 10) (axEx hG rfl) rfl (by decide)) (Nat.le_of_ble_eq_true rfl)) kX12_shoresOf rfl rfl (fun z hz => by rcases List.mem_singleton.mp hz with rfl; exact ⟨by decide, _, WC_L_24, List.mem_singleton.mpr rfl⟩) rfl (by decide) WC_L_13 CS_IllegalStateException (Or.inr ⟨rfl, dL_shoresOf_17⟩) (by decide) rfl rfl (T_X12_shoresOf (by omega) hG hX r1) ?_
      refine x_iconst (pc := 19) dL_shoresOf_19 ⟨by decide, by decide⟩ ?_
      cases hf
      exact x_retI (pc := 20) dL_shoresOf_20
    replace hf := (if_neg h8).symm.trans hf
    cases hf
/- HexPondLaw.groupsOf(LHexPond;I[J)I -/
def fL_groupsOf (M : ax_M) (a2 : Int) : Option (Int × ax_M) :=
  (bdC (fX12_groupsOf M a2) (fun v2 M3 => (some (0, (mUJ M3 243 0 (il v2))))) (fun E5 M6 => (if E5 = "java/lang/IndexOutOfBoundsException" then (some (1, M6)) else none)))
theorem T_L_groupsOf {G : ax_G} {d : Nat} (hd : 8 ≤ d) (hG : axPs G 150 244) (hX : (gL G).stackTraces = false) {M : ax_M} {a2 : Int} {r : Int} {M1 : ax_M} (hf : fL_groupsOf M a2 = some (r, M1)) : ax_Ex G tL_groupsOf d 0 (ax_args [vR 150, vI a2, vR 243] ++ List.replicate 1 none) [] M (.inl (some (vI r))) M1 := by
  show ax_Ex G tL_groupsOf d 0 [some (vR 150), some (vI a2), some (vR 243), none] [] M _ _
  unfold fL_groupsOf at hf
  refine x_aload_n (pc := 0) dL_groupsOf_0 rfl ?_
  refine x_iconst (pc := 1) dL_groupsOf_1 ⟨by decide, by decide⟩ ?_
  refine x_aload_n (pc := 2) dL_groupsOf_2 rfl ?_
  refine x_iload_n (pc := 3) dL_groupsOf_3 rfl ?_
  rcases bdC_some hf with ⟨v2, M3, r1, hf⟩ | ⟨E5, M6, r1, hf⟩
  · skip
    refine x_cr (v := vI v2) (vs := [vR 150, vI a2]) (rest := [vI 0, vR 243]) (k := 0) rfl (by omega) (ax_caV (pc := 4) dL_groupsOf_4 kX12_groupsOf rfl rfl WM_L_52 WI_X12_groupsOf WS_X12_groupsOf WN_X12 (ax_rcO (t := 10) (axEx hG rfl) rfl (by decide)) (Nat.le_of_ble_eq_true rfl)) kX12_groupsOf rfl True.intro (T_X12_groupsOf (by omega) hG hX r1) ?_
    refine x_i2l (pc := 7) dL_groupsOf_7 ?_
    refine x_last (j := 0) (n := 1) (pc := 8) dL_groupsOf_8 (axEx hG rfl) rfl rfl (by decide) ?_
    refine x_goto (tgt := 15) (pc := 9) dL_groupsOf_9 rfl ?_
    refine x_iconst (pc := 15) dL_groupsOf_15 ⟨by decide, by decide⟩ ?_
    cases hf
    exact x_retI (pc := 16) dL_groupsOf_16
  · skip
    by_cases h7 : E5 = "java/lang/IndexOutOfBoundsException"
    · replace hf := (if_pos h7).symm.trans hf
      subst h7
      refine x_cc (vs := [vR 150, vI a2]) (rest := [vI 0, vR 243]) (k := 0) (i := 3) (len := 1) (x := ⟨0, 9, 12, 24⟩) (pre := []) (suf := []) rfl (by omega) (ax_caV (pc := 4) dL_groupsOf_4 kX12_groupsOf rfl rfl WM_L_52 WI_X12_groupsOf WS_X12_groupsOf WN_X12 (ax_rcO (t := 10) (axEx hG rfl) rfl (by decide)) (Nat.le_of_ble_eq_true rfl)) kX12_groupsOf rfl rfl (fun z hz => by cases hz) rfl (by decide) WC_L_24 CS_IndexOutOfBoundsException (Or.inl ⟨3, rfl, rfl, dL_groupsOf_12⟩) (by decide) rfl rfl (T_X12_groupsOf (by omega) hG hX r1) ?_
      refine x_iconst (pc := 13) dL_groupsOf_13 ⟨by decide, by decide⟩ ?_
      cases hf
      exact x_retI (pc := 14) dL_groupsOf_14
    replace hf := (if_neg h7).symm.trans hf
    cases hf
/- HexPondLaw.greatestGroup(LHexPond;I[J)I -/
def fL_greatestGroup (M : ax_M) (a2 : Int) : Option (Int × ax_M) :=
  (bdC (fX12_greatestGroup M a2) (fun v2 M3 => (some (0, (mUJ M3 243 0 (il v2))))) (fun E5 M6 => (if E5 = "java/lang/IndexOutOfBoundsException" then (some (1, M6)) else none)))
theorem T_L_greatestGroup {G : ax_G} {d : Nat} (hd : 8 ≤ d) (hG : axPs G 150 244) (hX : (gL G).stackTraces = false) {M : ax_M} {a2 : Int} {r : Int} {M1 : ax_M} (hf : fL_greatestGroup M a2 = some (r, M1)) : ax_Ex G tL_greatestGroup d 0 (ax_args [vR 150, vI a2, vR 243] ++ List.replicate 1 none) [] M (.inl (some (vI r))) M1 := by
  show ax_Ex G tL_greatestGroup d 0 [some (vR 150), some (vI a2), some (vR 243), none] [] M _ _
  unfold fL_greatestGroup at hf
  refine x_aload_n (pc := 0) dL_greatestGroup_0 rfl ?_
  refine x_iconst (pc := 1) dL_greatestGroup_1 ⟨by decide, by decide⟩ ?_
  refine x_aload_n (pc := 2) dL_greatestGroup_2 rfl ?_
  refine x_iload_n (pc := 3) dL_greatestGroup_3 rfl ?_
  rcases bdC_some hf with ⟨v2, M3, r1, hf⟩ | ⟨E5, M6, r1, hf⟩
  · skip
    refine x_cr (v := vI v2) (vs := [vR 150, vI a2]) (rest := [vI 0, vR 243]) (k := 0) rfl (by omega) (ax_caV (pc := 4) dL_greatestGroup_4 kX12_greatestGroup rfl rfl WM_L_55 WI_X12_greatestGroup WS_X12_greatestGroup WN_X12 (ax_rcO (t := 10) (axEx hG rfl) rfl (by decide)) (Nat.le_of_ble_eq_true rfl)) kX12_greatestGroup rfl True.intro (T_X12_greatestGroup (by omega) hG hX r1) ?_
    refine x_i2l (pc := 7) dL_greatestGroup_7 ?_
    refine x_last (j := 0) (n := 1) (pc := 8) dL_greatestGroup_8 (axEx hG rfl) rfl rfl (by decide) ?_
    refine x_goto (tgt := 15) (pc := 9) dL_greatestGroup_9 rfl ?_
    refine x_iconst (pc := 15) dL_greatestGroup_15 ⟨by decide, by decide⟩ ?_
    cases hf
    exact x_retI (pc := 16) dL_greatestGroup_16
  · skip
    by_cases h7 : E5 = "java/lang/IndexOutOfBoundsException"
    · replace hf := (if_pos h7).symm.trans hf
      subst h7
      refine x_cc (vs := [vR 150, vI a2]) (rest := [vI 0, vR 243]) (k := 0) (i := 3) (len := 1) (x := ⟨0, 9, 12, 24⟩) (pre := []) (suf := []) rfl (by omega) (ax_caV (pc := 4) dL_greatestGroup_4 kX12_greatestGroup rfl rfl WM_L_55 WI_X12_greatestGroup WS_X12_greatestGroup WN_X12 (ax_rcO (t := 10) (axEx hG rfl) rfl (by decide)) (Nat.le_of_ble_eq_true rfl)) kX12_greatestGroup rfl rfl (fun z hz => by cases hz) rfl (by decide) WC_L_24 CS_IndexOutOfBoundsException (Or.inl ⟨3, rfl, rfl, dL_greatestGroup_12⟩) (by decide) rfl rfl (T_X12_greatestGroup (by omega) hG hX r1) ?_
      refine x_iconst (pc := 13) dL_greatestGroup_13 ⟨by decide, by decide⟩ ?_
      cases hf
      exact x_retI (pc := 14) dL_greatestGroup_14
    replace hf := (if_neg h7).symm.trans hf
    cases hf
/- HexPondLaw.isBridge(LHexPond;II[J)I -/
def fL_isBridge (M : ax_M) (a2 : Int) (a3 : Int) : Option (Int × ax_M) :=
  (bdC (fX12_isBridge M a2 a3) (fun v2 M3 => (if v2 = 0 then (some (0, (mUJ M3 243 0 (Int64.ofNat 0)))) else (some (0, (mUJ M3 243 0 (Int64.ofNat 1)))))) (fun E5 M6 => (if E5 = "java/lang/IndexOutOfBoundsException" then (some (1, M6)) else none)))
theorem T_L_isBridge {G : ax_G} {d : Nat} (hd : 7 ≤ d) (hG : axPs G 150 244) (hX : (gL G).stackTraces = false) {M : ax_M} {a2 : Int} {a3 : Int} {r : Int} {M1 : ax_M} (hf : fL_isBridge M a2 a3 = some (r, M1)) : ax_Ex G tL_isBridge d 0 (ax_args [vR 150, vI a2, vI a3, vR 243] ++ List.replicate 1 none) [] M (.inl (some (vI r))) M1 := by
  show ax_Ex G tL_isBridge d 0 [some (vR 150), some (vI a2), some (vI a3), some (vR 243), none] [] M _ _
  unfold fL_isBridge at hf
  refine x_aload_n (pc := 0) dL_isBridge_0 rfl ?_
  refine x_iconst (pc := 1) dL_isBridge_1 ⟨by decide, by decide⟩ ?_
  refine x_aload_n (pc := 2) dL_isBridge_2 rfl ?_
  refine x_iload_n (pc := 3) dL_isBridge_3 rfl ?_
  refine x_iload_n (pc := 4) dL_isBridge_4 rfl ?_
  rcases bdC_some hf with ⟨v2, M3, r1, hf⟩ | ⟨E5, M6, r1, hf⟩
  · skip
    refine x_cr (v := vI v2) (vs := [vR 150, vI a2, vI a3]) (rest := [vI 0, vR 243]) (k := 0) rfl (by omega) (ax_caV (pc := 5) dL_isBridge_5 kX12_isBridge rfl rfl WM_L_58 WI_X12_isBridge WS_X12_isBridge WN_X12 (ax_rcO (t := 10) (axEx hG rfl) rfl (by decide)) (Nat.le_of_ble_eq_true rfl)) kX12_isBridge rfl (Z_X12_isBridge r1) (T_X12_isBridge (by omega) hG hX r1) ?_
    refine x_ifeq (tgt := 15) (pc := 8) dL_isBridge_8 rfl (fun h8 => ?_) (fun h8 => ?_)
    · replace hf := (if_pos h8).symm.trans hf
      refine x_lconst (pc := 15) dL_isBridge_15 ?_
      refine x_last (j := 0) (n := 1) (pc := 16) dL_isBridge_16 (axEx hG rfl) rfl rfl (by decide) ?_
      refine x_goto (tgt := 24) (pc := 17) dL_isBridge_17 rfl ?_
      refine x_iconst (pc := 24) dL_isBridge_24 ⟨by decide, by decide⟩ ?_
      cases hf
      exact x_retI (pc := 25) dL_isBridge_25
    · replace hf := (if_neg h8).symm.trans hf
      refine x_lconst (pc := 11) dL_isBridge_11 ?_
      refine x_goto (tgt := 16) (pc := 12) dL_isBridge_12 rfl ?_
      refine x_last (j := 0) (n := 1) (pc := 16) dL_isBridge_16 (axEx hG rfl) rfl rfl (by decide) ?_
      refine x_goto (tgt := 24) (pc := 17) dL_isBridge_17 rfl ?_
      refine x_iconst (pc := 24) dL_isBridge_24 ⟨by decide, by decide⟩ ?_
      cases hf
      exact x_retI (pc := 25) dL_isBridge_25
  · skip
    by_cases h7 : E5 = "java/lang/IndexOutOfBoundsException"
    · replace hf := (if_pos h7).symm.trans hf
      subst h7
      refine x_cc (vs := [vR 150, vI a2, vI a3]) (rest := [vI 0, vR 243]) (k := 0) (i := 4) (len := 2) (x := ⟨0, 17, 20, 24⟩) (pre := []) (suf := []) rfl (by omega) (ax_caV (pc := 5) dL_isBridge_5 kX12_isBridge rfl rfl WM_L_58 WI_X12_isBridge WS_X12_isBridge WN_X12 (ax_rcO (t := 10) (axEx hG rfl) rfl (by decide)) (Nat.le_of_ble_eq_true rfl)) kX12_isBridge rfl rfl (fun z hz => by cases hz) rfl (by decide) WC_L_24 CS_IndexOutOfBoundsException (Or.inr ⟨rfl, dL_isBridge_20⟩) (by decide) rfl rfl (T_X12_isBridge (by omega) hG hX r1) ?_
      refine x_iconst (pc := 22) dL_isBridge_22 ⟨by decide, by decide⟩ ?_
      cases hf
      exact x_retI (pc := 23) dL_isBridge_23
    replace hf := (if_neg h7).symm.trans hf
    cases hf
/- HexPondLaw.bridgesOf(LHexPond;I[J)I -/
def fL_bridgesOf (M : ax_M) (a2 : Int) : Option (Int × ax_M) :=
  (bdC (fX12_bridgesOf M a2) (fun v2 M3 => (some (0, (mUJ M3 243 0 (il v2))))) (fun E5 M6 => (if E5 = "java/lang/IndexOutOfBoundsException" then (some (1, M6)) else none)))
theorem T_L_bridgesOf {G : ax_G} {d : Nat} (hd : 8 ≤ d) (hG : axPs G 150 244) (hX : (gL G).stackTraces = false) {M : ax_M} {a2 : Int} {r : Int} {M1 : ax_M} (hf : fL_bridgesOf M a2 = some (r, M1)) : ax_Ex G tL_bridgesOf d 0 (ax_args [vR 150, vI a2, vR 243] ++ List.replicate 1 none) [] M (.inl (some (vI r))) M1 := by
  show ax_Ex G tL_bridgesOf d 0 [some (vR 150), some (vI a2), some (vR 243), none] [] M _ _
  unfold fL_bridgesOf at hf
  refine x_aload_n (pc := 0) dL_bridgesOf_0 rfl ?_
  refine x_iconst (pc := 1) dL_bridgesOf_1 ⟨by decide, by decide⟩ ?_
  refine x_aload_n (pc := 2) dL_bridgesOf_2 rfl ?_
  refine x_iload_n (pc := 3) dL_bridgesOf_3 rfl ?_
  rcases bdC_some hf with ⟨v2, M3, r1, hf⟩ | ⟨E5, M6, r1, hf⟩
  · skip
    refine x_cr (v := vI v2) (vs := [vR 150, vI a2]) (rest := [vI 0, vR 243]) (k := 0) rfl (by omega) (ax_caV (pc := 4) dL_bridgesOf_4 kX12_bridgesOf rfl rfl WM_L_61 WI_X12_bridgesOf WS_X12_bridgesOf WN_X12 (ax_rcO (t := 10) (axEx hG rfl) rfl (by decide)) (Nat.le_of_ble_eq_true rfl)) kX12_bridgesOf rfl True.intro (T_X12_bridgesOf (by omega) hG hX r1) ?_
    refine x_i2l (pc := 7) dL_bridgesOf_7 ?_
    refine x_last (j := 0) (n := 1) (pc := 8) dL_bridgesOf_8 (axEx hG rfl) rfl rfl (by decide) ?_
    refine x_goto (tgt := 15) (pc := 9) dL_bridgesOf_9 rfl ?_
    refine x_iconst (pc := 15) dL_bridgesOf_15 ⟨by decide, by decide⟩ ?_
    cases hf
    exact x_retI (pc := 16) dL_bridgesOf_16
  · skip
    by_cases h7 : E5 = "java/lang/IndexOutOfBoundsException"
    · replace hf := (if_pos h7).symm.trans hf
      subst h7
      refine x_cc (vs := [vR 150, vI a2]) (rest := [vI 0, vR 243]) (k := 0) (i := 3) (len := 1) (x := ⟨0, 9, 12, 24⟩) (pre := []) (suf := []) rfl (by omega) (ax_caV (pc := 4) dL_bridgesOf_4 kX12_bridgesOf rfl rfl WM_L_61 WI_X12_bridgesOf WS_X12_bridgesOf WN_X12 (ax_rcO (t := 10) (axEx hG rfl) rfl (by decide)) (Nat.le_of_ble_eq_true rfl)) kX12_bridgesOf rfl rfl (fun z hz => by cases hz) rfl (by decide) WC_L_24 CS_IndexOutOfBoundsException (Or.inl ⟨3, rfl, rfl, dL_bridgesOf_12⟩) (by decide) rfl rfl (T_X12_bridgesOf (by omega) hG hX r1) ?_
      refine x_iconst (pc := 13) dL_bridgesOf_13 ⟨by decide, by decide⟩ ?_
      cases hf
      exact x_retI (pc := 14) dL_bridgesOf_14
    replace hf := (if_neg h7).symm.trans hf
    cases hf
/- HexPondLaw.brokenBridgesOf(LHexPond;I[J)I -/
def fL_brokenBridgesOf (M : ax_M) (a2 : Int) : Option (Int × ax_M) :=
  (bdC (fX12_brokenBridgesOf M a2) (fun v2 M3 => (some (0, (mUJ M3 243 0 (il v2))))) (fun E5 M6 => (if E5 = "java/lang/IndexOutOfBoundsException" then (some (1, M6)) else none)))
theorem T_L_brokenBridgesOf {G : ax_G} {d : Nat} (hd : 8 ≤ d) (hG : axPs G 150 244) (hX : (gL G).stackTraces = false) {M : ax_M} {a2 : Int} {r : Int} {M1 : ax_M} (hf : fL_brokenBridgesOf M a2 = some (r, M1)) : ax_Ex G tL_brokenBridgesOf d 0 (ax_args [vR 150, vI a2, vR 243] ++ List.replicate 1 none) [] M (.inl (some (vI r))) M1 := by
  show ax_Ex G tL_brokenBridgesOf d 0 [some (vR 150), some (vI a2), some (vR 243), none] [] M _ _
  unfold fL_brokenBridgesOf at hf
  refine x_aload_n (pc := 0) dL_brokenBridgesOf_0 rfl ?_
  refine x_iconst (pc := 1) dL_brokenBridgesOf_1 ⟨by decide, by decide⟩ ?_
  refine x_aload_n (pc := 2) dL_brokenBridgesOf_2 rfl ?_
  refine x_iload_n (pc := 3) dL_brokenBridgesOf_3 rfl ?_
  rcases bdC_some hf with ⟨v2, M3, r1, hf⟩ | ⟨E5, M6, r1, hf⟩
  · skip
    refine x_cr (v := vI v2) (vs := [vR 150, vI a2]) (rest := [vI 0, vR 243]) (k := 0) rfl (by omega) (ax_caV (pc := 4) dL_brokenBridgesOf_4 kX12_brokenBridgesOf rfl rfl WM_L_64 WI_X12_brokenBridgesOf WS_X12_brokenBridgesOf WN_X12 (ax_rcO (t := 10) (axEx hG rfl) rfl (by decide)) (Nat.le_of_ble_eq_true rfl)) kX12_brokenBridgesOf rfl True.intro (T_X12_brokenBridgesOf (by omega) hG hX r1) ?_
    refine x_i2l (pc := 7) dL_brokenBridgesOf_7 ?_
    refine x_last (j := 0) (n := 1) (pc := 8) dL_brokenBridgesOf_8 (axEx hG rfl) rfl rfl (by decide) ?_
    refine x_goto (tgt := 15) (pc := 9) dL_brokenBridgesOf_9 rfl ?_
    refine x_iconst (pc := 15) dL_brokenBridgesOf_15 ⟨by decide, by decide⟩ ?_
    cases hf
    exact x_retI (pc := 16) dL_brokenBridgesOf_16
  · skip
    by_cases h7 : E5 = "java/lang/IndexOutOfBoundsException"
    · replace hf := (if_pos h7).symm.trans hf
      subst h7
      refine x_cc (vs := [vR 150, vI a2]) (rest := [vI 0, vR 243]) (k := 0) (i := 3) (len := 1) (x := ⟨0, 9, 12, 24⟩) (pre := []) (suf := []) rfl (by omega) (ax_caV (pc := 4) dL_brokenBridgesOf_4 kX12_brokenBridgesOf rfl rfl WM_L_64 WI_X12_brokenBridgesOf WS_X12_brokenBridgesOf WN_X12 (ax_rcO (t := 10) (axEx hG rfl) rfl (by decide)) (Nat.le_of_ble_eq_true rfl)) kX12_brokenBridgesOf rfl rfl (fun z hz => by cases hz) rfl (by decide) WC_L_24 CS_IndexOutOfBoundsException (Or.inl ⟨3, rfl, rfl, dL_brokenBridgesOf_12⟩) (by decide) rfl rfl (T_X12_brokenBridgesOf (by omega) hG hX r1) ?_
      refine x_iconst (pc := 13) dL_brokenBridgesOf_13 ⟨by decide, by decide⟩ ?_
      cases hf
      exact x_retI (pc := 14) dL_brokenBridgesOf_14
    replace hf := (if_neg h7).symm.trans hf
    cases hf
/- HexPondLaw.isFrozen(LHexPond;II[J)I -/
def fL_isFrozen (M : ax_M) (a2 : Int) (a3 : Int) : Option (Int × ax_M) :=
  (bdC (fX12_isFrozen M a2 a3) (fun v2 M3 => (if v2 = 0 then (some (0, (mUJ M3 243 0 (Int64.ofNat 0)))) else (some (0, (mUJ M3 243 0 (Int64.ofNat 1)))))) (fun E5 M6 => (if E5 = "java/lang/IndexOutOfBoundsException" then (some (1, M6)) else none)))
theorem T_L_isFrozen {G : ax_G} {d : Nat} (hd : 8 ≤ d) (hG : axPs G 150 244) (hX : (gL G).stackTraces = false) {M : ax_M} {a2 : Int} {a3 : Int} {r : Int} {M1 : ax_M} (hf : fL_isFrozen M a2 a3 = some (r, M1)) : ax_Ex G tL_isFrozen d 0 (ax_args [vR 150, vI a2, vI a3, vR 243] ++ List.replicate 1 none) [] M (.inl (some (vI r))) M1 := by
  show ax_Ex G tL_isFrozen d 0 [some (vR 150), some (vI a2), some (vI a3), some (vR 243), none] [] M _ _
  unfold fL_isFrozen at hf
  refine x_aload_n (pc := 0) dL_isFrozen_0 rfl ?_
  refine x_iconst (pc := 1) dL_isFrozen_1 ⟨by decide, by decide⟩ ?_
  refine x_aload_n (pc := 2) dL_isFrozen_2 rfl ?_
  refine x_iload_n (pc := 3) dL_isFrozen_3 rfl ?_
  refine x_iload_n (pc := 4) dL_isFrozen_4 rfl ?_
  rcases bdC_some hf with ⟨v2, M3, r1, hf⟩ | ⟨E5, M6, r1, hf⟩
  · skip
    refine x_cr (v := vI v2) (vs := [vR 150, vI a2, vI a3]) (rest := [vI 0, vR 243]) (k := 0) rfl (by omega) (ax_caV (pc := 5) dL_isFrozen_5 kX12_isFrozen rfl rfl WM_L_67 WI_X12_isFrozen WS_X12_isFrozen WN_X12 (ax_rcO (t := 10) (axEx hG rfl) rfl (by decide)) (Nat.le_of_ble_eq_true rfl)) kX12_isFrozen rfl (Z_X12_isFrozen r1) (T_X12_isFrozen (by omega) hG hX r1) ?_
    refine x_ifeq (tgt := 15) (pc := 8) dL_isFrozen_8 rfl (fun h8 => ?_) (fun h8 => ?_)
    · replace hf := (if_pos h8).symm.trans hf
      refine x_lconst (pc := 15) dL_isFrozen_15 ?_
      refine x_last (j := 0) (n := 1) (pc := 16) dL_isFrozen_16 (axEx hG rfl) rfl rfl (by decide) ?_
      refine x_goto (tgt := 24) (pc := 17) dL_isFrozen_17 rfl ?_
      refine x_iconst (pc := 24) dL_isFrozen_24 ⟨by decide, by decide⟩ ?_
      cases hf
      exact x_retI (pc := 25) dL_isFrozen_25
    · replace hf := (if_neg h8).symm.trans hf
      refine x_lconst (pc := 11) dL_isFrozen_11 ?_
      refine x_goto (tgt := 16) (pc := 12) dL_isFrozen_12 rfl ?_
      refine x_last (j := 0) (n := 1) (pc := 16) dL_isFrozen_16 (axEx hG rfl) rfl rfl (by decide) ?_
      refine x_goto (tgt := 24) (pc := 17) dL_isFrozen_17 rfl ?_
      refine x_iconst (pc := 24) dL_isFrozen_24 ⟨by decide, by decide⟩ ?_
      cases hf
      exact x_retI (pc := 25) dL_isFrozen_25
  · skip
    by_cases h7 : E5 = "java/lang/IndexOutOfBoundsException"
    · replace hf := (if_pos h7).symm.trans hf
      subst h7
      refine x_cc (vs := [vR 150, vI a2, vI a3]) (rest := [vI 0, vR 243]) (k := 0) (i := 4) (len := 2) (x := ⟨0, 17, 20, 24⟩) (pre := []) (suf := []) rfl (by omega) (ax_caV (pc := 5) dL_isFrozen_5 kX12_isFrozen rfl rfl WM_L_67 WI_X12_isFrozen WS_X12_isFrozen WN_X12 (ax_rcO (t := 10) (axEx hG rfl) rfl (by decide)) (Nat.le_of_ble_eq_true rfl)) kX12_isFrozen rfl rfl (fun z hz => by cases hz) rfl (by decide) WC_L_24 CS_IndexOutOfBoundsException (Or.inr ⟨rfl, dL_isFrozen_20⟩) (by decide) rfl rfl (T_X12_isFrozen (by omega) hG hX r1) ?_
      refine x_iconst (pc := 22) dL_isFrozen_22 ⟨by decide, by decide⟩ ?_
      cases hf
      exact x_retI (pc := 23) dL_isFrozen_23
    replace hf := (if_neg h7).symm.trans hf
    cases hf
/- HexPondLaw.stonesNeeded(LHexPond;I[J)I -/
def fL_stonesNeeded (M : ax_M) (a2 : Int) : Option (Int × ax_M) :=
  (bdC (fX12_stonesNeeded M a2) (fun v2 M3 => (some (0, (mUJ M3 243 0 (il v2))))) (fun E5 M6 => (if E5 = "java/lang/IndexOutOfBoundsException" then (some (1, M6)) else (if E5 = "java/lang/IllegalStateException" then (some (2, M6)) else none))))
theorem T_L_stonesNeeded {G : ax_G} {d : Nat} (hd : 8 ≤ d) (hG : axPs G 150 244) (hX : (gL G).stackTraces = false) {M : ax_M} {a2 : Int} {r : Int} {M1 : ax_M} (hf : fL_stonesNeeded M a2 = some (r, M1)) : ax_Ex G tL_stonesNeeded d 0 (ax_args [vR 150, vI a2, vR 243] ++ List.replicate 1 none) [] M (.inl (some (vI r))) M1 := by
  show ax_Ex G tL_stonesNeeded d 0 [some (vR 150), some (vI a2), some (vR 243), none] [] M _ _
  unfold fL_stonesNeeded at hf
  refine x_aload_n (pc := 0) dL_stonesNeeded_0 rfl ?_
  refine x_iconst (pc := 1) dL_stonesNeeded_1 ⟨by decide, by decide⟩ ?_
  refine x_aload_n (pc := 2) dL_stonesNeeded_2 rfl ?_
  refine x_iload_n (pc := 3) dL_stonesNeeded_3 rfl ?_
  rcases bdC_some hf with ⟨v2, M3, r1, hf⟩ | ⟨E5, M6, r1, hf⟩
  · skip
    refine x_cr (v := vI v2) (vs := [vR 150, vI a2]) (rest := [vI 0, vR 243]) (k := 1) rfl (by omega) (ax_caV (pc := 4) dL_stonesNeeded_4 kX12_stonesNeeded rfl rfl WM_L_70 WI_X12_stonesNeeded WS_X12_stonesNeeded WN_X12 (ax_rcO (t := 10) (axEx hG rfl) rfl (by decide)) (Nat.le_of_ble_eq_true rfl)) kX12_stonesNeeded rfl True.intro (T_X12_stonesNeeded (by omega) hG hX r1) ?_
    refine x_i2l (pc := 7) dL_stonesNeeded_7 ?_
    refine x_last (j := 0) (n := 1) (pc := 8) dL_stonesNeeded_8 (axEx hG rfl) rfl rfl (by decide) ?_
    refine x_goto (tgt := 18) (pc := 9) dL_stonesNeeded_9 rfl ?_
    refine x_iconst (pc := 18) dL_stonesNeeded_18 ⟨by decide, by decide⟩ ?_
    cases hf
    exact x_retI (pc := 19) dL_stonesNeeded_19
  · skip
    by_cases h7 : E5 = "java/lang/IndexOutOfBoundsException"
    · replace hf := (if_pos h7).symm.trans hf
      subst h7
      refine x_cc (vs := [vR 150, vI a2]) (rest := [vI 0, vR 243]) (k := 1) (i := 3) (len := 1) (x := ⟨0, 9, 12, 24⟩) (pre := []) (suf := [⟨0, 9, 15, 13⟩]) rfl (by omega) (ax_caV (pc := 4) dL_stonesNeeded_4 kX12_stonesNeeded rfl rfl WM_L_70 WI_X12_stonesNeeded WS_X12_stonesNeeded WN_X12 (ax_rcO (t := 10) (axEx hG rfl) rfl (by decide)) (Nat.le_of_ble_eq_true rfl)) kX12_stonesNeeded rfl rfl (fun z hz => by cases hz) rfl (by decide) WC_L_24 CS_IndexOutOfBoundsException (Or.inl ⟨3, rfl, rfl, dL_stonesNeeded_12⟩) (by decide) rfl rfl (T_X12_stonesNeeded (by omega) hG hX r1) ?_
      refine x_iconst (pc := 13) dL_stonesNeeded_13 ⟨by decide, by decide⟩ ?_
      cases hf
      exact x_retI (pc := 14) dL_stonesNeeded_14
    replace hf := (if_neg h7).symm.trans hf
    by_cases h8 : E5 = "java/lang/IllegalStateException"
    · replace hf := (if_pos h8).symm.trans hf
      subst h8
      refine x_cc (vs := [vR 150, vI a2]) (rest := [vI 0, vR 243]) (k := 1) (i := 3) (len := 1) (x := ⟨0, 9, 15, 13⟩) (pre := [⟨0, 9, 12, 24⟩]) (suf := []) rfl (by omega) (ax_caV (pc := 4) dL_stonesNeeded_4 kX12_stonesNeeded rfl rfl WM_L_70 WI_X12_stonesNeeded WS_X12_stonesNeeded WN_X12 (ax_rcO (t := 10) (axEx hG rfl) rfl (by decide)) (Nat.le_of_ble_eq_true rfl)) kX12_stonesNeeded rfl rfl (fun z hz => by rcases List.mem_singleton.mp hz with rfl; exact ⟨by decide, _, WC_L_24, List.mem_singleton.mpr rfl⟩) rfl (by decide) WC_L_13 CS_IllegalStateException (Or.inl ⟨3, rfl, rfl, dL_stonesNeeded_15⟩) (by decide) rfl rfl (T_X12_stonesNeeded (by omega) hG hX r1) ?_
      refine x_iconst (pc := 16) dL_stonesNeeded_16 ⟨by decide, by decide⟩ ?_
      cases hf
      exact x_retI (pc := 17) dL_stonesNeeded_17
    replace hf := (if_neg h8).symm.trans hf
    cases hf
/- HexPondLaw.stonesNeededThrough(LHexPond;III[J)I -/
def fL_stonesNeededThrough (M : ax_M) (a2 : Int) (a3 : Int) (a4 : Int) : Option (Int × ax_M) :=
  (bdC (fX12_stonesNeededThrough M a2 a3 a4) (fun v2 M3 => (some (0, (mUJ M3 243 0 (il v2))))) (fun E5 M6 => (if E5 = "java/lang/IndexOutOfBoundsException" then (some (1, M6)) else (if E5 = "java/lang/IllegalStateException" then (some (2, M6)) else none))))
theorem T_L_stonesNeededThrough {G : ax_G} {d : Nat} (hd : 8 ≤ d) (hG : axPs G 150 244) (hX : (gL G).stackTraces = false) {M : ax_M} {a2 : Int} {a3 : Int} {a4 : Int} {r : Int} {M1 : ax_M} (hf : fL_stonesNeededThrough M a2 a3 a4 = some (r, M1)) : ax_Ex G tL_stonesNeededThrough d 0 (ax_args [vR 150, vI a2, vI a3, vI a4, vR 243] ++ List.replicate 1 none) [] M (.inl (some (vI r))) M1 := by
  show ax_Ex G tL_stonesNeededThrough d 0 [some (vR 150), some (vI a2), some (vI a3), some (vI a4), some (vR 243), none] [] M _ _
  unfold fL_stonesNeededThrough at hf
  refine x_aload (pc := 0) dL_stonesNeededThrough_0 rfl ?_
  refine x_iconst (pc := 2) dL_stonesNeededThrough_2 ⟨by decide, by decide⟩ ?_
  refine x_aload_n (pc := 3) dL_stonesNeededThrough_3 rfl ?_
  refine x_iload_n (pc := 4) dL_stonesNeededThrough_4 rfl ?_
  refine x_iload_n (pc := 5) dL_stonesNeededThrough_5 rfl ?_
  refine x_iload_n (pc := 6) dL_stonesNeededThrough_6 rfl ?_
  rcases bdC_some hf with ⟨v2, M3, r1, hf⟩ | ⟨E5, M6, r1, hf⟩
  · skip
    refine x_cr (v := vI v2) (vs := [vR 150, vI a2, vI a3, vI a4]) (rest := [vI 0, vR 243]) (k := 2) rfl (by omega) (ax_caV (pc := 7) dL_stonesNeededThrough_7 kX12_stonesNeededThrough rfl rfl WM_L_73 WI_X12_stonesNeededThrough WS_X12_stonesNeededThrough WN_X12 (ax_rcO (t := 10) (axEx hG rfl) rfl (by decide)) (Nat.le_of_ble_eq_true rfl)) kX12_stonesNeededThrough rfl True.intro (T_X12_stonesNeededThrough (by omega) hG hX r1) ?_
    refine x_i2l (pc := 10) dL_stonesNeededThrough_10 ?_
    refine x_last (j := 0) (n := 1) (pc := 11) dL_stonesNeededThrough_11 (axEx hG rfl) rfl rfl (by decide) ?_
    refine x_goto (tgt := 23) (pc := 12) dL_stonesNeededThrough_12 rfl ?_
    refine x_iconst (pc := 23) dL_stonesNeededThrough_23 ⟨by decide, by decide⟩ ?_
    cases hf
    exact x_retI (pc := 24) dL_stonesNeededThrough_24
  · skip
    by_cases h7 : E5 = "java/lang/IndexOutOfBoundsException"
    · replace hf := (if_pos h7).symm.trans hf
      subst h7
      refine x_cc (vs := [vR 150, vI a2, vI a3, vI a4]) (rest := [vI 0, vR 243]) (k := 2) (i := 5) (len := 2) (x := ⟨0, 12, 15, 24⟩) (pre := []) (suf := [⟨0, 12, 19, 13⟩]) rfl (by omega) (ax_caV (pc := 7) dL_stonesNeededThrough_7 kX12_stonesNeededThrough rfl rfl WM_L_73 WI_X12_stonesNeededThrough WS_X12_stonesNeededThrough WN_X12 (ax_rcO (t := 10) (axEx hG rfl) rfl (by decide)) (Nat.le_of_ble_eq_true rfl)) kX12_stonesNeededThrough rfl rfl (fun z hz => by cases hz) rfl (by decide) WC_L_24 CS_IndexOutOfBoundsException (Or.inr ⟨rfl, dL_stonesNeededThrough_15⟩) (by decide) rfl rfl (T_X12_stonesNeededThrough (by omega) hG hX r1) ?_
      refine x_iconst (pc := 17) dL_stonesNeededThrough_17 ⟨by decide, by decide⟩ ?_
      cases hf
      exact x_retI (pc := 18) dL_stonesNeededThrough_18
    replace hf := (if_neg h7).symm.trans hf
    by_cases h8 : E5 = "java/lang/IllegalStateException"
    · replace hf := (if_pos h8).symm.trans hf
      subst h8
      refine x_cc (vs := [vR 150, vI a2, vI a3, vI a4]) (rest := [vI 0, vR 243]) (k := 2) (i := 5) (len := 2) (x := ⟨0, 12, 19, 13⟩) (pre := [⟨0, 12, 15, 24⟩]) (suf := []) rfl (by omega) (ax_caV (pc := 7) dL_stonesNeededThrough_7 kX12_stonesNeededThrough rfl rfl WM_L_73 WI_X12_stonesNeededThrough WS_X12_stonesNeededThrough WN_X12 (ax_rcO (t := 10) (axEx hG rfl) rfl (by decide)) (Nat.le_of_ble_eq_true rfl)) kX12_stonesNeededThrough rfl rfl (fun z hz => by rcases List.mem_singleton.mp hz with rfl; exact ⟨by decide, _, WC_L_24, List.mem_singleton.mpr rfl⟩) rfl (by decide) WC_L_13 CS_IllegalStateException (Or.inr ⟨rfl, dL_stonesNeededThrough_19⟩) (by decide) rfl rfl (T_X12_stonesNeededThrough (by omega) hG hX r1) ?_
      refine x_iconst (pc := 21) dL_stonesNeededThrough_21 ⟨by decide, by decide⟩ ?_
      cases hf
      exact x_retI (pc := 22) dL_stonesNeededThrough_22
    replace hf := (if_neg h8).symm.trans hf
    cases hf
/- HexPondLaw.isWinningCell(LHexPond;III[J)I -/
def fL_isWinningCell (M : ax_M) (a2 : Int) (a3 : Int) (a4 : Int) : Option (Int × ax_M) :=
  (bdC (fX12_isWinningCell M a2 a3 a4) (fun v2 M3 => (if v2 = 0 then (some (0, (mUJ M3 243 0 (Int64.ofNat 0)))) else (some (0, (mUJ M3 243 0 (Int64.ofNat 1)))))) (fun E5 M6 => (if E5 = "java/lang/IndexOutOfBoundsException" then (some (1, M6)) else none)))
theorem T_L_isWinningCell {G : ax_G} {d : Nat} (hd : 8 ≤ d) (hG : axPs G 150 244) (hX : (gL G).stackTraces = false) {M : ax_M} {a2 : Int} {a3 : Int} {a4 : Int} {r : Int} {M1 : ax_M} (hf : fL_isWinningCell M a2 a3 a4 = some (r, M1)) : ax_Ex G tL_isWinningCell d 0 (ax_args [vR 150, vI a2, vI a3, vI a4, vR 243] ++ List.replicate 1 none) [] M (.inl (some (vI r))) M1 := by
  show ax_Ex G tL_isWinningCell d 0 [some (vR 150), some (vI a2), some (vI a3), some (vI a4), some (vR 243), none] [] M _ _
  unfold fL_isWinningCell at hf
  refine x_aload (pc := 0) dL_isWinningCell_0 rfl ?_
  refine x_iconst (pc := 2) dL_isWinningCell_2 ⟨by decide, by decide⟩ ?_
  refine x_aload_n (pc := 3) dL_isWinningCell_3 rfl ?_
  refine x_iload_n (pc := 4) dL_isWinningCell_4 rfl ?_
  refine x_iload_n (pc := 5) dL_isWinningCell_5 rfl ?_
  refine x_iload_n (pc := 6) dL_isWinningCell_6 rfl ?_
  rcases bdC_some hf with ⟨v2, M3, r1, hf⟩ | ⟨E5, M6, r1, hf⟩
  · skip
    refine x_cr (v := vI v2) (vs := [vR 150, vI a2, vI a3, vI a4]) (rest := [vI 0, vR 243]) (k := 1) rfl (by omega) (ax_caV (pc := 7) dL_isWinningCell_7 kX12_isWinningCell rfl rfl WM_L_76 WI_X12_isWinningCell WS_X12_isWinningCell WN_X12 (ax_rcO (t := 10) (axEx hG rfl) rfl (by decide)) (Nat.le_of_ble_eq_true rfl)) kX12_isWinningCell rfl (Z_X12_isWinningCell r1) (T_X12_isWinningCell (by omega) hG hX r1) ?_
    refine x_ifeq (tgt := 17) (pc := 10) dL_isWinningCell_10 rfl (fun h8 => ?_) (fun h8 => ?_)
    · replace hf := (if_pos h8).symm.trans hf
      refine x_lconst (pc := 17) dL_isWinningCell_17 ?_
      refine x_last (j := 0) (n := 1) (pc := 18) dL_isWinningCell_18 (axEx hG rfl) rfl rfl (by decide) ?_
      refine x_goto (tgt := 26) (pc := 19) dL_isWinningCell_19 rfl ?_
      refine x_iconst (pc := 26) dL_isWinningCell_26 ⟨by decide, by decide⟩ ?_
      cases hf
      exact x_retI (pc := 27) dL_isWinningCell_27
    · replace hf := (if_neg h8).symm.trans hf
      refine x_lconst (pc := 13) dL_isWinningCell_13 ?_
      refine x_goto (tgt := 18) (pc := 14) dL_isWinningCell_14 rfl ?_
      refine x_last (j := 0) (n := 1) (pc := 18) dL_isWinningCell_18 (axEx hG rfl) rfl rfl (by decide) ?_
      refine x_goto (tgt := 26) (pc := 19) dL_isWinningCell_19 rfl ?_
      refine x_iconst (pc := 26) dL_isWinningCell_26 ⟨by decide, by decide⟩ ?_
      cases hf
      exact x_retI (pc := 27) dL_isWinningCell_27
  · skip
    by_cases h7 : E5 = "java/lang/IndexOutOfBoundsException"
    · replace hf := (if_pos h7).symm.trans hf
      subst h7
      refine x_cc (vs := [vR 150, vI a2, vI a3, vI a4]) (rest := [vI 0, vR 243]) (k := 1) (i := 5) (len := 2) (x := ⟨0, 19, 22, 24⟩) (pre := []) (suf := []) rfl (by omega) (ax_caV (pc := 7) dL_isWinningCell_7 kX12_isWinningCell rfl rfl WM_L_76 WI_X12_isWinningCell WS_X12_isWinningCell WN_X12 (ax_rcO (t := 10) (axEx hG rfl) rfl (by decide)) (Nat.le_of_ble_eq_true rfl)) kX12_isWinningCell rfl rfl (fun z hz => by cases hz) rfl (by decide) WC_L_24 CS_IndexOutOfBoundsException (Or.inr ⟨rfl, dL_isWinningCell_22⟩) (by decide) rfl rfl (T_X12_isWinningCell (by omega) hG hX r1) ?_
      refine x_iconst (pc := 24) dL_isWinningCell_24 ⟨by decide, by decide⟩ ?_
      cases hf
      exact x_retI (pc := 25) dL_isWinningCell_25
    replace hf := (if_neg h7).symm.trans hf
    cases hf
/- HexPondLaw.winningCells(LHexPond;I[J)I -/
def fL_winningCells (M : ax_M) (a2 : Int) : Option (Int × ax_M) :=
  (bdC (fX12_winningCells M a2) (fun v2 M3 => (some (0, (mUJ M3 243 0 (il v2))))) (fun E5 M6 => (if E5 = "java/lang/IndexOutOfBoundsException" then (some (1, M6)) else none)))
theorem T_L_winningCells {G : ax_G} {d : Nat} (hd : 8 ≤ d) (hG : axPs G 150 244) (hX : (gL G).stackTraces = false) {M : ax_M} {a2 : Int} {r : Int} {M1 : ax_M} (hf : fL_winningCells M a2 = some (r, M1)) : ax_Ex G tL_winningCells d 0 (ax_args [vR 150, vI a2, vR 243] ++ List.replicate 1 none) [] M (.inl (some (vI r))) M1 := by
  show ax_Ex G tL_winningCells d 0 [some (vR 150), some (vI a2), some (vR 243), none] [] M _ _
  unfold fL_winningCells at hf
  refine x_aload_n (pc := 0) dL_winningCells_0 rfl ?_
  refine x_iconst (pc := 1) dL_winningCells_1 ⟨by decide, by decide⟩ ?_
  refine x_aload_n (pc := 2) dL_winningCells_2 rfl ?_
  refine x_iload_n (pc := 3) dL_winningCells_3 rfl ?_
  rcases bdC_some hf with ⟨v2, M3, r1, hf⟩ | ⟨E5, M6, r1, hf⟩
  · skip
    refine x_cr (v := vI v2) (vs := [vR 150, vI a2]) (rest := [vI 0, vR 243]) (k := 0) rfl (by omega) (ax_caV (pc := 4) dL_winningCells_4 kX12_winningCells rfl rfl WM_L_80 WI_X12_winningCells WS_X12_winningCells WN_X12 (ax_rcO (t := 10) (axEx hG rfl) rfl (by decide)) (Nat.le_of_ble_eq_true rfl)) kX12_winningCells rfl True.intro (T_X12_winningCells (by omega) hG hX r1) ?_
    refine x_i2l (pc := 7) dL_winningCells_7 ?_
    refine x_last (j := 0) (n := 1) (pc := 8) dL_winningCells_8 (axEx hG rfl) rfl rfl (by decide) ?_
    refine x_goto (tgt := 15) (pc := 9) dL_winningCells_9 rfl ?_
    refine x_iconst (pc := 15) dL_winningCells_15 ⟨by decide, by decide⟩ ?_
    cases hf
    exact x_retI (pc := 16) dL_winningCells_16
  · skip
    by_cases h7 : E5 = "java/lang/IndexOutOfBoundsException"
    · replace hf := (if_pos h7).symm.trans hf
      subst h7
      refine x_cc (vs := [vR 150, vI a2]) (rest := [vI 0, vR 243]) (k := 0) (i := 3) (len := 1) (x := ⟨0, 9, 12, 24⟩) (pre := []) (suf := []) rfl (by omega) (ax_caV (pc := 4) dL_winningCells_4 kX12_winningCells rfl rfl WM_L_80 WI_X12_winningCells WS_X12_winningCells WN_X12 (ax_rcO (t := 10) (axEx hG rfl) rfl (by decide)) (Nat.le_of_ble_eq_true rfl)) kX12_winningCells rfl rfl (fun z hz => by cases hz) rfl (by decide) WC_L_24 CS_IndexOutOfBoundsException (Or.inl ⟨3, rfl, rfl, dL_winningCells_12⟩) (by decide) rfl rfl (T_X12_winningCells (by omega) hG hX r1) ?_
      refine x_iconst (pc := 13) dL_winningCells_13 ⟨by decide, by decide⟩ ?_
      cases hf
      exact x_retI (pc := 14) dL_winningCells_14
    replace hf := (if_neg h7).symm.trans hf
    cases hf
/- HexPondLaw.layStone(LHexPond;II[J)I -/
def fL_layStone (M : ax_M) (a2 : Int) (a3 : Int) : Option (Int × ax_M) :=
  (bdC (fX12_layStone M a2 a3) (fun v2 M3 => (some (0, (mUJ M3 243 0 (il v2))))) (fun E5 M6 => (if E5 = "java/lang/IndexOutOfBoundsException" then (some (1, M6)) else (if E5 = "java/lang/IllegalStateException" then (some (2, M6)) else none))))
theorem T_L_layStone {G : ax_G} {d : Nat} (hd : 8 ≤ d) (hG : axPs G 150 244) (hX : (gL G).stackTraces = false) {M : ax_M} {a2 : Int} {a3 : Int} {r : Int} {M1 : ax_M} (hf : fL_layStone M a2 a3 = some (r, M1)) : ax_Ex G tL_layStone d 0 (ax_args [vR 150, vI a2, vI a3, vR 243] ++ List.replicate 1 none) [] M (.inl (some (vI r))) M1 := by
  show ax_Ex G tL_layStone d 0 [some (vR 150), some (vI a2), some (vI a3), some (vR 243), none] [] M _ _
  unfold fL_layStone at hf
  refine x_aload_n (pc := 0) dL_layStone_0 rfl ?_
  refine x_iconst (pc := 1) dL_layStone_1 ⟨by decide, by decide⟩ ?_
  refine x_aload_n (pc := 2) dL_layStone_2 rfl ?_
  refine x_iload_n (pc := 3) dL_layStone_3 rfl ?_
  refine x_iload_n (pc := 4) dL_layStone_4 rfl ?_
  rcases bdC_some hf with ⟨v2, M3, r1, hf⟩ | ⟨E5, M6, r1, hf⟩
  · skip
    refine x_cr (v := vI v2) (vs := [vR 150, vI a2, vI a3]) (rest := [vI 0, vR 243]) (k := 2) rfl (by omega) (ax_caV (pc := 5) dL_layStone_5 kX12_layStone rfl rfl WM_L_83 WI_X12_layStone WS_X12_layStone WN_X12 (ax_rcO (t := 10) (axEx hG rfl) rfl (by decide)) (Nat.le_of_ble_eq_true rfl)) kX12_layStone rfl True.intro (T_X12_layStone (by omega) hG hX r1) ?_
    refine x_i2l (pc := 8) dL_layStone_8 ?_
    refine x_last (j := 0) (n := 1) (pc := 9) dL_layStone_9 (axEx hG rfl) rfl rfl (by decide) ?_
    refine x_goto (tgt := 21) (pc := 10) dL_layStone_10 rfl ?_
    refine x_iconst (pc := 21) dL_layStone_21 ⟨by decide, by decide⟩ ?_
    cases hf
    exact x_retI (pc := 22) dL_layStone_22
  · skip
    by_cases h7 : E5 = "java/lang/IndexOutOfBoundsException"
    · replace hf := (if_pos h7).symm.trans hf
      subst h7
      refine x_cc (vs := [vR 150, vI a2, vI a3]) (rest := [vI 0, vR 243]) (k := 2) (i := 4) (len := 2) (x := ⟨0, 10, 13, 24⟩) (pre := []) (suf := [⟨0, 10, 17, 13⟩]) rfl (by omega) (ax_caV (pc := 5) dL_layStone_5 kX12_layStone rfl rfl WM_L_83 WI_X12_layStone WS_X12_layStone WN_X12 (ax_rcO (t := 10) (axEx hG rfl) rfl (by decide)) (Nat.le_of_ble_eq_true rfl)) kX12_layStone rfl rfl (fun z hz => by cases hz) rfl (by decide) WC_L_24 CS_IndexOutOfBoundsException (Or.inr ⟨rfl, dL_layStone_13⟩) (by decide) rfl rfl (T_X12_layStone (by omega) hG hX r1) ?_
      refine x_iconst (pc := 15) dL_layStone_15 ⟨by decide, by decide⟩ ?_
      cases hf
      exact x_retI (pc := 16) dL_layStone_16
    replace hf := (if_neg h7).symm.trans hf
    by_cases h8 : E5 = "java/lang/IllegalStateException"
    · replace hf := (if_pos h8).symm.trans hf
      subst h8
      refine x_cc (vs := [vR 150, vI a2, vI a3]) (rest := [vI 0, vR 243]) (k := 2) (i := 4) (len := 2) (x := ⟨0, 10, 17, 13⟩) (pre := [⟨0, 10, 13, 24⟩]) (suf := []) rfl (by omega) (ax_caV (pc := 5) dL_layStone_5 kX12_layStone rfl rfl WM_L_83 WI_X12_layStone WS_X12_layStone WN_X12 (ax_rcO (t := 10) (axEx hG rfl) rfl (by decide)) (Nat.le_of_ble_eq_true rfl)) kX12_layStone rfl rfl (fun z hz => by rcases List.mem_singleton.mp hz with rfl; exact ⟨by decide, _, WC_L_24, List.mem_singleton.mpr rfl⟩) rfl (by decide) WC_L_13 CS_IllegalStateException (Or.inr ⟨rfl, dL_layStone_17⟩) (by decide) rfl rfl (T_X12_layStone (by omega) hG hX r1) ?_
      refine x_iconst (pc := 19) dL_layStone_19 ⟨by decide, by decide⟩ ?_
      cases hf
      exact x_retI (pc := 20) dL_layStone_20
    replace hf := (if_neg h8).symm.trans hf
    cases hf
/- HexPondLaw.takeBack(LHexPond;[J)I -/
def fL_takeBack (M : ax_M) : Option (Int × ax_M) :=
  (bdC (fX12_takeBack M) (fun v2 M3 => (some (0, (mUJ M3 243 0 (il v2))))) (fun E5 M6 => (if E5 = "java/lang/IllegalStateException" then (some (1, M6)) else none)))
theorem T_L_takeBack {G : ax_G} {d : Nat} (hd : 7 ≤ d) (hG : axPs G 150 244) (hX : (gL G).stackTraces = false) {M : ax_M} {r : Int} {M1 : ax_M} (hf : fL_takeBack M = some (r, M1)) : ax_Ex G tL_takeBack d 0 (ax_args [vR 150, vR 243] ++ List.replicate 1 none) [] M (.inl (some (vI r))) M1 := by
  show ax_Ex G tL_takeBack d 0 [some (vR 150), some (vR 243), none] [] M _ _
  unfold fL_takeBack at hf
  refine x_aload_n (pc := 0) dL_takeBack_0 rfl ?_
  refine x_iconst (pc := 1) dL_takeBack_1 ⟨by decide, by decide⟩ ?_
  refine x_aload_n (pc := 2) dL_takeBack_2 rfl ?_
  rcases bdC_some hf with ⟨v2, M3, r1, hf⟩ | ⟨E5, M6, r1, hf⟩
  · skip
    refine x_cr (v := vI v2) (vs := [vR 150]) (rest := [vI 0, vR 243]) (k := 0) rfl (by omega) (ax_caV (pc := 3) dL_takeBack_3 kX12_takeBack rfl rfl WM_L_86 WI_X12_takeBack WS_X12_takeBack WN_X12 (ax_rcO (t := 10) (axEx hG rfl) rfl (by decide)) (Nat.le_of_ble_eq_true rfl)) kX12_takeBack rfl True.intro (T_X12_takeBack (by omega) hG hX r1) ?_
    refine x_i2l (pc := 6) dL_takeBack_6 ?_
    refine x_last (j := 0) (n := 1) (pc := 7) dL_takeBack_7 (axEx hG rfl) rfl rfl (by decide) ?_
    refine x_goto (tgt := 14) (pc := 8) dL_takeBack_8 rfl ?_
    refine x_iconst (pc := 14) dL_takeBack_14 ⟨by decide, by decide⟩ ?_
    cases hf
    exact x_retI (pc := 15) dL_takeBack_15
  · skip
    by_cases h7 : E5 = "java/lang/IllegalStateException"
    · replace hf := (if_pos h7).symm.trans hf
      subst h7
      refine x_cc (vs := [vR 150]) (rest := [vI 0, vR 243]) (k := 0) (i := 2) (len := 1) (x := ⟨0, 8, 11, 13⟩) (pre := []) (suf := []) rfl (by omega) (ax_caV (pc := 3) dL_takeBack_3 kX12_takeBack rfl rfl WM_L_86 WI_X12_takeBack WS_X12_takeBack WN_X12 (ax_rcO (t := 10) (axEx hG rfl) rfl (by decide)) (Nat.le_of_ble_eq_true rfl)) kX12_takeBack rfl rfl (fun z hz => by cases hz) rfl (by decide) WC_L_13 CS_IllegalStateException (Or.inl ⟨2, rfl, rfl, dL_takeBack_11⟩) (by decide) rfl rfl (T_X12_takeBack (by omega) hG hX r1) ?_
      refine x_iconst (pc := 12) dL_takeBack_12 ⟨by decide, by decide⟩ ?_
      cases hf
      exact x_retI (pc := 13) dL_takeBack_13
    replace hf := (if_neg h7).symm.trans hf
    cases hf
/- HexPondLaw.plannedCell(LHexPond;[J)I -/
def fL_plannedCell (M : ax_M) : Option (Int × ax_M) :=
  (bdC (fX12_plannedCell M) (fun v2 M3 => (some (0, (mUJ M3 243 0 (il v2))))) (fun E5 M6 => (if E5 = "java/lang/IllegalStateException" then (some (1, M6)) else none)))
theorem T_L_plannedCell {G : ax_G} {d : Nat} (hd : 8 ≤ d) (hG : axPs G 150 244) (hX : (gL G).stackTraces = false) {M : ax_M} {r : Int} {M1 : ax_M} (hf : fL_plannedCell M = some (r, M1)) : ax_Ex G tL_plannedCell d 0 (ax_args [vR 150, vR 243] ++ List.replicate 1 none) [] M (.inl (some (vI r))) M1 := by
  show ax_Ex G tL_plannedCell d 0 [some (vR 150), some (vR 243), none] [] M _ _
  unfold fL_plannedCell at hf
  refine x_aload_n (pc := 0) dL_plannedCell_0 rfl ?_
  refine x_iconst (pc := 1) dL_plannedCell_1 ⟨by decide, by decide⟩ ?_
  refine x_aload_n (pc := 2) dL_plannedCell_2 rfl ?_
  rcases bdC_some hf with ⟨v2, M3, r1, hf⟩ | ⟨E5, M6, r1, hf⟩
  · skip
    refine x_cr (v := vI v2) (vs := [vR 150]) (rest := [vI 0, vR 243]) (k := 0) rfl (by omega) (ax_caV (pc := 3) dL_plannedCell_3 kX12_plannedCell rfl rfl WM_L_89 WI_X12_plannedCell WS_X12_plannedCell WN_X12 (ax_rcO (t := 10) (axEx hG rfl) rfl (by decide)) (Nat.le_of_ble_eq_true rfl)) kX12_plannedCell rfl True.intro (T_X12_plannedCell (by omega) hG hX r1) ?_
    refine x_i2l (pc := 6) dL_plannedCell_6 ?_
    refine x_last (j := 0) (n := 1) (pc := 7) dL_plannedCell_7 (axEx hG rfl) rfl rfl (by decide) ?_
    refine x_goto (tgt := 14) (pc := 8) dL_plannedCell_8 rfl ?_
    refine x_iconst (pc := 14) dL_plannedCell_14 ⟨by decide, by decide⟩ ?_
    cases hf
    exact x_retI (pc := 15) dL_plannedCell_15
  · skip
    by_cases h7 : E5 = "java/lang/IllegalStateException"
    · replace hf := (if_pos h7).symm.trans hf
      subst h7
      refine x_cc (vs := [vR 150]) (rest := [vI 0, vR 243]) (k := 0) (i := 2) (len := 1) (x := ⟨0, 8, 11, 13⟩) (pre := []) (suf := []) rfl (by omega) (ax_caV (pc := 3) dL_plannedCell_3 kX12_plannedCell rfl rfl WM_L_89 WI_X12_plannedCell WS_X12_plannedCell WN_X12 (ax_rcO (t := 10) (axEx hG rfl) rfl (by decide)) (Nat.le_of_ble_eq_true rfl)) kX12_plannedCell rfl rfl (fun z hz => by cases hz) rfl (by decide) WC_L_13 CS_IllegalStateException (Or.inl ⟨2, rfl, rfl, dL_plannedCell_11⟩) (by decide) rfl rfl (T_X12_plannedCell (by omega) hG hX r1) ?_
      refine x_iconst (pc := 12) dL_plannedCell_12 ⟨by decide, by decide⟩ ?_
      cases hf
      exact x_retI (pc := 13) dL_plannedCell_13
    replace hf := (if_neg h7).symm.trans hf
    cases hf
/- HexPondLaw.playByPlans(LHexPond;I[J)I -/
def fL_playByPlans (M : ax_M) (a2 : Int) : Option (Int × ax_M) :=
  (bdC (fX12_playByPlans M a2) (fun v2 M3 => (some (0, (mUJ M3 243 0 (il v2))))) (fun E5 M6 => (if E5 = "java/lang/IllegalArgumentException" then (some (1, M6)) else none)))
theorem T_L_playByPlans {G : ax_G} {d : Nat} (hd : 8 ≤ d) (hG : axPs G 150 244) (hX : (gL G).stackTraces = false) {M : ax_M} {a2 : Int} {r : Int} {M1 : ax_M} (hf : fL_playByPlans M a2 = some (r, M1)) : ax_Ex G tL_playByPlans d 0 (ax_args [vR 150, vI a2, vR 243] ++ List.replicate 1 none) [] M (.inl (some (vI r))) M1 := by
  show ax_Ex G tL_playByPlans d 0 [some (vR 150), some (vI a2), some (vR 243), none] [] M _ _
  unfold fL_playByPlans at hf
  refine x_aload_n (pc := 0) dL_playByPlans_0 rfl ?_
  refine x_iconst (pc := 1) dL_playByPlans_1 ⟨by decide, by decide⟩ ?_
  refine x_aload_n (pc := 2) dL_playByPlans_2 rfl ?_
  refine x_iload_n (pc := 3) dL_playByPlans_3 rfl ?_
  rcases bdC_some hf with ⟨v2, M3, r1, hf⟩ | ⟨E5, M6, r1, hf⟩
  · skip
    refine x_cr (v := vI v2) (vs := [vR 150, vI a2]) (rest := [vI 0, vR 243]) (k := 0) rfl (by omega) (ax_caV (pc := 4) dL_playByPlans_4 kX12_playByPlans rfl rfl WM_L_92 WI_X12_playByPlans WS_X12_playByPlans WN_X12 (ax_rcO (t := 10) (axEx hG rfl) rfl (by decide)) (Nat.le_of_ble_eq_true rfl)) kX12_playByPlans rfl True.intro (T_X12_playByPlans (by omega) hG hX r1) ?_
    refine x_i2l (pc := 7) dL_playByPlans_7 ?_
    refine x_last (j := 0) (n := 1) (pc := 8) dL_playByPlans_8 (axEx hG rfl) rfl rfl (by decide) ?_
    refine x_goto (tgt := 15) (pc := 9) dL_playByPlans_9 rfl ?_
    refine x_iconst (pc := 15) dL_playByPlans_15 ⟨by decide, by decide⟩ ?_
    cases hf
    exact x_retI (pc := 16) dL_playByPlans_16
  · skip
    by_cases h7 : E5 = "java/lang/IllegalArgumentException"
    · replace hf := (if_pos h7).symm.trans hf
      subst h7
      refine x_cc (vs := [vR 150, vI a2]) (rest := [vI 0, vR 243]) (k := 0) (i := 3) (len := 1) (x := ⟨0, 9, 12, 19⟩) (pre := []) (suf := []) rfl (by omega) (ax_caV (pc := 4) dL_playByPlans_4 kX12_playByPlans rfl rfl WM_L_92 WI_X12_playByPlans WS_X12_playByPlans WN_X12 (ax_rcO (t := 10) (axEx hG rfl) rfl (by decide)) (Nat.le_of_ble_eq_true rfl)) kX12_playByPlans rfl rfl (fun z hz => by cases hz) rfl (by decide) WC_L_19 CS_IllegalArgumentException (Or.inl ⟨3, rfl, rfl, dL_playByPlans_12⟩) (by decide) rfl rfl (T_X12_playByPlans (by omega) hG hX r1) ?_
      refine x_iconst (pc := 13) dL_playByPlans_13 ⟨by decide, by decide⟩ ?_
      cases hf
      exact x_retI (pc := 14) dL_playByPlans_14
    replace hf := (if_neg h7).symm.trans hf
    cases hf
/- HexPondLaw.mustPlay(LHexPond;[J)I -/
def fL_mustPlay (M : ax_M) : Option (Int × ax_M) :=
  (bdC (fX12_mustPlay M) (fun v2 M3 => (some (0, (mUJ M3 243 0 (il v2))))) (fun E5 M6 => (if E5 = "java/lang/IllegalStateException" then (some (1, M6)) else none)))
theorem T_L_mustPlay {G : ax_G} {d : Nat} (hd : 8 ≤ d) (hG : axPs G 150 244) (hX : (gL G).stackTraces = false) {M : ax_M} {r : Int} {M1 : ax_M} (hf : fL_mustPlay M = some (r, M1)) : ax_Ex G tL_mustPlay d 0 (ax_args [vR 150, vR 243] ++ List.replicate 1 none) [] M (.inl (some (vI r))) M1 := by
  show ax_Ex G tL_mustPlay d 0 [some (vR 150), some (vR 243), none] [] M _ _
  unfold fL_mustPlay at hf
  refine x_aload_n (pc := 0) dL_mustPlay_0 rfl ?_
  refine x_iconst (pc := 1) dL_mustPlay_1 ⟨by decide, by decide⟩ ?_
  refine x_aload_n (pc := 2) dL_mustPlay_2 rfl ?_
  rcases bdC_some hf with ⟨v2, M3, r1, hf⟩ | ⟨E5, M6, r1, hf⟩
  · skip
    refine x_cr (v := vI v2) (vs := [vR 150]) (rest := [vI 0, vR 243]) (k := 2) rfl (by omega) (ax_caV (pc := 3) dL_mustPlay_3 kX12_mustPlay rfl rfl WM_L_95 WI_X12_mustPlay WS_X12_mustPlay WN_X12 (ax_rcO (t := 10) (axEx hG rfl) rfl (by decide)) (Nat.le_of_ble_eq_true rfl)) kX12_mustPlay rfl True.intro (T_X12_mustPlay (by omega) hG hX r1) ?_
    refine x_i2l (pc := 6) dL_mustPlay_6 ?_
    refine x_last (j := 0) (n := 1) (pc := 7) dL_mustPlay_7 (axEx hG rfl) rfl rfl (by decide) ?_
    refine x_goto (tgt := 14) (pc := 8) dL_mustPlay_8 rfl ?_
    refine x_iconst (pc := 14) dL_mustPlay_14 ⟨by decide, by decide⟩ ?_
    cases hf
    exact x_retI (pc := 15) dL_mustPlay_15
  · skip
    by_cases h7 : E5 = "java/lang/IllegalStateException"
    · replace hf := (if_pos h7).symm.trans hf
      subst h7
      refine x_cc (vs := [vR 150]) (rest := [vI 0, vR 243]) (k := 2) (i := 2) (len := 1) (x := ⟨0, 8, 11, 13⟩) (pre := []) (suf := []) rfl (by omega) (ax_caV (pc := 3) dL_mustPlay_3 kX12_mustPlay rfl rfl WM_L_95 WI_X12_mustPlay WS_X12_mustPlay WN_X12 (ax_rcO (t := 10) (axEx hG rfl) rfl (by decide)) (Nat.le_of_ble_eq_true rfl)) kX12_mustPlay rfl rfl (fun z hz => by cases hz) rfl (by decide) WC_L_13 CS_IllegalStateException (Or.inl ⟨2, rfl, rfl, dL_mustPlay_11⟩) (by decide) rfl rfl (T_X12_mustPlay (by omega) hG hX r1) ?_
      refine x_iconst (pc := 12) dL_mustPlay_12 ⟨by decide, by decide⟩ ?_
      cases hf
      exact x_retI (pc := 13) dL_mustPlay_13
    replace hf := (if_neg h7).symm.trans hf
    cases hf
/- HexPondLaw.bestCell(LHexPond;[J)I -/
def fL_bestCell (M : ax_M) : Option (Int × ax_M) :=
  (bdC (fX12_bestCell M) (fun v2 M3 => (some (0, (mUJ M3 243 0 (il v2))))) (fun E5 M6 => (if E5 = "java/lang/IllegalStateException" then (some (1, M6)) else none)))
theorem T_L_bestCell {G : ax_G} {d : Nat} (hd : 8 ≤ d) (hG : axPs G 150 244) (hX : (gL G).stackTraces = false) {M : ax_M} {r : Int} {M1 : ax_M} (hf : fL_bestCell M = some (r, M1)) : ax_Ex G tL_bestCell d 0 (ax_args [vR 150, vR 243] ++ List.replicate 1 none) [] M (.inl (some (vI r))) M1 := by
  show ax_Ex G tL_bestCell d 0 [some (vR 150), some (vR 243), none] [] M _ _
  unfold fL_bestCell at hf
  refine x_aload_n (pc := 0) dL_bestCell_0 rfl ?_
  refine x_iconst (pc := 1) dL_bestCell_1 ⟨by decide, by decide⟩ ?_
  refine x_aload_n (pc := 2) dL_bestCell_2 rfl ?_
  rcases bdC_some hf with ⟨v2, M3, r1, hf⟩ | ⟨E5, M6, r1, hf⟩
  · skip
    refine x_cr (v := vI v2) (vs := [vR 150]) (rest := [vI 0, vR 243]) (k := 5) rfl (by omega) (ax_caV (pc := 3) dL_bestCell_3 kX12_bestCell rfl rfl WM_L_98 WI_X12_bestCell WS_X12_bestCell WN_X12 (ax_rcO (t := 10) (axEx hG rfl) rfl (by decide)) (Nat.le_of_ble_eq_true rfl)) kX12_bestCell rfl True.intro (T_X12_bestCell (by omega) hG hX r1) ?_
    refine x_i2l (pc := 6) dL_bestCell_6 ?_
    refine x_last (j := 0) (n := 1) (pc := 7) dL_bestCell_7 (axEx hG rfl) rfl rfl (by decide) ?_
    refine x_goto (tgt := 14) (pc := 8) dL_bestCell_8 rfl ?_
    refine x_iconst (pc := 14) dL_bestCell_14 ⟨by decide, by decide⟩ ?_
    cases hf
    exact x_retI (pc := 15) dL_bestCell_15
  · skip
    by_cases h7 : E5 = "java/lang/IllegalStateException"
    · replace hf := (if_pos h7).symm.trans hf
      subst h7
      refine x_cc (vs := [vR 150]) (rest := [vI 0, vR 243]) (k := 5) (i := 2) (len := 1) (x := ⟨0, 8, 11, 13⟩) (pre := []) (suf := []) rfl (by omega) (ax_caV (pc := 3) dL_bestCell_3 kX12_bestCell rfl rfl WM_L_98 WI_X12_bestCell WS_X12_bestCell WN_X12 (ax_rcO (t := 10) (axEx hG rfl) rfl (by decide)) (Nat.le_of_ble_eq_true rfl)) kX12_bestCell rfl rfl (fun z hz => by cases hz) rfl (by decide) WC_L_13 CS_IllegalStateException (Or.inl ⟨2, rfl, rfl, dL_bestCell_11⟩) (by decide) rfl rfl (T_X12_bestCell (by omega) hG hX r1) ?_
      refine x_iconst (pc := 12) dL_bestCell_12 ⟨by decide, by decide⟩ ?_
      cases hf
      exact x_retI (pc := 13) dL_bestCell_13
    replace hf := (if_neg h7).symm.trans hf
    cases hf
