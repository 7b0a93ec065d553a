/-! walks of the library's own methods -/
theorem WX_native : Cond.native arraycopyName ∈ ax_W := ax_tw (ax_t8 (List.mem_of_getElem? (i := 36) (by decide +kernel))) rfl
theorem WX_static : Cond.static arraycopyName ∈ ax_W := ax_tw (ax_t8 (List.mem_of_getElem? (i := 35) (by decide +kernel))) rfl
theorem WX_same : Cond.sameMethod "HexPond$Kind" "java/lang/Enum" "ordinal" "()I" ∈ ax_W := ax_tw (ax_t4 (List.mem_of_getElem? (i := 178) (by decide +kernel))) rfl
theorem WX_sel : Cond.selects RX5 ⟨"HexPond$Kind", "ordinal", "()I"⟩ yJx29ce0_ordinal_8abf5 ∈ ax_W := ax_tw (ax_t4 (List.mem_of_getElem? (i := 180) (by decide +kernel))) rfl
theorem WX_ins : Cond.instanceMethod yJx29ce0_ordinal_8abf5 ∈ ax_W := WI_Jx29ce0_ordinal_8abf5
theorem WA_int : Cond.arrayClass .int ∈ ax_W := ax_tw (ax_t1 (List.mem_of_getElem? (i := 73) (by decide +kernel))) rfl
theorem WI_Object : Cond.instanceMethod Lib.objectInit ∈ ax_W := ax_tw (ax_t1 (List.mem_of_getElem? (i := 36) (by decide +kernel))) rfl
theorem WK_Object : Cond.code Lib.objectInit ⟨#[0xb1]⟩ 1 none ∈ ax_W := ax_tw (ax_t1 (List.mem_of_getElem? (i := 37) (by decide +kernel))) rfl
section AXL
variable {G : ax_G} {d : Nat} {M : ax_M}
theorem T_ord {a : Nat} (h : 10 ≤ a ∧ a < 52) : ax_Ex G tJx29ce0_ordinal_8abf5 d 0 (ax_args [vR a] ++ List.replicate 0 none) [] M (.inl (some (vI ((a - 10 : Nat) : Int)))) M := by
  show ax_Ex G tJx29ce0_ordinal_8abf5 d 0 [some (vR a)] [] M _ _
  refine x_aload_n (pc := 0) dJx29ce0_ordinal_8abf5_0 rfl ?_
  refine x_getc (pc := 1) dJx29ce0_ordinal_8abf5_1 (axKf_ord h) (ax_i (by omega) (by omega)) WF_Jx29ce0_7 ?_
  exact x_retI (pc := 4) dJx29ce0_ordinal_8abf5_4
/-- coder() -/
theorem T_coder {s : Nat} (h : 60 ≤ s ∧ s < 102) : ax_Ex G tJ0_coder_7d493 d 0 (ax_args [vR s] ++ List.replicate 0 none) [] M (.inl (some (vI 0))) M := by
  show ax_Ex G tJ0_coder_7d493 d 0 [some (vR s)] [] M _ _
  refine x_gets (v := vI 1) _ (pc := 0) dJ0_coder_7d493_0 (axS_mem (n := 7) rfl) rfl ⟨by decide, by decide⟩ WF_J0_38 ?_
  refine x_ifeq (tgt := 13) (pc := 3) dJ0_coder_7d493_3 rfl (fun q => absurd q (by decide)) (fun _ => ?_)
  refine x_aload_n (pc := 6) dJ0_coder_7d493_6 rfl ?_
  refine x_getc (pc := 7) dJ0_coder_7d493_7 (axKf_cod h) ⟨by decide, by decide⟩ WF_J0_15 ?_
  refine x_goto (tgt := 14) (pc := 10) dJ0_coder_7d493_10 rfl ?_
  exact x_retI (pc := 14) dJ0_coder_7d493_14
theorem ishr0 {x : Int} (h0 : 0 ≤ x) (h : x < 2147483648) : ishr x 0 = x := by
  unfold ishr
  have e := pk_shr (Int32.ofInt x) (Int32.ofInt 0 &&& 31) 0 (by decide)
  rw [e, ax_toInt ⟨by omega, h⟩]
  exact Int.shiftRight_zero x
/-- length() -/
theorem T_slen {s : Nat} (hd : 3 ≤ d) (h : 60 ≤ s ∧ s < 102) : ax_Ex G tJ0_length_8abf5 d 0 (ax_args [vR s] ++ List.replicate 0 none) [] M (.inl (some (vI ((cTb (s + 42)).length : Int)))) M := by
  show ax_Ex G tJ0_length_8abf5 d 0 [some (vR s)] [] M _ _
  have hl := @cTb_len (s + 42)
  refine x_aload_n (pc := 0) dJ0_length_8abf5_0 rfl ?_
  refine x_getc (pc := 1) dJ0_length_8abf5_1 (axKf_val h) trivial WF_J0_9 ?_
  refine x_cblen (pc := 4) dJ0_length_8abf5_4 (by omega) ?_
  refine x_aload_n (pc := 5) dJ0_length_8abf5_5 rfl ?_
  refine x_cr (v := vI 0) (vs := [vR s]) (rest := [vI ((cTb (s + 42)).length : Int)]) (k := 0) rfl (by omega) (ax_caV (pc := 6) dJ0_length_8abf5_6 kJ0_coder_7d493 rfl rfl WM_J0_335 WI_J0_coder_7d493 WS_J0_coder_7d493 WN_J0 (ax_rcK (axKc_str h)) (Nat.le_of_ble_eq_true rfl)) kJ0_coder_7d493 rfl ⟨by decide, by decide⟩ (T_coder h) ?_
  refine x_ishr (pc := 9) (z := ((cTb (s + 42)).length : Int)) dJ0_length_8abf5_9 (ishr0 (by omega) (by omega)) ?_
  exact x_retI (pc := 10) dJ0_length_8abf5_10
/-- isLatin1() -/
theorem T_isLatin1 {s : Nat} (h : 60 ≤ s ∧ s < 102) : ax_Ex G tJ0_isLatin1_aae02 d 0 (ax_args [vR s] ++ List.replicate 0 none) [] M (.inl (some (vI 1))) M := by
  show ax_Ex G tJ0_isLatin1_aae02 d 0 [some (vR s)] [] M _ _
  refine x_gets (v := vI 1) _ (pc := 0) dJ0_isLatin1_aae02_0 (axS_mem (n := 7) rfl) rfl ⟨by decide, by decide⟩ WF_J0_38 ?_
  refine x_ifeq (tgt := 17) (pc := 3) dJ0_isLatin1_aae02_3 rfl (fun q => absurd q (by decide)) (fun _ => ?_)
  refine x_aload_n (pc := 6) dJ0_isLatin1_aae02_6 rfl ?_
  refine x_getc (pc := 7) dJ0_isLatin1_aae02_7 (axKf_cod h) ⟨by decide, by decide⟩ WF_J0_15 ?_
  refine x_ifne (tgt := 17) (pc := 10) dJ0_isLatin1_aae02_10 rfl (fun q => absurd rfl q) (fun _ => ?_)
  refine x_iconst (pc := 13) dJ0_isLatin1_aae02_13 ⟨by decide, by decide⟩ ?_
  refine x_goto (tgt := 18) (pc := 14) dJ0_isLatin1_aae02_14 rfl ?_
  exact x_retI (pc := 18) dJ0_isLatin1_aae02_18
theorem x_aload_nQ {mt : ax_T} {pc : Nat} {ls : List (Option ax_V)} {st : List ax_V} {M' : ax_M} {o : Option ax_V ⊕ String} {q : Option Nat} {i : Fin 4} (hd : decode mt.2.1 pc = .ok (.aload_n i, 1)) (hi : ls[(i : Nat)]? = some (some (vQ q))) (k : ax_Ex G mt d (pc + 1) ls (vQ q :: st) M o M') : ax_Ex G mt d pc ls st M o M' := by
  cases q with
  | none => exact x_aload_nN hd hi k
  | some a => exact x_aload_n hd hi k
/-- Preconditions.checkIndex -/
theorem T_pre {i n : Int} {q : Option Nat} (h0 : 0 ≤ i) (h1 : i < n) : ax_Ex G tJ3_checkIndex_8e157 d 0 (ax_args [vI i, vI n, vQ q] ++ List.replicate 0 none) [] M (.inl (some (vI i))) M := by
  show ax_Ex G tJ3_checkIndex_8e157 d 0 [some (vI i), some (vI n), some (vQ q)] [] M _ _
  refine x_iload_n (pc := 0) dJ3_checkIndex_8e157_0 rfl ?_
  refine x_iflt (tgt := 9) (pc := 1) dJ3_checkIndex_8e157_1 rfl (fun q => absurd q (by omega)) (fun _ => ?_)
  refine x_iload_n (pc := 4) dJ3_checkIndex_8e157_4 rfl ?_
  refine x_iload_n (pc := 5) dJ3_checkIndex_8e157_5 rfl ?_
  refine x_icmplt (tgt := 16) (pc := 6) dJ3_checkIndex_8e157_6 rfl (fun _ => ?_) (fun q => absurd q (by omega))
  refine x_iload_n (pc := 16) dJ3_checkIndex_8e157_16 rfl ?_
  exact x_retI (pc := 17) dJ3_checkIndex_8e157_17
theorem T_chk {i n : Int} (hd : 1 ≤ d) (h0 : 0 ≤ i) (h1 : i < n) : ax_Ex G tJ0_checkIndex_df160 d 0 (ax_args [vI i, vI n] ++ List.replicate 0 none) [] M (.inl none) M := by
  show ax_Ex G tJ0_checkIndex_df160 d 0 [some (vI i), some (vI n)] [] M _ _
  refine x_iload_n (pc := 0) dJ0_checkIndex_df160_0 rfl ?_
  refine x_iload_n (pc := 1) dJ0_checkIndex_df160_1 rfl ?_
  refine x_getsB (pc := 2) dJ0_checkIndex_df160_2 WF_J0_1053 (fun q => ?_)
  refine x_cr (v := vI i) (vs := [vI i, vI n, vQ q]) (rest := []) (k := 0) rfl hd (ax_caS (pc := 5) dJ0_checkIndex_df160_5 kJ3_checkIndex_8e157 rfl rfl WM_J0_1059 WT_J3_checkIndex_8e157 WN_J3 (Nat.le_of_ble_eq_true rfl)) kJ3_checkIndex_8e157 rfl True.intro (T_pre h0 h1) ?_
  refine x_pop (pc := 8) dJ0_checkIndex_df160_8 rfl ?_
  exact x_retV (pc := 9) dJ0_checkIndex_df160_9
theorem cTb_byte (b : Nat) (j : Nat) : 0 ≤ (cTb b).getD j 0 ∧ (cTb b).getD j 0 < 128 := by
  have h1 : ∀ l ∈ cTx, ∀ v ∈ l, 0 ≤ v ∧ v < 128 := by decide
  have h2 : ∀ v ∈ cTb b, 0 ≤ v ∧ v < 128 := by
    intro v hv
    unfold cTb at hv
    rw [List.getD_eq_getElem?_getD] at hv
    cases e : cTx[b - 102]? with
    | none => rw [e] at hv; cases hv
    | some l => rw [e] at hv; exact h1 l (List.mem_of_getElem? e) v hv
  rw [List.getD_eq_getElem?_getD]
  cases e : (cTb b)[j]? with
  | none => exact ⟨by decide, by decide⟩
  | some v => exact h2 v (List.mem_of_getElem? e)
theorem cTb_char {b : Nat} (j : Nat) : ax_rt (some .char) (some (vI ((cTb b).getD j 0))) := by
  have h := cTb_byte b j
  exact ⟨h.1, by omega⟩
theorem ichar_id {x : Int} (h0 : 0 ≤ x) (h1 : x < 128) : ichar (iand x 255) = x := by
  have h : ∀ n : Fin 128, ichar (iand ((n : Nat) : Int) 255) = ((n : Nat) : Int) := by decide +kernel
  have h2 := h ⟨x.toNat, by omega⟩
  have e : ((x.toNat : Nat) : Int) = x := by omega
  simp only at h2
  rw [e] at h2
  exact h2
/-- StringLatin1.charAt -/
theorem T_latin {b : Nat} {i : Int} (hd : 2 ≤ d) (hb : 102 ≤ b ∧ b < 144) (h0 : 0 ≤ i) (h1 : i < ((cTb b).length : Int)) : ax_Ex G tJ1_charAt_3b067 d 0 (ax_args [vR b, vI i] ++ List.replicate 0 none) [] M (.inl (some (vI ((cTb b).getD i.toNat 0)))) M := by
  show ax_Ex G tJ1_charAt_3b067 d 0 [some (vR b), some (vI i)] [] M _ _
  have hv := cTb_byte b i.toNat
  refine x_iload_n (pc := 0) dJ1_charAt_3b067_0 rfl ?_
  refine x_aload_n (pc := 1) dJ1_charAt_3b067_1 rfl ?_
  refine x_cblen (pc := 2) dJ1_charAt_3b067_2 hb ?_
  refine x_cv (vs := [vI i, vI ((cTb b).length : Int)]) (rest := []) (k := 0) rfl (by omega) (ax_caS (pc := 3) dJ1_charAt_3b067_3 kJ0_checkIndex_df160 rfl rfl WM_J1_9 WT_J0_checkIndex_df160 WN_J0 (Nat.le_of_ble_eq_true rfl)) kJ0_checkIndex_df160 rfl True.intro (T_chk (by omega) h0 h1) ?_
  refine x_aload_n (pc := 6) dJ1_charAt_3b067_6 rfl ?_
  refine x_iload_n (pc := 7) dJ1_charAt_3b067_7 rfl ?_
  refine x_cbald2 (pc := 8) dJ1_charAt_3b067_8 hb h0 h1 ?_
  refine x_sipush (pc := 9) dJ1_charAt_3b067_9 (by decide) ⟨by decide, by decide⟩ ?_
  refine x_iand (pc := 12) (z := iand ((cTb b).getD i.toNat 0) 255) dJ1_charAt_3b067_12 rfl ?_
  refine x_i2c (pc := 13) (z := (cTb b).getD i.toNat 0) dJ1_charAt_3b067_13 (ichar_id hv.1 hv.2) ?_
  exact x_retI (pc := 14) dJ1_charAt_3b067_14
/-- charAt -/
theorem T_schar {s : Nat} {i : Int} (hd : 4 ≤ d) (h : 60 ≤ s ∧ s < 102) (h0 : 0 ≤ i) (h1 : i < ((cTb (s + 42)).length : Int)) : ax_Ex G tJ0_charAt_5068e d 0 (ax_args [vR s, vI i] ++ List.replicate 0 none) [] M (.inl (some (vI ((cTb (s + 42)).getD i.toNat 0)))) M := by
  show ax_Ex G tJ0_charAt_5068e d 0 [some (vR s), some (vI i)] [] M _ _
  refine x_aload_n (pc := 0) dJ0_charAt_5068e_0 rfl ?_
  refine x_cr (v := vI 1) (vs := [vR s]) (rest := []) (k := 0) rfl (by omega) (ax_caV (pc := 1) dJ0_charAt_5068e_1 kJ0_isLatin1_aae02 rfl rfl WM_J0_492 WI_J0_isLatin1_aae02 WS_J0_isLatin1_aae02 WN_J0 (ax_rcK (axKc_str h)) (Nat.le_of_ble_eq_true rfl)) kJ0_isLatin1_aae02 rfl (Or.inr rfl) (T_isLatin1 h) ?_
  refine x_ifeq (tgt := 16) (pc := 4) dJ0_charAt_5068e_4 rfl (fun q => absurd q (by decide)) (fun _ => ?_)
  refine x_aload_n (pc := 7) dJ0_charAt_5068e_7 rfl ?_
  refine x_getc (pc := 8) dJ0_charAt_5068e_8 (axKf_val h) trivial WF_J0_9 ?_
  refine x_iload_n (pc := 11) dJ0_charAt_5068e_11 rfl ?_
  refine x_cr (v := vI ((cTb (s + 42)).getD i.toNat 0)) (vs := [vR (s + 42), vI i]) (rest := []) (k := 0) rfl (by omega) (ax_caS (pc := 12) dJ0_charAt_5068e_12 kJ1_charAt_3b067 rfl rfl WM_J0_495 WT_J1_charAt_3b067 WN_J1 (Nat.le_of_ble_eq_true rfl)) kJ1_charAt_3b067 rfl (cTb_char _) (T_latin (by omega) (by omega) h0 h1) ?_
  exact x_retI (pc := 15) dJ0_charAt_5068e_15
/-- Arrays.fill -/
theorem T_fill {k n : Nat} {v : Int} (hk : ax_ex G M k) (hs : ax_sh M k = (32, n)) (hn : n < 2147483648) : ax_Ex G tJ7_fill_53178 d 0 (ax_args [vR k, vI v] ++ List.replicate 2 none) [] M (.inl none) (mFi M k n v) := by
  show ax_Ex G tJ7_fill_53178 d 0 [some (vR k), some (vI v), none, none] [] M _ _
  refine x_iconst (pc := 0) dJ7_fill_53178_0 ⟨by decide, by decide⟩ ?_
  refine x_istore_n (ls' := [some (vR k), some (vI v), some (vI 0), none]) (pc := 1) dJ7_fill_53178_1 (Nat.le_of_ble_eq_true rfl) rfl rfl ?_
  refine x_aload_n (pc := 2) dJ7_fill_53178_2 rfl ?_
  refine x_alen (t := 0) (n := n) (pc := 3) dJ7_fill_53178_3 hk hs (by decide) hn ?_
  refine x_istore_n (ls' := [some (vR k), some (vI v), some (vI 0), some (vI (n : Int))]) (pc := 4) dJ7_fill_53178_4 (Nat.le_of_ble_eq_true rfl) rfl rfl ?_
  have loop : ∀ m j : Nat, j + m = n → ax_Ex G tJ7_fill_53178 d 5 [some (vR k), some (vI v), some (vI (j : Int)), some (vI (n : Int))] [] (mFi M k j v) (.inl none) (mFi M k n v) := by
    intro m
    induction m with
    | zero =>
      intro j hj
      refine x_iload_n (pc := 5) dJ7_fill_53178_5 rfl ?_
      refine x_iload_n (pc := 6) dJ7_fill_53178_6 rfl ?_
      refine x_icmpge (tgt := 20) (pc := 7) dJ7_fill_53178_7 rfl (fun _ => ?_) (fun q => absurd q (by omega))
      have e : j = n := by omega
      subst e
      exact x_retV (pc := 20) dJ7_fill_53178_20
    | succ m ih =>
      intro j hj
      refine x_iload_n (pc := 5) dJ7_fill_53178_5 rfl ?_
      refine x_iload_n (pc := 6) dJ7_fill_53178_6 rfl ?_
      refine x_icmpge (tgt := 20) (pc := 7) dJ7_fill_53178_7 rfl (fun q => absurd q (by omega)) (fun _ => ?_)
      refine x_aload_n (pc := 10) dJ7_fill_53178_10 rfl ?_
      refine x_iload_n (pc := 11) dJ7_fill_53178_11 rfl ?_
      refine x_iload_n (pc := 12) dJ7_fill_53178_12 rfl ?_
      refine x_iast (j := j) (n := n) (pc := 13) dJ7_fill_53178_13 hk hs rfl (by omega) ?_
      refine x_iinc (z := (j : Int) + 1) (ls' := [some (vR k), some (vI v), some (vI ((j : Int) + 1)), some (vI (n : Int))]) (pc := 14) dJ7_fill_53178_14 rfl (Nat.le_of_ble_eq_true rfl) rfl rfl (ax_i (by omega) (by omega)) rfl ?_
      refine x_goto (tgt := 5) (pc := 17) dJ7_fill_53178_17 rfl ?_
      have e : mUI (mFi M k j v) k j v = mFi M k (j + 1) v := by
        unfold mFi mUI
        refine congrArg (fun f => (f, M.2)) ?_
        funext a b
        simp only [ax_up, mI]
        by_cases h1 : a = k
        · by_cases h2 : b = j
          · rw [if_pos ⟨h1, h2⟩, if_pos ⟨h1, by omega⟩]
          · rw [if_neg (fun q => h2 q.2)]
            by_cases h3 : b < j
            · rw [if_pos ⟨h1, h3⟩, if_pos ⟨h1, by omega⟩]
            · rw [if_neg (fun q => h3 q.2), if_neg (fun q => h3 (by omega))]
        · rw [if_neg (fun q => h1 q.1), if_neg (fun q => h1 q.1), if_neg (fun q => h1 q.1)]
      rw [e]
      have := ih (j + 1) (by omega)
      rw [show (((j + 1 : Nat) : Int)) = (j : Int) + 1 by omega] at this
      exact this
  have h9 := loop n 0 (by omega)
  have e0 : mFi M k 0 v = M := by
    unfold mFi
    have : (fun a b => if a = k ∧ b < 0 then v else mI M a b) = M.1 := by
      funext a b
      rw [if_neg (fun q => absurd q.2 (by omega))]
    rw [this]
  rw [e0] at h9
  exact h9
end AXL
/- java/lang/Math.max(II)I -/
def fJ9_max_7cf53 (M : ax_M) (a1 : Int) (a2 : Int) : Int :=
  (if a1 < a2 then (a2) else (a1))
theorem T_J9_max_7cf53 {G : ax_G} {d : Nat} (hd : 0 ≤ d) {M : ax_M} {a1 : Int} {a2 : Int} {r : Int} (hf : fJ9_max_7cf53 M a1 a2 = r) : ax_Ex G tJ9_max_7cf53 d 0 (ax_args [vI a1, vI a2] ++ List.replicate 0 none) [] M (.inl (some (vI r))) M := by
  show ax_Ex G tJ9_max_7cf53 d 0 [some (vI a1), some (vI a2)] [] M _ _
  unfold fJ9_max_7cf53 at hf
  refine x_iload_n (pc := 0) dJ9_max_7cf53_0 rfl ?_
  refine x_iload_n (pc := 1) dJ9_max_7cf53_1 rfl ?_
  refine ax_cmp (fun b2a b2b b2c b2e => ?_)
  refine x_icmplt (tgt := 9) (pc := 2) dJ9_max_7cf53_2 rfl (fun h1 => ?_) (fun h1 => ?_)
  · replace hf := (if_pos h1).symm.trans hf
    refine x_iload_n (pc := 9) dJ9_max_7cf53_9 rfl ?_
    subst hf
    exact x_retI (pc := 10) dJ9_max_7cf53_10
  · replace hf := (if_neg (Int.not_lt.mpr h1)).symm.trans hf
    refine x_iload_n (pc := 5) dJ9_max_7cf53_5 rfl ?_
    refine x_goto (tgt := 10) (pc := 6) dJ9_max_7cf53_6 rfl ?_
    subst hf
    exact x_retI (pc := 10) dJ9_max_7cf53_10
/- java/lang/Math.min(II)I -/
def fJ9_min_7cf53 (M : ax_M) (a1 : Int) (a2 : Int) : Int :=
  (if a2 < a1 then (a2) else (a1))
theorem T_J9_min_7cf53 {G : ax_G} {d : Nat} (hd : 0 ≤ d) {M : ax_M} {a1 : Int} {a2 : Int} {r : Int} (hf : fJ9_min_7cf53 M a1 a2 = r) : ax_Ex G tJ9_min_7cf53 d 0 (ax_args [vI a1, vI a2] ++ List.replicate 0 none) [] M (.inl (some (vI r))) M := by
  show ax_Ex G tJ9_min_7cf53 d 0 [some (vI a1), some (vI a2)] [] M _ _
  unfold fJ9_min_7cf53 at hf
  refine x_iload_n (pc := 0) dJ9_min_7cf53_0 rfl ?_
  refine x_iload_n (pc := 1) dJ9_min_7cf53_1 rfl ?_
  refine ax_cmp (fun b2a b2b b2c b2e => ?_)
  refine x_icmpgt (tgt := 9) (pc := 2) dJ9_min_7cf53_2 rfl (fun h1 => ?_) (fun h1 => ?_)
  · replace hf := (if_pos h1).symm.trans hf
    refine x_iload_n (pc := 9) dJ9_min_7cf53_9 rfl ?_
    subst hf
    exact x_retI (pc := 10) dJ9_min_7cf53_10
  · replace hf := (if_neg (Int.not_lt.mpr h1)).symm.trans hf
    refine x_iload_n (pc := 5) dJ9_min_7cf53_5 rfl ?_
    refine x_goto (tgt := 10) (pc := 6) dJ9_min_7cf53_6 rfl ?_
    subst hf
    exact x_retI (pc := 10) dJ9_min_7cf53_10
/- java/lang/Math.floorMod(II)I -/
def fJ9_floorMod_7cf53 (M : ax_M) (a1 : Int) (a2 : Int) : Option Int :=
  (if ¬ a2 = 0 then (if (ixor a1 a2) < 0 then (if (Int.tmod a1 a2) = 0 then (some (Int.tmod a1 a2)) else (some (wr ((Int.tmod a1 a2) + a2)))) else (some (Int.tmod a1 a2))) else none)
theorem T_J9_floorMod_7cf53 {G : ax_G} {d : Nat} (hd : 0 ≤ d) {M : ax_M} {a1 : Int} {a2 : Int} {r : Int} (hf : fJ9_floorMod_7cf53 M a1 a2 = some r) : ax_Ex G tJ9_floorMod_7cf53 d 0 (ax_args [vI a1, vI a2] ++ List.replicate 1 none) [] M (.inl (some (vI r))) M := by
  show ax_Ex G tJ9_floorMod_7cf53 d 0 [some (vI a1), some (vI a2), none] [] M _ _
  unfold fJ9_floorMod_7cf53 at hf
  refine x_iload_n (pc := 0) dJ9_floorMod_7cf53_0 rfl ?_
  refine x_iload_n (pc := 1) dJ9_floorMod_7cf53_1 rfl ?_
  by_cases h1 : ¬ a2 = 0
  · replace hf := (if_pos h1).symm.trans hf
    refine x_iremT (pc := 2) dJ9_floorMod_7cf53_2 h1 ?_
    refine x_istore_n (ls' := [some (vI a1), some (vI a2), some (vI (Int.tmod a1 a2))]) (pc := 3) dJ9_floorMod_7cf53_3 (Nat.le_of_ble_eq_true rfl) rfl rfl ?_
    refine x_iload_n (pc := 4) dJ9_floorMod_7cf53_4 rfl ?_
    refine x_iload_n (pc := 5) dJ9_floorMod_7cf53_5 rfl ?_
    refine x_ixor (z := (ixor a1 a2)) (pc := 6) dJ9_floorMod_7cf53_6 rfl ?_
    refine x_ifge (tgt := 18) (pc := 7) dJ9_floorMod_7cf53_7 rfl (fun h2 => ?_) (fun h2 => ?_)
    · replace hf := (if_neg (Int.not_lt.mpr h2)).symm.trans hf
      refine x_iload_n (pc := 18) dJ9_floorMod_7cf53_18 rfl ?_
      cases hf
      exact x_retI (pc := 19) dJ9_floorMod_7cf53_19
    · replace hf := (if_pos h2).symm.trans hf
      refine x_iload_n (pc := 10) dJ9_floorMod_7cf53_10 rfl ?_
      refine x_ifeq (tgt := 18) (pc := 11) dJ9_floorMod_7cf53_11 rfl (fun h3 => ?_) (fun h3 => ?_)
      · replace hf := (if_pos h3).symm.trans hf
        refine x_iload_n (pc := 18) dJ9_floorMod_7cf53_18 rfl ?_
        cases hf
        exact x_retI (pc := 19) dJ9_floorMod_7cf53_19
      · replace hf := (if_neg h3).symm.trans hf
        refine x_iload_n (pc := 14) dJ9_floorMod_7cf53_14 rfl ?_
        refine x_iload_n (pc := 15) dJ9_floorMod_7cf53_15 rfl ?_
        refine x_iaddw (pc := 16) dJ9_floorMod_7cf53_16 ?_
        cases hf
        exact x_retI (pc := 17) dJ9_floorMod_7cf53_17
  · replace hf := (if_neg h1).symm.trans hf
    cases hf
