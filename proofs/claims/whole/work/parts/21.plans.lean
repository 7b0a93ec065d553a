/-! walks: Plans -/
/- HexPond$Plans.begin()V -/
def fX7_begin (M : ax_M) (this : Nat) : Option ax_M :=
  (some (mUI (mUI M this 2 0) this 9 0))
theorem T_X7_begin {G : ax_G} {d : Nat} (hd : 0 ≤ d) (hG : axPs G 150 244) {M : ax_M} {this : Nat} (y_this : (this = 157 ∨ this = 194)) {M1 : ax_M} (hf : fX7_begin M this = some M1) : ax_Ex G tX7_begin d 0 (ax_args [vR this] ++ List.replicate 0 none) [] M (.inl none) M1 := by
  show ax_Ex G tX7_begin d 0 [some (vR this)] [] M _ _
  unfold fX7_begin at hf
  refine x_aload_n (pc := 0) dX7_begin_0 rfl ?_
  refine x_iconst (pc := 1) dX7_begin_1 ⟨by decide, by decide⟩ ?_
  refine x_putI (t := 5) (j := 2) (pc := 2) dX7_begin_2 (by rcases y_this with rfl | rfl <;> exact axEx hG rfl) (by rcases y_this with rfl | rfl <;> rfl) (by decide) (by decide) rfl rfl WF_X7_39 ?_
  refine x_aload_n (pc := 5) dX7_begin_5 rfl ?_
  refine x_iconst (pc := 6) dX7_begin_6 ⟨by decide, by decide⟩ ?_
  refine x_putI (t := 5) (j := 9) (pc := 7) dX7_begin_7 (by rcases y_this with rfl | rfl <;> exact axEx hG rfl) (by rcases y_this with rfl | rfl <;> rfl) (by decide) (by decide) rfl rfl WF_X7_43 ?_
  cases hf
  exact x_retV (pc := 10) dX7_begin_10
/- HexPond$Plans.write(LHexPond$Kind;I)V -/
def fX7_write (M : ax_M) (this : Nat) (a1 : Nat) (a2 : Int) : Option ax_M :=
  (if (mI M this 2) < 0 then (some M) else (if (mI M this 2) < 400 then (if 0 ≤ (mI (mUR M (this + 1) (Int.toNat (mI M this 2)) (some a1)) this 2) ∧ (mI (mUR M (this + 1) (Int.toNat (mI M this 2)) (some a1)) this 2) < 400 then (some (mUI (mUI (mUR M (this + 1) (Int.toNat (mI M this 2)) (some a1)) (this + 2) (Int.toNat (mI (mUR M (this + 1) (Int.toNat (mI M this 2)) (some a1)) this 2)) a2) this 2 (wr ((mI (mUI (mUR M (this + 1) (Int.toNat (mI M this 2)) (some a1)) (this + 2) (Int.toNat (mI (mUR M (this + 1) (Int.toNat (mI M this 2)) (some a1)) this 2)) a2) this 2) + 1)))) else none) else (some M)))
theorem T_X7_write {G : ax_G} {d : Nat} (hd : 0 ≤ d) (hG : axPs G 150 244) {M : ax_M} {this : Nat} {a1 : Nat} {a2 : Int} (y_this : (this = 157 ∨ this = 194)) (y_a1 : 10 ≤ a1 ∧ a1 < 52) {M1 : ax_M} (hf : fX7_write M this a1 a2 = some M1) : ax_Ex G tX7_write d 0 (ax_args [vR this, vR a1, vI a2] ++ List.replicate 0 none) [] M (.inl none) M1 := by
  show ax_Ex G tX7_write d 0 [some (vR this), some (vR a1), some (vI a2)] [] M _ _
  unfold fX7_write at hf
  refine x_aload_n (pc := 0) dX7_write_0 rfl ?_
  refine x_getI (t := 5) (j := 2) (pc := 1) dX7_write_1 (by rcases y_this with rfl | rfl <;> exact axEx hG rfl) (by rcases y_this with rfl | rfl <;> rfl) (by decide) (by decide) rfl WF_X7_39 ?_
  refine ax_cmp1 (fun b2a b2b => ?_)
  refine x_iflt (tgt := 49) (pc := 4) dX7_write_4 rfl (fun h1 => ?_) (fun h1 => ?_)
  · replace hf := (if_pos h1).symm.trans hf
    cases hf
    exact x_retV (pc := 49) dX7_write_49
  · replace hf := (if_neg (Int.not_lt.mpr h1)).symm.trans hf
    refine x_aload_n (pc := 7) dX7_write_7 rfl ?_
    refine x_getI (t := 5) (j := 2) (pc := 8) dX7_write_8 (by rcases y_this with rfl | rfl <;> exact axEx hG rfl) (by rcases y_this with rfl | rfl <;> rfl) (by decide) (by decide) rfl WF_X7_39 ?_
    refine x_aload_n (pc := 11) dX7_write_11 rfl ?_
    refine x_getF (t := 5) (j := 0) (r := this + 1) (pc := 12) dX7_write_12 (by rcases y_this with rfl | rfl <;> exact axH hG rfl) (by rcases y_this with rfl | rfl <;> exact axEx hG rfl) (by rcases y_this with rfl | rfl <;> rfl) (by decide) (by decide) rfl (by rcases y_this with rfl | rfl <;> rfl) WF_X7_11 ?_
    refine x_alen (t := 4) (n := 400) (pc := 15) dX7_write_15 (by rcases y_this with rfl | rfl <;> exact axEx hG rfl) (by rcases y_this with rfl | rfl <;> rfl) (by decide) (by decide) ?_
    refine ax_cmp (fun b4a b4b b4c b4e => ?_)
    refine x_icmpge (tgt := 49) (pc := 16) dX7_write_16 rfl (fun h3 => ?_) (fun h3 => ?_)
    · replace hf := (if_neg (Int.not_lt.mpr h3)).symm.trans hf
      cases hf
      exact x_retV (pc := 49) dX7_write_49
    · replace hf := (if_pos h3).symm.trans hf
      refine x_aload_n (pc := 19) dX7_write_19 rfl ?_
      refine x_getF (t := 5) (j := 0) (r := this + 1) (pc := 20) dX7_write_20 (by rcases y_this with rfl | rfl <;> exact axH hG rfl) (by rcases y_this with rfl | rfl <;> exact axEx hG rfl) (by rcases y_this with rfl | rfl <;> rfl) (by decide) (by decide) rfl (by rcases y_this with rfl | rfl <;> rfl) WF_X7_11 ?_
      refine x_aload_n (pc := 23) dX7_write_23 rfl ?_
      refine x_getI (t := 5) (j := 2) (pc := 24) dX7_write_24 (by rcases y_this with rfl | rfl <;> exact axEx hG rfl) (by rcases y_this with rfl | rfl <;> rfl) (by decide) (by decide) rfl WF_X7_39 ?_
      refine x_aload_n (pc := 27) dX7_write_27 rfl ?_
      refine x_aast2 (n := 400) (pc := 28) dX7_write_28 (by rcases y_this with rfl | rfl <;> exact axEx hG rfl) (by rcases y_this with rfl | rfl <;> rfl) (by omega) (by omega) y_a1 (by rcases y_this with rfl | rfl <;> intro j <;> rfl) ?_
      refine x_aload_n (pc := 29) dX7_write_29 rfl ?_
      refine x_getF (t := 5) (j := 1) (r := this + 2) (pc := 30) dX7_write_30 (by rcases y_this with rfl | rfl <;> exact axH hG rfl) (by rcases y_this with rfl | rfl <;> exact axEx hG rfl) (by rcases y_this with rfl | rfl <;> rfl) (by decide) (by decide) rfl (by rcases y_this with rfl | rfl <;> rfl) WF_X7_17 ?_
      refine x_aload_n (pc := 33) dX7_write_33 rfl ?_
      refine x_getI (t := 5) (j := 2) (pc := 34) dX7_write_34 (by rcases y_this with rfl | rfl <;> exact axEx hG rfl) (by rcases y_this with rfl | rfl <;> rfl) (by decide) (by decide) rfl WF_X7_39 ?_
      refine x_iload_n (pc := 37) dX7_write_37 rfl ?_
      by_cases h5 : 0 ≤ (mI (mUR M (this + 1) (Int.toNat (mI M this 2)) (some a1)) this 2) ∧ (mI (mUR M (this + 1) (Int.toNat (mI M this 2)) (some a1)) this 2) < 400
      · replace hf := (if_pos h5).symm.trans hf
        refine x_iast2 (n := 400) (pc := 38) dX7_write_38 (by rcases y_this with rfl | rfl <;> exact axEx hG rfl) (by rcases y_this with rfl | rfl <;> rfl) h5.1 h5.2 ?_
        refine x_aload_n (pc := 39) dX7_write_39 rfl ?_
        refine x_dup (pc := 40) dX7_write_40 rfl ?_
        refine x_getI (t := 5) (j := 2) (pc := 41) dX7_write_41 (by rcases y_this with rfl | rfl <;> exact axEx hG rfl) (by rcases y_this with rfl | rfl <;> rfl) (by decide) (by decide) rfl WF_X7_39 ?_
        refine x_iconst (pc := 44) dX7_write_44 ⟨by decide, by decide⟩ ?_
        refine x_iaddw (pc := 45) dX7_write_45 ?_
        refine x_putI (t := 5) (j := 2) (pc := 46) dX7_write_46 (by rcases y_this with rfl | rfl <;> exact axEx hG rfl) (by rcases y_this with rfl | rfl <;> rfl) (by decide) (by decide) rfl rfl WF_X7_39 ?_
        cases hf
        exact x_retV (pc := 49) dX7_write_49
      · replace hf := (if_neg h5).symm.trans hf
        cases hf
/- HexPond$Plans.add(ILHexPond$Kind;III)V -/
def fX7_add (M : ax_M) (this : Nat) (a1 : Int) (a2 : Nat) (a3 : Int) (a4 : Int) (a5 : Int) : Option ax_M :=
  (if (mI M this 9) < 0 then (some M) else (if (mI M this 9) < 16 then (if 0 ≤ (mI (mUI M (this + 4) (Int.toNat (mI M this 9)) a1) this 9) ∧ (mI (mUI M (this + 4) (Int.toNat (mI M this 9)) a1) this 9) < 16 then (if 0 ≤ (mI (mUR (mUI M (this + 4) (Int.toNat (mI M this 9)) a1) (this + 3) (Int.toNat (mI (mUI M (this + 4) (Int.toNat (mI M this 9)) a1) this 9)) (some a2)) this 9) ∧ (mI (mUR (mUI M (this + 4) (Int.toNat (mI M this 9)) a1) (this + 3) (Int.toNat (mI (mUI M (this + 4) (Int.toNat (mI M this 9)) a1) this 9)) (some a2)) this 9) < 16 then (if 0 ≤ (mI (mUI (mUR (mUI M (this + 4) (Int.toNat (mI M this 9)) a1) (this + 3) (Int.toNat (mI (mUI M (this + 4) (Int.toNat (mI M this 9)) a1) this 9)) (some a2)) (this + 5) (Int.toNat (mI (mUR (mUI M (this + 4) (Int.toNat (mI M this 9)) a1) (this + 3) (Int.toNat (mI (mUI M (this + 4) (Int.toNat (mI M this 9)) a1) this 9)) (some a2)) this 9)) a3) this 9) ∧ (mI (mUI (mUR (mUI M (this + 4) (Int.toNat (mI M this 9)) a1) (this + 3) (Int.toNat (mI (mUI M (this + 4) (Int.toNat (mI M this 9)) a1) this 9)) (some a2)) (this + 5) (Int.toNat (mI (mUR (mUI M (this + 4) (Int.toNat (mI M this 9)) a1) (this + 3) (Int.toNat (mI (mUI M (this + 4) (Int.toNat (mI M this 9)) a1) this 9)) (some a2)) this 9)) a3) this 9) < 16 then (if 0 ≤ (mI (mUI (mUI (mUR (mUI M (this + 4) (Int.toNat (mI M this 9)) a1) (this + 3) (Int.toNat (mI (mUI M (this + 4) (Int.toNat (mI M this 9)) a1) this 9)) (some a2)) (this + 5) (Int.toNat (mI (mUR (mUI M (this + 4) (Int.toNat (mI M this 9)) a1) (this + 3) (Int.toNat (mI (mUI M (this + 4) (Int.toNat (mI M this 9)) a1) this 9)) (some a2)) this 9)) a3) (this + 6) (Int.toNat (mI (mUI (mUR (mUI M (this + 4) (Int.toNat (mI M this 9)) a1) (this + 3) (Int.toNat (mI (mUI M (this + 4) (Int.toNat (mI M this 9)) a1) this 9)) (some a2)) (this + 5) (Int.toNat (mI (mUR (mUI M (this + 4) (Int.toNat (mI M this 9)) a1) (this + 3) (Int.toNat (mI (mUI M (this + 4) (Int.toNat (mI M this 9)) a1) this 9)) (some a2)) this 9)) a3) this 9)) a4) this 9) ∧ (mI (mUI (mUI (mUR (mUI M (this + 4) (Int.toNat (mI M this 9)) a1) (this + 3) (Int.toNat (mI (mUI M (this + 4) (Int.toNat (mI M this 9)) a1) this 9)) (some a2)) (this + 5) (Int.toNat (mI (mUR (mUI M (this + 4) (Int.toNat (mI M this 9)) a1) (this + 3) (Int.toNat (mI (mUI M (this + 4) (Int.toNat (mI M this 9)) a1) this 9)) (some a2)) this 9)) a3) (this + 6) (Int.toNat (mI (mUI (mUR (mUI M (this + 4) (Int.toNat (mI M this 9)) a1) (this + 3) (Int.toNat (mI (mUI M (this + 4) (Int.toNat (mI M this 9)) a1) this 9)) (some a2)) (this + 5) (Int.toNat (mI (mUR (mUI M (this + 4) (Int.toNat (mI M this 9)) a1) (this + 3) (Int.toNat (mI (mUI M (this + 4) (Int.toNat (mI M this 9)) a1) this 9)) (some a2)) this 9)) a3) this 9)) a4) this 9) < 16 then (if 0 ≤ (mI (mUI (mUI (mUI (mUR (mUI M (this + 4) (Int.toNat (mI M this 9)) a1) (this + 3) (Int.toNat (mI (mUI M (this + 4) (Int.toNat (mI M this 9)) a1) this 9)) (some a2)) (this + 5) (Int.toNat (mI (mUR (mUI M (this + 4) (Int.toNat (mI M this 9)) a1) (this + 3) (Int.toNat (mI (mUI M (this + 4) (Int.toNat (mI M this 9)) a1) this 9)) (some a2)) this 9)) a3) (this + 6) (Int.toNat (mI (mUI (mUR (mUI M (this + 4) (Int.toNat (mI M this 9)) a1) (this + 3) (Int.toNat (mI (mUI M (this + 4) (Int.toNat (mI M this 9)) a1) this 9)) (some a2)) (this + 5) (Int.toNat (mI (mUR (mUI M (this + 4) (Int.toNat (mI M this 9)) a1) (this + 3) (Int.toNat (mI (mUI M (this + 4) (Int.toNat (mI M this 9)) a1) this 9)) (some a2)) this 9)) a3) this 9)) a4) (this + 7) (Int.toNat (mI (mUI (mUI (mUR (mUI M (this + 4) (Int.toNat (mI M this 9)) a1) (this + 3) (Int.toNat (mI (mUI M (this + 4) (Int.toNat (mI M this 9)) a1) this 9)) (some a2)) (this + 5) (Int.toNat (mI (mUR (mUI M (this + 4) (Int.toNat (mI M this 9)) a1) (this + 3) (Int.toNat (mI (mUI M (this + 4) (Int.toNat (mI M this 9)) a1) this 9)) (some a2)) this 9)) a3) (this + 6) (Int.toNat (mI (mUI (mUR (mUI M (this + 4) (Int.toNat (mI M this 9)) a1) (this + 3) (Int.toNat (mI (mUI M (this + 4) (Int.toNat (mI M this 9)) a1) this 9)) (some a2)) (this + 5) (Int.toNat (mI (mUR (mUI M (this + 4) (Int.toNat (mI M this 9)) a1) (this + 3) (Int.toNat (mI (mUI M (this + 4) (Int.toNat (mI M this 9)) a1) this 9)) (some a2)) this 9)) a3) this 9)) a4) this 9)) a5) this 9) ∧ (mI (mUI (mUI (mUI (mUR (mUI M (this + 4) (Int.toNat (mI M this 9)) a1) (this + 3) (Int.toNat (mI (mUI M (this + 4) (Int.toNat (mI M this 9)) a1) this 9)) (some a2)) (this + 5) (Int.toNat (mI (mUR (mUI M (this + 4) (Int.toNat (mI M this 9)) a1) (this + 3) (Int.toNat (mI (mUI M (this + 4) (Int.toNat (mI M this 9)) a1) this 9)) (some a2)) this 9)) a3) (this + 6) (Int.toNat (mI (mUI (mUR (mUI M (this + 4) (Int.toNat (mI M this 9)) a1) (this + 3) (Int.toNat (mI (mUI M (this + 4) (Int.toNat (mI M this 9)) a1) this 9)) (some a2)) (this + 5) (Int.toNat (mI (mUR (mUI M (this + 4) (Int.toNat (mI M this 9)) a1) (this + 3) (Int.toNat (mI (mUI M (this + 4) (Int.toNat (mI M this 9)) a1) this 9)) (some a2)) this 9)) a3) this 9)) a4) (this + 7) (Int.toNat (mI (mUI (mUI (mUR (mUI M (this + 4) (Int.toNat (mI M this 9)) a1) (this + 3) (Int.toNat (mI (mUI M (this + 4) (Int.toNat (mI M this 9)) a1) this 9)) (some a2)) (this + 5) (Int.toNat (mI (mUR (mUI M (this + 4) (Int.toNat (mI M this 9)) a1) (this + 3) (Int.toNat (mI (mUI M (this + 4) (Int.toNat (mI M this 9)) a1) this 9)) (some a2)) this 9)) a3) (this + 6) (Int.toNat (mI (mUI (mUR (mUI M (this + 4) (Int.toNat (mI M this 9)) a1) (this + 3) (Int.toNat (mI (mUI M (this + 4) (Int.toNat (mI M this 9)) a1) this 9)) (some a2)) (this + 5) (Int.toNat (mI (mUR (mUI M (this + 4) (Int.toNat (mI M this 9)) a1) (this + 3) (Int.toNat (mI (mUI M (this + 4) (Int.toNat (mI M this 9)) a1) this 9)) (some a2)) this 9)) a3) this 9)) a4) this 9)) a5) this 9) < 16 then (some (mUI (mUI (mUI (mUI (mUI (mUR (mUI M (this + 4) (Int.toNat (mI M this 9)) a1) (this + 3) (Int.toNat (mI (mUI M (this + 4) (Int.toNat (mI M this 9)) a1) this 9)) (some a2)) (this + 5) (Int.toNat (mI (mUR (mUI M (this + 4) (Int.toNat (mI M this 9)) a1) (this + 3) (Int.toNat (mI (mUI M (this + 4) (Int.toNat (mI M this 9)) a1) this 9)) (some a2)) this 9)) a3) (this + 6) (Int.toNat (mI (mUI (mUR (mUI M (this + 4) (Int.toNat (mI M this 9)) a1) (this + 3) (Int.toNat (mI (mUI M (this + 4) (Int.toNat (mI M this 9)) a1) this 9)) (some a2)) (this + 5) (Int.toNat (mI (mUR (mUI M (this + 4) (Int.toNat (mI M this 9)) a1) (this + 3) (Int.toNat (mI (mUI M (this + 4) (Int.toNat (mI M this 9)) a1) this 9)) (some a2)) this 9)) a3) this 9)) a4) (this + 7) (Int.toNat (mI (mUI (mUI (mUR (mUI M (this + 4) (Int.toNat (mI M this 9)) a1) (this + 3) (Int.toNat (mI (mUI M (this + 4) (Int.toNat (mI M this 9)) a1) this 9)) (some a2)) (this + 5) (Int.toNat (mI (mUR (mUI M (this + 4) (Int.toNat (mI M this 9)) a1) (this + 3) (Int.toNat (mI (mUI M (this + 4) (Int.toNat (mI M this 9)) a1) this 9)) (some a2)) this 9)) a3) (this + 6) (Int.toNat (mI (mUI (mUR (mUI M (this + 4) (Int.toNat (mI M this 9)) a1) (this + 3) (Int.toNat (mI (mUI M (this + 4) (Int.toNat (mI M this 9)) a1) this 9)) (some a2)) (this + 5) (Int.toNat (mI (mUR (mUI M (this + 4) (Int.toNat (mI M this 9)) a1) (this + 3) (Int.toNat (mI (mUI M (this + 4) (Int.toNat (mI M this 9)) a1) this 9)) (some a2)) this 9)) a3) this 9)) a4) this 9)) a5) (this + 8) (Int.toNat (mI (mUI (mUI (mUI (mUR (mUI M (this + 4) (Int.toNat (mI M this 9)) a1) (this + 3) (Int.toNat (mI (mUI M (this + 4) (Int.toNat (mI M this 9)) a1) this 9)) (some a2)) (this + 5) (Int.toNat (mI (mUR (mUI M (this + 4) (Int.toNat (mI M this 9)) a1) (this + 3) (Int.toNat (mI (mUI M (this + 4) (Int.toNat (mI M this 9)) a1) this 9)) (some a2)) this 9)) a3) (this + 6) (Int.toNat (mI (mUI (mUR (mUI M (this + 4) (Int.toNat (mI M this 9)) a1) (this + 3) (Int.toNat (mI (mUI M (this + 4) (Int.toNat (mI M this 9)) a1) this 9)) (some a2)) (this + 5) (Int.toNat (mI (mUR (mUI M (this + 4) (Int.toNat (mI M this 9)) a1) (this + 3) (Int.toNat (mI (mUI M (this + 4) (Int.toNat (mI M this 9)) a1) this 9)) (some a2)) this 9)) a3) this 9)) a4) (this + 7) (Int.toNat (mI (mUI (mUI (mUR (mUI M (this + 4) (Int.toNat (mI M this 9)) a1) (this + 3) (Int.toNat (mI (mUI M (this + 4) (Int.toNat (mI M this 9)) a1) this 9)) (some a2)) (this + 5) (Int.toNat (mI (mUR (mUI M (this + 4) (Int.toNat (mI M this 9)) a1) (this + 3) (Int.toNat (mI (mUI M (this + 4) (Int.toNat (mI M this 9)) a1) this 9)) (some a2)) this 9)) a3) (this + 6) (Int.toNat (mI (mUI (mUR (mUI M (this + 4) (Int.toNat (mI M this 9)) a1) (this + 3) (Int.toNat (mI (mUI M (this + 4) (Int.toNat (mI M this 9)) a1) this 9)) (some a2)) (this + 5) (Int.toNat (mI (mUR (mUI M (this + 4) (Int.toNat (mI M this 9)) a1) (this + 3) (Int.toNat (mI (mUI M (this + 4) (Int.toNat (mI M this 9)) a1) this 9)) (some a2)) this 9)) a3) this 9)) a4) this 9)) a5) this 9)) (mI (mUI (mUI (mUI (mUR (mUI M (this + 4) (Int.toNat (mI M this 9)) a1) (this + 3) (Int.toNat (mI (mUI M (this + 4) (Int.toNat (mI M this 9)) a1) this 9)) (some a2)) (this + 5) (Int.toNat (mI (mUR (mUI M (this + 4) (Int.toNat (mI M this 9)) a1) (this + 3) (Int.toNat (mI (mUI M (this + 4) (Int.toNat (mI M this 9)) a1) this 9)) (some a2)) this 9)) a3) (this + 6) (Int.toNat (mI (mUI (mUR (mUI M (this + 4) (Int.toNat (mI M this 9)) a1) (this + 3) (Int.toNat (mI (mUI M (this + 4) (Int.toNat (mI M this 9)) a1) this 9)) (some a2)) (this + 5) (Int.toNat (mI (mUR (mUI M (this + 4) (Int.toNat (mI M this 9)) a1) (this + 3) (Int.toNat (mI (mUI M (this + 4) (Int.toNat (mI M this 9)) a1) this 9)) (some a2)) this 9)) a3) this 9)) a4) (this + 7) (Int.toNat (mI (mUI (mUI (mUR (mUI M (this + 4) (Int.toNat (mI M this 9)) a1) (this + 3) (Int.toNat (mI (mUI M (this + 4) (Int.toNat (mI M this 9)) a1) this 9)) (some a2)) (this + 5) (Int.toNat (mI (mUR (mUI M (this + 4) (Int.toNat (mI M this 9)) a1) (this + 3) (Int.toNat (mI (mUI M (this + 4) (Int.toNat (mI M this 9)) a1) this 9)) (some a2)) this 9)) a3) (this + 6) (Int.toNat (mI (mUI (mUR (mUI M (this + 4) (Int.toNat (mI M this 9)) a1) (this + 3) (Int.toNat (mI (mUI M (this + 4) (Int.toNat (mI M this 9)) a1) this 9)) (some a2)) (this + 5) (Int.toNat (mI (mUR (mUI M (this + 4) (Int.toNat (mI M this 9)) a1) (this + 3) (Int.toNat (mI (mUI M (this + 4) (Int.toNat (mI M this 9)) a1) this 9)) (some a2)) this 9)) a3) this 9)) a4) this 9)) a5) this 2)) this 9 (wr ((mI (mUI (mUI (mUI (mUI (mUR (mUI M (this + 4) (Int.toNat (mI M this 9)) a1) (this + 3) (Int.toNat (mI (mUI M (this + 4) (Int.toNat (mI M this 9)) a1) this 9)) (some a2)) (this + 5) (Int.toNat (mI (mUR (mUI M (this + 4) (Int.toNat (mI M this 9)) a1) (this + 3) (Int.toNat (mI (mUI M (this + 4) (Int.toNat (mI M this 9)) a1) this 9)) (some a2)) this 9)) a3) (this + 6) (Int.toNat (mI (mUI (mUR (mUI M (this + 4) (Int.toNat (mI M this 9)) a1) (this + 3) (Int.toNat (mI (mUI M (this + 4) (Int.toNat (mI M this 9)) a1) this 9)) (some a2)) (this + 5) (Int.toNat (mI (mUR (mUI M (this + 4) (Int.toNat (mI M this 9)) a1) (this + 3) (Int.toNat (mI (mUI M (this + 4) (Int.toNat (mI M this 9)) a1) this 9)) (some a2)) this 9)) a3) this 9)) a4) (this + 7) (Int.toNat (mI (mUI (mUI (mUR (mUI M (this + 4) (Int.toNat (mI M this 9)) a1) (this + 3) (Int.toNat (mI (mUI M (this + 4) (Int.toNat (mI M this 9)) a1) this 9)) (some a2)) (this + 5) (Int.toNat (mI (mUR (mUI M (this + 4) (Int.toNat (mI M this 9)) a1) (this + 3) (Int.toNat (mI (mUI M (this + 4) (Int.toNat (mI M this 9)) a1) this 9)) (some a2)) this 9)) a3) (this + 6) (Int.toNat (mI (mUI (mUR (mUI M (this + 4) (Int.toNat (mI M this 9)) a1) (this + 3) (Int.toNat (mI (mUI M (this + 4) (Int.toNat (mI M this 9)) a1) this 9)) (some a2)) (this + 5) (Int.toNat (mI (mUR (mUI M (this + 4) (Int.toNat (mI M this 9)) a1) (this + 3) (Int.toNat (mI (mUI M (this + 4) (Int.toNat (mI M this 9)) a1) this 9)) (some a2)) this 9)) a3) this 9)) a4) this 9)) a5) (this + 8) (Int.toNat (mI (mUI (mUI (mUI (mUR (mUI M (this + 4) (Int.toNat (mI M this 9)) a1) (this + 3) (Int.toNat (mI (mUI M (this + 4) (Int.toNat (mI M this 9)) a1) this 9)) (some a2)) (this + 5) (Int.toNat (mI (mUR (mUI M (this + 4) (Int.toNat (mI M this 9)) a1) (this + 3) (Int.toNat (mI (mUI M (this + 4) (Int.toNat (mI M this 9)) a1) this 9)) (some a2)) this 9)) a3) (this + 6) (Int.toNat (mI (mUI (mUR (mUI M (this + 4) (Int.toNat (mI M this 9)) a1) (this + 3) (Int.toNat (mI (mUI M (this + 4) (Int.toNat (mI M this 9)) a1) this 9)) (some a2)) (this + 5) (Int.toNat (mI (mUR (mUI M (this + 4) (Int.toNat (mI M this 9)) a1) (this + 3) (Int.toNat (mI (mUI M (this + 4) (Int.toNat (mI M this 9)) a1) this 9)) (some a2)) this 9)) a3) this 9)) a4) (this + 7) (Int.toNat (mI (mUI (mUI (mUR (mUI M (this + 4) (Int.toNat (mI M this 9)) a1) (this + 3) (Int.toNat (mI (mUI M (this + 4) (Int.toNat (mI M this 9)) a1) this 9)) (some a2)) (this + 5) (Int.toNat (mI (mUR (mUI M (this + 4) (Int.toNat (mI M this 9)) a1) (this + 3) (Int.toNat (mI (mUI M (this + 4) (Int.toNat (mI M this 9)) a1) this 9)) (some a2)) this 9)) a3) (this + 6) (Int.toNat (mI (mUI (mUR (mUI M (this + 4) (Int.toNat (mI M this 9)) a1) (this + 3) (Int.toNat (mI (mUI M (this + 4) (Int.toNat (mI M this 9)) a1) this 9)) (some a2)) (this + 5) (Int.toNat (mI (mUR (mUI M (this + 4) (Int.toNat (mI M this 9)) a1) (this + 3) (Int.toNat (mI (mUI M (this + 4) (Int.toNat (mI M this 9)) a1) this 9)) (some a2)) this 9)) a3) this 9)) a4) this 9)) a5) this 9)) (mI (mUI (mUI (mUI (mUR (mUI M (this + 4) (Int.toNat (mI M this 9)) a1) (this + 3) (Int.toNat (mI (mUI M (this + 4) (Int.toNat (mI M this 9)) a1) this 9)) (some a2)) (this + 5) (Int.toNat (mI (mUR (mUI M (this + 4) (Int.toNat (mI M this 9)) a1) (this + 3) (Int.toNat (mI (mUI M (this + 4) (Int.toNat (mI M this 9)) a1) this 9)) (some a2)) this 9)) a3) (this + 6) (Int.toNat (mI (mUI (mUR (mUI M (this + 4) (Int.toNat (mI M this 9)) a1) (this + 3) (Int.toNat (mI (mUI M (this + 4) (Int.toNat (mI M this 9)) a1) this 9)) (some a2)) (this + 5) (Int.toNat (mI (mUR (mUI M (this + 4) (Int.toNat (mI M this 9)) a1) (this + 3) (Int.toNat (mI (mUI M (this + 4) (Int.toNat (mI M this 9)) a1) this 9)) (some a2)) this 9)) a3) this 9)) a4) (this + 7) (Int.toNat (mI (mUI (mUI (mUR (mUI M (this + 4) (Int.toNat (mI M this 9)) a1) (this + 3) (Int.toNat (mI (mUI M (this + 4) (Int.toNat (mI M this 9)) a1) this 9)) (some a2)) (this + 5) (Int.toNat (mI (mUR (mUI M (this + 4) (Int.toNat (mI M this 9)) a1) (this + 3) (Int.toNat (mI (mUI M (this + 4) (Int.toNat (mI M this 9)) a1) this 9)) (some a2)) this 9)) a3) (this + 6) (Int.toNat (mI (mUI (mUR (mUI M (this + 4) (Int.toNat (mI M this 9)) a1) (this + 3) (Int.toNat (mI (mUI M (this + 4) (Int.toNat (mI M this 9)) a1) this 9)) (some a2)) (this + 5) (Int.toNat (mI (mUR (mUI M (this + 4) (Int.toNat (mI M this 9)) a1) (this + 3) (Int.toNat (mI (mUI M (this + 4) (Int.toNat (mI M this 9)) a1) this 9)) (some a2)) this 9)) a3) this 9)) a4) this 9)) a5) this 2)) this 9) + 1)))) else none) else none) else none) else none) else none) else (some M)))
theorem T_X7_add {G : ax_G} {d : Nat} (hd : 0 ≤ d) (hG : axPs G 150 244) {M : ax_M} {this : Nat} {a1 : Int} {a2 : Nat} {a3 : Int} {a4 : Int} {a5 : Int} (y_this : (this = 157 ∨ this = 194)) (y_a2 : 10 ≤ a2 ∧ a2 < 52) {M1 : ax_M} (hf : fX7_add M this a1 a2 a3 a4 a5 = some M1) : ax_Ex G tX7_add d 0 (ax_args [vR this, vI a1, vR a2, vI a3, vI a4, vI a5] ++ List.replicate 0 none) [] M (.inl none) M1 := by
  show ax_Ex G tX7_add d 0 [some (vR this), some (vI a1), some (vR a2), some (vI a3), some (vI a4), some (vI a5)] [] M _ _
  unfold fX7_add at hf
  refine x_aload_n (pc := 0) dX7_add_0 rfl ?_
  refine x_getI (t := 5) (j := 9) (pc := 1) dX7_add_1 (by rcases y_this with rfl | rfl <;> exact axEx hG rfl) (by rcases y_this with rfl | rfl <;> rfl) (by decide) (by decide) rfl WF_X7_43 ?_
  refine ax_cmp1 (fun b2a b2b => ?_)
  refine x_iflt (tgt := 94) (pc := 4) dX7_add_4 rfl (fun h1 => ?_) (fun h1 => ?_)
  · replace hf := (if_pos h1).symm.trans hf
    cases hf
    exact x_retV (pc := 94) dX7_add_94
  · replace hf := (if_neg (Int.not_lt.mpr h1)).symm.trans hf
    refine x_aload_n (pc := 7) dX7_add_7 rfl ?_
    refine x_getI (t := 5) (j := 9) (pc := 8) dX7_add_8 (by rcases y_this with rfl | rfl <;> exact axEx hG rfl) (by rcases y_this with rfl | rfl <;> rfl) (by decide) (by decide) rfl WF_X7_43 ?_
    refine x_aload_n (pc := 11) dX7_add_11 rfl ?_
    refine x_getF (t := 5) (j := 4) (r := this + 4) (pc := 12) dX7_add_12 (by rcases y_this with rfl | rfl <;> exact axH hG rfl) (by rcases y_this with rfl | rfl <;> exact axEx hG rfl) (by rcases y_this with rfl | rfl <;> rfl) (by decide) (by decide) rfl (by rcases y_this with rfl | rfl <;> rfl) WF_X7_24 ?_
    refine x_alen (t := 0) (n := 16) (pc := 15) dX7_add_15 (by rcases y_this with rfl | rfl <;> exact axEx hG rfl) (by rcases y_this with rfl | rfl <;> rfl) (by decide) (by decide) ?_
    refine ax_cmp (fun b4a b4b b4c b4e => ?_)
    refine x_icmpge (tgt := 94) (pc := 16) dX7_add_16 rfl (fun h3 => ?_) (fun h3 => ?_)
    · replace hf := (if_neg (Int.not_lt.mpr h3)).symm.trans hf
      cases hf
      exact x_retV (pc := 94) dX7_add_94
    · replace hf := (if_pos h3).symm.trans hf
      refine x_aload_n (pc := 19) dX7_add_19 rfl ?_
      refine x_getF (t := 5) (j := 4) (r := this + 4) (pc := 20) dX7_add_20 (by rcases y_this with rfl | rfl <;> exact axH hG rfl) (by rcases y_this with rfl | rfl <;> exact axEx hG rfl) (by rcases y_this with rfl | rfl <;> rfl) (by decide) (by decide) rfl (by rcases y_this with rfl | rfl <;> rfl) WF_X7_24 ?_
      refine x_aload_n (pc := 23) dX7_add_23 rfl ?_
      refine x_getI (t := 5) (j := 9) (pc := 24) dX7_add_24 (by rcases y_this with rfl | rfl <;> exact axEx hG rfl) (by rcases y_this with rfl | rfl <;> rfl) (by decide) (by decide) rfl WF_X7_43 ?_
      refine x_iload_n (pc := 27) dX7_add_27 rfl ?_
      refine x_iast2 (n := 16) (pc := 28) dX7_add_28 (by rcases y_this with rfl | rfl <;> exact axEx hG rfl) (by rcases y_this with rfl | rfl <;> rfl) (by omega) (by omega) ?_
      refine x_aload_n (pc := 29) dX7_add_29 rfl ?_
      refine x_getF (t := 5) (j := 3) (r := this + 3) (pc := 30) dX7_add_30 (by rcases y_this with rfl | rfl <;> exact axH hG rfl) (by rcases y_this with rfl | rfl <;> exact axEx hG rfl) (by rcases y_this with rfl | rfl <;> rfl) (by decide) (by decide) rfl (by rcases y_this with rfl | rfl <;> rfl) WF_X7_21 ?_
      refine x_aload_n (pc := 33) dX7_add_33 rfl ?_
      refine x_getI (t := 5) (j := 9) (pc := 34) dX7_add_34 (by rcases y_this with rfl | rfl <;> exact axEx hG rfl) (by rcases y_this with rfl | rfl <;> rfl) (by decide) (by decide) rfl WF_X7_43 ?_
      refine x_aload_n (pc := 37) dX7_add_37 rfl ?_
      by_cases h5 : 0 ≤ (mI (mUI M (this + 4) (Int.toNat (mI M this 9)) a1) this 9) ∧ (mI (mUI M (this + 4) (Int.toNat (mI M this 9)) a1) this 9) < 16
      · replace hf := (if_pos h5).symm.trans hf
        refine x_aast2 (n := 16) (pc := 38) dX7_add_38 (by rcases y_this with rfl | rfl <;> exact axEx hG rfl) (by rcases y_this with rfl | rfl <;> rfl) h5.1 h5.2 y_a2 (by rcases y_this with rfl | rfl <;> intro j <;> rfl) ?_
        refine x_aload_n (pc := 39) dX7_add_39 rfl ?_
        refine x_getF (t := 5) (j := 5) (r := this + 5) (pc := 40) dX7_add_40 (by rcases y_this with rfl | rfl <;> exact axH hG rfl) (by rcases y_this with rfl | rfl <;> exact axEx hG rfl) (by rcases y_this with rfl | rfl <;> rfl) (by decide) (by decide) rfl (by rcases y_this with rfl | rfl <;> rfl) WF_X7_27 ?_
        refine x_aload_n (pc := 43) dX7_add_43 rfl ?_
        refine x_getI (t := 5) (j := 9) (pc := 44) dX7_add_44 (by rcases y_this with rfl | rfl <;> exact axEx hG rfl) (by rcases y_this with rfl | rfl <;> rfl) (by decide) (by decide) rfl WF_X7_43 ?_
        refine x_iload_n (pc := 47) dX7_add_47 rfl ?_
        by_cases h6 : 0 ≤ (mI (mUR (mUI M (this + 4) (Int.toNat (mI M this 9)) a1) (this + 3) (Int.toNat (mI (mUI M (this + 4) (Int.toNat (mI M this 9)) a1) this 9)) (some a2)) this 9) ∧ (mI (mUR (mUI M (this + 4) (Int.toNat (mI M this 9)) a1) (this + 3) (Int.toNat (mI (mUI M (this + 4) (Int.toNat (mI M this 9)) a1) this 9)) (some a2)) this 9) < 16
        · replace hf := (if_pos h6).symm.trans hf
          refine x_iast2 (n := 16) (pc := 48) dX7_add_48 (by rcases y_this with rfl | rfl <;> exact axEx hG rfl) (by rcases y_this with rfl | rfl <;> rfl) h6.1 h6.2 ?_
          refine x_aload_n (pc := 49) dX7_add_49 rfl ?_
          refine x_getF (t := 5) (j := 6) (r := this + 6) (pc := 50) dX7_add_50 (by rcases y_this with rfl | rfl <;> exact axH hG rfl) (by rcases y_this with rfl | rfl <;> exact axEx hG rfl) (by rcases y_this with rfl | rfl <;> rfl) (by decide) (by decide) rfl (by rcases y_this with rfl | rfl <;> rfl) WF_X7_30 ?_
          refine x_aload_n (pc := 53) dX7_add_53 rfl ?_
          refine x_getI (t := 5) (j := 9) (pc := 54) dX7_add_54 (by rcases y_this with rfl | rfl <;> exact axEx hG rfl) (by rcases y_this with rfl | rfl <;> rfl) (by decide) (by decide) rfl WF_X7_43 ?_
          refine x_iload (pc := 57) dX7_add_57 rfl ?_
          by_cases h7 : 0 ≤ (mI (mUI (mUR (mUI M (this + 4) (Int.toNat (mI M this 9)) a1) (this + 3) (Int.toNat (mI (mUI M (this + 4) (Int.toNat (mI M this 9)) a1) this 9)) (some a2)) (this + 5) (Int.toNat (mI (mUR (mUI M (this + 4) (Int.toNat (mI M this 9)) a1) (this + 3) (Int.toNat (mI (mUI M (this + 4) (Int.toNat (mI M this 9)) a1) this 9)) (some a2)) this 9)) a3) this 9) ∧ (mI (mUI (mUR (mUI M (this + 4) (Int.toNat (mI M this 9)) a1) (this + 3) (Int.toNat (mI (mUI M (this + 4) (Int.toNat (mI M this 9)) a1) this 9)) (some a2)) (this + 5) (Int.toNat (mI (mUR (mUI M (this + 4) (Int.toNat (mI M this 9)) a1) (this + 3) (Int.toNat (mI (mUI M (this + 4) (Int.toNat (mI M this 9)) a1) this 9)) (some a2)) this 9)) a3) this 9) < 16
          · replace hf := (if_pos h7).symm.trans hf
            refine x_iast2 (n := 16) (pc := 59) dX7_add_59 (by rcases y_this with rfl | rfl <;> exact axEx hG rfl) (by rcases y_this with rfl | rfl <;> rfl) h7.1 h7.2 ?_
            refine x_aload_n (pc := 60) dX7_add_60 rfl ?_
            refine x_getF (t := 5) (j := 7) (r := this + 7) (pc := 61) dX7_add_61 (by rcases y_this with rfl | rfl <;> exact axH hG rfl) (by rcases y_this with rfl | rfl <;> exact axEx hG rfl) (by rcases y_this with rfl | rfl <;> rfl) (by decide) (by decide) rfl (by rcases y_this with rfl | rfl <;> rfl) WF_X7_33 ?_
            refine x_aload_n (pc := 64) dX7_add_64 rfl ?_
            refine x_getI (t := 5) (j := 9) (pc := 65) dX7_add_65 (by rcases y_this with rfl | rfl <;> exact axEx hG rfl) (by rcases y_this with rfl | rfl <;> rfl) (by decide) (by decide) rfl WF_X7_43 ?_
            refine x_iload (pc := 68) dX7_add_68 rfl ?_
            by_cases h8 : 0 ≤ (mI (mUI (mUI (mUR (mUI M (this + 4) (Int.toNat (mI M this 9)) a1) (this + 3) (Int.toNat (mI (mUI M (this + 4) (Int.toNat (mI M this 9)) a1) this 9)) (some a2)) (this + 5) (Int.toNat (mI (mUR (mUI M (this + 4) (Int.toNat (mI M this 9)) a1) (this + 3) (Int.toNat (mI (mUI M (this + 4) (Int.toNat (mI M this 9)) a1) this 9)) (some a2)) this 9)) a3) (this + 6) (Int.toNat (mI (mUI (mUR (mUI M (this + 4) (Int.toNat (mI M this 9)) a1) (this + 3) (Int.toNat (mI (mUI M (this + 4) (Int.toNat (mI M this 9)) a1) this 9)) (some a2)) (this + 5) (Int.toNat (mI (mUR (mUI M (this + 4) (Int.toNat (mI M this 9)) a1) (this + 3) (Int.toNat (mI (mUI M (this + 4) (Int.toNat (mI M this 9)) a1) this 9)) (some a2)) this 9)) a3) this 9)) a4) this 9) ∧ (mI (mUI (mUI (mUR (mUI M (this + 4) (Int.toNat (mI M this 9)) a1) (this + 3) (Int.toNat (mI (mUI M (this + 4) (Int.toNat (mI M this 9)) a1) this 9)) (some a2)) (this + 5) (Int.toNat (mI (mUR (mUI M (this + 4) (Int.toNat (mI M this 9)) a1) (this + 3) (Int.toNat (mI (mUI M (this + 4) (Int.toNat (mI M this 9)) a1) this 9)) (some a2)) this 9)) a3) (this + 6) (Int.toNat (mI (mUI (mUR (mUI M (this + 4) (Int.toNat (mI M this 9)) a1) (this + 3) (Int.toNat (mI (mUI M (this + 4) (Int.toNat (mI M this 9)) a1) this 9)) (some a2)) (this + 5) (Int.toNat (mI (mUR (mUI M (this + 4) (Int.toNat (mI M this 9)) a1) (this + 3) (Int.toNat (mI (mUI M (this + 4) (Int.toNat (mI M this 9)) a1) this 9)) (some a2)) this 9)) a3) this 9)) a4) this 9) < 16
            · replace hf := (if_pos h8).symm.trans hf
              refine x_iast2 (n := 16) (pc := 70) dX7_add_70 (by rcases y_this with rfl | rfl <;> exact axEx hG rfl) (by rcases y_this with rfl | rfl <;> rfl) h8.1 h8.2 ?_
              refine x_aload_n (pc := 71) dX7_add_71 rfl ?_
              refine x_getF (t := 5) (j := 8) (r := this + 8) (pc := 72) dX7_add_72 (by rcases y_this with rfl | rfl <;> exact axH hG rfl) (by rcases y_this with rfl | rfl <;> exact axEx hG rfl) (by rcases y_this with rfl | rfl <;> rfl) (by decide) (by decide) rfl (by rcases y_this with rfl | rfl <;> rfl) WF_X7_36 ?_
              refine x_aload_n (pc := 75) dX7_add_75 rfl ?_
              refine x_getI (t := 5) (j := 9) (pc := 76) dX7_add_76 (by rcases y_this with rfl | rfl <;> exact axEx hG rfl) (by rcases y_this with rfl | rfl <;> rfl) (by decide) (by decide) rfl WF_X7_43 ?_
              refine x_aload_n (pc := 79) dX7_add_79 rfl ?_
              refine x_getI (t := 5) (j := 2) (pc := 80) dX7_add_80 (by rcases y_this with rfl | rfl <;> exact axEx hG rfl) (by rcases y_this with rfl | rfl <;> rfl) (by decide) (by decide) rfl WF_X7_39 ?_
              by_cases h9 : 0 ≤ (mI (mUI (mUI (mUI (mUR (mUI M (this + 4) (Int.toNat (mI M this 9)) a1) (this + 3) (Int.toNat (mI (mUI M (this + 4) (Int.toNat (mI M this 9)) a1) this 9)) (some a2)) (this + 5) (Int.toNat (mI (mUR (mUI M (this + 4) (Int.toNat (mI M this 9)) a1) (this + 3) (Int.toNat (mI (mUI M (this + 4) (Int.toNat (mI M this 9)) a1) this 9)) (some a2)) this 9)) a3) (this + 6) (Int.toNat (mI (mUI (mUR (mUI M (this + 4) (Int.toNat (mI M this 9)) a1) (this + 3) (Int.toNat (mI (mUI M (this + 4) (Int.toNat (mI M this 9)) a1) this 9)) (some a2)) (this + 5) (Int.toNat (mI (mUR (mUI M (this + 4) (Int.toNat (mI M this 9)) a1) (this + 3) (Int.toNat (mI (mUI M (this + 4) (Int.toNat (mI M this 9)) a1) this 9)) (some a2)) this 9)) a3) this 9)) a4) (this + 7) (Int.toNat (mI (mUI (mUI (mUR (mUI M (this + 4) (Int.toNat (mI M this 9)) a1) (this + 3) (Int.toNat (mI (mUI M (this + 4) (Int.toNat (mI M this 9)) a1) this 9)) (some a2)) (this + 5) (Int.toNat (mI (mUR (mUI M (this + 4) (Int.toNat (mI M this 9)) a1) (this + 3) (Int.toNat (mI (mUI M (this + 4) (Int.toNat (mI M this 9)) a1) this 9)) (some a2)) this 9)) a3) (this + 6) (Int.toNat (mI (mUI (mUR (mUI M (this + 4) (Int.toNat (mI M this 9)) a1) (this + 3) (Int.toNat (mI (mUI M (this + 4) (Int.toNat (mI M this 9)) a1) this 9)) (some a2)) (this + 5) (Int.toNat (mI (mUR (mUI M (this + 4) (Int.toNat (mI M this 9)) a1) (this + 3) (Int.toNat (mI (mUI M (this + 4) (Int.toNat (mI M this 9)) a1) this 9)) (some a2)) this 9)) a3) this 9)) a4) this 9)) a5) this 9) ∧ (mI (mUI (mUI (mUI (mUR (mUI M (this + 4) (Int.toNat (mI M this 9)) a1) (this + 3) (Int.toNat (mI (mUI M (this + 4) (Int.toNat (mI M this 9)) a1) this 9)) (some a2)) (this + 5) (Int.toNat (mI (mUR (mUI M (this + 4) (Int.toNat (mI M this 9)) a1) (this + 3) (Int.toNat (mI (mUI M (this + 4) (Int.toNat (mI M this 9)) a1) this 9)) (some a2)) this 9)) a3) (this + 6) (Int.toNat (mI (mUI (mUR (mUI M (this + 4) (Int.toNat (mI M this 9)) a1) (this + 3) (Int.toNat (mI (mUI M (this + 4) (Int.toNat (mI M this 9)) a1) this 9)) (some a2)) (this + 5) (Int.toNat (mI (mUR (mUI M (this + 4) (Int.toNat (mI M this 9)) a1) (this + 3) (Int.toNat (mI (mUI M (this + 4) (Int.toNat (mI M this 9)) a1) this 9)) (some a2)) this 9)) a3) this 9)) a4) (this + 7) (Int.toNat (mI (mUI (mUI (mUR (mUI M (this + 4) (Int.toNat (mI M this 9)) a1) (this + 3) (Int.toNat (mI (mUI M (this + 4) (Int.toNat (mI M this 9)) a1) this 9)) (some a2)) (this + 5) (Int.toNat (mI (mUR (mUI M (this + 4) (Int.toNat (mI M this 9)) a1) (this + 3) (Int.toNat (mI (mUI M (this + 4) (Int.toNat (mI M this 9)) a1) this 9)) (some a2)) this 9)) a3) (this + 6) (Int.toNat (mI (mUI (mUR (mUI M (this + 4) (Int.toNat (mI M this 9)) a1) (this + 3) (Int.toNat (mI (mUI M (this + 4) (Int.toNat (mI M this 9)) a1) this 9)) (some a2)) (this + 5) (Int.toNat (mI (mUR (mUI M (this + 4) (Int.toNat (mI M this 9)) a1) (this + 3) (Int.toNat (mI (mUI M (this + 4) (Int.toNat (mI M this 9)) a1) this 9)) (some a2)) this 9)) a3) this 9)) a4) this 9)) a5) this 9) < 16
              · replace hf := (if_pos h9).symm.trans hf
                refine x_iast2 (n := 16) (pc := 83) dX7_add_83 (by rcases y_this with rfl | rfl <;> exact axEx hG rfl) (by rcases y_this with rfl | rfl <;> rfl) h9.1 h9.2 ?_
                refine x_aload_n (pc := 84) dX7_add_84 rfl ?_
                refine x_dup (pc := 85) dX7_add_85 rfl ?_
                refine x_getI (t := 5) (j := 9) (pc := 86) dX7_add_86 (by rcases y_this with rfl | rfl <;> exact axEx hG rfl) (by rcases y_this with rfl | rfl <;> rfl) (by decide) (by decide) rfl WF_X7_43 ?_
                refine x_iconst (pc := 89) dX7_add_89 ⟨by decide, by decide⟩ ?_
                refine x_iaddw (pc := 90) dX7_add_90 ?_
                refine x_putI (t := 5) (j := 9) (pc := 91) dX7_add_91 (by rcases y_this with rfl | rfl <;> exact axEx hG rfl) (by rcases y_this with rfl | rfl <;> rfl) (by decide) (by decide) rfl rfl WF_X7_43 ?_
                cases hf
                exact x_retV (pc := 94) dX7_add_94
              · replace hf := (if_neg h9).symm.trans hf
                cases hf
            · replace hf := (if_neg h8).symm.trans hf
              cases hf
          · replace hf := (if_neg h7).symm.trans hf
            cases hf
        · replace hf := (if_neg h6).symm.trans hf
          cases hf
      · replace hf := (if_neg h5).symm.trans hf
        cases hf
/- HexPond$Plans.count()I -/
def fX7_count (M : ax_M) (this : Nat) : Int :=
  ((mI M this 9))
theorem T_X7_count {G : ax_G} {d : Nat} (hd : 0 ≤ d) (hG : axPs G 150 244) {M : ax_M} {this : Nat} (y_this : (this = 157 ∨ this = 194)) {r : Int} (hf : fX7_count M this = r) : ax_Ex G tX7_count d 0 (ax_args [vR this] ++ List.replicate 0 none) [] M (.inl (some (vI r))) M := by
  show ax_Ex G tX7_count d 0 [some (vR this)] [] M _ _
  unfold fX7_count at hf
  refine x_aload_n (pc := 0) dX7_count_0 rfl ?_
  refine x_getI (t := 5) (j := 9) (pc := 1) dX7_count_1 (by rcases y_this with rfl | rfl <;> exact axEx hG rfl) (by rcases y_this with rfl | rfl <;> rfl) (by decide) (by decide) rfl WF_X7_43 ?_
  subst hf
  exact x_retI (pc := 4) dX7_count_4
/- HexPond$Plans.codeLength()I -/
def fX7_codeLength (M : ax_M) (this : Nat) : Int :=
  ((mI M this 2))
theorem T_X7_codeLength {G : ax_G} {d : Nat} (hd : 0 ≤ d) (hG : axPs G 150 244) {M : ax_M} {this : Nat} (y_this : (this = 157 ∨ this = 194)) {r : Int} (hf : fX7_codeLength M this = r) : ax_Ex G tX7_codeLength d 0 (ax_args [vR this] ++ List.replicate 0 none) [] M (.inl (some (vI r))) M := by
  show ax_Ex G tX7_codeLength d 0 [some (vR this)] [] M _ _
  unfold fX7_codeLength at hf
  refine x_aload_n (pc := 0) dX7_codeLength_0 rfl ?_
  refine x_getI (t := 5) (j := 2) (pc := 1) dX7_codeLength_1 (by rcases y_this with rfl | rfl <;> exact axEx hG rfl) (by rcases y_this with rfl | rfl <;> rfl) (by decide) (by decide) rfl WF_X7_39 ?_
  subst hf
  exact x_retI (pc := 4) dX7_codeLength_4
/- HexPond$Plans.opAt(I)LHexPond$Kind; -/
def fX7_opAt (M : ax_M) (this : Nat) (a1 : Int) : Nat :=
  (if a1 < 0 then (50) else (if a1 < (mI M this 2) then (if a1 < 400 then (oq (mR M (this + 1) (Int.toNat a1)) (50) fun k8 => (k8)) else (50)) else (50)))
theorem T_X7_opAt {G : ax_G} {d : Nat} (hd : 0 ≤ d) (hG : axPs G 150 244) {M : ax_M} {this : Nat} {a1 : Int} (y_this : (this = 157 ∨ this = 194)) {r : Nat} (hf : fX7_opAt M this a1 = r) : ax_Ex G tX7_opAt d 0 (ax_args [vR this, vI a1] ++ List.replicate 1 none) [] M (.inl (some (vR r))) M := by
  show ax_Ex G tX7_opAt d 0 [some (vR this), some (vI a1), none] [] M _ _
  unfold fX7_opAt at hf
  refine x_iload_n (pc := 0) dX7_opAt_0 rfl ?_
  refine ax_cmp1 (fun b2a b2b => ?_)
  refine x_iflt (tgt := 21) (pc := 1) dX7_opAt_1 rfl (fun h1 => ?_) (fun h1 => ?_)
  · replace hf := (if_pos h1).symm.trans hf
    refine x_gets (v := vR 50) _ (pc := 21) dX7_opAt_21 (axS_mem (n := 48) rfl) rfl trivial WF_X7_46 ?_
    subst hf
    exact x_retR (pc := 24) dX7_opAt_24
  · replace hf := (if_neg (Int.not_lt.mpr h1)).symm.trans hf
    refine x_iload_n (pc := 4) dX7_opAt_4 rfl ?_
    refine x_aload_n (pc := 5) dX7_opAt_5 rfl ?_
    refine x_getI (t := 5) (j := 2) (pc := 6) dX7_opAt_6 (by rcases y_this with rfl | rfl <;> exact axEx hG rfl) (by rcases y_this with rfl | rfl <;> rfl) (by decide) (by decide) rfl WF_X7_39 ?_
    refine ax_cmp (fun b4a b4b b4c b4e => ?_)
    refine x_icmpge (tgt := 21) (pc := 9) dX7_opAt_9 rfl (fun h3 => ?_) (fun h3 => ?_)
    · replace hf := (if_neg (Int.not_lt.mpr h3)).symm.trans hf
      refine x_gets (v := vR 50) _ (pc := 21) dX7_opAt_21 (axS_mem (n := 48) rfl) rfl trivial WF_X7_46 ?_
      subst hf
      exact x_retR (pc := 24) dX7_opAt_24
    · replace hf := (if_pos h3).symm.trans hf
      refine x_iload_n (pc := 12) dX7_opAt_12 rfl ?_
      refine x_aload_n (pc := 13) dX7_opAt_13 rfl ?_
      refine x_getF (t := 5) (j := 0) (r := this + 1) (pc := 14) dX7_opAt_14 (by rcases y_this with rfl | rfl <;> exact axH hG rfl) (by rcases y_this with rfl | rfl <;> exact axEx hG rfl) (by rcases y_this with rfl | rfl <;> rfl) (by decide) (by decide) rfl (by rcases y_this with rfl | rfl <;> rfl) WF_X7_11 ?_
      refine x_alen (t := 4) (n := 400) (pc := 17) dX7_opAt_17 (by rcases y_this with rfl | rfl <;> exact axEx hG rfl) (by rcases y_this with rfl | rfl <;> rfl) (by decide) (by decide) ?_
      refine ax_cmp (fun b6a b6b b6c b6e => ?_)
      refine x_icmplt (tgt := 25) (pc := 18) dX7_opAt_18 rfl (fun h5 => ?_) (fun h5 => ?_)
      · replace hf := (if_pos h5).symm.trans hf
        refine x_aload_n (pc := 25) dX7_opAt_25 rfl ?_
        refine x_getF (t := 5) (j := 0) (r := this + 1) (pc := 26) dX7_opAt_26 (by rcases y_this with rfl | rfl <;> exact axH hG rfl) (by rcases y_this with rfl | rfl <;> exact axEx hG rfl) (by rcases y_this with rfl | rfl <;> rfl) (by decide) (by decide) rfl (by rcases y_this with rfl | rfl <;> rfl) WF_X7_11 ?_
        refine x_iload_n (pc := 29) dX7_opAt_29 rfl ?_
        rcases h7 : (mR M (this + 1) (Int.toNat a1)) with _ | k8
        · replace hf := (oq_none h7).symm.trans hf
          refine x_aaldN (n := 400) (pc := 30) dX7_opAt_30 (by rcases y_this with rfl | rfl <;> exact axEx hG rfl) (by rcases y_this with rfl | rfl <;> rfl) (by omega) (by omega) h7 ?_
          refine x_astore_nN (ls' := [some (vR this), some (vI a1), some (vN)]) (pc := 31) dX7_opAt_31 (Nat.le_of_ble_eq_true rfl) rfl rfl ?_
          refine x_aload_nN (pc := 32) dX7_opAt_32 rfl ?_
          refine x_ifnonnullN (pc := 33) dX7_opAt_33 ?_
          refine x_gets (v := vR 50) _ (pc := 36) dX7_opAt_36 (axS_mem (n := 48) rfl) rfl trivial WF_X7_46 ?_
          refine x_goto (tgt := 43) (pc := 39) dX7_opAt_39 rfl ?_
          subst hf
          exact x_retR (pc := 43) dX7_opAt_43
        · replace hf := (oq_some h7).symm.trans hf
          refine x_aaldS (n := 400) (pc := 30) dX7_opAt_30 (by rcases y_this with rfl | rfl <;> exact axEx hG rfl) (by rcases y_this with rfl | rfl <;> rfl) (by omega) (by omega) h7 (by rcases y_this with rfl | rfl <;> rfl) (fun g9 => ?_)
          refine x_astore_n (ls' := [some (vR this), some (vI a1), some (vR k8)]) (pc := 31) dX7_opAt_31 (Nat.le_of_ble_eq_true rfl) rfl rfl ?_
          refine x_aload_n (pc := 32) dX7_opAt_32 rfl ?_
          refine x_ifnonnull (tgt := 42) (pc := 33) dX7_opAt_33 rfl ?_
          refine x_aload_n (pc := 42) dX7_opAt_42 rfl ?_
          subst hf
          exact x_retR (pc := 43) dX7_opAt_43
      · replace hf := (if_neg (Int.not_lt.mpr h5)).symm.trans hf
        refine x_gets (v := vR 50) _ (pc := 21) dX7_opAt_21 (axS_mem (n := 48) rfl) rfl trivial WF_X7_46 ?_
        subst hf
        exact x_retR (pc := 24) dX7_opAt_24
theorem R_X7_opAt {M : ax_M} (g : ax_g M) {this : Nat} {a1 : Int} (y_this : (this = 157 ∨ this = 194)) {r : Nat} (hf : fX7_opAt M this a1 = r) : 10 ≤ r ∧ r < 52 := by
  unfold fX7_opAt at hf
  by_cases h1 : a1 < 0
  · replace hf := (if_pos h1).symm.trans hf
    subst hf
    exact (by decide)
  · replace hf := (if_neg h1).symm.trans hf
    by_cases h3 : a1 < (mI M this 2)
    · replace hf := (if_pos h3).symm.trans hf
      by_cases h5 : a1 < 400
      · replace hf := (if_pos h5).symm.trans hf
        rcases h7 : (mR M (this + 1) (Int.toNat a1)) with _ | k8
        · replace hf := (oq_none h7).symm.trans hf
          subst hf
          exact (by decide)
        · replace hf := (oq_some h7).symm.trans hf
          have g9 := g.2 (this + 1) (by rcases y_this with rfl | rfl <;> rfl) _ _ h7
          subst hf
          exact g9
      · replace hf := (if_neg h5).symm.trans hf
        subst hf
        exact (by decide)
    · replace hf := (if_neg h3).symm.trans hf
      subst hf
      exact (by decide)
/- HexPond$Plans.operandAt(I)I -/
def fX7_operandAt (M : ax_M) (this : Nat) (a1 : Int) : Int :=
  (if a1 < 0 then (0) else (if a1 < 400 then ((mI M (this + 2) (Int.toNat a1))) else (0)))
theorem T_X7_operandAt {G : ax_G} {d : Nat} (hd : 0 ≤ d) (hG : axPs G 150 244) {M : ax_M} {this : Nat} {a1 : Int} (y_this : (this = 157 ∨ this = 194)) {r : Int} (hf : fX7_operandAt M this a1 = r) : ax_Ex G tX7_operandAt d 0 (ax_args [vR this, vI a1] ++ List.replicate 0 none) [] M (.inl (some (vI r))) M := by
  show ax_Ex G tX7_operandAt d 0 [some (vR this), some (vI a1)] [] M _ _
  unfold fX7_operandAt at hf
  refine x_iload_n (pc := 0) dX7_operandAt_0 rfl ?_
  refine ax_cmp1 (fun b2a b2b => ?_)
  refine x_iflt (tgt := 22) (pc := 1) dX7_operandAt_1 rfl (fun h1 => ?_) (fun h1 => ?_)
  · replace hf := (if_pos h1).symm.trans hf
    refine x_iconst (pc := 22) dX7_operandAt_22 ⟨by decide, by decide⟩ ?_
    subst hf
    exact x_retI (pc := 23) dX7_operandAt_23
  · replace hf := (if_neg (Int.not_lt.mpr h1)).symm.trans hf
    refine x_iload_n (pc := 4) dX7_operandAt_4 rfl ?_
    refine x_aload_n (pc := 5) dX7_operandAt_5 rfl ?_
    refine x_getF (t := 5) (j := 1) (r := this + 2) (pc := 6) dX7_operandAt_6 (by rcases y_this with rfl | rfl <;> exact axH hG rfl) (by rcases y_this with rfl | rfl <;> exact axEx hG rfl) (by rcases y_this with rfl | rfl <;> rfl) (by decide) (by decide) rfl (by rcases y_this with rfl | rfl <;> rfl) WF_X7_17 ?_
    refine x_alen (t := 0) (n := 400) (pc := 9) dX7_operandAt_9 (by rcases y_this with rfl | rfl <;> exact axEx hG rfl) (by rcases y_this with rfl | rfl <;> rfl) (by decide) (by decide) ?_
    refine ax_cmp (fun b4a b4b b4c b4e => ?_)
    refine x_icmpge (tgt := 22) (pc := 10) dX7_operandAt_10 rfl (fun h3 => ?_) (fun h3 => ?_)
    · replace hf := (if_neg (Int.not_lt.mpr h3)).symm.trans hf
      refine x_iconst (pc := 22) dX7_operandAt_22 ⟨by decide, by decide⟩ ?_
      subst hf
      exact x_retI (pc := 23) dX7_operandAt_23
    · replace hf := (if_pos h3).symm.trans hf
      refine x_aload_n (pc := 13) dX7_operandAt_13 rfl ?_
      refine x_getF (t := 5) (j := 1) (r := this + 2) (pc := 14) dX7_operandAt_14 (by rcases y_this with rfl | rfl <;> exact axH hG rfl) (by rcases y_this with rfl | rfl <;> exact axEx hG rfl) (by rcases y_this with rfl | rfl <;> rfl) (by decide) (by decide) rfl (by rcases y_this with rfl | rfl <;> rfl) WF_X7_17 ?_
      refine x_iload_n (pc := 17) dX7_operandAt_17 rfl ?_
      refine x_iald2 (n := 400) (pc := 18) dX7_operandAt_18 (by rcases y_this with rfl | rfl <;> exact axEx hG rfl) (by rcases y_this with rfl | rfl <;> rfl) (by omega) (by omega) ?_
      refine x_goto (tgt := 23) (pc := 19) dX7_operandAt_19 rfl ?_
      subst hf
      exact x_retI (pc := 23) dX7_operandAt_23
/- HexPond$Plans.has(I)Z -/
def fX7_has (M : ax_M) (this : Nat) (a1 : Int) : Int :=
  (if a1 < 0 then (0) else (if a1 < (mI M this 9) then (if a1 < 16 then (1) else (0)) else (0)))
theorem T_X7_has {G : ax_G} {d : Nat} (hd : 0 ≤ d) (hG : axPs G 150 244) {M : ax_M} {this : Nat} {a1 : Int} (y_this : (this = 157 ∨ this = 194)) {r : Int} (hf : fX7_has M this a1 = r) : ax_Ex G tX7_has d 0 (ax_args [vR this, vI a1] ++ List.replicate 0 none) [] M (.inl (some (vI r))) M := by
  show ax_Ex G tX7_has d 0 [some (vR this), some (vI a1)] [] M _ _
  unfold fX7_has at hf
  refine x_iload_n (pc := 0) dX7_has_0 rfl ?_
  refine ax_cmp1 (fun b2a b2b => ?_)
  refine x_iflt (tgt := 25) (pc := 1) dX7_has_1 rfl (fun h1 => ?_) (fun h1 => ?_)
  · replace hf := (if_pos h1).symm.trans hf
    refine x_iconst (pc := 25) dX7_has_25 ⟨by decide, by decide⟩ ?_
    subst hf
    exact x_retI (pc := 26) dX7_has_26
  · replace hf := (if_neg (Int.not_lt.mpr h1)).symm.trans hf
    refine x_iload_n (pc := 4) dX7_has_4 rfl ?_
    refine x_aload_n (pc := 5) dX7_has_5 rfl ?_
    refine x_getI (t := 5) (j := 9) (pc := 6) dX7_has_6 (by rcases y_this with rfl | rfl <;> exact axEx hG rfl) (by rcases y_this with rfl | rfl <;> rfl) (by decide) (by decide) rfl WF_X7_43 ?_
    refine ax_cmp (fun b4a b4b b4c b4e => ?_)
    refine x_icmpge (tgt := 25) (pc := 9) dX7_has_9 rfl (fun h3 => ?_) (fun h3 => ?_)
    · replace hf := (if_neg (Int.not_lt.mpr h3)).symm.trans hf
      refine x_iconst (pc := 25) dX7_has_25 ⟨by decide, by decide⟩ ?_
      subst hf
      exact x_retI (pc := 26) dX7_has_26
    · replace hf := (if_pos h3).symm.trans hf
      refine x_iload_n (pc := 12) dX7_has_12 rfl ?_
      refine x_aload_n (pc := 13) dX7_has_13 rfl ?_
      refine x_getF (t := 5) (j := 4) (r := this + 4) (pc := 14) dX7_has_14 (by rcases y_this with rfl | rfl <;> exact axH hG rfl) (by rcases y_this with rfl | rfl <;> exact axEx hG rfl) (by rcases y_this with rfl | rfl <;> rfl) (by decide) (by decide) rfl (by rcases y_this with rfl | rfl <;> rfl) WF_X7_24 ?_
      refine x_alen (t := 0) (n := 16) (pc := 17) dX7_has_17 (by rcases y_this with rfl | rfl <;> exact axEx hG rfl) (by rcases y_this with rfl | rfl <;> rfl) (by decide) (by decide) ?_
      refine ax_cmp (fun b6a b6b b6c b6e => ?_)
      refine x_icmpge (tgt := 25) (pc := 18) dX7_has_18 rfl (fun h5 => ?_) (fun h5 => ?_)
      · replace hf := (if_neg (Int.not_lt.mpr h5)).symm.trans hf
        refine x_iconst (pc := 25) dX7_has_25 ⟨by decide, by decide⟩ ?_
        subst hf
        exact x_retI (pc := 26) dX7_has_26
      · replace hf := (if_pos h5).symm.trans hf
        refine x_iconst (pc := 21) dX7_has_21 ⟨by decide, by decide⟩ ?_
        refine x_goto (tgt := 26) (pc := 22) dX7_has_22 rfl ?_
        subst hf
        exact x_retI (pc := 26) dX7_has_26
theorem Z_X7_has {M : ax_M} {this : Nat} {a1 : Int} {r : Int} (hf : fX7_has M this a1 = r) : r = 0 ∨ r = 1 := by
  unfold fX7_has at hf
  by_cases h1 : a1 < 0
  · replace hf := (if_pos h1).symm.trans hf
    subst hf
    exact Or.inl rfl
  · replace hf := (if_neg h1).symm.trans hf
    by_cases h3 : a1 < (mI M this 9)
    · replace hf := (if_pos h3).symm.trans hf
      by_cases h5 : a1 < 16
      · replace hf := (if_pos h5).symm.trans hf
        subst hf
        exact Or.inr rfl
      · replace hf := (if_neg h5).symm.trans hf
        subst hf
        exact Or.inl rfl
    · replace hf := (if_neg h3).symm.trans hf
      subst hf
      exact Or.inl rfl
/- HexPond$Plans.moveOf(I)LHexPond$Kind; -/
def fX7_moveOf (M : ax_M) (this : Nat) (a1 : Int) : Option Nat :=
  (if (fX7_has M this a1) = 0 then (some 50) else (if 0 ≤ a1 ∧ a1 < 16 then (oq (mR M (this + 3) (Int.toNat a1)) (some 50) fun k4 => (some k4)) else none))
theorem T_X7_moveOf {G : ax_G} {d : Nat} (hd : 1 ≤ d) (hG : axPs G 150 244) {M : ax_M} {this : Nat} {a1 : Int} (y_this : (this = 157 ∨ this = 194)) {r : Nat} (hf : fX7_moveOf M this a1 = some r) : ax_Ex G tX7_moveOf d 0 (ax_args [vR this, vI a1] ++ List.replicate 1 none) [] M (.inl (some (vR r))) M := by
  show ax_Ex G tX7_moveOf d 0 [some (vR this), some (vI a1), none] [] M _ _
  unfold fX7_moveOf at hf
  refine x_aload_n (pc := 0) dX7_moveOf_0 rfl ?_
  refine x_iload_n (pc := 1) dX7_moveOf_1 rfl ?_
  refine x_cr (v := vI (fX7_has M this a1)) (vs := [vR this, vI a1]) (rest := []) (k := 0) rfl (by omega) (ax_caV (pc := 2) dX7_moveOf_2 kX7_has rfl rfl WM_X7_50 WI_X7_has WS_X7_has WN_X7 (ax_rcO (t := 5) (by rcases y_this with rfl | rfl <;> exact axEx hG rfl) (by rcases y_this with rfl | rfl <;> rfl) (by decide)) (Nat.le_of_ble_eq_true rfl)) kX7_has rfl (Z_X7_has rfl) (T_X7_has (by omega) hG y_this rfl) ?_
  refine x_ifne (tgt := 12) (pc := 5) dX7_moveOf_5 rfl (fun h1 => ?_) (fun h1 => ?_)
  · replace hf := (if_neg h1).symm.trans hf
    refine x_aload_n (pc := 12) dX7_moveOf_12 rfl ?_
    refine x_getF (t := 5) (j := 3) (r := this + 3) (pc := 13) dX7_moveOf_13 (by rcases y_this with rfl | rfl <;> exact axH hG rfl) (by rcases y_this with rfl | rfl <;> exact axEx hG rfl) (by rcases y_this with rfl | rfl <;> rfl) (by decide) (by decide) rfl (by rcases y_this with rfl | rfl <;> rfl) WF_X7_21 ?_
    refine x_iload_n (pc := 16) dX7_moveOf_16 rfl ?_
    by_cases h2 : 0 ≤ a1 ∧ a1 < 16
    · replace hf := (if_pos h2).symm.trans hf
      rcases h3 : (mR M (this + 3) (Int.toNat a1)) with _ | k4
      · replace hf := (oq_none h3).symm.trans hf
        refine x_aaldN (n := 16) (pc := 17) dX7_moveOf_17 (by rcases y_this with rfl | rfl <;> exact axEx hG rfl) (by rcases y_this with rfl | rfl <;> rfl) h2.1 h2.2 h3 ?_
        refine x_astore_nN (ls' := [some (vR this), some (vI a1), some (vN)]) (pc := 18) dX7_moveOf_18 (Nat.le_of_ble_eq_true rfl) rfl rfl ?_
        refine x_aload_nN (pc := 19) dX7_moveOf_19 rfl ?_
        refine x_ifnonnullN (pc := 20) dX7_moveOf_20 ?_
        refine x_gets (v := vR 50) _ (pc := 23) dX7_moveOf_23 (axS_mem (n := 48) rfl) rfl trivial WF_X7_46 ?_
        refine x_goto (tgt := 30) (pc := 26) dX7_moveOf_26 rfl ?_
        cases hf
        exact x_retR (pc := 30) dX7_moveOf_30
      · replace hf := (oq_some h3).symm.trans hf
        refine x_aaldS (n := 16) (pc := 17) dX7_moveOf_17 (by rcases y_this with rfl | rfl <;> exact axEx hG rfl) (by rcases y_this with rfl | rfl <;> rfl) h2.1 h2.2 h3 (by rcases y_this with rfl | rfl <;> rfl) (fun g5 => ?_)
        refine x_astore_n (ls' := [some (vR this), some (vI a1), some (vR k4)]) (pc := 18) dX7_moveOf_18 (Nat.le_of_ble_eq_true rfl) rfl rfl ?_
        refine x_aload_n (pc := 19) dX7_moveOf_19 rfl ?_
        refine x_ifnonnull (tgt := 29) (pc := 20) dX7_moveOf_20 rfl ?_
        refine x_aload_n (pc := 29) dX7_moveOf_29 rfl ?_
        cases hf
        exact x_retR (pc := 30) dX7_moveOf_30
    · replace hf := (if_neg h2).symm.trans hf
      cases hf
  · replace hf := (if_pos h1).symm.trans hf
    refine x_gets (v := vR 50) _ (pc := 8) dX7_moveOf_8 (axS_mem (n := 48) rfl) rfl trivial WF_X7_46 ?_
    cases hf
    exact x_retR (pc := 11) dX7_moveOf_11
theorem R_X7_moveOf {M : ax_M} (g : ax_g M) {this : Nat} {a1 : Int} (y_this : (this = 157 ∨ this = 194)) {r : Nat} (hf : fX7_moveOf M this a1 = some r) : 10 ≤ r ∧ r < 52 := by
  unfold fX7_moveOf at hf
  by_cases h1 : (fX7_has M this a1) = 0
  · replace hf := (if_pos h1).symm.trans hf
    cases hf
    exact (by decide)
  · replace hf := (if_neg h1).symm.trans hf
    by_cases h2 : 0 ≤ a1 ∧ a1 < 16
    · replace hf := (if_pos h2).symm.trans hf
      rcases h3 : (mR M (this + 3) (Int.toNat a1)) with _ | k4
      · replace hf := (oq_none h3).symm.trans hf
        cases hf
        exact (by decide)
      · replace hf := (oq_some h3).symm.trans hf
        have g5 := g.2 (this + 3) (by rcases y_this with rfl | rfl <;> rfl) _ _ h3
        cases hf
        exact g5
    · replace hf := (if_neg h2).symm.trans hf
      cases hf
/- HexPond$Plans.playerOf(I)I -/
def fX7_playerOf (M : ax_M) (this : Nat) (a1 : Int) : Option Int :=
  (if (fX7_has M this a1) = 0 then (some (-1)) else (if 0 ≤ a1 ∧ a1 < 16 then (some (mI M (this + 4) (Int.toNat a1))) else none))
theorem T_X7_playerOf {G : ax_G} {d : Nat} (hd : 1 ≤ d) (hG : axPs G 150 244) {M : ax_M} {this : Nat} {a1 : Int} (y_this : (this = 157 ∨ this = 194)) {r : Int} (hf : fX7_playerOf M this a1 = some r) : ax_Ex G tX7_playerOf d 0 (ax_args [vR this, vI a1] ++ List.replicate 0 none) [] M (.inl (some (vI r))) M := by
  show ax_Ex G tX7_playerOf d 0 [some (vR this), some (vI a1)] [] M _ _
  unfold fX7_playerOf at hf
  refine x_aload_n (pc := 0) dX7_playerOf_0 rfl ?_
  refine x_iload_n (pc := 1) dX7_playerOf_1 rfl ?_
  refine x_cr (v := vI (fX7_has M this a1)) (vs := [vR this, vI a1]) (rest := []) (k := 0) rfl (by omega) (ax_caV (pc := 2) dX7_playerOf_2 kX7_has rfl rfl WM_X7_50 WI_X7_has WS_X7_has WN_X7 (ax_rcO (t := 5) (by rcases y_this with rfl | rfl <;> exact axEx hG rfl) (by rcases y_this with rfl | rfl <;> rfl) (by decide)) (Nat.le_of_ble_eq_true rfl)) kX7_has rfl (Z_X7_has rfl) (T_X7_has (by omega) hG y_this rfl) ?_
  refine x_ifeq (tgt := 17) (pc := 5) dX7_playerOf_5 rfl (fun h1 => ?_) (fun h1 => ?_)
  · replace hf := (if_pos h1).symm.trans hf
    refine x_iconst (pc := 17) dX7_playerOf_17 ⟨by decide, by decide⟩ ?_
    cases hf
    exact x_retI (pc := 18) dX7_playerOf_18
  · replace hf := (if_neg h1).symm.trans hf
    refine x_aload_n (pc := 8) dX7_playerOf_8 rfl ?_
    refine x_getF (t := 5) (j := 4) (r := this + 4) (pc := 9) dX7_playerOf_9 (by rcases y_this with rfl | rfl <;> exact axH hG rfl) (by rcases y_this with rfl | rfl <;> exact axEx hG rfl) (by rcases y_this with rfl | rfl <;> rfl) (by decide) (by decide) rfl (by rcases y_this with rfl | rfl <;> rfl) WF_X7_24 ?_
    refine x_iload_n (pc := 12) dX7_playerOf_12 rfl ?_
    by_cases h2 : 0 ≤ a1 ∧ a1 < 16
    · replace hf := (if_pos h2).symm.trans hf
      refine x_iald2 (n := 16) (pc := 13) dX7_playerOf_13 (by rcases y_this with rfl | rfl <;> exact axEx hG rfl) (by rcases y_this with rfl | rfl <;> rfl) h2.1 h2.2 ?_
      refine x_goto (tgt := 18) (pc := 14) dX7_playerOf_14 rfl ?_
      cases hf
      exact x_retI (pc := 18) dX7_playerOf_18
    · replace hf := (if_neg h2).symm.trans hf
      cases hf
/- HexPond$Plans.columnStart(I)I -/
def fX7_columnStart (M : ax_M) (this : Nat) (a1 : Int) : Option Int :=
  (if (fX7_has M this a1) = 0 then (some 0) else (if 0 ≤ a1 ∧ a1 < 16 then (some (mI M (this + 5) (Int.toNat a1))) else none))
theorem T_X7_columnStart {G : ax_G} {d : Nat} (hd : 1 ≤ d) (hG : axPs G 150 244) {M : ax_M} {this : Nat} {a1 : Int} (y_this : (this = 157 ∨ this = 194)) {r : Int} (hf : fX7_columnStart M this a1 = some r) : ax_Ex G tX7_columnStart d 0 (ax_args [vR this, vI a1] ++ List.replicate 0 none) [] M (.inl (some (vI r))) M := by
  show ax_Ex G tX7_columnStart d 0 [some (vR this), some (vI a1)] [] M _ _
  unfold fX7_columnStart at hf
  refine x_aload_n (pc := 0) dX7_columnStart_0 rfl ?_
  refine x_iload_n (pc := 1) dX7_columnStart_1 rfl ?_
  refine x_cr (v := vI (fX7_has M this a1)) (vs := [vR this, vI a1]) (rest := []) (k := 0) rfl (by omega) (ax_caV (pc := 2) dX7_columnStart_2 kX7_has rfl rfl WM_X7_50 WI_X7_has WS_X7_has WN_X7 (ax_rcO (t := 5) (by rcases y_this with rfl | rfl <;> exact axEx hG rfl) (by rcases y_this with rfl | rfl <;> rfl) (by decide)) (Nat.le_of_ble_eq_true rfl)) kX7_has rfl (Z_X7_has rfl) (T_X7_has (by omega) hG y_this rfl) ?_
  refine x_ifeq (tgt := 17) (pc := 5) dX7_columnStart_5 rfl (fun h1 => ?_) (fun h1 => ?_)
  · replace hf := (if_pos h1).symm.trans hf
    refine x_iconst (pc := 17) dX7_columnStart_17 ⟨by decide, by decide⟩ ?_
    cases hf
    exact x_retI (pc := 18) dX7_columnStart_18
  · replace hf := (if_neg h1).symm.trans hf
    refine x_aload_n (pc := 8) dX7_columnStart_8 rfl ?_
    refine x_getF (t := 5) (j := 5) (r := this + 5) (pc := 9) dX7_columnStart_9 (by rcases y_this with rfl | rfl <;> exact axH hG rfl) (by rcases y_this with rfl | rfl <;> exact axEx hG rfl) (by rcases y_this with rfl | rfl <;> rfl) (by decide) (by decide) rfl (by rcases y_this with rfl | rfl <;> rfl) WF_X7_27 ?_
    refine x_iload_n (pc := 12) dX7_columnStart_12 rfl ?_
    by_cases h2 : 0 ≤ a1 ∧ a1 < 16
    · replace hf := (if_pos h2).symm.trans hf
      refine x_iald2 (n := 16) (pc := 13) dX7_columnStart_13 (by rcases y_this with rfl | rfl <;> exact axEx hG rfl) (by rcases y_this with rfl | rfl <;> rfl) h2.1 h2.2 ?_
      refine x_goto (tgt := 18) (pc := 14) dX7_columnStart_14 rfl ?_
      cases hf
      exact x_retI (pc := 18) dX7_columnStart_18
    · replace hf := (if_neg h2).symm.trans hf
      cases hf
/- HexPond$Plans.rowStart(I)I -/
def fX7_rowStart (M : ax_M) (this : Nat) (a1 : Int) : Option Int :=
  (if (fX7_has M this a1) = 0 then (some 0) else (if 0 ≤ a1 ∧ a1 < 16 then (some (mI M (this + 6) (Int.toNat a1))) else none))
theorem T_X7_rowStart {G : ax_G} {d : Nat} (hd : 1 ≤ d) (hG : axPs G 150 244) {M : ax_M} {this : Nat} {a1 : Int} (y_this : (this = 157 ∨ this = 194)) {r : Int} (hf : fX7_rowStart M this a1 = some r) : ax_Ex G tX7_rowStart d 0 (ax_args [vR this, vI a1] ++ List.replicate 0 none) [] M (.inl (some (vI r))) M := by
  show ax_Ex G tX7_rowStart d 0 [some (vR this), some (vI a1)] [] M _ _
  unfold fX7_rowStart at hf
  refine x_aload_n (pc := 0) dX7_rowStart_0 rfl ?_
  refine x_iload_n (pc := 1) dX7_rowStart_1 rfl ?_
  refine x_cr (v := vI (fX7_has M this a1)) (vs := [vR this, vI a1]) (rest := []) (k := 0) rfl (by omega) (ax_caV (pc := 2) dX7_rowStart_2 kX7_has rfl rfl WM_X7_50 WI_X7_has WS_X7_has WN_X7 (ax_rcO (t := 5) (by rcases y_this with rfl | rfl <;> exact axEx hG rfl) (by rcases y_this with rfl | rfl <;> rfl) (by decide)) (Nat.le_of_ble_eq_true rfl)) kX7_has rfl (Z_X7_has rfl) (T_X7_has (by omega) hG y_this rfl) ?_
  refine x_ifeq (tgt := 17) (pc := 5) dX7_rowStart_5 rfl (fun h1 => ?_) (fun h1 => ?_)
  · replace hf := (if_pos h1).symm.trans hf
    refine x_iconst (pc := 17) dX7_rowStart_17 ⟨by decide, by decide⟩ ?_
    cases hf
    exact x_retI (pc := 18) dX7_rowStart_18
  · replace hf := (if_neg h1).symm.trans hf
    refine x_aload_n (pc := 8) dX7_rowStart_8 rfl ?_
    refine x_getF (t := 5) (j := 6) (r := this + 6) (pc := 9) dX7_rowStart_9 (by rcases y_this with rfl | rfl <;> exact axH hG rfl) (by rcases y_this with rfl | rfl <;> exact axEx hG rfl) (by rcases y_this with rfl | rfl <;> rfl) (by decide) (by decide) rfl (by rcases y_this with rfl | rfl <;> rfl) WF_X7_30 ?_
    refine x_iload_n (pc := 12) dX7_rowStart_12 rfl ?_
    by_cases h2 : 0 ≤ a1 ∧ a1 < 16
    · replace hf := (if_pos h2).symm.trans hf
      refine x_iald2 (n := 16) (pc := 13) dX7_rowStart_13 (by rcases y_this with rfl | rfl <;> exact axEx hG rfl) (by rcases y_this with rfl | rfl <;> rfl) h2.1 h2.2 ?_
      refine x_goto (tgt := 18) (pc := 14) dX7_rowStart_14 rfl ?_
      cases hf
      exact x_retI (pc := 18) dX7_rowStart_18
    · replace hf := (if_neg h2).symm.trans hf
      cases hf
/- HexPond$Plans.testStart(I)I -/
def fX7_testStart (M : ax_M) (this : Nat) (a1 : Int) : Option Int :=
  (if (fX7_has M this a1) = 0 then (some 0) else (if 0 ≤ a1 ∧ a1 < 16 then (some (mI M (this + 7) (Int.toNat a1))) else none))
theorem T_X7_testStart {G : ax_G} {d : Nat} (hd : 1 ≤ d) (hG : axPs G 150 244) {M : ax_M} {this : Nat} {a1 : Int} (y_this : (this = 157 ∨ this = 194)) {r : Int} (hf : fX7_testStart M this a1 = some r) : ax_Ex G tX7_testStart d 0 (ax_args [vR this, vI a1] ++ List.replicate 0 none) [] M (.inl (some (vI r))) M := by
  show ax_Ex G tX7_testStart d 0 [some (vR this), some (vI a1)] [] M _ _
  unfold fX7_testStart at hf
  refine x_aload_n (pc := 0) dX7_testStart_0 rfl ?_
  refine x_iload_n (pc := 1) dX7_testStart_1 rfl ?_
  refine x_cr (v := vI (fX7_has M this a1)) (vs := [vR this, vI a1]) (rest := []) (k := 0) rfl (by omega) (ax_caV (pc := 2) dX7_testStart_2 kX7_has rfl rfl WM_X7_50 WI_X7_has WS_X7_has WN_X7 (ax_rcO (t := 5) (by rcases y_this with rfl | rfl <;> exact axEx hG rfl) (by rcases y_this with rfl | rfl <;> rfl) (by decide)) (Nat.le_of_ble_eq_true rfl)) kX7_has rfl (Z_X7_has rfl) (T_X7_has (by omega) hG y_this rfl) ?_
  refine x_ifeq (tgt := 17) (pc := 5) dX7_testStart_5 rfl (fun h1 => ?_) (fun h1 => ?_)
  · replace hf := (if_pos h1).symm.trans hf
    refine x_iconst (pc := 17) dX7_testStart_17 ⟨by decide, by decide⟩ ?_
    cases hf
    exact x_retI (pc := 18) dX7_testStart_18
  · replace hf := (if_neg h1).symm.trans hf
    refine x_aload_n (pc := 8) dX7_testStart_8 rfl ?_
    refine x_getF (t := 5) (j := 7) (r := this + 7) (pc := 9) dX7_testStart_9 (by rcases y_this with rfl | rfl <;> exact axH hG rfl) (by rcases y_this with rfl | rfl <;> exact axEx hG rfl) (by rcases y_this with rfl | rfl <;> rfl) (by decide) (by decide) rfl (by rcases y_this with rfl | rfl <;> rfl) WF_X7_33 ?_
    refine x_iload_n (pc := 12) dX7_testStart_12 rfl ?_
    by_cases h2 : 0 ≤ a1 ∧ a1 < 16
    · replace hf := (if_pos h2).symm.trans hf
      refine x_iald2 (n := 16) (pc := 13) dX7_testStart_13 (by rcases y_this with rfl | rfl <;> exact axEx hG rfl) (by rcases y_this with rfl | rfl <;> rfl) h2.1 h2.2 ?_
      refine x_goto (tgt := 18) (pc := 14) dX7_testStart_14 rfl ?_
      cases hf
      exact x_retI (pc := 18) dX7_testStart_18
    · replace hf := (if_neg h2).symm.trans hf
      cases hf
/- HexPond$Plans.end(I)I -/
def fX7_end (M : ax_M) (this : Nat) (a1 : Int) : Option Int :=
  (if (fX7_has M this a1) = 0 then (some 0) else (if 0 ≤ a1 ∧ a1 < 16 then (some (mI M (this + 8) (Int.toNat a1))) else none))
theorem T_X7_end {G : ax_G} {d : Nat} (hd : 1 ≤ d) (hG : axPs G 150 244) {M : ax_M} {this : Nat} {a1 : Int} (y_this : (this = 157 ∨ this = 194)) {r : Int} (hf : fX7_end M this a1 = some r) : ax_Ex G tX7_end d 0 (ax_args [vR this, vI a1] ++ List.replicate 0 none) [] M (.inl (some (vI r))) M := by
  show ax_Ex G tX7_end d 0 [some (vR this), some (vI a1)] [] M _ _
  unfold fX7_end at hf
  refine x_aload_n (pc := 0) dX7_end_0 rfl ?_
  refine x_iload_n (pc := 1) dX7_end_1 rfl ?_
  refine x_cr (v := vI (fX7_has M this a1)) (vs := [vR this, vI a1]) (rest := []) (k := 0) rfl (by omega) (ax_caV (pc := 2) dX7_end_2 kX7_has rfl rfl WM_X7_50 WI_X7_has WS_X7_has WN_X7 (ax_rcO (t := 5) (by rcases y_this with rfl | rfl <;> exact axEx hG rfl) (by rcases y_this with rfl | rfl <;> rfl) (by decide)) (Nat.le_of_ble_eq_true rfl)) kX7_has rfl (Z_X7_has rfl) (T_X7_has (by omega) hG y_this rfl) ?_
  refine x_ifeq (tgt := 17) (pc := 5) dX7_end_5 rfl (fun h1 => ?_) (fun h1 => ?_)
  · replace hf := (if_pos h1).symm.trans hf
    refine x_iconst (pc := 17) dX7_end_17 ⟨by decide, by decide⟩ ?_
    cases hf
    exact x_retI (pc := 18) dX7_end_18
  · replace hf := (if_neg h1).symm.trans hf
    refine x_aload_n (pc := 8) dX7_end_8 rfl ?_
    refine x_getF (t := 5) (j := 8) (r := this + 8) (pc := 9) dX7_end_9 (by rcases y_this with rfl | rfl <;> exact axH hG rfl) (by rcases y_this with rfl | rfl <;> exact axEx hG rfl) (by rcases y_this with rfl | rfl <;> rfl) (by decide) (by decide) rfl (by rcases y_this with rfl | rfl <;> rfl) WF_X7_36 ?_
    refine x_iload_n (pc := 12) dX7_end_12 rfl ?_
    by_cases h2 : 0 ≤ a1 ∧ a1 < 16
    · replace hf := (if_pos h2).symm.trans hf
      refine x_iald2 (n := 16) (pc := 13) dX7_end_13 (by rcases y_this with rfl | rfl <;> exact axEx hG rfl) (by rcases y_this with rfl | rfl <;> rfl) h2.1 h2.2 ?_
      refine x_goto (tgt := 18) (pc := 14) dX7_end_14 rfl ?_
      cases hf
      exact x_retI (pc := 18) dX7_end_18
    · replace hf := (if_neg h2).symm.trans hf
      cases hf
