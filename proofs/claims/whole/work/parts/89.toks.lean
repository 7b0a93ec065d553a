/-! part C: the tokens of a tape, as the grammar has them -/
section TKS
variable {b : Int → Int} {T : Int} {n : Nat} {M B : ax_M}
theorem tk_kind (A : gTokA M b T n) {t : Nat} (ht : t < n) : fX10_kindOf M (t : Int) = gkk b T t := by
  obtain ⟨hL, h3, hA⟩ := A
  have h4 := hL.2.1
  unfold fX10_kindOf
  rw [if_neg (show ¬ (t : Int) < 0 by omega), h3, if_pos (show (t : Int) < (n : Int) by omega), if_pos (show (t : Int) < 401 by omega), show Int.toNat (t : Int) = t from rfl, (hA t ht).1]
  rfl
theorem tk_out (A : gTokA M b T n) {t : Int} (ht : t < 0 ∨ (n : Int) ≤ t) : fX10_kindOf M t = 49 := by
  obtain ⟨hL, h3, hA⟩ := A
  unfold fX10_kindOf
  by_cases z : t < 0
  · rw [if_pos z]
  · rw [if_neg z, h3, if_neg (show ¬ t < (n : Int) by omega)]
theorem tk_val (A : gTokA M b T n) {t : Nat} (ht : t < n) : fX10_valueOf M (t : Int) = gvv b T t := by
  obtain ⟨hL, h3, hA⟩ := A
  have h4 := hL.2.1
  unfold fX10_valueOf
  rw [if_neg (show ¬ (t : Int) < 0 by omega), if_pos (show (t : Int) < 401 by omega), show Int.toNat (t : Int) = t from rfl, (hA t ht).2.2]
theorem tk_start (A : gTokA M b T n) {t : Nat} (ht : t < n) : fX10_startOf M (t : Int) = gS0 b t := by
  obtain ⟨hL, h3, hA⟩ := A
  have h4 := hL.2.1
  unfold fX10_startOf
  rw [if_neg (show ¬ (t : Int) < 0 by omega), if_pos (show (t : Int) < 401 by omega), show Int.toNat (t : Int) = t from rfl, (hA t ht).2.1]
theorem tk_48 (hT : gT0 b T) (hL : gLast b T n) {t : Nat} (ht : t < n) (k : gkk b T t = 48) : 0 ≤ gvv b T t ∧ gvv b T t ≤ 999999 := by
  have s0 := (gS0_b hT t (fun i hi => gS_mid hT hL i (by omega))).1
  have kc : gkc b T (gS0 b t) = 48 := by
    unfold gkk at k
    by_cases z : t = 400 ∧ gkc b T (gS0 b t) ≠ 49
    · rw [if_pos z] at k; omega
    · rw [if_neg z] at k; exact k
  unfold gvv
  rw [if_pos k]
  generalize gS0 b t = s at s0 kc ⊢
  unfold gkc at kc
  by_cases s1 : T ≤ s
  · rw [if_pos s1] at kc; omega
  · rw [if_neg s1] at kc
    have ge := gen_b hT s0 (show s < T by omega)
    by_cases hd : gdg (b s) = true
    · rw [if_pos hd] at kc
      by_cases h6 : gen b s - s ≤ 6
      · have run := gdg_run hT s0 (show s < T by omega) hd (gdg_lt hd)
        exact gnm_b6 (by omega) (fun i hi => run _ (by omega) (by omega))
      · rw [if_neg h6] at kc; omega
    · exfalso
      rw [if_neg hd] at kc
      cases e : gff (gwl b (gen b s - s).toNat s) 42 with
      | none => rw [e] at kc; revert kc; decide
      | some i =>
        rw [e] at kc
        have kc : 10 + i = 48 := kc
        have := gff_t e ge.1
        omega
theorem tk_st (hT : gT0 b T) (A : gTokA M b T n) : gSt (fX10_kindOf M) (fX10_valueOf M) n := by
  have hL := A.1
  have hL' := hL
  obtain ⟨l1, l2, l3, l4⟩ := hL'
  refine ⟨by omega, by omega, fun t t0 t1 => ?_, ?_, fun t ht => ?_⟩
  · obtain ⟨i, rfl⟩ : ∃ i : Nat, t = (i : Int) := ⟨t.toNat, by omega⟩
    have g := gk_mid hT hL (gS_mid hT hL) (t := i) (by omega)
    rw [tk_kind A (by omega)]
    exact ⟨g.2.2.1, g.2.2.2.1⟩
  · rw [show (n : Int) - 1 = ((n - 1 : Nat) : Int) by omega, tk_kind A (by omega)]
    exact l3
  · by_cases z : t < 0 ∨ (n : Int) ≤ t
    · rw [tk_out A z] at ht; omega
    · obtain ⟨i, rfl⟩ : ∃ i : Nat, t = (i : Int) := ⟨t.toNat, by omega⟩
      rw [tk_kind A (by omega)] at ht
      rw [tk_val A (by omega)]
      exact tk_48 hT hL (by omega) ht
theorem tk_mb (A : gTokA M b T n) (H : gTokB B b T n) : gMB (fX10_kindOf M) (fX10_valueOf M) n B := by
  have hL := A.1
  obtain ⟨l1, l2, l3, l4⟩ := hL
  obtain ⟨h1, h2, h3⟩ := H
  refine ⟨fun t t0 t1 => ?_, ?_, fun t t0 t1 k => ?_⟩
  · obtain ⟨i, rfl⟩ : ∃ i : Nat, t = (i : Int) := ⟨t.toNat, by omega⟩
    rw [tk_kind A (by omega)]
    exact (h1 i (by omega)).1
  · rw [show (n : Int) - 1 = ((n - 1 : Nat) : Int) by omega, tk_kind A (by omega)]
    exact h2
  · obtain ⟨i, rfl⟩ : ∃ i : Nat, t = (i : Int) := ⟨t.toNat, by omega⟩
    rw [tk_kind A (by omega)] at k
    rw [tk_val A (by omega)]
    by_cases e : i + 1 < n
    · exact (h1 i e).2.2 k
    · exfalso
      rw [show i = n - 1 by omega] at k
      omega
theorem tk_pos (H : gTokB B b T n) {t : Nat} (ht : t < n) : mI B 207 t = gS0 b t := by
  by_cases e : t + 1 < n
  · exact (H.1 t e).2.1
  · rw [show t = n - 1 by omega]; exact H.2.2
end TKS
