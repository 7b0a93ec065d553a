/-! part C: the pond's beginning -/
theorem lpN_6 : 6 < lpN := by unfold lpN; omega
/-- the cell of a pond of w columns and h rows -/
def gCell (w h a b : Int) : Int := if 0 ≤ a ∧ a < w ∧ 0 ≤ b ∧ b < h then w * b + a else -1
theorem C_cellAt {M : ax_M} {w h : Int} (hw : mI M 169 0 = w) (hh : mI M 169 1 = h) (w1 : w ≤ 9) (h1 : h ≤ 9) (a b : Int) : fX8_cellAt M a b = gCell w h a b := by
  unfold fX8_cellAt gCell
  rw [hw, hh]
  by_cases ha : a < 0
  · rw [if_pos ha, if_neg (by omega)]
  · rw [if_neg ha]
    by_cases ha2 : a < w
    · rw [if_pos ha2]
      by_cases hb : b < 0
      · rw [if_pos hb, if_neg (by omega)]
      · rw [if_neg hb]
        by_cases hb2 : b < h
        · rw [if_pos hb2, if_pos ⟨by omega, ha2, by omega, hb2⟩]
          have h2 : 0 ≤ w * b := Int.mul_nonneg (by omega) (by omega)
          have h3 : w * b ≤ 9 * 9 := Int.mul_le_mul w1 (by omega) (by omega) (by omega)
          rw [wr_eq (x := w * b) (by omega) (by omega), wr_eq (by omega) (by omega)]
        · rw [if_neg hb2, if_neg (by omega)]
    · rw [if_neg ha2, if_neg (by omega)]
