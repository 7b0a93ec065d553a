/-! part C: one line of a game, in step: what a plan's line begins with -/
section LPP
variable {q : Nat} {kd : Int → Nat} {vl : Int → Int} {n : Int} {A B A1 B1 B' A' : ax_M} {t c d x p : Int}
theorem gPj.s {i : Nat} (z1 : gPj q A B i) (ga : ∀ k j : Nat, q + 1 ≤ k → k ≤ q + 8 → mI A' k j = mI A k j ∧ mR A' k j = mR A k j) (gb : ∀ k j : Nat, 222 ≤ k → k ≤ 231 → mI B' k j = mI B k j) : gPj q A' B' i := by
  obtain ⟨K, v, a, c1, c2, c3, h1, h2, h3, h4, h6, h7, ⟨e1, e2, e3, e4⟩, ⟨e5, e6⟩, ⟨b0, b1, b2, b3, b4⟩, o, o2⟩ := z1
  have gop' : gop q A' = gop q A := funext (fun j => by show (mR A' (q + 1) j.toNat).getD 50 = _; rw [(ga (q + 1) j.toNat (by omega) (by omega)).2])
  have god' : god q A' = god q A := funext (fun j => (ga (q + 2) j.toNat (by omega) (by omega)).1)
  have gS' : gnS B' = gnS B := funext (fun j => gb _ _ (by omega) (by omega))
  have gL' : gnL B' = gnL B := funext (fun j => gb _ _ (by omega) (by omega))
  have gR' : gnR B' = gnR B := funext (fun j => gb _ _ (by omega) (by omega))
  have ex : ∀ lo a b, gXp q A B lo a b → gXp q A' B' lo a b := fun lo a b H => by
    unfold gXp at H ⊢
    rw [gop', god', gS', gL', gR']
    exact H
  refine ⟨K, v, a, c1, c2, c3, (ga _ _ (by omega) (by omega)).2.trans h1, h2, (gb _ _ (by omega) (by omega)).trans h3, (ga _ _ (by omega) (by omega)).1.trans h4, (gb _ _ (by omega) (by omega)).trans h6, h7, ⟨(ga _ _ (by omega) (by omega)).1.trans e1, (ga _ _ (by omega) (by omega)).1.trans e2, (ga _ _ (by omega) (by omega)).1.trans e3, (ga _ _ (by omega) (by omega)).1.trans e4⟩, ⟨(gb _ _ (by omega) (by omega)).trans e5, (gb _ _ (by omega) (by omega)).trans e6⟩, ⟨b0, b1, b2, b3, b4⟩, ?_, ?_⟩
  · rcases o with ⟨k, x1, x2, x3, x4⟩ | k
    · exact Or.inl ⟨k, ex _ _ _ x1, (gb _ _ (by omega) (by omega)).trans x2, ex _ _ _ x3, (gb _ _ (by omega) (by omega)).trans x4⟩
    · exact Or.inr k
  · rcases o2 with ⟨x1, x2⟩ | ⟨x1, x2⟩
    · exact Or.inl ⟨(gb _ _ (by omega) (by omega)).trans x1, x2⟩
    · exact Or.inr ⟨ex _ _ _ x1, (gb _ _ (by omega) (by omega)).trans x2⟩
abbrev bPm (B : ax_M) (p t : Int) : ax_M := if p = 16 then bMk B 4 t else B
theorem bPm_get (B : ax_M) (p t : Int) {k j : Nat} (h : k ≠ 203 ∨ (j ≠ 9 ∧ j ≠ 10)) : mI (bPm B p t) k j = mI B k j := by
  by_cases z : p = 16
  · rw [show bPm B p t = bMk B 4 t from if_pos z]; exact bMk_get B 4 t h
  · rw [show bPm B p t = B from if_neg z]
/-- a plan is counted -/
theorem L_cnt (t0 : 0 ≤ t) (k0 : kd t = 13) (K : gMk kd vl t B) (hp : mI B 220 3 = p) (p0 : 0 ≤ p) (h16 : 16 < p → mI B 203 9 ≠ 0) : gMk kd vl (t + 1) (mUI (bT (bPm B p t) (t + 1)) 220 3 (p + 1)) ∧ (16 ≤ p → mI (mUI (bT (bPm B p t) (t + 1)) 220 3 (p + 1)) 203 9 ≠ 0) := by
  have g9 : mI (mUI (bT (bPm B p t) (t + 1)) 220 3 (p + 1)) 203 9 = mI (bPm B p t) 203 9 := by rw [mI_Un (by omega), mI_Un (by omega)]
  have g10 : mI (mUI (bT (bPm B p t) (t + 1)) 220 3 (p + 1)) 203 10 = mI (bPm B p t) 203 10 := by rw [mI_Un (by omega), mI_Un (by omega)]
  constructor
  · refine gMk_step t0 K (fun z => ?_) (fun z => ?_)
    · have h9 : mI B 203 9 ≠ 0 := by rw [K.1]; exact z
      have eb : bPm B p t = B := by
        by_cases y : p = 16
        · rw [show bPm B p t = bMk B 4 t from if_pos y, bMk_1 h9]
        · exact if_neg y
      rw [g9, g10, eb]
      exact ⟨rfl, rfl⟩
    · have h9 : mI B 203 9 = 0 := K.1.trans z
      have Q := K.2.2 z
      generalize (gMR kd vl t.toNat).2.2 = s at Q ⊢
      obtain ⟨q0, q1, q2, q3, q4, q5, q6, q7, q8, q9⟩ := Q
      have e2 : s.2.2.1 = p := q2.symm.trans hp
      have gm : gM1 kd vl t s = ((if 16 < p + 1 then 4 else 0), s.1, s.2.1, p + 1, s.2.2.2) := by
        unfold gM1
        rw [if_pos k0, e2, wr_eq (by omega) (by omega)]
      rw [gm, g9, g10]
      by_cases y : p = 16
      · obtain ⟨k1, k2⟩ := bMk_0 (e := 4) (t := t) h9
        rw [show bPm B p t = bMk B 4 t from if_pos y, if_pos (show 16 < p + 1 by omega)]
        exact ⟨k1, fun _ => k2, fun r => absurd r (show ¬ (4 : Int) = 0 by decide)⟩
      · rw [show bPm B p t = B from if_neg y, if_neg (show ¬ 16 < p + 1 by omega)]
        exact ⟨h9, fun r => absurd rfl r, fun _ => ⟨by rw [mI_Un (by omega), mI_Un (by omega)]; exact q0, by rw [mI_Un (by omega), mI_Un (by omega)]; exact q1, mI_Us _ _ _ _, fun j a b => by rw [mI_Un (by omega), mI_Un (by omega)]; exact q3 j a b, q4, q5, q6, q7, by show 0 ≤ p + 1; omega, by show p + 1 ≤ 16; omega⟩⟩
  · intro y
    rw [g9]
    by_cases e : p = 16
    · rw [show bPm B p t = bMk B 4 t from if_pos e]
      by_cases h9 : mI B 203 9 = 0
      · rw [(bMk_0 (e := 4) (t := t) h9).1]; decide
      · rw [bMk_1 h9]; exact h9
    · rw [show bPm B p t = B from if_neg e]
      exact h16 (by omega)
end LPP
