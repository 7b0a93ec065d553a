/-! part C: all lines of a game, in step -/
section LOO
variable {q : Nat} {kd : Int → Nat} {vl : Int → Int} {n : Int} {A B A1 B1 B' A' : ax_M} {t c d x p i : Int}
theorem L_lines (hq : q = 157 ∨ q = 194) (S : gSt kd vl n) (G : gGm q kd vl n A B t c) : ∃ A' B', lp (fun s => fX3_firstWrong_b62 s.2 s.1) lpN (0, A) = some A' ∧ lp (fun s => fX14_game_b12 s) lpN B = some B' ∧ (Fr2 (sGq q) A A' ∧ Fr sGg B B' ∧ gKo B B') ∧ ((∃ t' c', gGm q kd vl n A' B' t' c' ∧ kd t' = 49) ∨ ∃ x, gDe q n A' B' x) := by
  have n1 := S.2.1
  obtain ⟨r, z, h1, h2, h3, h4⟩ := lp_sim (b1 := fun s : Int × ax_M => fX3_firstWrong_b62 s.2 s.1) (b2 := fun s => fX14_game_b12 s) (fun s u => (Fr2 (sGq q) A s.2 ∧ Fr sGg B u ∧ gKo B u) ∧ ((∃ t' c', gGm q kd vl n s.2 u t' c' ∧ 0 ≤ s.1 ∧ 2 * s.1 ≤ t') ∨ ∃ x, gDe q n s.2 u x)) (fun r z => (Fr2 (sGq q) A r ∧ Fr sGg B z ∧ gKo B z) ∧ ((∃ t' c', gGm q kd vl n r z t' c' ∧ kd t' = 49) ∨ ∃ x, gDe q n r z x)) (fun s => (500 - s.1).toNat) (by
    rintro ⟨i, A2⟩ B2 ⟨f, o⟩
    rcases o with ⟨t', c', G2, i0, i1⟩ | ⟨x, D⟩
    · have G3 := G2
      obtain ⟨X, M, L, _⟩ := G3
      have tn : t' < n := L.2.2.2.1
      have t0 : 0 ≤ t' := L.2.2.1
      have i0 : 0 ≤ i := i0
      have i1 : 2 * i ≤ t' := i1
      have hi : i < 400 := by omega
      by_cases k49 : kd t' = 49
      · refine Or.inl ⟨A2, B2, ?_, ?_, f, Or.inl ⟨t', c', G2, k49⟩⟩
        · show fX3_firstWrong_b62 A2 i = _
          unfold fX3_firstWrong_b62
          rw [if_pos L.1.1, A_sees X L.1.1 L.1.2.1 49, if_pos k49, if_neg (show ¬ (1 : Int) = 0 by decide)]
          split <;> rfl
        · show fX14_game_b12 B2 = _
          rw [mTl_eq, if_pos L.2.1.1, L.2.1.2.1, if_pos (show 0 ≤ t' ∧ t' < 402 by omega), if_pos ((gMB_end S M t0 tn).mpr k49)]
      · have st : ∃ A' B', fX3_firstWrong_b62 A2 i = some (.inl (i + 1, A')) ∧ fX14_game_b12 B2 = some (.inl B') ∧ Fr2 (sGq q) A2 A' ∧ Fr sGg B2 B' ∧ gKo B2 B' ∧ ((∃ t'' c'', gGm q kd vl n A' B' t'' c'' ∧ t' + 2 ≤ t'') ∨ ∃ x, gDe q n A' B' x) := by
          by_cases k12 : kd t' = 12
          · obtain ⟨A3, B3, w1, w2, f3, g3, ko3, o⟩ := L_lineS hq S G2 hi k12
            refine ⟨A3, B3, w1, w2, f3, g3, ko3, ?_⟩
            rcases o with ⟨t'', z⟩ | z
            · exact Or.inl ⟨t'', c', z⟩
            · exact Or.inr z
          · by_cases k13 : kd t' = 13
            · exact L_lineP hq S G2 hi k13
            · obtain ⟨A3, B3, w1, w2, f3, g3, ko3, o⟩ := L_lineN hq S G2 hi k12 k13 k49
              refine ⟨A3, B3, w1, w2, f3, g3, ko3, ?_⟩
              rcases o with ⟨t'', z⟩ | z
              · exact Or.inl ⟨t'', c', z⟩
              · exact Or.inr z
        obtain ⟨A3, B3, w1, w2, f3, g3, ko3, o⟩ := st
        refine Or.inr ⟨(i + 1, A3), B3, w1, w2, ⟨⟨f.1.trans f3, f.2.1.trans g3, f.2.2.trans ko3⟩, ?_⟩, ?_⟩
        · rcases o with ⟨t'', c'', z1, z2⟩ | z
          · exact Or.inl ⟨t'', c'', z1, by show 0 ≤ i + 1; omega, by show 2 * (i + 1) ≤ t''; omega⟩
          · exact Or.inr z
        · show (500 - (i + 1)).toNat < (500 - i).toNat
          omega
    · refine Or.inl ⟨A2, B2, ?_, ?_, f, Or.inr ⟨x, D⟩⟩
      · show fX3_firstWrong_b62 A2 i = _
        unfold fX3_firstWrong_b62
        have h1 : ¬ mI A2 166 3 = 0 := by have : mI A2 166 3 = 1 := D.1.1; omega
        rw [if_neg h1]
        split <;> rfl
      · show fX14_game_b12 B2 = _
        have h1 : ¬ mI B2 203 8 = 0 := by have : mI B2 203 8 = 1 := D.2.1.1; omega
        rw [mTl_eq, if_neg h1]) lpN (0, A) B ⟨⟨Fr2.refl _ _, Fr.refl _ _, gKo.refl _⟩, Or.inl ⟨t, c, G, Int.le_refl _, by show 2 * (0 : Int) ≤ t; have := G.2.2.1.2.2.1; omega⟩⟩ (by show (500 - (0 : Int)).toNat < lpN; decide)
  exact ⟨r, z, h1, h2, h3, h4⟩
end LOO
