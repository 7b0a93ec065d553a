/-! part C: one line of a game, in step: plans -/
section LP2
variable {q : Nat} {kd : Int → Nat} {vl : Int → Int} {n : Int} {A B A1 B1 B' A' : ax_M} {t c d x p i : Int}
theorem gXA.fq (hq : q = 157 ∨ q = 194) (X : gXA q kd vl A) (f : Fr2 (sGq q) A A') : gXA q kd vl A' := X.fr f (fun k j z => by unfold sGq; omega)
theorem L_lineP (hq : q = 157 ∨ q = 194) (S : gSt kd vl n) (G : gGm q kd vl n A B t c) (hi : i < 400) (k0 : kd t = 13) : ∃ A' B', fX3_firstWrong_b62 A i = some (.inl (i + 1, A')) ∧ fX14_game_b12 B = some (.inl B') ∧ Fr2 (sGq q) A A' ∧ Fr sGg B B' ∧ gKo B B' ∧ ((∃ t' c', gGm q kd vl n A' B' t' c' ∧ t + 2 ≤ t') ∨ ∃ x, gDe q n A' B' x) := by
  obtain ⟨X, M, L, K, h0, hp, h9, hpl, h16⟩ := G
  obtain ⟨p, hpe⟩ : ∃ p, mI B 220 3 = p := ⟨_, rfl⟩
  rw [hpe] at hp h9 h16
  have n1 := S.2.1
  have hA := L.1
  have hB := L.2.1
  have t0 : 0 ≤ t := L.2.2.1
  have tn : t < n := L.2.2.2.1
  have e1 := (gMB_iff S M t0 tn (K := 13) (by omega) (by omega)).2 k0
  have fm : Fr s203 B (bPm B p t) := by
    by_cases z : p = 16
    · rw [show bPm B p t = bMk B 4 t from if_pos z]; exact bMk_fr _ _ _
    · rw [show bPm B p t = B from if_neg z]; exact Fr.refl _ _
  have Lm : gLv q n A (bPm B p t) t c 0 := by
    by_cases z : p = 16
    · rw [show bPm B p t = bMk B 4 t from if_pos z]; exact L_mk L 4 t
    · rw [show bPm B p t = B from if_neg z]; exact L
  have Mm := M.f3 fm
  have La := L_adv hq Lm e1
  obtain ⟨K0, K16⟩ := L_cnt t0 k0 K hpe hp.1 h16
  have fA1 : Fr2 (sGA q) A (aT A (t + 1)) := aT_fr _ _ _
  obtain ⟨A2, B2, r1, r2, f2, g2, o⟩ := L_plan (P := (if p < 16 then p else 16).toNat) (p := p) hq S (by split <;> omega) (X.g hq fA1) (Mm.f3 (bT_f3 _ (t + 1))) La t0 k0 h0 (by rw [mI_Un (by omega)]; exact h9) (by rw [mI_Un (by omega), bPm_get _ _ _ (by omega)]; exact hpe) hp.1 (by omega) K0
  have h33 : ¬ mI B 205 t.toNat = 33 := fun z => by
    have := (gMB_end S M t0 tn).mp z
    omega
  have em : (if p = 16 then (bd1 (fX14_mark B 4) fun M133 => mTl M133) else mTl B) = mTl (bPm B p t) := by
    by_cases z : p = 16
    · rw [if_pos z, Q_mark hB.1 hB.2.1, bd1_s, show bPm B p t = bMk B 4 t from if_pos z]
    · rw [if_neg z, show bPm B p t = B from if_neg z]
  unfold fX3_firstWrong_b62
  rw [if_pos hi, if_pos hA.1, A_sees X hA.1 hA.2.1 49, if_neg (show ¬ kd t = 49 by omega), if_pos rfl, A_takeN X hA.2.1 (show kd t ≠ 12 by omega), bd2_s, if_pos rfl, A_need X hA.1 hA.2.1 t0 (by omega) k0, bd1_s, r1, bd1_s, mTl_eq, if_pos hB.1, hB.2.1, if_pos (show 0 ≤ t ∧ t < 402 by omega), if_neg h33, B_is S M hB.1 hB.2.1 t0 tn (K := 13) (k := 3) rfl (by omega) (by omega), bd1_s, if_pos k0, if_neg (show ¬ (1 : Int) = 0 by decide), hpe, em]
  unfold mTl
  rw [B_takesN S Mm Lm.2.1.1 Lm.2.1.2.1 t0 tn (K := 12) (k := 2) rfl (by omega) (by omega) (by omega), bd2_s, if_pos rfl, B_takes S Mm Lm.2.1.1 Lm.2.1.2.1 t0 tn (K := 13) (k := 3) rfl (by omega) (by omega) k0, bd2_s, if_neg (show ¬ (1 : Int) = 0 by decide), r2, bd1_s]
  have X2 := X.fq hq ((sGA_q hq fA1).trans f2)
  have fb : Fr sGg B B2 := by
    have w1 : Fr sGg B (mUI (bT (bPm B p t) (t + 1)) 220 3 (p + 1)) := ((fm.trans (bT_f3 _ (t + 1))).mono (fun k j h => by unfold s203 at h; unfold sGg; omega)).up (Or.inr ⟨by omega, by omega⟩)
    exact w1.trans (g2.mono (fun k j h => by unfold sGm at h; unfold sGg; omega))
  have ko2 : gKo B B2 := by
    have w2 : gKo (mUI (bT (bPm B p t) (t + 1)) 220 3 (p + 1)) B2 := gKo.f g2 (fun k j z => by unfold sGm; omega)
    have w3 : gKo B (mUI (bT (bPm B p t) (t + 1)) 220 3 (p + 1)) := by
      have gk : ∀ k j : Nat, (k = 220 ∧ j ≤ 1) ∨ k = 221 → mI (mUI (bT (bPm B p t) (t + 1)) 220 3 (p + 1)) k j = mI B k j := fun k j z => by rw [mI_Un (by omega), mI_Un (by omega), bPm_get _ _ _ (by omega)]
      exact ⟨gk _ _ (by omega), gk _ _ (by omega), fun c _ _ _ => gk _ _ (by omega)⟩
    exact w3.trans w2
  have M2 := M.fr fb (fun k j z => by unfold sGg; omega)
  rcases o with ⟨t', c', L2, y1, y2, K2, y3, y4, y5, y6, y7⟩ | ⟨x, D, _⟩
  · obtain ⟨A3, B3, w1, w2, f3, g3, ko3, o⟩ := L_stop hq S (fun _ => trivial) X2 M2 L2 K2
    rw [w1, bd1_s, w2, bd1_s]
    refine ⟨A3, B3, rfl, rfl, ((sGA_q hq fA1).trans f2).trans (f3.mono (fun k j h => by unfold s166 at h; unfold sGq; omega)), fb.trans (g3.mono (fun k j h => by unfold s203 at h; unfold sGg; omega)), ko2.trans ko3, ?_⟩
    rcases o with ⟨L3, K3, e37, _, _⟩ | D
    · have e3 : mI B3 220 3 = p + 1 := by
        rw [g3.2 220 3 (by unfold s203; omega), g2.2 220 3 (by unfold sGm; omega), mI_Us]
      have e9 : mI A3 q 9 = mI A2 q 9 := (f3.1 q 9 (by unfold s166; omega)).1
      have ga3 : ∀ k j : Nat, q + 1 ≤ k → k ≤ q + 8 → mI A3 k j = mI A2 k j ∧ mR A3 k j = mR A2 k j := fun k j k0 k1 => f3.1 k j (by unfold s166; omega)
      have gb3 : ∀ k j : Nat, 222 ≤ k → k ≤ 231 → mI B3 k j = mI B2 k j := fun k j k0 k1 => g3.2 k j (by unfold s203; omega)
      refine Or.inl ⟨t' + 1, c', ⟨X2.f6 f3, M2.f3 g3, L3, K3, by rw [show t' + 1 - 1 = t' by omega]; omega, ⟨by omega, by omega⟩, ?_, fun i i0 i1 => ?_, fun z => ?_⟩, by omega⟩
      · rw [e3, e9, y3]
        split <;> split <;> omega
      · rw [e3] at i0
        by_cases ei : (i : Int) < p
        · obtain ⟨z1, z2⟩ := hpl i (by omega) i1
          have ne : i ≠ (if p < 16 then p else 16).toNat := by split <;> omega
          have ne2 : i ≠ p.toNat := by omega
          have bb : ∀ k j : Nat, 222 ≤ k → k ≤ 231 → mI (bT (bPm B p t) (t + 1)) k j = mI B k j := fun k j k0 k1 => by rw [mI_Un (by omega), bPm_get _ _ _ (by omega)]
          have q1 : gPj q (aT A (t + 1)) (bT (bPm B p t) (t + 1)) i := z1.s (fun k j k0 k1 => ⟨mI_Un (by omega), rfl⟩) bb
          have z3 : mI (bT (bPm B p t) (t + 1)) 225 i ≤ c := by rw [bb 225 i (by omega) (by omega)]; exact z2
          have q2 := q1.fr y4 z3 (fun k k0 k1 => y6 k i k0 k1 ne2) (fun k k0 k1 => y7 k i k0 k1 ne)
          refine ⟨q2.s ga3 gb3, ?_⟩
          rw [gb3 225 i (by omega) (by omega), y7 225 i (by omega) (by omega) ne]
          omega
        · have ep : p < 16 := by omega
          obtain ⟨z1, z2⟩ := y5 ep
          have eq1 : (if p < 16 then p else 16).toNat = i := by rw [if_pos ep]; omega
          rw [eq1] at z1 z2
          refine ⟨z1.s ga3 gb3, ?_⟩
          rw [gb3 225 i (by omega) (by omega), z2]
          exact Int.le_refl _
      · exact gMk_mono (by omega) (by omega) K0 K3 (K16 (by omega))
    · exact Or.inr ⟨_, D⟩
  · rw [A_needD D.1.1, bd1_s, B_takeD D.2.1.1, bd1_s]
    exact ⟨_, _, rfl, rfl, ((sGA_q hq fA1).trans f2).trans (sGA_q hq (aF_fr A2 q)), fb, ko2, Or.inr ⟨x, D.aF hq⟩⟩
end LP2
