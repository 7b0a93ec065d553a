/-! part C: one line of a game, in step: stones, and what is no line (2) -/
section LI2
variable {q : Nat} {kd : Int → Nat} {vl : Int → Int} {n : Int} {A B A1 B1 B' A' : ax_M} {t c d x p i : Int}
theorem gMk_mono {t' : Int} (t0 : 0 ≤ t) (ht : t ≤ t') (K : gMk kd vl t B) (K' : gMk kd vl t' B') (h : mI B 203 9 ≠ 0) : mI B' 203 9 ≠ 0 := by
  have h1 : (gMR kd vl t.toNat).1 ≠ 0 := by rw [← K.1]; exact h
  have e := gMR_end h1 (t'.toNat - t.toNat)
  rw [show t.toNat + (t'.toNat - t.toNat) = t'.toNat by omega] at e
  rw [K'.1, e]
  exact h1
theorem L_lineS (hq : q = 157 ∨ q = 194) (S : gSt kd vl n) (G : gGm q kd vl n A B t c) (hi : i < 400) (k0 : kd t = 12) : ∃ A' B', fX3_firstWrong_b62 A i = some (.inl (i + 1, A')) ∧ fX14_game_b12 B = some (.inl B') ∧ Fr2 (sGq q) A A' ∧ Fr sGg B B' ∧ gKo B B' ∧ ((∃ t', gGm q kd vl n A' B' t' c ∧ t + 2 ≤ t') ∨ ∃ x, gDe q n A' B' x) := by
  have G0 := G
  obtain ⟨X, M, L, K, h0, hp, h9, _⟩ := G
  have n1 := S.2.1
  have hA := L.1
  have hB := L.2.1
  have t0 : 0 ≤ t := L.2.2.1
  have tn : t < n := L.2.2.2.1
  have e1 := (gMB_iff S M t0 tn (K := 12) (by omega) (by omega)).2 k0
  have La := L_adv hq L e1
  have K1 := (K.skip t0 (by omega) (by omega)).bT (t + 1)
  obtain ⟨A2, B2, r1, r2, f1, g1, ko1, o⟩ := L_stone hq S (X.f6 (aT_f6 A (t + 1))) (M.f3 (bT_f3 B (t + 1))) La t0 k0 K1
  have f2 := (aT_f6 A (t + 1)).trans f1
  have g2 := (bT_f3 B (t + 1)).trans g1
  have fq : ∀ {A' : ax_M}, Fr2 s166 A A' → Fr2 (sGq q) A A' := fun f => f.mono (fun k j h => by unfold s166 at h; unfold sGq; omega)
  have gq : ∀ {B' : ax_M}, Fr s203 B B' → Fr sGg B B' := fun f => f.mono (fun k j h => by unfold s203 at h; unfold sGg; omega)
  have h33 : ¬ mI B 205 t.toNat = 33 := fun z => by
    have := (gMB_end S M t0 tn).mp z
    omega
  unfold fX3_firstWrong_b62
  rw [if_pos hi, if_pos hA.1, A_sees X hA.1 hA.2.1 49, if_neg (show ¬ kd t = 49 by omega), if_pos rfl, A_take X hA.1 hA.2.1 t0 (by omega) k0, bd2_s, if_neg (show ¬ (1 : Int) = 0 by decide), r1, bd1_s, mTl_eq, if_pos hB.1, hB.2.1, if_pos (show 0 ≤ t ∧ t < 402 by omega), if_neg h33, B_is S M hB.1 hB.2.1 t0 tn (K := 13) (k := 3) rfl (by omega) (by omega), bd1_s, if_neg (show ¬ kd t = 13 by omega), if_pos rfl]
  unfold mTl
  rw [B_takes S M hB.1 hB.2.1 t0 tn (K := 12) (k := 2) rfl (by omega) (by omega) k0, bd2_s, if_neg (show ¬ (1 : Int) = 0 by decide), r2, bd1_s]
  rcases o with ⟨L2, K2⟩ | ⟨x, D, _⟩
  · obtain ⟨A3, B3, w1, w2, f3, g3, ko3, o⟩ := L_stop hq S (fun _ => trivial) (X.f6 f2) (M.f3 g2) L2 K2
    rw [w1, bd1_s, w2, bd1_s]
    refine ⟨A3, B3, rfl, rfl, fq (f2.trans f3), gq (g2.trans g3), ((bT_ko _ _).trans ko1).trans ko3, ?_⟩
    rcases o with ⟨L3, K3, e37, _⟩ | D
    · exact Or.inl ⟨t + 5 + 1, G0.st hq (f2.trans f3) (g2.trans g3) L3 K3 (by rw [show t + 5 + 1 - 1 = t + 5 by omega]; omega) (by omega) (fun z => gMk_mono t0 (by omega) K K3 z), by omega⟩
    · exact Or.inr ⟨_, D⟩
  · rw [A_needD D.1.1, bd1_s, B_takeD D.2.1.1, bd1_s]
    exact ⟨_, _, rfl, rfl, fq (f2.trans (aF_f6 _)), gq g2, (bT_ko _ _).trans ko1, Or.inr ⟨x, D.aF hq⟩⟩
theorem L_lineN (hq : q = 157 ∨ q = 194) (S : gSt kd vl n) (G : gGm q kd vl n A B t c) (hi : i < 400) (k1 : kd t ≠ 12) (k2 : kd t ≠ 13) (k3 : kd t ≠ 49) : ∃ A' B', fX3_firstWrong_b62 A i = some (.inl (i + 1, A')) ∧ fX14_game_b12 B = some (.inl B') ∧ Fr2 (sGq q) A A' ∧ Fr sGg B B' ∧ gKo B B' ∧ ((∃ t', gGm q kd vl n A' B' t' c ∧ t + 2 ≤ t') ∨ ∃ x, gDe q n A' B' x) := by
  obtain ⟨X, M, L, K, h0, hp, h9, _⟩ := G
  have n1 := S.2.1
  have hA := L.1
  have hB := L.2.1
  have t0 : 0 ≤ t := L.2.2.1
  have tn : t < n := L.2.2.2.1
  have h33 : ¬ mI B 205 t.toNat = 33 := fun z => k3 ((gMB_end S M t0 tn).mp z)
  obtain ⟨D, ec⟩ := L_die hq n1 L
  have X1 := X.g hq (aF_fr A q)
  have e9 : mI (aF A) q 9 = mI A q 9 := mI_Un (by omega)
  obtain ⟨A2, r1, g⟩ := D_plan hq (X1.d1 D) (by rw [e9, h9]; split <;> omega)
  have D2 : gDe q n A2 (bW B t) t := ⟨⟨g.2.1, g.2.2.1.trans D.1.2.1, g.2.2.2.1, g.2.2.2.2.1⟩, D.2⟩
  unfold fX3_firstWrong_b62
  rw [if_pos hi, if_pos hA.1, A_sees X hA.1 hA.2.1 49, if_neg k3, if_pos rfl, A_takeN X hA.2.1 k1, bd2_s, if_pos rfl, A_needN X hA.2.1 k2, bd1_s, r1, bd1_s, A_needD g.2.1, bd1_s, mTl_eq, if_pos hB.1, hB.2.1, if_pos (show 0 ≤ t ∧ t < 402 by omega), if_neg h33, B_is S M hB.1 hB.2.1 t0 tn (K := 13) (k := 3) rfl (by omega) (by omega), bd1_s, if_neg k2, if_pos rfl]
  unfold mTl
  rw [B_takesN S M hB.1 hB.2.1 t0 tn (K := 12) (k := 2) rfl (by omega) (by omega) k1, bd2_s, if_pos rfl, B_takesN S M hB.1 hB.2.1 t0 tn (K := 13) (k := 3) rfl (by omega) (by omega) k2, bd2_s, if_pos rfl, B_wrong hB.1 hB.2.1, bd1_s, B_takeD D.2.1.1, bd1_s]
  exact ⟨_, _, rfl, rfl, (sGA_q hq (aF_fr A q)).trans (g.1.trans (sGA_q hq (aF_fr A2 q))), (bW_fr B t).mono (fun k j h => by unfold sGB at h; unfold sGg; omega), bW_ko _ _, Or.inr ⟨t, D2.aF hq⟩⟩
end LI2
