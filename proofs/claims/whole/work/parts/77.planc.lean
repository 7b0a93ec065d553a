/-! part C: lines that tell a plan: the cell that they name -/
section PLC
variable {q : Nat} {kd : Int → Nat} {vl : Int → Int} {n lo : Int} {A B A1 B1 B' : ax_M} {t c d x p : Int}
theorem mPc_D (D : gDe q n A B x) (P : Nat) : ∃ B', mPc (P : Int) B = some B' ∧ gDe q n A B' x ∧ Fr sGm B B' := by
  refine ⟨mUI (mUI B 228 P (-1)) 225 P (mI (mUI B 228 P (-1)) 220 11), ?_, (D.sl (by omega)).sl (by omega), ((Fr.refl _ _).up (Or.inr (Or.inr ⟨by omega, by omega⟩))).up (Or.inr (Or.inr ⟨by omega, by omega⟩))⟩
  unfold mPc
  rw [B_takesD D.2.1.1, bd2_s, if_pos rfl]
  rfl
theorem L_tP2 (hq : q = 157 ∨ q = 194) (S : gSt kd vl n) (l0 : 0 ≤ lo) {P : Nat} (X : gXA q kd vl A) (M : gMB kd vl n B) (L : gLv q n A B t c 0) (l1 : lo ≤ c) (h9 : mI A q 9 = if p < 16 then p else 16) (p0 : 0 ≤ p) (v : Int) (K : Nat) (a : Int) : ∃ A' B', tP2 v K a A = some A' ∧ mP2 (P : Int) B = some B' ∧ Fr2 (sGq q) A A' ∧ Fr sGm B B' ∧ ((∃ t' c1 c2 c', gLv q n A' B' t' c' 0 ∧ t ≤ t' ∧ c < c1 ∧ c1 < c2 ∧ c2 ≤ c' ∧ gCl kd t t' ∧ gPre q A A' B B' c ∧ gAd q A A' p v K a c1 c2 c' ∧ mI B' 225 P = c' ∧ ((mI B' 228 P = -1 ∧ c' = c2) ∨ (gXp q A' B' lo c2 c' ∧ mI B' 228 P = c' - 1)) ∧ gXp q A' B' lo c c1 ∧ mI B' 226 P = c1 - 1 ∧ gXp q A' B' lo c1 c2 ∧ mI B' 227 P = c2 - 1 ∧ (∀ k j : Nat, 221 ≤ k → k ≤ 228 → k < 225 ∨ j ≠ P → mI B' k j = mI B k j)) ∨ ∃ x, gDe q n A' B' x ∧ t ≤ x) := by
  have n1 := S.2.1
  have sm := L_S0 (lo := lo) hq S l0
  have h16 : 0 ≤ mI A q 9 ∧ mI A q 9 ≤ 16 := by rw [h9]; split <;> omega
  obtain ⟨A1, B1, w1, r1, r2, fA1, fB1, o⟩ := sm A B t c X M L l1
  have X1 := X.g hq fA1
  have h91 : mI A1 q 9 = mI A q 9 := (fA1.1 q 9 (by unfold sGA; omega)).1
  have f226 : Fr sGm B (mUI B1 226 P w1) := (sGB_m fB1).up (Or.inr (Or.inr ⟨by omega, by omega⟩))
  have M1 : gMB kd vl n (mUI B1 226 P w1) := M.fr f226 (fun k j z => by unfold sGm; omega)
  unfold tP2 mP2
  rw [r1, bd1_s, X_oq X1 hq, r2, bd2_s]
  rcases o with ⟨t1, c1, L1, u1, u2, u3, u4, u5, u6, u7⟩ | ⟨x, D, u1, u2⟩
  · have L1s := L_sl (k := 226) (j := P) (v := w1) L1 (by omega)
    have e2 : fX7_codeLength A1 q = c1 := L1.1.2.2
    rw [e2]
    rcases L_ask hq S X1 M1 L1s (K := 38) (k := 54) rfl (by omega) (by omega) with ⟨e, e1, w2, w3⟩ | ⟨e, w2, w3⟩
    · have La := L_adv hq L1s e1
      have fA2 : Fr2 (sGA q) A (aT A1 (t1 + 1)) := fA1.trans (aT_fr _ _ _)
      have fB2 : Fr sGm B (bT (mUI B1 226 P w1) (t1 + 1)) := f226.trans (sGB_m (bT_fr _ _))
      obtain ⟨A3, B3, w4, r3, r4, fA3, fB3, o⟩ := sm _ _ _ _ (X.g hq fA2) (M.fr fB2 (fun k j z => by unfold sGm; omega)) La (by omega)
      have X3 := X.g hq (fA2.trans fA3)
      have h93 : mI A3 q 9 = mI A q 9 := ((fA2.trans fA3).1 q 9 (by unfold sGA; omega)).1
      have f227 : Fr sGm B (mUI B3 227 P w4) := (fB2.trans (sGB_m fB3)).up (Or.inr (Or.inr ⟨by omega, by omega⟩))
      have M3 : gMB kd vl n (mUI B3 227 P w4) := M.fr f227 (fun k j z => by unfold sGm; omega)
      have w3' : fX14_take (mUI B1 226 (Int.toNat (P : Int)) w1) 54 = some (bT (mUI B1 226 P w1) (t1 + 1)) := w3
      rw [w2, bd1_s, r3, bd1_s, X_oq X3 hq, w3', bd1_s, r4, bd2_s]
      rcases o with ⟨t2, c2, L2, y1, y2, y3, y4, y5, y6, y7⟩ | ⟨x, D, y1, y2⟩
      · have L2s := L_sl (k := 227) (j := P) (v := w4) L2 (by omega)
        have e3 : fX7_codeLength A3 q = c2 := L2.1.2.2
        rw [e3]
        obtain ⟨A4, B4, r5, r6, fA4, fB4, o⟩ := L_tPc (P := P) hq S l0 X3 M3 L2s (by omega) (h93.trans h9) p0 v K a c1
        have r6' : mPc (P : Int) (mUI B3 227 (Int.toNat (P : Int)) w4) = some B4 := r6
        rw [r5, r6']
        refine ⟨A4, B4, rfl, rfl, (sGA_q hq (fA2.trans fA3)).trans fA4, f227.trans fB4, ?_⟩
        rcases o with ⟨t', c', L4, z1, z2, z3, z4, z5, z6, z7, z8⟩ | ⟨x, D, z1⟩
        · have q1 : gPre q A1 (aT A1 (t1 + 1)) B1 (bT (mUI B1 226 P w1) (t1 + 1)) c1 := (gPre.sl A1 B1 (by omega) c1).trans (gPre.aT hq A1 _ (t1 + 1) (t1 + 1) c1) (Int.le_refl _)
          have q2 := q1.trans y7 (Int.le_refl _)
          have q3 : gPre q A3 A3 B3 (mUI B3 227 P w4) c2 := gPre.sl A3 B3 (by omega) c2
          have q4 := q3.trans z4 (Int.le_refl _)
          have q5 := q2.trans q4 (by omega)
          refine Or.inl ⟨t', c1, c2, c', L4, by omega, by omega, by omega, z2, ((u6.tr (gCl.one (by omega))).tr y6).tr z3, u7.trans q5 (by omega), gAd.fr hq (fA2.trans fA3) z5, z6, z7, u5.pre q5 l0 l1 (Int.le_refl _), ?_, y5.pre q4 l0 (by omega) (Int.le_refl _), ?_, ?_⟩
          · have := fB3.2 226 P (by unfold sGB; omega)
            rw [z8 226 P (by omega) (by omega) (Or.inl (by omega)), mI_Un (by omega), this, mI_Un (by omega), mI_Us, u4]
          · rw [z8 227 P (by omega) (by omega) (Or.inl (by omega)), mI_Us, y4]
          · intro k j k0 k1 hj
            have b1 := fB3.2 k j (by unfold sGB; omega)
            have b2 := fB1.2 k j (by unfold sGB; omega)
            rw [z8 k j k0 k1 (by omega), mI_Un (by omega), b1, mI_Un (by omega), mI_Un (by omega), b2]
        · exact Or.inr ⟨x, D, by omega⟩
      · obtain ⟨A4, r5, g4⟩ := D_tPc hq (X3.d1 D) (by rw [h93]; exact h16) v K a c1 (fX7_codeLength A3 q)
        have Ds : gDe q n A3 (mUI B3 227 P w4) x := D.sl (by omega)
        obtain ⟨B4, r6, D4, fB4⟩ := mPc_D Ds P
        have r6' : mPc (P : Int) (mUI B3 227 (Int.toNat (P : Int)) w4) = some B4 := r6
        rw [r5, r6']
        exact ⟨A4, B4, rfl, rfl, (sGA_q hq (fA2.trans fA3)).trans g4.1, f227.trans fB4, Or.inr ⟨x, ⟨⟨g4.2.1, g4.2.2.1.trans D.1.2.1, g4.2.2.2.1, g4.2.2.2.2.1⟩, D4.2⟩, by omega⟩⟩
    · obtain ⟨D, ec⟩ := L_die hq n1 L1s
      have H2 := aF_d hq ((X.g hq (fA1.trans (aF_fr A1 q))).d1 D)
      have H1 := (X.g hq (fA1.trans (aF_fr A1 q))).d1 D
      have f2 := fA1.trans ((aF_fr A1 q).trans (aF_fr (aF A1) q))
      have h92 : mI (aF (aF A1)) q 9 = mI A q 9 := (f2.1 q 9 (by unfold sGA; omega)).1
      obtain ⟨A4, r5, g4⟩ := D_tPc hq H2 (by rw [h92]; exact h16) v K a c1 (fX7_codeLength (aF (aF A1)) q)
      have Ds : gDe q n (aF A1) (mUI (bW (mUI B1 226 P w1) t1) 227 P 0) t1 := D.sl (by omega)
      obtain ⟨B4, r6, D4, fB4⟩ := mPc_D Ds P
      have w3' : fX14_take (mUI B1 226 (Int.toNat (P : Int)) w1) 54 = some (bW (mUI B1 226 P w1) t1) := w3
      have r6' : mPc (P : Int) (mUI (bW (mUI B1 226 P w1) t1) 227 (Int.toNat (P : Int)) 0) = some B4 := r6
      have d2 : mI (aF (aF A1)) 166 2 = mI (aF A1) 166 2 := mI_Un (by omega)
      rw [w2, bd1_s, D_sum hq H1 (by omega), bd1_s, X_oq (X.g hq f2) hq, r5, w3', bd1_s, E_sum D.2.1.1 (by omega), bd2_s, r6']
      exact ⟨A4, B4, rfl, rfl, (sGA_q hq f2).trans g4.1, ((f226.trans (sGB_m (bW_fr _ _))).up (Or.inr (Or.inr ⟨by omega, by omega⟩))).trans fB4, Or.inr ⟨t1, ⟨⟨g4.2.1, (g4.2.2.1.trans d2).trans D.1.2.1, g4.2.2.2.1, g4.2.2.2.2.1⟩, D4.2⟩, by omega⟩⟩
  · have H0 := X1.d1 D
    have H1 := aF_d hq H0
    have H2 := aF_d hq H1
    have f2 := fA1.trans ((aF_fr A1 q).trans (aF_fr (aF A1) q))
    have h92 : mI (aF (aF A1)) q 9 = mI A q 9 := (f2.1 q 9 (by unfold sGA; omega)).1
    obtain ⟨A4, r5, g4⟩ := D_tPc hq H2 (by rw [h92]; exact h16) v K a (fX7_codeLength A1 q) (fX7_codeLength (aF (aF A1)) q)
    have D1 : gDe q n A1 (mUI B1 226 P w1) x := D.sl (by omega)
    have Ds : gDe q n A1 (mUI (mUI B1 226 P w1) 227 P 0) x := D1.sl (by omega)
    obtain ⟨B4, r6, D4, fB4⟩ := mPc_D Ds P
    have w3' : fX14_take (mUI B1 226 (Int.toNat (P : Int)) w1) 54 = some (mUI B1 226 P w1) := B_takeD D1.2.1.1 54
    have r6' : mPc (P : Int) (mUI (mUI B1 226 P w1) 227 (Int.toNat (P : Int)) 0) = some B4 := r6
    have d2 : mI (aF (aF A1)) 166 2 = mI A1 166 2 := (mI_Un (by omega)).trans (mI_Un (by omega))
    rw [A_needD H0.1, bd1_s, D_sum hq H1 (by omega), bd1_s, X_oq (X.g hq f2) hq, r5, w3', bd1_s, E_sum D1.2.1.1 (by omega), bd2_s, r6']
    exact ⟨A4, B4, rfl, rfl, (sGA_q hq f2).trans g4.1, (f226.up (Or.inr (Or.inr ⟨by omega, by omega⟩))).trans fB4, Or.inr ⟨x, ⟨⟨g4.2.1, (g4.2.2.1.trans d2).trans D.1.2.1, g4.2.2.2.1, g4.2.2.2.2.1⟩, D4.2⟩, u1⟩⟩
end PLC
