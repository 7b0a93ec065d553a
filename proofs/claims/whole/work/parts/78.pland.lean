/-! part C: lines that tell a plan, in step -/
def gPj (q : Nat) (A B : ax_M) (i : Nat) : Prop := ∃ (K : Nat) (v c c1 c2 c3 : Int), mR A (q + 3) i = some K ∧ (16 ≤ K ∧ K ≤ 20) ∧ mI B 223 i = gkm K ∧ mI A (q + 4) i = v ∧ mI B 222 i = v ∧ (v = 0 ∨ v = 1) ∧ (mI A (q + 5) i = c ∧ mI A (q + 6) i = c1 ∧ mI A (q + 7) i = c2 ∧ mI A (q + 8) i = c3) ∧ (mI B 224 i = c ∧ mI B 225 i = c3) ∧ (0 ≤ c ∧ c ≤ c2 ∧ c2 ≤ c3 ∧ c3 ≤ 400 ∧ c1 ≤ c2) ∧ ((K = 20 ∧ gXp q A B c c c1 ∧ mI B 226 i = c1 - 1 ∧ gXp q A B c c1 c2 ∧ mI B 227 i = c2 - 1) ∨ (K ≠ 20 ∧ c1 = c ∧ c2 = c)) ∧ ((mI B 228 i = -1 ∧ c3 = c2) ∨ (gXp q A B c c2 c3 ∧ mI B 228 i = c3 - 1))
section PLD
variable {q : Nat} {kd : Int → Nat} {vl : Int → Int} {n lo : Int} {A B A1 B1 B' : ax_M} {t c d x p : Int}
theorem mP1_D (D : gDe q n A B x) (P : Nat) : mP1 (P : Int) B = some B := by
  unfold mP1
  rw [if_neg (show ¬ mI B 203 8 = 0 by have := D.2.1.1; omega), B_wrongD D.2.1.1, bd1_s]
theorem L_plan (hq : q = 157 ∨ q = 194) (S : gSt kd vl n) {P : Nat} (hP : (P : Int) = if p < 16 then p else 16) (X : gXA q kd vl A) (M : gMB kd vl n B) (L : gLv q n A B (t + 1) c 0) (t0 : 0 ≤ t) (k0 : kd t = 13) (kp : kd (t - 1) ≠ 12) (h9 : mI A q 9 = if p < 16 then p else 16) (hp : mI B 220 3 = p) (p0 : 0 ≤ p) (p1 : p ≤ 400) (K0 : gMk kd vl (t + 1) (mUI B 220 3 (p + 1))) : ∃ A' B', fX3_readPlan A = some A' ∧ fX14_plan B = some B' ∧ Fr2 (sGq q) A A' ∧ Fr sGm (mUI B 220 3 (p + 1)) B' ∧ ((∃ t' c', gLv q n A' B' t' c' 0 ∧ t + 3 ≤ t' ∧ c ≤ c' ∧ gMk kd vl t' B' ∧ mI A' q 9 = (if p < 16 then p + 1 else 16) ∧ gPre q A A' B B' c ∧ (p < 16 → gPj q A' B' P ∧ mI B' 225 P = c') ∧ (∀ k j : Nat, q + 3 ≤ k → k ≤ q + 8 → j ≠ p.toNat → mI A' k j = mI A k j ∧ mR A' k j = mR A k j) ∧ (∀ k j : Nat, 222 ≤ k → k ≤ 228 → j ≠ P → mI B' k j = mI B k j)) ∨ ∃ x, gDe q n A' B' x ∧ t ≤ x) := by
  have n1 := S.2.1
  have h16 : 0 ≤ mI A q 9 ∧ mI A q 9 ≤ 16 := by rw [h9]; split <;> omega
  have c0 : 0 ≤ c := L.2.2.2.2.1
  have P16 : P ≤ 16 := by
    by_cases z : p < 16
    · rw [if_pos z] at hP; omega
    · rw [if_neg z] at hP; omega
  have eP : fJ9_min_7cf53 B 16 p = (P : Int) := by rw [hP]; rfl
  have e11 : mI (mUI B 220 3 (p + 1)) 220 11 = c := by rw [mI_Un (by omega)]; exact L.2.1.2.2.1
  have f1 : Fr sGm (mUI B 220 3 (p + 1)) (mUI (mUI B 220 3 (p + 1)) 224 P c) := (Fr.refl _ _).up (Or.inr (Or.inr ⟨by omega, by omega⟩))
  have L0 : gLv q n A (mUI B 220 3 (p + 1)) (t + 1) c 0 := by
    obtain ⟨r, ⟨b1, b2, b3, b4⟩, s⟩ := L
    exact ⟨r, ⟨by rw [mI_Un (by omega)]; exact b1, by rw [mI_Un (by omega)]; exact b2, by rw [mI_Un (by omega)]; exact b3, by rw [mI_Un (by omega)]; exact b4⟩, s⟩
  have L1 : gLv q n A (mUI (mUI B 220 3 (p + 1)) 224 P c) (t + 1) c 0 := L_sl L0 (by omega)
  have M0 : gMB kd vl n (mUI B 220 3 (p + 1)) := M.fr (S := fun k _ => k = 220) ((Fr.refl _ _).up rfl) (fun k j z => by omega)
  have M1 := M0.fr f1 (fun k j z => by unfold sGm; omega)
  have g0 : gPre q A A B (mUI B 220 3 (p + 1)) c := ⟨fun _ _ _ => ⟨rfl, rfl⟩, fun _ _ _ => ⟨mI_Un (by omega), mI_Un (by omega), mI_Un (by omega)⟩, mI_Un (by omega), mI_Un (by omega)⟩
  have g1 : gPre q A A B (mUI (mUI B 220 3 (p + 1)) 224 P c) c := g0.trans (gPre.sl A _ (by omega) c) (Int.le_refl _)
  rw [tP_eq, mP_eq, hp, eP]
  unfold mP0
  rw [if_pos (show 0 ≤ (P : Int) ∧ (P : Int) < 17 by omega), hp, wr_eq (by omega) (by omega), e11]
  show ∃ A' B', _ ∧ (bd2 (fX14_player (mUI (mUI B 220 3 (p + 1)) 224 P c)) _) = some B' ∧ _
  rcases L_player hq S X M1 L1 with ⟨v, hv, k1, tn2, r1, r2, hvk⟩ | ⟨r1, r2, _⟩
  · have L2 := L_adv hq L1 tn2
    rw [show t + 1 + 1 = t + 2 by omega] at L2 r1 r2
    have fA2 : Fr2 (sGA q) A (aT A (t + 2)) := aT_fr _ _ _
    have X2 := X.g hq fA2
    have f2 : Fr sGm (mUI B 220 3 (p + 1)) (bT (mUI (mUI B 220 3 (p + 1)) 224 P c) (t + 2)) := f1.trans (sGB_m (bT_fr _ _))
    have M2 := M0.fr f2 (fun k j z => by unfold sGm; omega)
    have tn : t + 2 < n := L2.2.2.2.1
    have g2 : gPre q A (aT A (t + 2)) B (bT (mUI (mUI B 220 3 (p + 1)) 224 P c) (t + 2)) c := g1.trans (gPre.aT hq _ _ _ _ _) (Int.le_refl _)
    generalize hB2 : bT (mUI (mUI B 220 3 (p + 1)) 224 P c) (t + 2) = B2 at *
    have L3 : gLv q n (aT A (t + 2)) (mUI (mUI B2 222 P v) 223 P (mI B2 205 (t + 2).toNat)) (t + 2) c 0 := L_sl (L_sl L2 (by omega)) (by omega)
    have f3 : Fr sGm (mUI B 220 3 (p + 1)) (mUI (mUI B2 222 P v) 223 P (mI B2 205 (t + 2).toNat)) := (f2.up (Or.inr (Or.inr ⟨by omega, by omega⟩))).up (Or.inr (Or.inr ⟨by omega, by omega⟩))
    have M3 := M0.fr f3 (fun k j z => by unfold sGm; omega)
    have g3 : gPre q A (aT A (t + 2)) B (mUI (mUI B2 222 P v) 223 P (mI B2 205 (t + 2).toNat)) c := (g2.trans (gPre.sl _ B2 (k := 222) (j := P) (v := v) (by omega) c) (Int.le_refl _)).trans (gPre.sl _ _ (k := 223) (by omega) c) (Int.le_refl _)
    have e224 : mI B2 224 P = c := by rw [← hB2, mI_Un (by omega), mI_Us]
    have eo : ∀ k j : Nat, 222 ≤ k → k ≤ 228 → j ≠ P → mI B2 k j = mI B k j := fun k j k0 k1 hj => by rw [← hB2, mI_Un (by omega), mI_Un (by omega), mI_Un (by omega)]
    have e7 : mI (mUI B2 222 P v) 203 7 = t + 2 := by rw [mI_Un (by omega)]; exact L2.2.1.2.1
    have e5 : mI (mUI B2 222 P v) 205 (t + 2).toNat = mI B2 205 (t + 2).toNat := mI_Un (by omega)
    have e5' : mI (mUI (mUI B2 222 P v) 223 P (mI B2 205 (t + 2).toNat)) 205 (t + 2).toNat = mI B2 205 (t + 2).toNat := by rw [mI_Un (by omega)]; exact e5
    have e2 : fX7_codeLength (aT A (t + 2)) q = c := L2.1.2.2
    rw [r1, bd2_s, r2, bd2_s, X_oq X2 hq, L_move X2 L2 n1, bd2_s, e2]
    show ∃ A' B', _ ∧ (if 0 ≤ (mI (mUI B2 222 P v) 203 7) ∧ (mI (mUI B2 222 P v) 203 7) < 402 then mP1 (P : Int) (mUI (mUI B2 222 P v) 223 P (mI (mUI B2 222 P v) 205 (Int.toNat (mI (mUI B2 222 P v) 203 7)))) else none) = some B' ∧ _
    rw [e7, e5, if_pos (show 0 ≤ t + 2 ∧ t + 2 < 402 by omega)]
    unfold mP1
    rw [if_pos L3.2.1.1, L3.2.1.2.1, if_pos (show 0 ≤ t + 2 ∧ t + 2 < 402 by omega), e5']
    by_cases e : 16 ≤ kd (t + 2) ∧ kd (t + 2) ≤ 20
    · have e1 := (gMB_iff S M3 (by omega) tn (K := kd (t + 2)) (by omega) (by omega)).2 rfl
      have em : mI B2 205 (t + 2).toNat = gkm (kd (t + 2)) := M2.1 _ (by omega) (by omega)
      have ei := (gkm_mv (kd (t + 2)) (by omega) (by omega)).mpr e
      have eI : ∀ Z, fX14_isIn Z (gkm (kd (t + 2))) 6 10 = 1 := fun Z => by
        unfold fX14_isIn
        rw [if_neg (by omega), if_neg (by omega)]
      have L4 := L_adv hq L3 e1
      rw [show t + 2 + 1 = t + 3 by omega] at L4
      have fA4 : Fr2 (sGA q) A (aT (aT A (t + 2)) (t + 3)) := fA2.trans (aT_fr _ _ _)
      have X4 := X.g hq fA4
      have f4 : Fr sGm (mUI B 220 3 (p + 1)) (bT (mUI (mUI B2 222 P v) 223 P (gkm (kd (t + 2)))) (t + 3)) := by
        rw [em] at f3
        exact f3.trans (sGB_m (bT_fr _ _))
      have M4 := M0.fr f4 (fun k j z => by unfold sGm; omega)
      have g4 : gPre q A (aT (aT A (t + 2)) (t + 3)) B (bT (mUI (mUI B2 222 P v) 223 P (gkm (kd (t + 2)))) (t + 3)) c := by
        rw [em] at g3
        exact g3.trans (gPre.aT hq _ _ _ _ _) (Int.le_refl _)
      have h94 : mI (aT (aT A (t + 2)) (t + 3)) q 9 = mI A q 9 := (fA4.1 q 9 (by unfold sGA; omega)).1
      rw [em] at L4
      rw [em, eI, if_neg (show ¬ (1 : Int) = 0 by decide), if_pos e, show t + 2 + 1 = t + 3 by omega]
      have e223 : mI (mUI (mUI (mUI B2 222 P v) 223 P (gkm (kd (t + 2)))) 203 7 (t + 3)) 223 (Int.toNat (P : Int)) = gkm (kd (t + 2)) := by
        show mI (mUI (mUI (mUI B2 222 P v) 223 P (gkm (kd (t + 2)))) 203 7 (t + 3)) 223 P = gkm (kd (t + 2))
        rw [mI_Un (by omega), mI_Us]
      have s222 : mI (bT (mUI (mUI B2 222 P v) 223 P (gkm (kd (t + 2)))) (t + 3)) 222 P = v := by rw [mI_Un (by omega), mI_Un (by omega), mI_Us]
      have s224 : mI (bT (mUI (mUI B2 222 P v) 223 P (gkm (kd (t + 2)))) (t + 3)) 224 P = c := by rw [mI_Un (by omega), mI_Un (by omega), mI_Un (by omega)]; exact e224
      have so : ∀ k j : Nat, 222 ≤ k → k ≤ 228 → j ≠ P → mI (bT (mUI (mUI B2 222 P v) 223 P (gkm (kd (t + 2)))) (t + 3)) k j = mI B k j := fun k j k0 k1 hj => by rw [mI_Un (by omega), mI_Un (by omega), mI_Un (by omega)]; exact eo k j k0 k1 hj
      have km : ∀ (B' : ax_M) (t' : Int), t + 3 ≤ t' → gCl kd (t + 3) t' → Fr sGm (mUI B 220 3 (p + 1)) B' → mI B' 203 9 = mI B 203 9 → mI B' 203 10 = mI B 203 10 → gMk kd vl t' B' := by
        intro B' t' ht hc hf e9 e10
        have k1 : gMk kd vl (t + 1) B' := K0.fr (by rw [mI_Un (by omega)]; exact e9) (by rw [mI_Un (by omega)]; exact e10) (hf.2 _ _ (by unfold sGm; omega)) (hf.2 _ _ (by unfold sGm; omega)) (hf.2 _ _ (by unfold sGm; omega)) (fun j => hf.2 _ _ (by unfold sGm; omega))
        have k2 := gMk_range (t' - (t + 1)).toNat (t + 1) (by omega) (fun j j0 j1 => by
          have hj : ∀ i, t ≤ i → i < t' → kd i ≠ 10 ∧ kd i ≠ 11 ∧ kd i ≠ 12 := fun i i0 i1 => by
            rcases (show i = t ∨ i = t + 1 ∨ i = t + 2 ∨ t + 3 ≤ i by omega) with z | z | z | z
            · rw [z]; omega
            · rw [z]; omega
            · rw [z]; omega
            · have := hc i z i1
              omega
          have hm : ∀ i, t - 1 ≤ i → i < t' → kd i ≠ 12 := fun i i0 i1 => by
            rcases (show i = t - 1 ∨ t ≤ i by omega) with z | z
            · rw [z]; exact kp
            · exact (hj i z i1).2.2
          have n13 : kd j ≠ 13 := by
            rcases (show j = t + 1 ∨ j = t + 2 ∨ t + 3 ≤ j by omega) with z | z | z
            · rw [z]; omega
            · rw [z]; omega
            · exact (hc j z (by omega)).2.2.2
          refine ⟨n13, fun e48 => ?_⟩
          have j3 : t + 3 ≤ j := by
            rcases (show j = t + 1 ∨ j = t + 2 ∨ t + 3 ≤ j by omega) with z | z | z
            · rw [z] at e48; omega
            · rw [z] at e48; omega
            · exact z
          exact ⟨(hj _ (by omega) (by omega)).1, (hj _ (by omega) (by omega)).2.1, hm _ (by omega) (by omega), hm _ (by omega) (by omega)⟩) k1
        rw [show t + 1 + ((t' - (t + 1)).toNat : Int) = t' by omega] at k2
        exact k2
      have Pp : p < 16 → P = p.toNat := fun z => by rw [if_pos z] at hP; omega
      by_cases e20 : kd (t + 2) = 20
      · obtain ⟨A', B', w1, w2, fA, fB, o⟩ := L_tP2 (P := P) (lo := c) hq S c0 X4 M4 L4 (Int.le_refl _) (h94.trans h9) p0 v (kd (t + 2)) c
        rw [e223, if_pos (show gkm (kd (t + 2)) = 10 by rw [e20]; rfl)]
        unfold tP1
        rw [if_pos e20]
        refine ⟨A', B', w1, w2, (sGA_q hq fA4).trans fA, f4.trans fB, ?_⟩
        rcases o with ⟨t', c1, c2, c', L', z1, z2, z3, z4, z5, z6, z7, z8, z9, y1, y2, y3, y4, y5⟩ | ⟨x, D, z⟩
        · have gg := g4.trans z6 (Int.le_refl _)
          refine Or.inl ⟨t', c', L', z1, by omega, km B' t' z1 z5 (f4.trans fB) gg.2.2.1 gg.2.2.2, z7.1, gg, fun z => ?_, fun k j k0 k1 hj => (gAd.fr hq fA4 z7).2.2 k j k0 k1 hj, fun k j k0 k1 hj => (y5 k j (by omega) k1 (Or.inr hj)).trans (so k j k0 k1 hj)⟩
          obtain ⟨a1, a2, a3, a4, a5, a6⟩ := z7.2.1 z
          rw [← Pp z] at a1 a2 a3 a4 a5 a6
          have cl : c' ≤ 400 := by
            have := L'.2.2.2.1
            have := L'.2.2.2.2.2.1
            omega
          exact ⟨⟨kd (t + 2), v, c, c1, c2, c', a1, e, (y5 223 P (by omega) (by omega) (Or.inl (by omega))).trans e223, a2, (y5 222 P (by omega) (by omega) (Or.inl (by omega))).trans s222, hv, ⟨a3, a4, a5, a6⟩, ⟨(y5 224 P (by omega) (by omega) (Or.inl (by omega))).trans s224, z8⟩, ⟨c0, by omega, z4, cl, by omega⟩, Or.inl ⟨e20, y1, y2, y3, y4⟩, z9⟩, z8⟩
        · exact Or.inr ⟨x, D, by omega⟩
      · have e10 : ¬ gkm (kd (t + 2)) = 10 := fun z => e20 (gkm_inj _ 20 (by omega) (by omega) (by omega) (by omega) z)
        have ec : fX7_codeLength (aT (aT A (t + 2)) (t + 3)) q = c := L4.1.2.2
        obtain ⟨A', B', w1, w2, fA, fB, o⟩ := L_tPc (P := P) (lo := c) hq S c0 X4 M4 L4 (Int.le_refl _) (h94.trans h9) p0 v (kd (t + 2)) c c
        rw [e223, if_neg e10]
        unfold tP1
        rw [if_neg e20, X_oq X4 hq, ec]
        refine ⟨A', B', w1, w2, (sGA_q hq fA4).trans fA, f4.trans fB, ?_⟩
        rcases o with ⟨t', c', L', z1, z2, z3, z4, z5, z6, z7, z8⟩ | ⟨x, D, z⟩
        · have gg := g4.trans z4 (Int.le_refl _)
          refine Or.inl ⟨t', c', L', z1, z2, km B' t' z1 z3 (f4.trans fB) gg.2.2.1 gg.2.2.2, z5.1, gg, fun z => ?_, fun k j k0 k1 hj => (gAd.fr hq fA4 z5).2.2 k j k0 k1 hj, fun k j k0 k1 hj => (z8 k j (by omega) k1 (Or.inr hj)).trans (so k j k0 k1 hj)⟩
          obtain ⟨a1, a2, a3, a4, a5, a6⟩ := z5.2.1 z
          rw [← Pp z] at a1 a2 a3 a4 a5 a6
          have cl : c' ≤ 400 := by
            have := L'.2.2.2.1
            have := L'.2.2.2.2.2.1
            omega
          exact ⟨⟨kd (t + 2), v, c, c, c, c', a1, e, (z8 223 P (by omega) (by omega) (Or.inl ⟨by omega, by omega⟩)).trans e223, a2, (z8 222 P (by omega) (by omega) (Or.inl ⟨by omega, by omega⟩)).trans s222, hv, ⟨a3, a4, a5, a6⟩, ⟨(z8 224 P (by omega) (by omega) (Or.inl ⟨by omega, by omega⟩)).trans s224, z6⟩, ⟨c0, Int.le_refl _, z2, cl, Int.le_refl _⟩, Or.inr ⟨e20, rfl, rfl⟩, z7⟩, z6⟩
        · exact Or.inr ⟨x, D, by omega⟩
    · have em : ¬ (6 ≤ mI B2 205 (t + 2).toNat ∧ mI B2 205 (t + 2).toNat ≤ 10) := by
        rcases (show t + 2 < n - 1 ∨ t + 2 = n - 1 by omega) with z | z
        · rw [M2.1 _ (by omega) z]
          intro y
          have s := S.2.2.1 _ (by omega) z
          exact e ((gkm_mv (kd (t + 2)) s.1 s.2).mp y)
        · rw [z]
          rcases M2.2.1 with ⟨_, y⟩ | ⟨_, y | y⟩ <;> omega
      have eI : ∀ Z, fX14_isIn Z (mI B2 205 (t + 2).toNat) 6 10 = 0 := fun Z => by
        unfold fX14_isIn
        by_cases y : mI B2 205 (t + 2).toNat < 6
        · rw [if_pos y]
        · rw [if_neg y, if_pos (by omega)]
      obtain ⟨D, ec⟩ := L_die hq n1 L3
      have fA4 : Fr2 (sGA q) A (aF (aT A (t + 2))) := fA2.trans (aF_fr _ _)
      have h94 : mI (aF (aT A (t + 2))) q 9 = mI A q 9 := (fA4.1 q 9 (by unfold sGA; omega)).1
      obtain ⟨A', w1, g⟩ := D_tP1 hq ((X.g hq fA4).d1 D) (by rw [h94]; exact h16) v (kd (t + 2)) c
      rw [eI, if_pos rfl, B_wrong L3.2.1.1 L3.2.1.2.1, bd1_s, if_neg e]
      exact ⟨A', _, w1, rfl, (sGA_q hq fA4).trans g.1, f3.trans (sGB_m (bW_fr _ _)), Or.inr ⟨t + 2, ⟨⟨g.2.1, g.2.2.1.trans D.1.2.1, g.2.2.2.1, g.2.2.2.2.1⟩, D.2⟩, by omega⟩⟩
  · obtain ⟨D, ec⟩ := L_die hq n1 L1
    have tn : t + 1 < n := L1.2.2.2.1
    have fA1 : Fr2 (sGA q) A (aF A) := aF_fr _ _
    have X1 := X.g hq fA1
    have H1 := X1.d1 D
    obtain ⟨K, hK⟩ := D_move H1
    have H2 := aF_d hq H1
    have f2 : Fr2 (sGA q) A (aF (aF A)) := fA1.trans (aF_fr _ _)
    have h92 : mI (aF (aF A)) q 9 = mI A q 9 := (f2.1 q 9 (by unfold sGA; omega)).1
    have d2 : mI (aF (aF A)) 166 2 = mI (aF A) 166 2 := mI_Un (by omega)
    obtain ⟨A', w1, g⟩ := D_tP1 hq H2 (by rw [h92]; exact h16) 1 K (fX7_codeLength (aF A) q)
    rw [r1, bd2_s, r2, bd2_s, X_oq X1 hq, hK, bd2_s]
    have D1 : gDe q n (aF A) (mUI (bW (mUI (mUI B 220 3 (p + 1)) 224 P c) (t + 1)) 222 P 1) (t + 1) := D.sl (by omega)
    have D2 : gDe q n (aF A) (mUI (mUI (bW (mUI (mUI B 220 3 (p + 1)) 224 P c) (t + 1)) 222 P 1) 223 P (mI (mUI (bW (mUI (mUI B 220 3 (p + 1)) 224 P c) (t + 1)) 222 P 1) 205 (t + 1).toNat)) (t + 1) := D1.sl (by omega)
    show ∃ A' B', _ ∧ (if 0 ≤ (mI (mUI (bW (mUI (mUI B 220 3 (p + 1)) 224 P c) (t + 1)) 222 P 1) 203 7) ∧ (mI (mUI (bW (mUI (mUI B 220 3 (p + 1)) 224 P c) (t + 1)) 222 P 1) 203 7) < 402 then mP1 (P : Int) (mUI (mUI (bW (mUI (mUI B 220 3 (p + 1)) 224 P c) (t + 1)) 222 P 1) 223 P (mI (mUI (bW (mUI (mUI B 220 3 (p + 1)) 224 P c) (t + 1)) 222 P 1) 205 (Int.toNat (mI (mUI (bW (mUI (mUI B 220 3 (p + 1)) 224 P c) (t + 1)) 222 P 1) 203 7)))) else none) = some B' ∧ _
    rw [D1.2.1.2.2.2.1, if_pos (show 0 ≤ t + 1 ∧ t + 1 < 402 by omega), mP1_D D2]
    exact ⟨A', _, w1, rfl, (sGA_q hq f2).trans g.1, ((f1.trans (sGB_m (bW_fr _ _))).up (Or.inr (Or.inr ⟨by omega, by omega⟩))).up (Or.inr (Or.inr ⟨by omega, by omega⟩)), Or.inr ⟨t + 1, ⟨⟨g.2.1, (g.2.2.1.trans d2).trans D.1.2.1, g.2.2.2.1, g.2.2.2.2.1⟩, D2.2⟩, by omega⟩⟩
end PLD
