/-! part C: lines that lay a stone, in step -/
/-- cells beyond the pond that is told are not written -/
def gKo (B B' : ax_M) : Prop := mI B' 220 0 = mI B 220 0 ∧ mI B' 220 1 = mI B 220 1 ∧ ∀ c : Int, 0 ≤ c → mI B 220 0 * mI B 220 1 ≤ c → c < 81 → mI B' 221 c.toNat = mI B 221 c.toNat
theorem gKo.trans {A B C : ax_M} (p : gKo A B) (q : gKo B C) : gKo A C := ⟨q.1.trans p.1, q.2.1.trans p.2.1, fun c c0 cw c1 => (q.2.2 c c0 (by rw [p.1, p.2.1]; exact cw) c1).trans (p.2.2 c c0 cw c1)⟩
theorem gKo.f {S : Nat → Nat → Prop} {B B' : ax_M} (f : Fr S B B') (hS : ∀ k j, (k = 220 ∧ j ≤ 1) ∨ k = 221 → ¬ S k j) : gKo B B' := ⟨f.2 _ _ (hS _ _ (by omega)), f.2 _ _ (hS _ _ (by omega)), fun c _ _ _ => f.2 _ _ (hS _ _ (by omega))⟩
theorem gKo.refl (B : ax_M) : gKo B B := ⟨rfl, rfl, fun _ _ _ _ => rfl⟩
theorem bT_ko (B : ax_M) (v : Int) : gKo B (bT B v) := gKo.f (bT_fr B v) (fun k j z => by unfold sGB; omega)
theorem bW_ko (B : ax_M) (v : Int) : gKo B (bW B v) := gKo.f (bW_fr B v) (fun k j z => by unfold sGB; omega)
theorem bMk_ko (B : ax_M) (e t : Int) : gKo B (bMk B e t) := ⟨bMk_get B e t (by omega), bMk_get B e t (by omega), fun c _ _ _ => bMk_get B e t (by omega)⟩
section STB
variable {q : Nat} {kd : Int → Nat} {vl : Int → Int} {n : Int} {A B A1 B1 B' : ax_M} {t c d x e : Int}
theorem aT_f6 (A : ax_M) (v : Int) : Fr2 s166 A (aT A v) := (Fr2.refl _ _).up ⟨rfl, Or.inl rfl⟩
theorem aF_f6 (A : ax_M) : Fr2 s166 A (aF A) := (Fr2.refl _ _).up ⟨rfl, Or.inr rfl⟩
theorem bT_f3 (B : ax_M) (v : Int) : Fr s203 B (bT B v) := (Fr.refl _ _).up (Or.inl ⟨rfl, by omega, by omega⟩)
theorem bW_f3 (B : ax_M) (v : Int) : Fr s203 B (bW B v) := (((Fr.refl _ _).up (Or.inl ⟨rfl, by omega, by omega⟩)).up (Or.inl ⟨rfl, by omega, by omega⟩)).up (Or.inl ⟨rfl, by omega, by omega⟩)
theorem gXA.f6 (X : gXA q kd vl A) {A' : ax_M} (f : Fr2 s166 A A') : gXA q kd vl A' := X.fr f (fun k j z => by unfold s166; omega)
theorem gMB.f3 (M : gMB kd vl n B) (f : Fr s203 B B') : gMB kd vl n B' := M.fr f (fun k j z => by unfold s203; omega)
theorem gDe.aF (hq : q = 157 ∨ q = 194) (D : gDe q n A B x) : gDe q n (aF A) B x := D.a (A_failD hq D.self)
theorem sM_eq (t0 : 0 ≤ t) (k0 : kd t = 12) (k2 : kd (t + 2) = 48) (k3 : kd (t + 3) = 38) (k4 : kd (t + 4) = 48) (s : Int × Int × Int × (Int → Int)) : gM1 kd vl (t + 4) s = (if vl (t + 4) < s.2.1 then (if gMo s.2.2.2 (wr (wr (s.1 * vl (t + 4)) + vl (t + 2))) = 0 then (0, s.1, s.2.1, s.2.2.1, fun j => if j = wr (wr (s.1 * vl (t + 4)) + vl (t + 2)) ∧ 0 ≤ j ∧ j < 81 then (if kd (t + 1) = 14 then 1 else 2) else s.2.2.2 j) else (2, s)) else (5, s)) := by
  unfold gM1
  rw [show t + 4 - 1 = t + 3 by omega, show t + 4 - 2 = t + 2 by omega, show t + 4 - 4 = t by omega, show t + 4 - 3 = t + 1 by omega, if_neg (by omega), if_pos k4, if_neg (by omega), if_neg (by omega), if_neg (by omega), if_pos k0]
theorem sK2_L (hq : q = 157 ∨ q = 194) (S : gSt kd vl n) (X : gXA q kd vl A) (M : gMB kd vl n B) (L : gLv q n A B (t + 4) c 0) (t0 : 0 ≤ t) (k0 : kd t = 12) (k1 : kd (t + 1) = 14 ∨ kd (t + 1) = 15) (k2 : kd (t + 2) = 48) (k3 : kd (t + 3) = 38) (K : gMk kd vl (t + 4) B) (F : mI B 203 9 = 0 → vl (t + 2) < mI B 220 0) {v : Int} (hv : v = 0 ∨ v = 1) (hvk : v = 0 ↔ kd (t + 1) = 14) {M102 : ax_M} (m7 : mI M102 203 7 = t + 2) (m6 : mI M102 206 (t + 2).toNat = vl (t + 2)) : ∃ A' B', (bd1 (fX3_need A 48) fun M9 => (some M9)) = some A' ∧ sK2 M102 v B = some B' ∧ Fr2 s166 A A' ∧ Fr s203 B B' ∧ gKo B B' ∧ ((gLv q n A' B' (t + 5) c 0 ∧ gMk kd vl (t + 5) B') ∨ ∃ x, gDe q n A' B' x ∧ t ≤ x ∧ mI B' 220 11 = c) := by
  have n1 := S.2.1
  have hB := L.2.1
  have tn : t + 4 < n := L.2.2.2.1
  unfold sK2
  rw [hB.2.1, if_pos (show 0 ≤ t + 4 ∧ t + 4 < 402 by omega), B_is S M hB.1 hB.2.1 (by omega) tn (K := 48) (k := 31) rfl (by omega) (by omega), bd1_s, m7, m6]
  rcases L_ask hq S X M L (K := 48) (k := 31) rfl (by omega) (by omega) with ⟨e, e1, w1, w2⟩ | ⟨e, w1, w2⟩
  · have La := L_adv hq L e1
    rw [show t + 4 + 1 = t + 5 by omega] at La w1 w2
    have e6 : mI B 206 (t + 4).toNat = vl (t + 4) := M.2.2 _ (by omega) tn e
    have v2 := S.2.2.2.2 _ k2
    have v4 := S.2.2.2.2 _ e
    rw [w1, bd1_s, if_pos e, if_neg (show ¬ (1 : Int) = 0 by decide), e6]
    by_cases z : mI B 203 9 = 0
    · have z' : (gMR kd vl (t + 4).toNat).1 = 0 := K.1.symm.trans z
      have Q := K.2.2 z'
      have fc := F z
      have ms := sM_eq (vl := vl) t0 k0 k2 k3 e (gMR kd vl (t + 4).toNat).2.2
      have gM := fun (B' : ax_M) => gMk_step (kd := kd) (vl := vl) (t := t + 4) (B := B) (B' := B') (by omega) K
      rw [show t + 4 + 1 = t + 5 by omega] at gM
      generalize (gMR kd vl (t + 4).toNat).2.2 = s at Q ms gM
      obtain ⟨q0, q1, q2, q3, q4, q5, q6, q7, q8, q9⟩ := Q
      rw [q0] at fc
      rw [if_pos z, q0, q1]
      by_cases y : vl (t + 4) < s.2.1
      · have p0 : 0 ≤ s.1 * vl (t + 4) := Int.mul_nonneg (by omega) (by omega)
        have p1 : s.1 * vl (t + 4) ≤ 9 * 8 := Int.mul_le_mul (by omega) (by omega) (by omega) (by omega)
        have ew : wr (wr (s.1 * vl (t + 4)) + vl (t + 2)) = s.1 * vl (t + 4) + vl (t + 2) := by rw [wr_eq (x := s.1 * vl (t + 4)) (by omega) (by omega), wr_eq (by omega) (by omega)]
        rw [if_pos y, ew] at ms
        rw [if_pos y, ew, if_pos (show 0 ≤ s.1 * vl (t + 4) + vl (t + 2) ∧ s.1 * vl (t + 4) + vl (t + 2) < 81 by omega), q3 _ (by omega) (by omega)]
        generalize hi : s.1 * vl (t + 4) + vl (t + 2) = i at ms
        have i0 : 0 ≤ i := by omega
        have i1 : i < 81 := by omega
        have eo : gMo s.2.2.2 i = s.2.2.2 i := by
          unfold gMo
          rw [if_neg (by omega), if_pos i1]
        rw [eo] at ms
        by_cases yo : s.2.2.2 i = 0
        · rw [if_pos yo] at ms
          rw [if_pos (show s.2.2.2 i - 1 = -1 by omega)]
          have f6 : Fr s203 B (mUI B 221 i.toNat v) := (Fr.refl _ _).up (Or.inr rfl)
          have ko6 : gKo B (mUI B 221 i.toNat v) := by
            refine ⟨mI_Un (by omega), mI_Un (by omega), fun c c0 cw c1 => ?_⟩
            rw [q0, q1] at cw
            have pm : s.1 * (vl (t + 4) + 1) ≤ s.1 * s.2.1 := Int.mul_le_mul_of_nonneg_left (by omega) (by omega)
            rw [Int.mul_add, Int.mul_one] at pm
            rw [mI_Z _ _ _ i0 c0, if_neg (by omega)]
          have M6 := M.f3 f6
          have L6 : gLv q n A (mUI B 221 i.toNat v) (t + 4) c 0 := by
            obtain ⟨a, ⟨b1, b2, b3, b4⟩, r⟩ := L
            exact ⟨a, ⟨by rw [mI_Un (by omega)]; exact b1, by rw [mI_Un (by omega)]; exact b2, by rw [mI_Un (by omega)]; exact b3, by rw [mI_Un (by omega)]; exact b4⟩, r⟩
          have La6 := L_adv hq L6 e1
          rw [show t + 4 + 1 = t + 5 by omega] at La6
          have w6 := B_take S M6 L6.2.1.1 L6.2.1.2.1 (by omega) tn (K := 48) (k := 31) rfl (by omega) (by omega)
          rw [if_pos e, show t + 4 + 1 = t + 5 by omega] at w6
          rw [w6, bd1_s]
          refine ⟨aT A (t + 5), bT (mUI B 221 i.toNat v) (t + 5), rfl, rfl, aT_f6 _ _, f6.trans (bT_f3 _ _), ko6.trans (bT_ko _ _), Or.inl ⟨La6, gM _ (fun r => absurd z' r) (fun _ => ?_)⟩⟩
          rw [ms]
          refine ⟨?_, fun r => absurd rfl r, fun _ => ?_⟩
          · rw [mI_Un (by omega), mI_Un (by omega)]; exact z
          · refine ⟨by rw [mI_Un (by omega), mI_Un (by omega)]; exact q0, by rw [mI_Un (by omega), mI_Un (by omega)]; exact q1, by rw [mI_Un (by omega), mI_Un (by omega)]; exact q2, fun j j0 j1 => ?_, q4, q5, q6, q7, q8, q9⟩
            show mI (bT (mUI B 221 i.toNat v) (t + 5)) 221 j.toNat = (if j = i ∧ 0 ≤ j ∧ j < 81 then (if kd (t + 1) = 14 then 1 else 2) else s.2.2.2 j) - 1
            rw [mI_Un (by omega), mI_Z _ _ _ i0 j0]
            by_cases ej : j = i
            · rw [if_pos ej, if_pos ⟨ej, j0, j1⟩]
              by_cases e14 : kd (t + 1) = 14
              · rw [if_pos e14, hvk.mpr e14]; rfl
              · rw [if_neg e14]
                have : v ≠ 0 := fun r => e14 (hvk.mp r)
                omega
            · rw [if_neg ej, if_neg (fun r => ej r.1)]
              exact q3 j j0 j1
        · rw [if_neg yo] at ms
          rw [if_neg (show ¬ s.2.2.2 i - 1 = -1 by omega), Q_mark hB.1 hB.2.1, bd1_s]
          have Lm := L_mk L 2 (t + 4)
          have Mm := M.f3 (bMk_fr B 2 (t + 4))
          have Lm5 := L_adv hq Lm e1
          have w6 := B_take S Mm Lm.2.1.1 Lm.2.1.2.1 (by omega) tn (K := 48) (k := 31) rfl (by omega) (by omega)
          rw [if_pos e] at w6
          rw [show t + 4 + 1 = t + 5 by omega] at Lm5 w6
          rw [w6, bd1_s]
          have km := (bMk_0 (e := 2) (t := t + 4) z)
          refine ⟨aT A (t + 5), bT (bMk B 2 (t + 4)) (t + 5), rfl, rfl, aT_f6 _ _, (bMk_fr _ _ _).trans (bT_f3 _ _), (bMk_ko _ _ _).trans (bT_ko _ _), Or.inl ⟨Lm5, gM _ (fun r => absurd z' r) (fun _ => ?_)⟩⟩
          rw [ms]
          refine ⟨?_, fun _ => ?_, fun r => absurd r (show ¬ (2 : Int) = 0 by decide)⟩
          · rw [mI_Un (by omega)]; exact km.1
          · rw [mI_Un (by omega)]; exact km.2
      · rw [if_neg y] at ms
        rw [if_neg y, Q_mark hB.1 hB.2.1, bd1_s]
        have Lm := L_mk L 5 (t + 4)
        have Mm := M.f3 (bMk_fr B 5 (t + 4))
        have Lm5 := L_adv hq Lm e1
        have w6 := B_take S Mm Lm.2.1.1 Lm.2.1.2.1 (by omega) tn (K := 48) (k := 31) rfl (by omega) (by omega)
        rw [if_pos e] at w6
        rw [show t + 4 + 1 = t + 5 by omega] at Lm5 w6
        rw [w6, bd1_s]
        have km := (bMk_0 (e := 5) (t := t + 4) z)
        refine ⟨aT A (t + 5), bT (bMk B 5 (t + 4)) (t + 5), rfl, rfl, aT_f6 _ _, (bMk_fr _ _ _).trans (bT_f3 _ _), (bMk_ko _ _ _).trans (bT_ko _ _), Or.inl ⟨Lm5, gM _ (fun r => absurd z' r) (fun _ => ?_)⟩⟩
        rw [ms]
        refine ⟨?_, fun _ => ?_, fun r => absurd r (show ¬ (5 : Int) = 0 by decide)⟩
        · rw [mI_Un (by omega)]; exact km.1
        · rw [mI_Un (by omega)]; exact km.2
    · rw [if_neg z, w2, bd1_s]
      have gM := gMk_step (kd := kd) (vl := vl) (t := t + 4) (B := B) (B' := B) (by omega) K (fun _ => ⟨rfl, rfl⟩) (fun r => absurd (K.1.trans r) z)
      rw [show t + 4 + 1 = t + 5 by omega] at gM
      exact ⟨aT A (t + 5), bT B (t + 5), rfl, rfl, aT_f6 _ _, bT_f3 _ _, bT_ko _ _, Or.inl ⟨La, gM.bT _⟩⟩
  · obtain ⟨D, ec⟩ := L_die hq n1 L
    rw [w1, bd1_s, if_neg e, if_pos rfl, w2, bd1_s]
    exact ⟨aF A, bW B (t + 4), rfl, rfl, aF_f6 _, bW_f3 _ _, bW_ko _ _, Or.inr ⟨t + 4, D, by omega, ec⟩⟩
theorem sK1_L (hq : q = 157 ∨ q = 194) (S : gSt kd vl n) (X : gXA q kd vl A) (M : gMB kd vl n B) (L : gLv q n A B (t + 2) c 0) (t0 : 0 ≤ t) (k0 : kd t = 12) (k1 : kd (t + 1) = 14 ∨ kd (t + 1) = 15) (k2 : kd (t + 2) = 48) (K : gMk kd vl (t + 3) B) (F : mI B 203 9 = 0 → vl (t + 2) < mI B 220 0) {v : Int} (hv : v = 0 ∨ v = 1) (hvk : v = 0 ↔ kd (t + 1) = 14) {M102 : ax_M} (m7 : mI M102 203 7 = t + 2) (m6 : mI M102 206 (t + 2).toNat = vl (t + 2)) : ∃ A' B', (bd1 (fX3_need A 48) fun M5 => (bd1 (fX3_need M5 38) fun M7 => (bd1 (fX3_need M7 48) fun M9 => (some M9)))) = some A' ∧ sK1 M102 v B = some B' ∧ Fr2 s166 A A' ∧ Fr s203 B B' ∧ gKo B B' ∧ ((gLv q n A' B' (t + 5) c 0 ∧ gMk kd vl (t + 5) B') ∨ ∃ x, gDe q n A' B' x ∧ t ≤ x ∧ mI B' 220 11 = c) := by
  have n1 := S.2.1
  unfold sK1
  rcases L_ask hq S X M L (K := 48) (k := 31) rfl (by omega) (by omega) with ⟨_, e1, w1, w2⟩ | ⟨e, _⟩
  · have L3 := L_adv hq L e1
    rw [show t + 2 + 1 = t + 3 by omega] at L3 w1 w2
    have X3 := X.f6 (aT_f6 A (t + 3))
    have M3 := M.f3 (bT_f3 B (t + 3))
    have K3 := K.bT (t + 3)
    rw [w1, bd1_s, w2, bd1_s]
    rcases L_ask hq S X3 M3 L3 (K := 38) (k := 54) rfl (by omega) (by omega) with ⟨e, e2, w3, w4⟩ | ⟨e, w3, w4⟩
    · have L4 := L_adv hq L3 e2
      have K4 := (K3.skip (by omega) (by omega) (by omega)).bT (t + 4)
      rw [show t + 3 + 1 = t + 4 by omega] at L4 w3 w4 K4
      have X4 := X3.f6 (aT_f6 _ (t + 4))
      have M4 := M3.f3 (bT_f3 _ (t + 4))
      rw [w3, bd1_s, w4, bd1_s]
      obtain ⟨A', B', r1, r2, f1, f2, g2, o⟩ := sK2_L hq S X4 M4 L4 t0 k0 k1 k2 e K4 (by
        intro z
        rw [mI_Un (by omega), mI_Un (by omega)] at z
        rw [mI_Un (by omega), mI_Un (by omega)]
        exact F z) hv hvk m7 m6
      exact ⟨A', B', r1, r2, ((aT_f6 _ _).trans (aT_f6 _ _)).trans f1, ((bT_f3 _ _).trans (bT_f3 _ _)).trans f2, ((bT_ko _ _).trans (bT_ko _ _)).trans g2, o⟩
    · obtain ⟨D, ec⟩ := L_die hq n1 L3
      rw [w3, bd1_s, w4, bd1_s, A_needD D.1.1, bd1_s, sK2_D D n1]
      exact ⟨_, _, rfl, rfl, ((aT_f6 _ _).trans (aF_f6 _)).trans (aF_f6 _), (bT_f3 _ _).trans (bW_f3 _ _), (bT_ko _ _).trans (bW_ko _ _), Or.inr ⟨t + 3, D.aF hq, by omega, ec⟩⟩
  · exact absurd k2 e
theorem L_stone (hq : q = 157 ∨ q = 194) (S : gSt kd vl n) (X : gXA q kd vl A) (M : gMB kd vl n B) (L : gLv q n A B (t + 1) c 0) (t0 : 0 ≤ t) (k0 : kd t = 12) (K : gMk kd vl (t + 1) B) : ∃ A' B', fX3_readStone A = some A' ∧ fX14_stone B = some B' ∧ Fr2 s166 A A' ∧ Fr s203 B B' ∧ gKo B B' ∧ ((gLv q n A' B' (t + 5) c 0 ∧ gMk kd vl (t + 5) B') ∨ ∃ x, gDe q n A' B' x ∧ t ≤ x ∧ mI B' 220 11 = c) := by
  have n1 := S.2.1
  rw [sK_eq]
  unfold fX3_readStone
  rcases L_player hq S X M L with ⟨v, hv, k1, tn2, r1, r2, hvk⟩ | ⟨r1, r2, _⟩
  · have L2 := L_adv hq L tn2
    have K2 := (K.skip (by omega) (by omega) (by omega)).bT (t + 2)
    rw [show t + 1 + 1 = t + 2 by omega] at L2 r1 r2 K2
    have X2 := X.f6 (aT_f6 A (t + 2))
    have M2 := M.f3 (bT_f3 B (t + 2))
    have hB := L2.2.1
    have tn : t + 2 < n := L2.2.2.2.1
    rw [r1, bd2_s, r2, bd2_s, hB.2.1, if_pos (show 0 ≤ t + 2 ∧ t + 2 < 402 by omega), B_is S M2 hB.1 hB.2.1 (by omega) tn (K := 48) (k := 31) rfl (by omega) (by omega), bd1_s]
    by_cases k2 : kd (t + 2) = 48
    · have e6 : mI (bT B (t + 2)) 206 (t + 2).toNat = vl (t + 2) := M2.2.2 _ (by omega) tn k2
      have ms : ∀ s, gM1 kd vl (t + 2) s = ((if vl (t + 2) < s.1 then 0 else 5), s) := by
        intro s
        unfold gM1
        rw [show t + 2 - 1 = t + 1 by omega, show t + 2 - 2 = t by omega, if_neg (by omega), if_pos k2, if_neg (by omega), if_neg (by omega), if_pos k0]
      rw [if_pos k2, if_neg (show ¬ (1 : Int) = 0 by decide), e6]
      by_cases y : vl (t + 2) < mI (bT B (t + 2)) 220 0
      · have K3 := K2.pass (by omega) (fun z => by
          have Q := K2.2.2 z
          rw [ms, if_pos (by rw [← Q.1]; exact y)])
        rw [show t + 2 + 1 = t + 3 by omega] at K3
        obtain ⟨A', B', w1, w2, f1, f2, g2, o⟩ := sK1_L hq S X2 M2 L2 t0 k0 k1 k2 K3 (fun _ => y) hv hvk hB.2.1 e6
        rw [if_pos y]
        exact ⟨A', B', w1, w2, (aT_f6 _ _).trans f1, (bT_f3 _ _).trans f2, (bT_ko _ _).trans g2, o⟩
      · have K3 := K2.mark (by omega) 5 (by decide) (fun z => by
          have Q := K2.2.2 z
          rw [ms]
          show (if vl (t + 2) < _ then 0 else 5) = (5 : Int)
          rw [if_neg (by rw [← Q.1]; exact y)])
        rw [show t + 2 + 1 = t + 3 by omega] at K3
        have Lm := L_mk L2 5 (t + 2)
        have Mm := M2.f3 (bMk_fr (bT B (t + 2)) 5 (t + 2))
        obtain ⟨A', B', w1, w2, f1, f2, g2, o⟩ := sK1_L hq S X2 Mm Lm t0 k0 k1 k2 K3 (fun z => by
          by_cases zz : mI (bT B (t + 2)) 203 9 = 0
          · have := (bMk_0 (e := 5) (t := t + 2) zz).1
            omega
          · rw [bMk_1 zz] at z
            exact absurd z zz) hv hvk hB.2.1 e6
        rw [if_neg y, Q_mark hB.1 hB.2.1, bd1_s]
        exact ⟨A', B', w1, w2, (aT_f6 _ _).trans f1, ((bT_f3 _ _).trans (bMk_fr _ _ _)).trans f2, ((bT_ko _ _).trans (bMk_ko _ _ _)).trans g2, o⟩
    · obtain ⟨D, ec⟩ := L_die hq n1 L2
      have w2 := B_take S M2 hB.1 hB.2.1 (by omega) tn (K := 48) (k := 31) rfl (by omega) (by omega)
      rw [if_neg k2] at w2
      rw [if_neg k2, if_pos rfl]
      unfold sK1
      rw [w2, bd1_s, B_takeD D.2.1.1, bd1_s, sK2_D D n1, A_needN X2 L2.1.2.1 k2, bd1_s, A_needD D.1.1, bd1_s, A_needD (D.aF hq).1.1, bd1_s]
      exact ⟨_, _, rfl, rfl, (((aT_f6 _ _).trans (aF_f6 _)).trans (aF_f6 _)).trans (aF_f6 _), (bT_f3 _ _).trans (bW_f3 _ _), (bT_ko _ _).trans (bW_ko _ _), Or.inr ⟨t + 2, (D.aF hq).aF hq, by omega, ec⟩⟩
  · obtain ⟨D, ec⟩ := L_die hq n1 L
    have tn : t + 1 < n := L.2.2.2.1
    have D1 := D.aF hq
    have D2 := D1.aF hq
    rw [r1, bd2_s, r2, bd2_s, D.2.1.2.2.2.1, if_pos (show 0 ≤ t + 1 ∧ t + 1 < 402 by omega), B_isD D.2.1.1, bd1_s, if_pos rfl, sK1_D D n1, A_needD D.1.1, bd1_s, A_needD D1.1.1, bd1_s, A_needD D2.1.1, bd1_s]
    exact ⟨_, _, rfl, rfl, (((aF_f6 _).trans (aF_f6 _)).trans (aF_f6 _)).trans (aF_f6 _), bW_f3 _ _, bW_ko _ _, Or.inr ⟨t + 1, D2.aF hq, by omega, ec⟩⟩
end STB
