/-! part C: the line that tells the pond -/
def s220 : Nat → Nat → Prop := fun k j => (k = 203 ∧ 7 ≤ j ∧ j ≤ 11) ∨ (k = 220 ∧ j ≤ 1)
def mSiz (M : ax_M) : Option (Int × ax_M) := (bd1 (fX14_take M 31) fun M105 => (if (mI M105 203 8) = 0 then (if 0 ≤ (wr ((mI M105 203 7) - 1)) ∧ (wr ((mI M105 203 7) - 1)) < 402 then (some ((mI M105 206 (Int.toNat (wr ((mI M105 203 7) - 1)))), M105)) else none) else (if 0 ≤ (wr ((mI M105 203 7) - 0)) ∧ (wr ((mI M105 203 7) - 0)) < 402 then (some ((mI M105 206 (Int.toNat (wr ((mI M105 203 7) - 0)))), M105)) else none)))
theorem mSiz_eq (M : ax_M) : fX14_size M = (bd1 (fX14_is M 31) fun v102 => (if v102 = 0 then mSiz M else (if 0 ≤ (mI M 203 7) ∧ (mI M 203 7) < 402 then (if (fX14_isIn M (mI M 206 (Int.toNat (mI M 203 7))) 3 9) = 0 then (bd1 (fX14_mark M 5) fun M112 => mSiz M112) else mSiz M) else none))) := rfl
section PND
variable {q : Nat} {kd : Int → Nat} {vl : Int → Int} {n : Int} {A B A1 B1 B' : ax_M} {t c d x p : Int}
theorem mSiz_D (D : gDe q n A B x) (hn : n ≤ 401) : ∃ w, mSiz B = some (w, B) := by
  have x0 := D.2.2.1
  have x1 := D.2.2.2
  refine ⟨mI B 206 (Int.toNat (wr (mI B 203 7 - 0))), ?_⟩
  unfold mSiz
  rw [B_takeD D.2.1.1, bd1_s, if_neg (show ¬ mI B 203 8 = 0 by have := D.2.1.1; omega), D.2.1.2.2.2.1, show x - 0 = x by omega, wr_eq (by omega) (by omega), if_pos (show 0 ≤ x ∧ x < 402 by omega)]
theorem size_D (D : gDe q n A B x) (hn : n ≤ 401) : ∃ w, fX14_size B = some (w, B) := by
  obtain ⟨w, h⟩ := mSiz_D D hn
  refine ⟨w, ?_⟩
  rw [mSiz_eq, B_isD D.2.1.1, bd1_s, if_pos rfl, h]
theorem L_size (S : gSt kd vl n) (M : gMB kd vl n B) (L : gLv q n A B t c d) (hA : mI A 166 3 = 0) : (kd t = 48 ∧ t + 1 < n ∧ fX14_size B = some (vl t, bT (if 3 ≤ vl t ∧ vl t ≤ 9 then B else bMk B 5 t) (t + 1))) ∨ (kd t ≠ 48 ∧ ∃ w, fX14_size B = some (w, bW B t)) := by
  have n1 := S.2.1
  have hB := L.2.1
  have t0 : 0 ≤ t := L.2.2.1
  have tn : t < n := L.2.2.2.1
  rw [mSiz_eq, B_is S M hB.1 hB.2.1 t0 tn (K := 48) (k := 31) rfl (by omega) (by omega), bd1_s]
  by_cases e : kd t = 48
  · have e1 := (gMB_iff S M t0 tn (K := 48) (by omega) (by omega)).2 e
    have e6 := M.2.2 t t0 tn e
    have sz : ∀ B', gLv q n A B' t c d → gMB kd vl n B' → mSiz B' = some (vl t, bT B' (t + 1)) := by
      intro B' L' M'
      have w := B_take S M' L'.2.1.1 L'.2.1.2.1 t0 tn (K := 48) (k := 31) rfl (by omega) (by omega)
      rw [if_pos e] at w
      have e8 : mI (bT B' (t + 1)) 203 8 = 0 := by rw [mI_Un (by omega)]; exact L'.2.1.1
      have e9 : mI (bT B' (t + 1)) 206 t.toNat = vl t := by rw [mI_Un (by omega)]; exact M'.2.2 t t0 tn e
      unfold mSiz
      rw [w, bd1_s, if_pos e8, mI_Us, show t + 1 - 1 = t by omega, wr_eq (by omega) (by omega), if_pos (show 0 ≤ t ∧ t < 402 by omega), e9]
    refine Or.inl ⟨e, e1, ?_⟩
    rw [if_pos e, if_neg (show ¬ (1 : Int) = 0 by decide), hB.2.1, if_pos (show 0 ≤ t ∧ t < 402 by omega), e6]
    by_cases y : 3 ≤ vl t ∧ vl t ≤ 9
    · have eI : fX14_isIn B (vl t) 3 9 = 1 := by
        unfold fX14_isIn
        rw [if_neg (by omega), if_neg (by omega)]
      rw [eI, if_neg (show ¬ (1 : Int) = 0 by decide), if_pos y, sz B L M]
    · have eI : fX14_isIn B (vl t) 3 9 = 0 := by
        unfold fX14_isIn
        by_cases z : vl t < 3
        · rw [if_pos z]
        · rw [if_neg z, if_pos (by omega)]
      rw [eI, if_pos rfl, if_neg y, Q_mark hB.1 hB.2.1, bd1_s, sz _ (L_mk L 5 t) (M.f3 (bMk_fr B 5 t))]
  · refine Or.inr ⟨e, ?_⟩
    have w := B_take S M hB.1 hB.2.1 t0 tn (K := 48) (k := 31) rfl (by omega) (by omega)
    rw [if_neg e] at w
    have e8 : mI (bW B t) 203 8 = 1 := by rw [mI_Un (by omega), mI_Un (by omega), mI_Us]
    have e7 : mI (bW B t) 203 7 = t := by rw [mI_Un (by omega), mI_Un (by omega), mI_Un (by omega)]; exact hB.2.1
    refine ⟨mI (bW B t) 206 (Int.toNat t), ?_⟩
    rw [if_neg e, if_pos rfl]
    unfold mSiz
    rw [w, bd1_s, if_neg (show ¬ mI (bW B t) 203 8 = 0 by omega), e7, show t - 0 = t by omega, wr_eq (by omega) (by omega), if_pos (show 0 ≤ t ∧ t < 402 by omega)]
theorem L_num (hq : q = 157 ∨ q = 194) (S : gSt kd vl n) (X : gXA q kd vl A) (M : gMB kd vl n B) (L : gLv q n A B t c 0) (K : gMk kd vl t B) {s : Nat} (hs : (s = 0 ∧ kd (t - 1) = 10) ∨ (s = 1 ∧ kd (t - 1) = 11)) : (kd t = 48 ∧ ∃ B1, fX14_size B = some (vl t, B1) ∧ fX3_need A 48 = some (aT A (t + 1)) ∧ gLv q n (aT A (t + 1)) (mUI B1 220 s (vl t)) (t + 1) c 0 ∧ gMk kd vl (t + 1) (mUI B1 220 s (vl t)) ∧ Fr s220 B (mUI B1 220 s (vl t))) ∨ (kd t ≠ 48 ∧ (∃ w, fX14_size B = some (w, bW B t)) ∧ fX3_need A 48 = some (aF A)) := by
  have n1 := S.2.1
  have t0 : 0 ≤ t := L.2.2.1
  have tn : t < n := L.2.2.2.1
  rcases L_size S M L L.1.1 with ⟨e, e1, w⟩ | ⟨e, w⟩
  · refine Or.inl ⟨e, _, w, A_need X L.1.1 L.1.2.1 t0 (by omega) e, ?_, ?_, ?_⟩
    · have L' : gLv q n A (if 3 ≤ vl t ∧ vl t ≤ 9 then B else bMk B 5 t) t c 0 := by
        by_cases y : 3 ≤ vl t ∧ vl t ≤ 9
        · rw [if_pos y]; exact L
        · rw [if_neg y]; exact L_mk L 5 t
      obtain ⟨r, ⟨b1, b2, b3, b4⟩, z⟩ := L_adv hq L' e1
      exact ⟨r, ⟨by rw [mI_Un (by omega)]; exact b1, by rw [mI_Un (by omega)]; exact b2, by rw [mI_Un (by omega)]; exact b3, by rw [mI_Un (by omega)]; exact b4⟩, z⟩
    · refine gMk_step t0 K (fun z => ?_) (fun z => ?_)
      · have h9 : mI B 203 9 ≠ 0 := by rw [K.1]; exact z
        have eb : (if 3 ≤ vl t ∧ vl t ≤ 9 then B else bMk B 5 t) = B := by
          by_cases y : 3 ≤ vl t ∧ vl t ≤ 9
          · rw [if_pos y]
          · rw [if_neg y, bMk_1 h9]
        rw [eb]
        exact ⟨by rw [mI_Un (by omega), mI_Un (by omega)], by rw [mI_Un (by omega), mI_Un (by omega)]⟩
      · have h9 : mI B 203 9 = 0 := K.1.trans z
        have Q := K.2.2 z
        generalize (gMR kd vl t.toNat).2.2 = g at Q ⊢
        obtain ⟨q0, q1, q2, q3, q4, q5, q6, q7, q8, q9⟩ := Q
        have gm : gM1 kd vl t g = ((if vl t < 3 then 5 else if 9 < vl t then 5 else 0), (if s = 0 then vl t else g.1), (if s = 0 then g.2.1 else vl t), g.2.2) := by
          unfold gM1
          rw [if_neg (by omega), if_pos e]
          rcases hs with ⟨rfl, h⟩ | ⟨rfl, h⟩
          · rw [if_pos h]; rfl
          · rw [if_neg (by omega), if_pos h]; rfl
        rw [gm]
        by_cases y : 3 ≤ vl t ∧ vl t ≤ 9
        · have ey : (if vl t < 3 then (5 : Int) else if 9 < vl t then 5 else 0) = 0 := by rw [if_neg (by omega), if_neg (by omega)]
          rw [if_pos y]
          show _ = (if vl t < 3 then (5 : Int) else if 9 < vl t then 5 else 0) ∧ ((if vl t < 3 then (5 : Int) else if 9 < vl t then 5 else 0) ≠ 0 → _) ∧ ((if vl t < 3 then (5 : Int) else if 9 < vl t then 5 else 0) = 0 → _)
          rw [ey]
          refine ⟨by rw [mI_Un (by omega), mI_Un (by omega)]; exact h9, fun r => absurd rfl r, fun _ => ?_⟩
          rcases hs with ⟨rfl, h⟩ | ⟨rfl, h⟩
          · exact ⟨mI_Us _ _ _ _, by rw [mI_Un (by omega), mI_Un (by omega)]; exact q1, by rw [mI_Un (by omega), mI_Un (by omega)]; exact q2, fun j a b => by rw [mI_Un (by omega), mI_Un (by omega)]; exact q3 j a b, y.1, y.2, q6, q7, q8, q9⟩
          · exact ⟨by rw [mI_Un (by omega), mI_Un (by omega)]; exact q0, mI_Us _ _ _ _, by rw [mI_Un (by omega), mI_Un (by omega)]; exact q2, fun j a b => by rw [mI_Un (by omega), mI_Un (by omega)]; exact q3 j a b, q4, q5, y.1, y.2, q8, q9⟩
        · have ey : (if vl t < 3 then (5 : Int) else if 9 < vl t then 5 else 0) = 5 := by
            by_cases z1 : vl t < 3
            · rw [if_pos z1]
            · rw [if_neg z1, if_pos (by omega)]
          obtain ⟨k1, k2⟩ := bMk_0 (e := 5) (t := t) h9
          rw [if_neg y]
          show _ = (if vl t < 3 then (5 : Int) else if 9 < vl t then 5 else 0) ∧ ((if vl t < 3 then (5 : Int) else if 9 < vl t then 5 else 0) ≠ 0 → _) ∧ ((if vl t < 3 then (5 : Int) else if 9 < vl t then 5 else 0) = 0 → _)
          rw [ey]
          exact ⟨by rw [mI_Un (by omega), mI_Un (by omega)]; exact k1, fun _ => by rw [mI_Un (by omega), mI_Un (by omega)]; exact k2, fun r => absurd r (by decide)⟩
    · have f0 : Fr s220 B (if 3 ≤ vl t ∧ vl t ≤ 9 then B else bMk B 5 t) := by
        by_cases y : 3 ≤ vl t ∧ vl t ≤ 9
        · rw [if_pos y]; exact Fr.refl _ _
        · rw [if_neg y]
          unfold bMk
          split
          · exact ((Fr.refl _ _).up (Or.inl ⟨rfl, by omega, by omega⟩)).up (Or.inl ⟨rfl, by omega, by omega⟩)
          · exact Fr.refl _ _
      exact (f0.up (Or.inl ⟨rfl, by omega, by omega⟩)).up (Or.inr ⟨rfl, by omega⟩)
  · exact Or.inr ⟨e, w, A_needN X L.1.2.1 e⟩
end PND
