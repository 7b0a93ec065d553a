/-! part C: the line that tells the pond, in step -/
section PN2
variable {q : Nat} {kd : Int → Nat} {vl : Int → Int} {n : Int} {A B A1 B1 B' : ax_M} {t c d x p : Int}
theorem gDe.s0 (D : gDe q n A B x) {j : Nat} {v : Int} (h : j ≤ 1) : gDe q n A (mUI B 220 j v) x := by
  obtain ⟨r, ⟨b1, b2, b3, b4, b5⟩, s⟩ := D
  refine ⟨r, ⟨?_, ?_, ?_, ?_, ?_⟩, s⟩
  · rw [mI_Un (by omega)]; exact b1
  · rw [mI_Un (by omega)]; exact b2
  · rw [mI_Un (by omega)]; exact b3
  · rw [mI_Un (by omega)]; exact b4
  · rw [mI_Un (by omega)]; exact b5
theorem bT_f0 (B : ax_M) (v : Int) : Fr s220 B (bT B v) := (Fr.refl _ _).up (Or.inl ⟨rfl, by omega, by omega⟩)
theorem bW_f0 (B : ax_M) (v : Int) : Fr s220 B (bW B v) := (((Fr.refl _ _).up (Or.inl ⟨rfl, by omega, by omega⟩)).up (Or.inl ⟨rfl, by omega, by omega⟩)).up (Or.inl ⟨rfl, by omega, by omega⟩)
theorem gMB.f0 (M : gMB kd vl n B) (f : Fr s220 B B') : gMB kd vl n B' := M.fr f (fun k j z => by unfold s220; omega)
theorem pond_D3 (D : gDe q n A B x) (v : Int) : (bd1 (fX14_take (mUI B 220 1 v) 53) fun M110 => (some M110)) = some (mUI B 220 1 v) := by
  rw [B_takeD (D.s0 (j := 1) (v := v) (by omega)).2.1.1, bd1_s]
theorem pond_D2 (D : gDe q n A B x) (hn : n ≤ 401) : ∃ w, (bd1 (fX14_take B 1) fun M105 => (bd2 (fX14_size M105) fun v108 M107 => (bd1 (fX14_take (mUI M107 220 1 v108) 53) fun M110 => (some M110)))) = some (mUI B 220 1 w) := by
  obtain ⟨w, h⟩ := size_D D hn
  exact ⟨w, by rw [B_takeD D.2.1.1, bd1_s, h, bd2_s, pond_D3 D]⟩
theorem L_pond (hq : q = 157 ∨ q = 194) (S : gSt kd vl n) (X : gXA q kd vl A) (M : gMB kd vl n B) (L : gLv q n A B (t + 1) c 0) (t0 : 0 ≤ t) (k0 : kd t = 10) (K : gMk kd vl (t + 1) B) : ∃ A' B', (∀ F : ax_M → Option (Int × ax_M), (bd1 (fX3_need A 48) fun M32 => (bd1 (fX3_need M32 11) fun M34 => (bd1 (fX3_need M34 48) fun M36 => (bd1 (fX3_need M36 37) fun M38 => F M38)))) = F A') ∧ fX14_pond B = some B' ∧ Fr2 s166 A A' ∧ Fr s220 B B' ∧ ((gLv q n A' B' (t + 5) c 0 ∧ gMk kd vl (t + 5) B' ∧ kd (t + 4) = 37) ∨ ∃ x, gDe q n A' B' x ∧ t ≤ x) := by
  have n1 := S.2.1
  unfold fX14_pond
  rcases L_num (s := 0) hq S X M L K (Or.inl ⟨rfl, by rw [show t + 1 - 1 = t by omega]; exact k0⟩) with ⟨e, B1, r1, r2, L1, K1, f1⟩ | ⟨e, ⟨w, r1⟩, r2⟩
  · rw [show t + 1 + 1 = t + 2 by omega] at r2 L1 K1
    have X1 := X.f6 (aT_f6 A (t + 2))
    have M1 := M.f0 f1
    rw [r1, bd2_s]
    rcases L_ask hq S X1 M1 L1 (K := 11) (k := 1) rfl (by omega) (by omega) with ⟨e2, n2, w1, w2⟩ | ⟨e2, w1, w2⟩
    · have L2 := L_adv hq L1 n2
      have K2 := (K1.skip (by omega) (by omega) (by omega)).bT (t + 2 + 1)
      rw [show t + 2 + 1 = t + 3 by omega] at L2 K2 w1 w2
      have X2 := X1.f6 (aT_f6 _ (t + 3))
      have f2 := f1.trans (bT_f0 _ (t + 3))
      have M2 := M.f0 f2
      rw [w2, bd1_s]
      rcases L_num (s := 1) hq S X2 M2 L2 K2 (Or.inr ⟨rfl, by rw [show t + 3 - 1 = t + 2 by omega]; exact e2⟩) with ⟨e3, B3, r3, r4, L3, K3, f3⟩ | ⟨e3, ⟨w, r3⟩, r4⟩
      · rw [show t + 3 + 1 = t + 4 by omega] at r4 L3 K3
        have X3 := X2.f6 (aT_f6 _ (t + 4))
        have M3 := M.f0 (f2.trans f3)
        rw [r3, bd2_s]
        rcases L_ask hq S X3 M3 L3 (K := 37) (k := 53) rfl (by omega) (by omega) with ⟨e4, n4, w3, w4⟩ | ⟨e4, w3, w4⟩
        · have L4 := L_adv hq L3 n4
          have K4 := (K3.skip (by omega) (by omega) (by omega)).bT (t + 4 + 1)
          rw [show t + 4 + 1 = t + 5 by omega] at L4 K4 w3 w4
          refine ⟨_, _, fun F => ?_, by rw [w4, bd1_s], (((aT_f6 _ _).trans (aT_f6 _ _)).trans (aT_f6 _ _)).trans (aT_f6 _ _), (f2.trans f3).trans (bT_f0 _ _), Or.inl ⟨L4, K4, e4⟩⟩
          rw [r2, bd1_s, w1, bd1_s, r4, bd1_s, w3, bd1_s]
        · obtain ⟨D, ec⟩ := L_die hq n1 L3
          refine ⟨_, _, fun F => ?_, by rw [w4, bd1_s], (((aT_f6 _ _).trans (aT_f6 _ _)).trans (aT_f6 _ _)).trans (aF_f6 _), (f2.trans f3).trans (bW_f0 _ _), Or.inr ⟨t + 4, D, by omega⟩⟩
          rw [r2, bd1_s, w1, bd1_s, r4, bd1_s, w3, bd1_s]
      · obtain ⟨D, ec⟩ := L_die hq n1 L2
        rw [r3, bd2_s]
        refine ⟨aF (aF (aT (aT A (t + 2)) (t + 3))), _, fun F => ?_, pond_D3 D w, (((aT_f6 _ _).trans (aT_f6 _ _)).trans (aF_f6 _)).trans (aF_f6 _), (f2.trans (bW_f0 _ _)).up (Or.inr ⟨rfl, by omega⟩), Or.inr ⟨t + 3, (D.s0 (by omega)).aF hq, by omega⟩⟩
        rw [r2, bd1_s, w1, bd1_s, r4, bd1_s, A_needD D.1.1, bd1_s]
    · obtain ⟨D, ec⟩ := L_die hq n1 L1
      obtain ⟨w, hw⟩ := size_D D n1
      have D1 := D.aF hq
      rw [w2, bd1_s, hw, bd2_s]
      refine ⟨aF (aF (aF (aT A (t + 2)))), _, fun F => ?_, pond_D3 D w, (((aT_f6 _ _).trans (aF_f6 _)).trans (aF_f6 _)).trans (aF_f6 _), (f1.trans (bW_f0 _ _)).up (Or.inr ⟨rfl, by omega⟩), Or.inr ⟨t + 2, ((D.s0 (by omega)).aF hq).aF hq, by omega⟩⟩
      rw [r2, bd1_s, w1, bd1_s, A_needD D.1.1, bd1_s, A_needD D1.1.1, bd1_s]
  · obtain ⟨D, ec⟩ := L_die hq n1 L
    have D0 : gDe q n (aF A) (mUI (bW B (t + 1)) 220 0 w) (t + 1) := D.s0 (by omega)
    obtain ⟨w2, hw⟩ := pond_D2 D0 n1
    have D1 := D.aF hq
    have D2 := D1.aF hq
    rw [r1, bd2_s, hw]
    refine ⟨aF (aF (aF (aF A))), _, fun F => ?_, rfl, (((aF_f6 _).trans (aF_f6 _)).trans (aF_f6 _)).trans (aF_f6 _), ((bW_f0 _ _).up (Or.inr ⟨rfl, by omega⟩)).up (Or.inr ⟨rfl, by omega⟩), Or.inr ⟨t + 1, (((D0.s0 (by omega)).aF hq).aF hq).aF hq, by omega⟩⟩
    rw [r2, bd1_s, A_needD D.1.1, bd1_s, A_needD D1.1.1, bd1_s, A_needD D2.1.1, bd1_s]
end PN2
