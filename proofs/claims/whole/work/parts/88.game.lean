/-! part C: a whole game is read, in step -/
theorem lp_1 {σ ρ : Type} {b : σ → Option (σ ⊕ ρ)} {s : σ} {r : ρ} (h : b s = some (.inr r)) : lp b lpN s = some r := by
  show lp b (999999 + 1) s = some r
  exact lp_r h
def sGQ (q : Nat) : Nat → Nat → Prop := fun k j => (k = 166 ∧ (j = 1 ∨ j = 2 ∨ j = 3)) ∨ (k = q ∧ (j = 2 ∨ j = 9)) ∨ (q + 1 ≤ k ∧ k ≤ q + 8)
theorem sGq_Q {q : Nat} : ∀ k j, sGq q k j → sGQ q k j := by
  intro k j h
  unfold sGq at h
  unfold sGQ
  omega
/-- what the model holds ahead of a game -/
def gB0 (B : ax_M) : Prop := (mI B 203 7 = 0 ∧ mI B 203 8 = 0 ∧ mI B 203 9 = 0 ∧ mI B 203 11 = 0) ∧ (mI B 220 0 = 7 ∧ mI B 220 1 = 7 ∧ mI B 220 3 = 0 ∧ mI B 220 11 = 0) ∧ ∀ j : Int, 0 ≤ j → j < 81 → mI B 221 j.toNat = -1
/-- cells beyond the pond that is told are empty -/
def gQo (B : ax_M) : Prop := ∀ c : Int, 0 ≤ c → mI B 220 0 * mI B 220 1 ≤ c → c < 81 → mI B 221 c.toNat = -1
theorem gQo.ko {B B' : ax_M} (H : gQo B) (k : gKo B B') : gQo B' := fun c c0 cw c1 => (k.2.2 c c0 (by rw [← k.1, ← k.2.1]; exact cw) c1).trans (H c c0 (by rw [← k.1, ← k.2.1]; exact cw) c1)
section GME
variable {q : Nat} {kd : Int → Nat} {vl : Int → Int} {n : Int} {A B A1 B1 B' A' : ax_M} {t c d x p i : Int}
theorem gB0.mk (H : gB0 B) : gMk kd vl 0 B := by
  obtain ⟨⟨h7, h8, h9, h11⟩, ⟨e0, e1, e3, e11⟩, e4⟩ := H
  refine ⟨h9, fun z => absurd rfl z, fun _ => ⟨e0, e1, e3, fun j j0 j1 => ?_, ?_⟩⟩
  · rw [e4 j j0 j1]; rfl
  · show (3 : Int) ≤ 7 ∧ (7 : Int) ≤ 9 ∧ (3 : Int) ≤ 7 ∧ (7 : Int) ≤ 9 ∧ (0 : Int) ≤ 0 ∧ (0 : Int) ≤ 16
    decide
theorem L_dead (D : gDe q n A B x) : lp (fun s => fX3_firstWrong_b62 s.2 s.1) lpN (0, A) = some A ∧ lp (fun s => fX14_game_b12 s) lpN B = some B := by
  constructor
  · refine lp_1 ?_
    show fX3_firstWrong_b62 A 0 = _
    unfold fX3_firstWrong_b62
    rw [if_pos (show (0 : Int) < 400 by decide), if_neg (show ¬ mI A 166 3 = 0 by have := D.1.1; omega)]
  · refine lp_1 ?_
    show fX14_game_b12 B = _
    rw [mTl_eq, if_neg (show ¬ mI B 203 8 = 0 by have := D.2.1.1; omega)]
theorem L_game (hq : q = 157 ∨ q = 194) (S : gSt kd vl n) (k1 : ∀ t, fX10_kindOf A t = kd t) (k2 : ∀ t, fX10_valueOf A t = vl t) (km : kd (-1) ≠ 12) (M : gMB kd vl n B) (H : gB0 B) : ∃ A' B' r, fX3_firstWrong A q = some (r, A') ∧ fX14_game B = some B' ∧ Fr2 (sGQ q) A A' ∧ Fr sGg B B' ∧ gQo B' ∧ ((r = -1 ∧ ∃ t' c', gGm q kd vl n A' B' t' c' ∧ kd t' = 49) ∨ (0 ≤ r ∧ r < n ∧ gDe q n A' B' r)) := by
  obtain ⟨A2, eA2⟩ : ∃ A2, A2 = mUI (mUI (mUI (mUI (mUR A 166 1 (some q)) q 2 0) q 9 0) 166 2 0) 166 3 0 := ⟨_, rfl⟩
  have fA2 : Fr2 (sGQ q) A A2 := by
    rw [eA2]
    refine Fr2.up (Fr2.up (Fr2.up (Fr2.up (Fr2.upR (Fr2.refl (sGQ q) A) ?_) ?_) ?_) ?_) ?_ <;> (unfold sGQ; omega)
  have r1 : mR A2 166 1 = some q := by rw [eA2]; exact mR_Us _ _ _ _
  have i3 : mI A2 166 3 = 0 := by rw [eA2]; exact mI_Us _ _ _ _
  have i2 : mI A2 166 2 = 0 := by rw [eA2, mI_Un (by omega), mI_Us]
  have iq9 : mI A2 q 9 = 0 := by rw [eA2, mI_Un (by omega), mI_Un (by omega), mI_Us]
  have iq2 : mI A2 q 2 = 0 := by rw [eA2, mI_Un (by omega), mI_Un (by omega), mI_Un (by omega), mI_Us]
  have X : gXA q kd vl A2 := by
    refine ⟨fun t => ?_, fun t => ?_, r1⟩
    · rw [← k1 t]
      unfold fX10_kindOf
      rw [(fA2.1 153 3 (by unfold sGQ; omega)).1, (fA2.1 154 t.toNat (by unfold sGQ; omega)).2]
    · rw [← k2 t]
      unfold fX10_valueOf
      rw [(fA2.1 156 t.toNat (by unfold sGQ; omega)).1]
  have K0 : gMk kd vl 0 B := H.mk
  obtain ⟨⟨h7, h8, h9, h11⟩, ⟨e0, e1, e3, e11⟩, e4⟩ := H
  have n1 := S.1
  have n4 := S.2.1
  have L : gLv q n A2 B 0 0 0 := ⟨⟨i3, i2, iq2⟩, ⟨h8, h7, e11, h11⟩, by omega, by omega, by omega, by omega, by omega, by omega⟩
  have red : fX3_firstWrong A q = (bd2 (fX3_take A2 10) fun v8 M7 => (if v8 = 0 then (bd1 (lp (fun s => fX3_firstWrong_b62 s.2 s.1) lpN (0, M7)) fun t28 => (if (mI t28 166 3) = 0 then (some ((-1), t28)) else (some ((mI t28 166 2), t28)))) else (bd1 (fX3_need M7 48) fun M32 => (bd1 (fX3_need M32 11) fun M34 => (bd1 (fX3_need M34 48) fun M36 => (bd1 (fX3_need M36 37) fun M38 => (bd1 (lp (fun s => fX3_firstWrong_b62 s.2 s.1) lpN (0, M38)) fun t39 => (if (mI t39 166 3) = 0 then (some ((-1), t39)) else (some ((mI t39 166 2), t39)))))))))) := by
    unfold fX3_firstWrong
    rw [mR_Us]
    show (if (q = 157 ∨ q = 194) then (bd1 (fX7_begin (mUR A 166 1 (some q)) q) _) else none) = _
    rw [if_pos hq]
    unfold fX7_begin
    rw [bd1_s, eA2]
  have fin : ∀ {A3 B3 : ax_M}, Fr2 (sGQ q) A2 A3 → Fr sGg B B3 → gQo B3 → (∃ A4 B4, lp (fun s => fX3_firstWrong_b62 s.2 s.1) lpN (0, A3) = some A4 ∧ lp (fun s => fX14_game_b12 s) lpN B3 = some B4 ∧ (Fr2 (sGq q) A3 A4 ∧ Fr sGg B3 B4 ∧ gKo B3 B4) ∧ ((∃ t' c', gGm q kd vl n A4 B4 t' c' ∧ kd t' = 49) ∨ ∃ x, gDe q n A4 B4 x)) → ∃ A' B' r, (bd1 (lp (fun s => fX3_firstWrong_b62 s.2 s.1) lpN (0, A3)) fun t28 => (if (mI t28 166 3) = 0 then (some ((-1), t28)) else (some ((mI t28 166 2), t28)))) = some (r, A') ∧ (bd1 (lp (fun s => fX14_game_b12 s) lpN B3) fun t174 => (some t174)) = some B' ∧ Fr2 (sGQ q) A A' ∧ Fr sGg B B' ∧ gQo B' ∧ ((r = -1 ∧ ∃ t' c', gGm q kd vl n A' B' t' c' ∧ kd t' = 49) ∨ (0 ≤ r ∧ r < n ∧ gDe q n A' B' r)) := by
    intro A3 B3 fA fB qo hh
    obtain ⟨A4, B4, w1, w2, ⟨f1, f2, ko⟩, o⟩ := hh
    rw [w1, bd1_s, w2, bd1_s]
    rcases o with ⟨t', c', G, k49⟩ | ⟨x, D⟩
    · have hL := G.2.2.1
      rw [if_pos hL.1.1]
      exact ⟨A4, B4, -1, rfl, rfl, (fA2.trans fA).trans (f1.mono sGq_Q), fB.trans f2, qo.ko ko, Or.inl ⟨rfl, t', c', G, k49⟩⟩
    · have d1 := D.1.1
      have d2 := D.1.2.1
      have d3 := D.2.2
      rw [if_neg (show ¬ mI A4 166 3 = 0 by omega), d2]
      exact ⟨A4, B4, x, rfl, rfl, (fA2.trans fA).trans (f1.mono sGq_Q), fB.trans f2, qo.ko ko, Or.inr ⟨d3.1, d3.2, D⟩⟩
  rw [red]
  unfold fX14_game
  by_cases k10 : kd 0 = 10
  · have e1' := (gMB_iff S M (Int.le_refl 0) (show (0 : Int) < n by omega) (K := 10) (by omega) (by omega)).2 k10
    rw [A_take X i3 i2 (Int.le_refl 0) (by omega) k10, bd2_s, if_neg (show ¬ (1 : Int) = 0 by decide), B_takes S M h8 h7 (Int.le_refl 0) (by omega) (K := 10) (k := 0) rfl (by omega) (by omega) k10, bd2_s, if_neg (show ¬ (1 : Int) = 0 by decide)]
    have K1 : gMk kd vl (0 + 1) (bT B (0 + 1)) := (K0.skip (Int.le_refl 0) (by omega) (by omega)).bT _
    obtain ⟨A3, B3, w1, w2, f1, f2, o⟩ := L_pond (t := 0) hq S (X.f6 (aT_f6 A2 (0 + 1))) (M.f3 (bT_f3 B (0 + 1))) (L_adv hq L e1') (Int.le_refl 0) k10 K1
    have fA3 : Fr2 s166 A2 A3 := (aT_f6 A2 (0 + 1)).trans f1
    have fA3' : Fr2 (sGQ q) A2 A3 := fA3.mono (fun k j z => by unfold s166 at z; unfold sGQ; omega)
    have fB3 : Fr s220 B B3 := (bT_f0 B (0 + 1)).trans f2
    have fB3' : Fr sGg B B3 := fB3.mono (fun k j z => by unfold s220 at z; unfold sGg; omega)
    rw [w1, w2, bd1_s]
    refine fin fA3' fB3' (fun c c0 _ c1 => by rw [fB3.2 221 _ (by unfold s220; omega)]; exact e4 c c0 c1) ?_
    rcases o with ⟨L3, K3, k37⟩ | ⟨x, D, _⟩
    · refine L_lines hq S (t := 0 + 5) (c := 0) ⟨X.f6 fA3, M.f0 fB3, L3, K3, ?_, ?_, ?_, fun i i0 i1 => ?_, fun z => ?_⟩
      · rw [show (0 : Int) + 5 - 1 = 0 + 4 from rfl, k37]; decide
      · rw [fB3.2 220 3 (by unfold s220; omega), e3]; decide
      · rw [fB3.2 220 3 (by unfold s220; omega), e3, (fA3.1 q 9 (by unfold s166; omega)).1, iq9]; rfl
      · rw [fB3.2 220 3 (by unfold s220; omega), e3] at i0; omega
      · rw [fB3.2 220 3 (by unfold s220; omega), e3] at z; omega
    · obtain ⟨y1, y2⟩ := L_dead D
      exact ⟨A3, B3, y1, y2, ⟨Fr2.refl _ _, Fr.refl _ _, gKo.refl _⟩, Or.inr ⟨x, D⟩⟩
  · rw [A_takeN X i2 k10, bd2_s, if_pos rfl, B_takesN S M h8 h7 (Int.le_refl 0) (by omega) (K := 10) (k := 0) rfl (by omega) (by omega) k10, bd2_s, if_pos rfl]
    refine fin (Fr2.refl _ _) (Fr.refl _ _) (fun c c0 _ c1 => e4 c c0 c1) (L_lines hq S (t := 0) (c := 0) ⟨X, M, L, K0, km, ?_, ?_, fun i i0 i1 => ?_, fun z => ?_⟩)
    · rw [e3]; decide
    · rw [e3, iq9]; rfl
    · rw [e3] at i0; omega
    · rw [e3] at z; omega
end GME
