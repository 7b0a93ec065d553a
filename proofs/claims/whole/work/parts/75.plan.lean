/-! part C: lines that tell a plan: what they are made of -/
def sGq (q : Nat) : Nat → Nat → Prop := fun k j => (k = 166 ∧ (j = 2 ∨ j = 3)) ∨ (k = q ∧ (j = 2 ∨ j = 9)) ∨ (q + 1 ≤ k ∧ k ≤ q + 8)
def sGm : Nat → Nat → Prop := fun k j => (k = 203 ∧ 7 ≤ j ∧ j ≤ 11) ∨ (k = 220 ∧ j = 11) ∨ (222 ≤ k ∧ k ≤ 231)
abbrev aP (q : Nat) (A : ax_M) (p v : Int) (K : Nat) (a b e : Int) : ax_M := mUI (mUI (mUI (mUI (mUI (mUR (mUI A (q + 4) p.toNat v) (q + 3) p.toNat (some K)) (q + 5) p.toNat a) (q + 6) p.toNat b) (q + 7) p.toNat e) (q + 8) p.toNat (mI A q 2)) q 9 (p + 1)
def tPc (v : Int) (K : Nat) (a b e : Int) (M : ax_M) : Option ax_M := (bd2 (fX3_take M 21) fun v27 M26 => (if v27 = 0 then (oq (mR M26 166 1) none fun p30 => if (p30 = 157 ∨ p30 = 194) then (bd1 (fX7_add M26 p30 v K a b e) fun M33 => (some M33)) else none) else (bd1 (fG3 60 0 0 0 M26) fun M35 => (oq (mR M35 166 1) none fun p37 => if (p37 = 157 ∨ p37 = 194) then (bd1 (fX7_add M35 p37 v K a b e) fun M40 => (some M40)) else none))))
def tP2 (v : Int) (K : Nat) (a : Int) (M : ax_M) : Option ax_M := (bd1 (fG3 60 3 0 0 M) fun M14 => (oq (mR M14 166 1) none fun p16 => if (p16 = 157 ∨ p16 = 194) then (bd1 (fX3_need M14 38) fun M19 => (bd1 (fG3 60 3 0 0 M19) fun M21 => (oq (mR M21 166 1) none fun p23 => if (p23 = 157 ∨ p23 = 194) then tPc v K a (fX7_codeLength M14 p16) (fX7_codeLength M21 p23) M21 else none))) else none))
def tP1 (v : Int) (K : Nat) (a : Int) (M : ax_M) : Option ax_M := (if K = 20 then tP2 v K a M else (oq (mR M 166 1) none fun p42 => if (p42 = 157 ∨ p42 = 194) then tPc v K a a (fX7_codeLength M p42) M else none))
theorem tP_eq (M : ax_M) : fX3_readPlan M = (bd2 (fX3_readPlayer M) fun v3 M2 => (oq (mR M2 166 1) none fun p5 => if (p5 = 157 ∨ p5 = 194) then (bd2 (fX3_readMove M2) fun v9 M8 => tP1 v3 v9 (fX7_codeLength M2 p5) M8) else none)) := rfl
theorem gkm_mv : ∀ a : Nat, 10 ≤ a → a ≤ 48 → ((6 ≤ gkm a ∧ gkm a ≤ 10) ↔ (16 ≤ a ∧ a ≤ 20)) := by
  have l : ∀ a : Fin 39, ((6 ≤ gkm (10 + (a : Nat)) ∧ gkm (10 + (a : Nat)) ≤ 10) ↔ (16 ≤ 10 + (a : Nat) ∧ 10 + (a : Nat) ≤ 20)) := by decide +kernel
  intro a a0 a1
  have := l ⟨a - 10, by omega⟩
  have : ((6 ≤ gkm (10 + (a - 10)) ∧ gkm (10 + (a - 10)) ≤ 10) ↔ (16 ≤ 10 + (a - 10) ∧ 10 + (a - 10) ≤ 20)) := this
  rw [show 10 + (a - 10) = a by omega] at this
  exact this
section PLN
variable {q : Nat} {kd : Int → Nat} {vl : Int → Int} {n : Int} {A B A1 B1 B' : ax_M} {t c d x p : Int}
theorem C_add (hq : q = 157 ∨ q = 194) (hp : mI A q 9 = p) (p0 : 0 ≤ p) (p1 : p < 16) (v : Int) (K : Nat) (a b e : Int) : fX7_add A q v K a b e = some (aP q A p v K a b e) := by
  have e1 : mI (mUI A (q + 4) p.toNat v) q 9 = p := by rw [mI_Un (by omega)]; exact hp
  have e2 : mI (mUR (mUI A (q + 4) p.toNat v) (q + 3) p.toNat (some K)) q 9 = p := e1
  have e3 : mI (mUI (mUR (mUI A (q + 4) p.toNat v) (q + 3) p.toNat (some K)) (q + 5) p.toNat a) q 9 = p := by rw [mI_Un (by omega)]; exact e2
  have e4 : mI (mUI (mUI (mUR (mUI A (q + 4) p.toNat v) (q + 3) p.toNat (some K)) (q + 5) p.toNat a) (q + 6) p.toNat b) q 9 = p := by rw [mI_Un (by omega)]; exact e3
  have e5 : mI (mUI (mUI (mUI (mUR (mUI A (q + 4) p.toNat v) (q + 3) p.toNat (some K)) (q + 5) p.toNat a) (q + 6) p.toNat b) (q + 7) p.toNat e) q 9 = p := by rw [mI_Un (by omega)]; exact e4
  have e6 : mI (mUI (mUI (mUI (mUR (mUI A (q + 4) p.toNat v) (q + 3) p.toNat (some K)) (q + 5) p.toNat a) (q + 6) p.toNat b) (q + 7) p.toNat e) q 2 = mI A q 2 := by
    rw [mI_Un (by omega), mI_Un (by omega), mI_Un (by omega)]
    show mI (mUI A (q + 4) p.toNat v) q 2 = _
    rw [mI_Un (by omega)]
  have e7 : mI (mUI (mUI (mUI (mUI (mUR (mUI A (q + 4) p.toNat v) (q + 3) p.toNat (some K)) (q + 5) p.toNat a) (q + 6) p.toNat b) (q + 7) p.toNat e) (q + 8) p.toNat (mI A q 2)) q 9 = p := by rw [mI_Un (by omega)]; exact e5
  have pp : 0 ≤ p ∧ p < 16 := ⟨p0, p1⟩
  unfold fX7_add
  simp only [hp, e1, e2, e3, e4, e5, e6, e7]
  rw [if_neg (by omega), if_pos p1, if_pos pp, if_pos pp, if_pos pp, if_pos pp, if_pos pp, wr_eq (by omega) (by omega)]
theorem C_add16 (hp : 16 ≤ mI A q 9) (v : Int) (K : Nat) (a b e : Int) : fX7_add A q v K a b e = some A := by
  unfold fX7_add
  rw [if_neg (by omega), if_neg (by omega)]
theorem aP_fr (q : Nat) (A : ax_M) (p v : Int) (K : Nat) (a b e : Int) : Fr2 (sGq q) A (aP q A p v K a b e) := ((((((Fr2.refl _ _).up (Or.inr (Or.inr ⟨by omega, by omega⟩))).upR (Or.inr (Or.inr ⟨by omega, by omega⟩))).up (Or.inr (Or.inr ⟨by omega, by omega⟩))).up (Or.inr (Or.inr ⟨by omega, by omega⟩))).up (Or.inr (Or.inr ⟨by omega, by omega⟩))).up (Or.inr (Or.inr ⟨by omega, by omega⟩)) |>.up (Or.inr (Or.inl ⟨rfl, Or.inr rfl⟩))
theorem sGA_q (hq : q = 157 ∨ q = 194) {A' : ax_M} (f : Fr2 (sGA q) A A') : Fr2 (sGq q) A A' := f.mono (fun k j h => by unfold sGA at h; unfold sGq; omega)
theorem sGB_m {B' : ax_M} (f : Fr sGB B B') : Fr sGm B B' := f.mono (fun k j h => by unfold sGB at h; unfold sGm; omega)
/-- behind a wrong token -/
def gDq (q : Nat) (A A' : ax_M) : Prop := Fr2 (sGq q) A A' ∧ mI A' 166 3 = 1 ∧ mI A' 166 2 = mI A 166 2 ∧ 0 ≤ mI A' q 2 ∧ mI A' q 2 ≤ 400 ∧ 0 ≤ mI A' q 9 ∧ mI A' q 9 ≤ 16
theorem gDq.tr {A' A'' : ax_M} (p : gDq q A A') (r : gDq q A' A'') : gDq q A A'' := ⟨p.1.trans r.1, r.2.1, r.2.2.1.trans p.2.2.1, r.2.2.2⟩
theorem gDa.qq (hq : q = 157 ∨ q = 194) {A' : ax_M} (p : gDa q A A') (h : 0 ≤ mI A q 9 ∧ mI A q 9 ≤ 16) : gDq q A A' := by
  have e : mI A' q 9 = mI A q 9 := (p.1.1 q 9 (by unfold sGA; omega)).1
  exact ⟨sGA_q hq p.1, p.2.1, p.2.2.1, p.2.2.2.1, p.2.2.2.2, by omega, by omega⟩
theorem D_add (hq : q = 157 ∨ q = 194) (H : gDq q A A) (v : Int) (K : Nat) (a b e : Int) : ∃ A', fX7_add A q v K a b e = some A' ∧ gDq q A A' := by
  obtain ⟨f, h1, h2, h3, h4, h5, h6⟩ := H
  by_cases z : mI A q 9 < 16
  · refine ⟨_, C_add hq rfl h5 z v K a b e, aP_fr _ _ _ _ _ _ _ _, ?_, ?_, ?_, ?_, ?_, ?_⟩
    · rw [mI_Un (by omega), mI_Un (by omega), mI_Un (by omega), mI_Un (by omega), mI_Un (by omega)]
      show mI (mUI A (q + 4) _ v) 166 3 = _
      rw [mI_Un (by omega)]
      exact h1
    · rw [mI_Un (by omega), mI_Un (by omega), mI_Un (by omega), mI_Un (by omega), mI_Un (by omega)]
      show mI (mUI A (q + 4) _ v) 166 2 = _
      rw [mI_Un (by omega)]
    · rw [mI_Un (by omega), mI_Un (by omega), mI_Un (by omega), mI_Un (by omega), mI_Un (by omega)]
      show 0 ≤ mI (mUI A (q + 4) _ v) q 2
      rw [mI_Un (by omega)]
      exact h3
    · rw [mI_Un (by omega), mI_Un (by omega), mI_Un (by omega), mI_Un (by omega), mI_Un (by omega)]
      show mI (mUI A (q + 4) _ v) q 2 ≤ _
      rw [mI_Un (by omega)]
      exact h4
    · rw [mI_Us]; omega
    · rw [mI_Us]; omega
  · exact ⟨A, C_add16 (by omega) v K a b e, Fr2.refl _ _, h1, rfl, h3, h4, h5, h6⟩
theorem gDq.self {A' : ax_M} (p : gDq q A A') : gDq q A' A' := ⟨Fr2.refl _ _, p.2.1, rfl, p.2.2.2⟩
theorem gDq.dd (hq : q = 157 ∨ q = 194) {A' : ax_M} (H : mR A 166 1 = some q) (p : gDq q A A') : gD1 q A' := ⟨p.2.1, p.2.2.2.1, p.2.2.2.2.1, by rw [(p.1.1 166 1 (by unfold sGq; omega)).2]; exact H⟩
theorem D_tPc (hq : q = 157 ∨ q = 194) (H : gD1 q A) (h9 : 0 ≤ mI A q 9 ∧ mI A q 9 ≤ 16) (v : Int) (K : Nat) (a b e : Int) : ∃ A', tPc v K a b e A = some A' ∧ gDq q A A' := by
  obtain ⟨A', r, z⟩ := D_add hq (H.a.qq hq h9) v K a b e
  refine ⟨A', ?_, z⟩
  unfold tPc
  rw [A_takeD H.1, bd2_s, if_pos rfl, D_oq H hq, r, bd1_s]
theorem D_tP2 (hq : q = 157 ∨ q = 194) (H : gD1 q A) (h9 : 0 ≤ mI A q 9 ∧ mI A q 9 ≤ 16) (v : Int) (K : Nat) (a : Int) : ∃ A', tP2 v K a A = some A' ∧ gDq q A A' := by
  have H1 := aF_d hq H
  have H2 := aF_d hq H1
  have H3 := aF_d hq H2
  have p3 := ((aF_a hq H).trans (aF_a hq H1)).trans (aF_a hq H2)
  have q3 := p3.qq hq h9
  obtain ⟨A', r, z⟩ := D_tPc hq H3 q3.2.2.2.2.2 v K a (fX7_codeLength (aF A) q) (fX7_codeLength (aF (aF (aF A))) q)
  refine ⟨A', ?_, q3.tr z⟩
  unfold tP2
  rw [D_sum hq H (by omega), bd1_s, D_oq H1 hq, A_needD H1.1, bd1_s, D_sum hq H2 (by omega), bd1_s, D_oq H3 hq, r]
theorem D_tP1 (hq : q = 157 ∨ q = 194) (H : gD1 q A) (h9 : 0 ≤ mI A q 9 ∧ mI A q 9 ≤ 16) (v : Int) (K : Nat) (a : Int) : ∃ A', tP1 v K a A = some A' ∧ gDq q A A' := by
  unfold tP1
  by_cases e : K = 20
  · rw [if_pos e]
    exact D_tP2 hq H h9 v K a
  · rw [if_neg e, D_oq H hq]
    exact D_tPc hq H h9 v K a a _
theorem D_move (H : gD1 q A) : ∃ K, fX3_readMove A = some (K, aF A) := by
  unfold fX3_readMove
  simp only [A_needD H.1, bd1_s]
  refine ⟨fX10_kindOf A (mI A 166 2), ?_⟩
  repeat' split
  all_goals rfl
theorem D_plan (hq : q = 157 ∨ q = 194) (H : gD1 q A) (h9 : 0 ≤ mI A q 9 ∧ mI A q 9 ≤ 16) : ∃ A', fX3_readPlan A = some A' ∧ gDq q A A' := by
  have H1 := aF_d hq H
  have H2 := aF_d hq H1
  obtain ⟨K, hK⟩ := D_move H1
  have q2 := ((aF_a hq H).trans (aF_a hq H1)).qq hq h9
  obtain ⟨A', r, z⟩ := D_tP1 hq H2 q2.2.2.2.2.2 1 K (fX7_codeLength (aF A) q)
  refine ⟨A', ?_, q2.tr z⟩
  rw [tP_eq, D_player hq H, bd2_s, D_oq H1 hq, hK, bd2_s, r]
theorem L_move (X : gXA q kd vl A) (L : gLv q n A B t c d) (h : n ≤ 401) : fX3_readMove A = some (kd t, if 16 ≤ kd t ∧ kd t ≤ 20 then aT A (t + 1) else aF A) := by
  have hA := L.1
  have t0 : 0 ≤ t := L.2.2.1
  have tn : t < n := L.2.2.2.1
  unfold fX3_readMove
  rw [hA.2.1, X.1]
  by_cases e : 16 ≤ kd t ∧ kd t ≤ 20
  · have w := A_need X hA.1 hA.2.1 t0 (by omega) (K := kd t) rfl
    rw [if_pos e]
    simp only [w, bd1_s]
    by_cases e1 : kd t = 16
    · rw [if_pos e1]
    · rw [if_neg e1]
      by_cases e2 : kd t = 17
      · rw [if_pos e2]
      · rw [if_neg e2]
        by_cases e3 : kd t = 18
        · rw [if_pos e3]
        · rw [if_neg e3]
          by_cases e4 : kd t = 19
          · rw [if_pos e4]
          · rw [if_neg e4, if_pos (show kd t = 20 by omega)]
  · rw [if_neg e, if_neg (by omega), if_neg (by omega), if_neg (by omega), if_neg (by omega), if_neg (by omega), A_needN X hA.2.1 (show kd t ≠ 16 by omega), bd1_s]
/-- tokens that mean nothing to the pond -/
theorem gMk_range : ∀ (m : Nat) (a : Int), 0 ≤ a → (∀ j, a ≤ j → j < a + m → kd j ≠ 13 ∧ (kd j = 48 → kd (j - 1) ≠ 10 ∧ kd (j - 1) ≠ 11 ∧ kd (j - 2) ≠ 12 ∧ kd (j - 4) ≠ 12)) → gMk kd vl a B → gMk kd vl (a + m) B
  | 0, a, _, _, K => by
    rw [show a + ((0 : Nat) : Int) = a by omega]
    exact K
  | m + 1, a, a0, h, K => by
    obtain ⟨k1, k2⟩ := h a (Int.le_refl _) (by omega)
    have K1 : gMk kd vl (a + 1) B := K.pass a0 (fun _ => by
      unfold gM1
      rw [if_neg k1]
      by_cases e : kd a = 48
      · obtain ⟨x1, x2, x3, x4⟩ := k2 e
        rw [if_pos e, if_neg x1, if_neg x2, if_neg x3, if_neg x4]
      · rw [if_neg e])
    have := gMk_range m (a + 1) (by omega) (fun j j0 j1 => h j (by omega) (by omega)) K1
    rw [show a + 1 + (m : Int) = a + ((m + 1 : Nat) : Int) by omega] at this
    exact this
end PLN
