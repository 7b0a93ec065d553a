/-! part C: lines that tell a plan: the test at their end -/
def mPc (P : Int) (M : ax_M) : Option ax_M := (bd2 (fX14_takes M 11) fun v122 M121 => (if v122 = 0 then (some (mUI (mUI M121 228 (Int.toNat P) (-1)) 225 (Int.toNat P) (mI (mUI M121 228 (Int.toNat P) (-1)) 220 11))) else (bd2 (fG15 60 1 0 M121) fun v126 M125 => (some (mUI (mUI M125 228 (Int.toNat P) v126) 225 (Int.toNat P) (mI (mUI M125 228 (Int.toNat P) v126) 220 11))))))
def mP2 (P : Int) (M : ax_M) : Option ax_M := (bd2 (fG14 60 2 0 M) fun v114 M113 => (bd1 (fX14_take (mUI M113 226 (Int.toNat P) v114) 54) fun M116 => (bd2 (fG14 60 2 0 M116) fun v119 M118 => mPc P (mUI M118 227 (Int.toNat P) v119))))
def mP1 (P : Int) (M : ax_M) : Option ax_M := (if (mI M 203 8) = 0 then (if 0 ≤ (mI M 203 7) ∧ (mI M 203 7) < 402 then (if (fX14_isIn M (mI M 205 (Int.toNat (mI M 203 7))) 6 10) = 0 then (bd1 (fX14_wrong M) fun M110 => (some M110)) else (if (mI (mUI M 203 7 ((mI M 203 7) + 1)) 223 (Int.toNat P)) = 10 then mP2 P (mUI M 203 7 ((mI M 203 7) + 1)) else mPc P (mUI M 203 7 ((mI M 203 7) + 1)))) else none) else (bd1 (fX14_wrong M) fun M135 => (some M135)))
def mP0 (P : Int) (M : ax_M) : Option ax_M := (if 0 ≤ P ∧ P < 17 then (bd2 (fX14_player (mUI (mUI M 220 3 (wr ((mI M 220 3) + 1))) 224 (Int.toNat P) (mI (mUI M 220 3 (wr ((mI M 220 3) + 1))) 220 11))) fun v104 M103 => (if 0 ≤ (mI (mUI M103 222 (Int.toNat P) v104) 203 7) ∧ (mI (mUI M103 222 (Int.toNat P) v104) 203 7) < 402 then mP1 P (mUI (mUI M103 222 (Int.toNat P) v104) 223 (Int.toNat P) (mI (mUI M103 222 (Int.toNat P) v104) 205 (Int.toNat (mI (mUI M103 222 (Int.toNat P) v104) 203 7)))) else none)) else none)
theorem mP_eq (M : ax_M) : fX14_plan M = mP0 (fJ9_min_7cf53 M 16 (mI M 220 3)) M := rfl
section PLB
variable {q : Nat} {kd : Int → Nat} {vl : Int → Int} {n lo : Int} {A B A1 B1 B' : ax_M} {t c d x p : Int}
theorem L_aP (hq : q = 157 ∨ q = 194) (L : gLv q n A B t c d) (v : Int) (K : Nat) (a b e : Int) : gLv q n (aP q A p v K a b e) B t c d := by
  obtain ⟨⟨a1, a2, a3⟩, r⟩ := L
  refine ⟨⟨?_, ?_, ?_⟩, r⟩
  · rw [mI_Un (by omega), mI_Un (by omega), mI_Un (by omega), mI_Un (by omega), mI_Un (by omega)]
    show mI (mUI A (q + 4) _ v) 166 3 = _
    rw [mI_Un (by omega)]
    exact a1
  · rw [mI_Un (by omega), mI_Un (by omega), mI_Un (by omega), mI_Un (by omega), mI_Un (by omega)]
    show mI (mUI A (q + 4) _ v) 166 2 = _
    rw [mI_Un (by omega)]
    exact a2
  · rw [mI_Un (by omega), mI_Un (by omega), mI_Un (by omega), mI_Un (by omega), mI_Un (by omega)]
    show mI (mUI A (q + 4) _ v) q 2 = _
    rw [mI_Un (by omega)]
    exact a3
theorem L_sl (L : gLv q n A B t c d) {k j : Nat} {v : Int} (h : 221 ≤ k) : gLv q n A (mUI B k j v) t c d := by
  obtain ⟨r, ⟨b1, b2, b3, b4⟩, s⟩ := L
  exact ⟨r, ⟨by rw [mI_Un (by omega)]; exact b1, by rw [mI_Un (by omega)]; exact b2, by rw [mI_Un (by omega)]; exact b3, by rw [mI_Un (by omega)]; exact b4⟩, s⟩
theorem gPre.ap (hq : q = 157 ∨ q = 194) (A B : ax_M) (p v : Int) (K : Nat) (a b e c : Int) : gPre q A (aP q A p v K a b e) B B c := by
  refine ⟨fun j _ _ => ⟨?_, ?_⟩, fun _ _ _ => ⟨rfl, rfl, rfl⟩, rfl, rfl⟩
  · show (mR (mUR (mUI A (q + 4) p.toNat v) (q + 3) p.toNat (some K)) (q + 1) j.toNat).getD 50 = _
    rw [mR_Un (by omega)]
  · show mI (aP q A p v K a b e) (q + 2) j.toNat = _
    rw [mI_Un (by omega), mI_Un (by omega), mI_Un (by omega), mI_Un (by omega), mI_Un (by omega)]
    show mI (mUI A (q + 4) _ v) (q + 2) _ = _
    rw [mI_Un (by omega)]
theorem gPre.sl (A B : ax_M) {k j : Nat} {v : Int} (h : 221 ≤ k ∧ k ≤ 228) (c : Int) : gPre q A A B (mUI B k j v) c := ⟨fun _ _ _ => ⟨rfl, rfl⟩, fun _ _ _ => ⟨mI_Un (by omega), mI_Un (by omega), mI_Un (by omega)⟩, mI_Un (by omega), mI_Un (by omega)⟩
theorem gDe.sl (D : gDe q n A B x) {k j : Nat} {v : Int} (h : 221 ≤ k) : gDe q n A (mUI B k j v) x := by
  obtain ⟨r, ⟨b1, b2, b3, b4, b5⟩, s⟩ := D
  refine ⟨r, ⟨?_, ?_, ?_, ?_, ?_⟩, s⟩
  · rw [mI_Un (by omega)]; exact b1
  · rw [mI_Un (by omega)]; exact b2
  · rw [mI_Un (by omega)]; exact b3
  · rw [mI_Un (by omega)]; exact b4
  · rw [mI_Un (by omega)]; exact b5
theorem aP_get (hq : q = 157 ∨ q = 194) (A : ax_M) (p v : Int) (K : Nat) (a b e : Int) : mR (aP q A p v K a b e) (q + 3) p.toNat = some K ∧ mI (aP q A p v K a b e) (q + 4) p.toNat = v ∧ mI (aP q A p v K a b e) (q + 5) p.toNat = a ∧ mI (aP q A p v K a b e) (q + 6) p.toNat = b ∧ mI (aP q A p v K a b e) (q + 7) p.toNat = e ∧ mI (aP q A p v K a b e) (q + 8) p.toNat = mI A q 2 ∧ mI (aP q A p v K a b e) q 9 = p + 1 := by
  refine ⟨?_, ?_, ?_, ?_, ?_, ?_, mI_Us _ _ _ _⟩
  · show mR (mUR (mUI A (q + 4) p.toNat v) (q + 3) p.toNat (some K)) (q + 3) p.toNat = _
    rw [mR_Us]
  · rw [mI_Un (by omega), mI_Un (by omega), mI_Un (by omega), mI_Un (by omega), mI_Un (by omega)]
    show mI (mUI A (q + 4) _ v) (q + 4) _ = _
    rw [mI_Us]
  · rw [mI_Un (by omega), mI_Un (by omega), mI_Un (by omega), mI_Un (by omega), mI_Us]
  · rw [mI_Un (by omega), mI_Un (by omega), mI_Un (by omega), mI_Us]
  · rw [mI_Un (by omega), mI_Un (by omega), mI_Us]
  · rw [mI_Un (by omega), mI_Us]
theorem aP_not (hq : q = 157 ∨ q = 194) (A : ax_M) (p v : Int) (K : Nat) (a b e : Int) {k j : Nat} (hk : q + 3 ≤ k ∧ k ≤ q + 8) (hj : j ≠ p.toNat) : mI (aP q A p v K a b e) k j = mI A k j ∧ mR (aP q A p v K a b e) k j = mR A k j := by
  constructor
  · rw [mI_Un (by omega), mI_Un (by omega), mI_Un (by omega), mI_Un (by omega), mI_Un (by omega)]
    show mI (mUI A (q + 4) _ v) k j = _
    rw [mI_Un (by omega)]
  · show mR (mUR (mUI A (q + 4) p.toNat v) (q + 3) p.toNat (some K)) k j = _
    rw [mR_Un (by omega)]
/-- what adding a plan leaves -/
def gAd (q : Nat) (A A' : ax_M) (p v : Int) (K : Nat) (a b e c3 : Int) : Prop := mI A' q 9 = (if p < 16 then p + 1 else 16) ∧ (p < 16 → mR A' (q + 3) p.toNat = some K ∧ mI A' (q + 4) p.toNat = v ∧ mI A' (q + 5) p.toNat = a ∧ mI A' (q + 6) p.toNat = b ∧ mI A' (q + 7) p.toNat = e ∧ mI A' (q + 8) p.toNat = c3) ∧ ∀ k j : Nat, q + 3 ≤ k → k ≤ q + 8 → j ≠ p.toNat → mI A' k j = mI A k j ∧ mR A' k j = mR A k j
theorem L_add (hq : q = 157 ∨ q = 194) (L : gLv q n A B t c d) (h9 : mI A q 9 = if p < 16 then p else 16) (p0 : 0 ≤ p) (v : Int) (K : Nat) (a b e : Int) : ∃ A', fX7_add A q v K a b e = some A' ∧ Fr2 (sGq q) A A' ∧ gLv q n A' B t c d ∧ gPre q A A' B B c ∧ gAd q A A' p v K a b e c := by
  by_cases z : p < 16
  · rw [if_pos z] at h9
    obtain ⟨g1, g2, g3, g4, g5, g6, g7⟩ := aP_get hq A p v K a b e
    refine ⟨_, C_add hq h9 p0 z v K a b e, aP_fr _ _ _ _ _ _ _ _, L_aP hq L v K a b e, gPre.ap hq A B p v K a b e c, by rw [if_pos z]; exact g7, fun _ => ⟨g1, g2, g3, g4, g5, g6.trans L.1.2.2⟩, fun k j k0 k1 hj => aP_not hq A p v K a b e ⟨k0, k1⟩ hj⟩
  · rw [if_neg z] at h9
    exact ⟨A, C_add16 (by omega) v K a b e, Fr2.refl _ _, L, gPre.refl, by rw [if_neg z]; exact h9, fun y => absurd y z, fun _ _ _ _ _ => ⟨rfl, rfl⟩⟩
theorem gAd.fr (hq : q = 157 ∨ q = 194) (f : Fr2 (sGA q) A A1) {A' : ax_M} {v : Int} {K : Nat} {a b e c3 : Int} (g : gAd q A1 A' p v K a b e c3) : gAd q A A' p v K a b e c3 := by
  obtain ⟨g1, g2, g3⟩ := g
  refine ⟨g1, g2, fun k j k0 k1 hj => ?_⟩
  have x := f.1 k j (by unfold sGA; omega)
  have y := g3 k j k0 k1 hj
  exact ⟨y.1.trans x.1, y.2.trans x.2⟩
theorem L_tPc (hq : q = 157 ∨ q = 194) (S : gSt kd vl n) (l0 : 0 ≤ lo) {P : Nat} (X : gXA q kd vl A) (M : gMB kd vl n B) (L : gLv q n A B t c 0) (l1 : lo ≤ c) (h9 : mI A q 9 = if p < 16 then p else 16) (p0 : 0 ≤ p) (v : Int) (K : Nat) (a b : Int) : ∃ A' B', tPc v K a b c A = some A' ∧ mPc (P : Int) B = some B' ∧ Fr2 (sGq q) A A' ∧ Fr sGm B B' ∧ ((∃ t' c', gLv q n A' B' t' c' 0 ∧ t ≤ t' ∧ c ≤ c' ∧ gCl kd t t' ∧ gPre q A A' B B' c ∧ gAd q A A' p v K a b c c' ∧ mI B' 225 P = c' ∧ ((mI B' 228 P = -1 ∧ c' = c) ∨ (gXp q A' B' lo c c' ∧ mI B' 228 P = c' - 1)) ∧ (∀ k j : Nat, 221 ≤ k → k ≤ 228 → (k ≠ 225 ∧ k ≠ 228) ∨ j ≠ P → mI B' k j = mI B k j)) ∨ ∃ x, gDe q n A' B' x ∧ t ≤ x) := by
  have n1 := S.2.1
  have hA := L.1
  have hB := L.2.1
  have t0 : 0 ≤ t := L.2.2.1
  have tn : t < n := L.2.2.2.1
  unfold tPc mPc
  by_cases e : kd t = 21
  · have e1 := (gMB_iff S M t0 tn (K := 21) (by omega) (by omega)).2 e
    have La := L_adv hq L e1
    have fA1 : Fr2 (sGA q) A (aT A (t + 1)) := aT_fr _ _ _
    have fB1 : Fr sGB B (bT B (t + 1)) := bT_fr _ _
    obtain ⟨A2, B2, w, r1, r2, fA2, fB2, o⟩ := L_T0 (lo := lo) hq S l0 _ _ _ _ (X.g hq fA1) (M.g fB1) La l1
    have X2 := X.g hq (fA1.trans fA2)
    have h92 : mI A2 q 9 = mI A q 9 := ((fA1.trans fA2).1 q 9 (by unfold sGA; omega)).1
    rw [A_take X hA.1 hA.2.1 t0 (by omega) e, bd2_s, if_neg (show ¬ (1 : Int) = 0 by decide), r1, bd1_s, X_oq X2 hq, B_takes S M hB.1 hB.2.1 t0 tn (K := 21) (k := 11) rfl (by omega) (by omega) e, bd2_s, if_neg (show ¬ (1 : Int) = 0 by decide), r2, bd2_s]
    rcases o with ⟨t2, c2, L2, u1, u2, u3, u4, u5, u6, u7⟩ | ⟨x, D, u1, u2⟩
    · obtain ⟨A3, r3, fA3, L3, p3, g3⟩ := L_add hq L2 (h92.trans h9) p0 v K a b c
      have Ls := L_sl (j := P) (v := mI (mUI B2 228 (Int.toNat (P : Int)) w) 220 11) (L_sl (k := 228) (j := P) (v := w) L3 (by omega)) (show 221 ≤ 225 by omega)
      have ps : gPre q A3 A3 B2 (mUI (mUI B2 228 P w) 225 P (mI (mUI B2 228 (Int.toNat (P : Int)) w) 220 11)) c2 := (gPre.sl A3 B2 (k := 228) (j := P) (v := w) (by omega) c2).trans (gPre.sl A3 _ (k := 225) (j := P) (by omega) c2) (Int.le_refl _)
      have e11 : mI (mUI B2 228 (Int.toNat (P : Int)) w) 220 11 = c2 := by rw [mI_Un (by omega)]; exact L2.2.1.2.2.1
      rw [r3, bd1_s]
      refine ⟨A3, _, rfl, rfl, (sGA_q hq (fA1.trans fA2)).trans fA3, ((sGB_m (fB1.trans fB2)).up (Or.inr (Or.inr ⟨by omega, by omega⟩))).up (Or.inr (Or.inr ⟨by omega, by omega⟩)), Or.inl ⟨t2, c2, Ls, by omega, by omega, (gCl.one (by omega)).tr u6, (((gPre.aT hq A B (t + 1) (t + 1) c).trans u7 (Int.le_refl _)).trans p3 (by omega)).trans ps (by omega), ?_, ?_, Or.inr ⟨(u5.pre p3 l0 l1 (Int.le_refl _)).pre ps l0 l1 (Int.le_refl _), ?_⟩, ?_⟩⟩
      · have g4 := gAd.fr hq (fA1.trans fA2) g3
        exact g4
      · show mI (mUI (mUI B2 228 (Int.toNat (P : Int)) w) 225 P _) 225 P = _
        rw [mI_Us, e11]
      · show mI (mUI (mUI B2 228 P w) 225 _ _) 228 P = _
        rw [mI_Un (by omega), mI_Us, u4]
      · intro k j k0 k1 hj
        show mI (mUI (mUI B2 228 P w) 225 P _) k j = _
        rw [mI_Un (by omega), mI_Un (by omega)]
        exact (fB1.trans fB2).2 k j (by unfold sGB; omega)
    · have hd := X2.d1 D
      obtain ⟨A3, r3, g3⟩ := D_add hq (hd.a.qq hq (by rw [h92, h9]; split <;> omega)) v K a b c
      rw [r3, bd1_s]
      refine ⟨A3, _, rfl, rfl, (sGA_q hq (fA1.trans fA2)).trans g3.1, ((sGB_m (fB1.trans fB2)).up (Or.inr (Or.inr ⟨by omega, by omega⟩))).up (Or.inr (Or.inr ⟨by omega, by omega⟩)), Or.inr ⟨x, ?_, by omega⟩⟩
      have D3 : gDe q n A3 B2 x := ⟨⟨g3.2.1, g3.2.2.1.trans D.1.2.1, g3.2.2.2.1, g3.2.2.2.2.1⟩, D.2⟩
      exact (D3.sl (by omega)).sl (by omega)
  · obtain ⟨A3, r3, fA3, L3, p3, g3⟩ := L_add hq L h9 p0 v K a b c
    have e11 : mI (mUI B 228 (Int.toNat (P : Int)) (-1)) 220 11 = c := by rw [mI_Un (by omega)]; exact hB.2.2.1
    have Ls := L_sl (k := 225) (j := P) (v := mI (mUI B 228 (Int.toNat (P : Int)) (-1)) 220 11) (L_sl (k := 228) (j := P) (v := -1) L3 (by omega)) (by omega)
    have ps : gPre q A3 A3 B (mUI (mUI B 228 P (-1)) 225 P (mI (mUI B 228 (Int.toNat (P : Int)) (-1)) 220 11)) c := (gPre.sl A3 B (k := 228) (j := P) (v := -1) (by omega) c).trans (gPre.sl A3 _ (k := 225) (j := P) (by omega) c) (Int.le_refl _)
    rw [A_takeN X hA.2.1 e, bd2_s, if_pos rfl, X_oq X hq, r3, bd1_s, B_takesN S M hB.1 hB.2.1 t0 tn (K := 21) (k := 11) rfl (by omega) (by omega) e, bd2_s, if_pos rfl]
    refine ⟨A3, _, rfl, rfl, fA3, ((Fr.refl _ _).up (Or.inr (Or.inr ⟨by omega, by omega⟩))).up (Or.inr (Or.inr ⟨by omega, by omega⟩)), Or.inl ⟨t, c, Ls, Int.le_refl _, Int.le_refl _, fun j a b => by omega, p3.trans ps (Int.le_refl _), g3, ?_, Or.inl ⟨?_, rfl⟩, ?_⟩⟩
    · show mI (mUI (mUI B 228 (Int.toNat (P : Int)) (-1)) 225 P _) 225 P = _
      rw [mI_Us, e11]
    · show mI (mUI (mUI B 228 P (-1)) 225 _ _) 228 P = _
      rw [mI_Un (by omega), mI_Us]
    · intro k j k0 k1 hj
      show mI (mUI (mUI B 228 P (-1)) 225 P _) k j = _
      rw [mI_Un (by omega), mI_Un (by omega)]
end PLB
