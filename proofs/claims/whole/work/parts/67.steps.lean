/-! part C: the grammar in step: lists of terms -/
def gOut (q : Nat) (kd : Int → Nat) (n lo : Int) (A B A' B' : ax_M) (t c d v : Int) : Prop := Fr2 (sGA q) A A' ∧ Fr sGB B B' ∧ ((∃ t' c', gLv q n A' B' t' c' d ∧ t < t' ∧ c < c' ∧ c' - c ≤ t' - t ∧ v = c' - 1 ∧ gXp q A' B' lo c c' ∧ gCl kd t t' ∧ gPre q A A' B B' c) ∨ (∃ x, gDe q n A' B' x ∧ t ≤ x ∧ mI B' 220 11 ≤ c + (x - t) + 1))
def gRd (q : Nat) (kd : Int → Nat) (vl : Int → Int) (n lo d : Int) (f : ax_M → Option ax_M) (g : ax_M → Option (Int × ax_M)) : Prop := ∀ (A B : ax_M) (t c : Int), gXA q kd vl A → gMB kd vl n B → gLv q n A B t c d → lo ≤ c → ∃ A' B' v, f A = some A' ∧ g B = some (v, B') ∧ gOut q kd n lo A B A' B' t c d v
section ST2
variable {q : Nat} {kd : Int → Nat} {vl : Int → Int} {n lo : Int} {A B A1 B1 : ax_M} {t c d x t1 : Int}
theorem gCl.tr {t2 : Int} (h : gCl kd t t1) (h' : gCl kd t1 t2) : gCl kd t t2 := fun j a b => if e : j < t1 then h j a e else h' j (by omega) b
theorem gCl.one (h : kd t < 10 ∨ 13 < kd t) : gCl kd t (t + 1) := fun j a b => by
  obtain rfl : j = t := by omega
  omega
theorem X_oq (X : gXA q kd vl A) {α : Type} (hq : q = 157 ∨ q = 194) (f : Nat → Option α) : (oq (mR A 166 1) none fun p => if (p = 157 ∨ p = 194) then f p else none) = f q := by
  rw [X.2.2]
  show (if q = 157 ∨ q = 194 then f q else none) = f q
  rw [if_pos hq]
theorem gDe.self (D : gDe q n A B x) : gDa q A A := ⟨Fr2.refl _ _, D.1.1, rfl, D.1.2.2.1, D.1.2.2.2⟩
theorem gDe.nd (D : gDe q n A B x) (h : mI B 220 11 < 800) (s l r : Int) : ∃ B', fX14_node B s l r = some (mI B 220 11, B') ∧ gDe q n A B' x ∧ mI B' 220 11 = mI B 220 11 + 1 ∧ Fr sGB B B' := by
  obtain ⟨⟨a1, a2, a3, a4⟩, ⟨b1, b2, b3, b4, b5⟩, x0, x1⟩ := D
  refine ⟨bN B s l r (mI B 220 11), B_node s l r rfl b5 h, ⟨⟨a1, a2, a3, a4⟩, ⟨?_, ?_, ?_, ?_, ?_⟩, x0, x1⟩, mI_Us _ _ _ _, bN_fr _ _ _ _ _⟩
  · rw [mI_Un (by omega), mI_Un (by omega), mI_Un (by omega), mI_Un (by omega)]; exact b1
  · rw [mI_Un (by omega), mI_Un (by omega), mI_Un (by omega), mI_Un (by omega)]; exact b2
  · rw [mI_Un (by omega), mI_Un (by omega), mI_Un (by omega), mI_Un (by omega)]; exact b3
  · rw [mI_Un (by omega), mI_Un (by omega), mI_Un (by omega), mI_Un (by omega)]; exact b4
  · rw [mI_Us]; omega
theorem gDe.wr (hq : q = 157 ∨ q = 194) (D : gDe q n A B x) (h : mI B 220 11 < 800) (K : Nat) (v s l r : Int) : ∃ A' B', fX7_write A q K v = some A' ∧ fX14_node B s l r = some (mI B 220 11, B') ∧ gDe q n A' B' x ∧ mI B' 220 11 = mI B 220 11 + 1 ∧ Fr2 (sGA q) A A' ∧ Fr sGB B B' := by
  obtain ⟨A', e1, p⟩ := A_writeD hq D.self K v
  obtain ⟨B', e2, D', e3, f⟩ := D.nd h s l r
  exact ⟨A', B', e1, e2, D'.a p, e3, p.1, f⟩
theorem gDe.dp (D : gDe q n A B x) (w : Int) : gDe q n A (mUI B 203 11 w) x ∧ mI (mUI B 203 11 w) 220 11 = mI B 220 11 := by
  obtain ⟨⟨a1, a2, a3, a4⟩, ⟨b1, b2, b3, b4, b5⟩, x0, x1⟩ := D
  refine ⟨⟨⟨a1, a2, a3, a4⟩, ⟨?_, ?_, ?_, ?_, ?_⟩, x0, x1⟩, mI_Un (by omega)⟩
  · rw [mI_Un (by omega)]; exact b1
  · rw [mI_Un (by omega)]; exact b2
  · rw [mI_Un (by omega)]; exact b3
  · rw [mI_Un (by omega)]; exact b4
  · rw [mI_Un (by omega)]; exact b5
theorem wD_fr (B : ax_M) (w : Int) : Fr sGB B (mUI B 203 11 w) := (Fr.refl _ _).up (Or.inl ⟨rfl, by omega, by omega⟩)
theorem gPre.dp (A B : ax_M) (w c : Int) : gPre q A A B (mUI B 203 11 w) c := ⟨fun _ _ _ => ⟨rfl, rfl⟩, fun _ _ _ => ⟨mI_Un (by omega), mI_Un (by omega), mI_Un (by omega)⟩, mI_Un (by omega), mI_Un (by omega)⟩
theorem L_dp (L : gLv q n A B t c (d + 1)) (h : 0 ≤ d) : gLv q n A (mUI B 203 11 d) t c d := by
  obtain ⟨⟨a1, a2, a3⟩, ⟨b1, b2, b3, b4⟩, t0, t1, c0, c1, d0, d1⟩ := L
  exact ⟨⟨a1, a2, a3⟩, ⟨by rw [mI_Un (by omega)]; exact b1, by rw [mI_Un (by omega)]; exact b2, by rw [mI_Un (by omega)]; exact b3, mI_Us _ _ _ _⟩, t0, t1, c0, c1, h, by omega⟩
theorem B_deep (h : mI B 203 7 = t) (hd : mI B 203 11 = d) (t0 : 0 ≤ t) (t1 : t < 402) (d0 : 0 ≤ d) (d1 : d < 8) : fX14_deeper B = some (mUI (bT B (t + 1)) 203 11 (d + 1)) := by
  have e : mI (mUI B 203 7 (t + 1)) 203 11 = d := by rw [mI_Un (by omega)]; exact hd
  unfold fX14_deeper
  rw [if_neg (by omega), h, wr_eq (by omega) (by omega), e, wr_eq (by omega) (by omega)]
theorem B_deep8 (hx : mI B 203 8 = 0) (h : mI B 203 7 = t) (hd : mI B 203 11 = 8) : fX14_deeper B = some (mUI (bW B t) 203 11 9) := by
  have e : mI (bW B t) 203 11 = 8 := by rw [mI_Un (by omega), mI_Un (by omega), mI_Un (by omega)]; exact hd
  unfold fX14_deeper
  rw [if_pos hd, B_wrong hx h, bd1_s, e]
  rfl
theorem L_deep (hq : q = 157 ∨ q = 194) (L : gLv q n A B t c d) (h : t + 1 < n) (hd : d < 8) : gLv q n (aT A (t + 1)) (mUI (bT B (t + 1)) 203 11 (d + 1)) (t + 1) c (d + 1) := by
  obtain ⟨⟨a1, a2, a3⟩, ⟨b1, b2, b3, b4⟩, t0, t1, c0, c1, d0, d1⟩ := L_adv hq L h
  exact ⟨⟨a1, a2, a3⟩, ⟨by rw [mI_Un (by omega)]; exact b1, by rw [mI_Un (by omega)]; exact b2, by rw [mI_Un (by omega)]; exact b3, mI_Us _ _ _ _⟩, t0, t1, c0, c1, by omega, by omega⟩
/-- a leaf is read -/
theorem L_leaf (hq : q = 157 ∨ q = 194) (n1 : n ≤ 401) (L : gLv q n A1 B1 t1 c d) (fA : Fr2 (sGA q) A A1) (fB : Fr sGB B B1) (p : gPre q A A1 B B1 c) (g : gCl kd t t1) (l0 : 0 ≤ lo) (l1 : lo ≤ c) (h : c ≤ t) (h' : t < t1) {K : Nat} {v : Int} (hK : K = 48 ∨ K = 22 ∨ K = 25 ∨ K = 23 ∨ K = 24 ∨ K = 26 ∨ K = 27) (hv : K = 48 → 0 ≤ v ∧ v ≤ 999999) (hp : K = 23 ∨ K = 24 ∨ K = 26 ∨ K = 27 → v = 0 ∨ v = 1) : fX7_write A1 q K v = some (aW q A1 K v c) ∧ fX14_node B1 (gkm K) v 0 = some (c, bN B1 (gkm K) v 0 c) ∧ gOut q kd n lo A B (aW q A1 K v c) (bN B1 (gkm K) v 0 c) t c d c := by
  have L' := L_W hq L (by omega) K v (gkm K) v 0
  have tn : t1 < n := L.2.2.2.1
  have c0 : 0 ≤ c := by omega
  exact ⟨A_write hq K v L.1.2.2 c0 (by omega), B_node _ _ _ L.2.1.2.2.1 c0 (by omega), fA.trans (aW_fr _ _ _ _ _), fB.trans (bN_fr _ _ _ _ _), Or.inl ⟨t1, c + 1, L', h', by omega, by omega, by omega, gXp_0 hq l0 l1 hK hv hp, g, p.trans (gPre_W hq A1 B1 K v _ _ _ c0) (Int.le_refl _)⟩⟩
/-- a list of terms with what joins them -/
theorem L_loop (hq : q = 157 ∨ q = 194) (S : gSt kd vl n) (l0 : 0 ≤ lo) {bA : Int × ax_M → Option ((Int × ax_M) ⊕ ax_M)} {bB : Int × ax_M → Option ((Int × ax_M) ⊕ (Int × ax_M))} (P : Nat → Prop) (hP : ∀ K, P K → (29 ≤ K ∧ K ≤ 32) ∨ (39 ≤ K ∧ K ≤ 47)) {f : ax_M → Option ax_M} {g : ax_M → Option (Int × ax_M)} (hf : gRd q kd vl n lo d f g)
    (a1 : ∀ (i : Int) (A B : ax_M) (t c : Int), gXA q kd vl A → gMB kd vl n B → gLv q n A B t c d → i < 400 → P (kd t) → bA (i, A) = bd1 (f (aT A (t + 1))) fun M => oq (mR M 166 1) none fun p => if (p = 157 ∨ p = 194) then bd1 (fX7_write M p (kd t) 0) fun M' => some (.inl (i + 1, M')) else none)
    (b1 : ∀ (v : Int) (A B : ax_M) (t c : Int), gXA q kd vl A → gMB kd vl n B → gLv q n A B t c d → P (kd t) → bB (v, B) = bd2 (g (bT B (t + 1))) fun w M => bd2 (fX14_node M (gkm (kd t)) v w) fun u M' => some (.inl (u, M')))
    (a0 : ∀ (i : Int) (A B : ax_M) (t c : Int), gXA q kd vl A → gMB kd vl n B → gLv q n A B t c d → ¬ P (kd t) → bA (i, A) = some (.inr A))
    (b0 : ∀ (v : Int) (A B : ax_M) (t c : Int), gXA q kd vl A → gMB kd vl n B → gLv q n A B t c d → ¬ P (kd t) → bB (v, B) = some (.inr (v, B)))
    (aD : ∀ (i : Int) (A : ax_M), mI A 166 3 = 1 → bA (i, A) = some (.inr A)) (bD : ∀ (v : Int) (B : ax_M), mI B 203 8 = 1 → bB (v, B) = some (.inr (v, B))) :
    gRd q kd vl n lo d (fun A => bd1 (f A) fun M => bd1 (lp bA lpN (0, M)) fun z => some z) (fun B => bd2 (g B) fun v M => bd1 (lp bB lpN (v, M)) fun z => some (z.1, z.2)) := by
  intro A0 B0 t0 c0 X M L l1
  obtain ⟨A1, B1, v1, e1, e2, o⟩ := hf A0 B0 t0 c0 X M L l1
  have n1 := S.2.1
  have ct0 : c0 ≤ t0 := L.2.2.2.2.2.1
  have cn0 : 0 ≤ c0 := L.2.2.2.2.1
  have tn0 : 0 ≤ t0 := L.2.2.1
  obtain ⟨r, z, h1, h2, h3⟩ := lp_sim (b1 := bA) (b2 := bB) (fun s u => gOut q kd n lo A0 B0 s.2 u.2 t0 c0 d u.1 ∧ 0 ≤ s.1 ∧ (mI s.2 166 3 = 0 → s.1 + 1 ≤ mI s.2 166 2 - t0)) (fun r z => gOut q kd n lo A0 B0 r z.2 t0 c0 d z.1) (fun s => (500 - s.1).toNat) (by
    rintro ⟨i, A⟩ ⟨v, B⟩ ⟨⟨fA, fB, o⟩, i0, i1⟩
    have X' := X.g hq fA
    have M' := M.g fB
    rcases o with ⟨t, c, L', y1, y2, y3, y4, y5, y6, y7⟩ | ⟨x, D, y1, y2⟩
    · have tn : t < n := L'.2.2.2.1
      have ct : c ≤ t := L'.2.2.2.2.2.1
      have i2 : i + 1 ≤ t - t0 := by
        have w := i1 L'.1.1
        have w2 : mI A 166 2 = t := L'.1.2.1
        have w3 : i + 1 ≤ mI A 166 2 - t0 := w
        omega
      by_cases hp : P (kd t)
      · have hK := hP _ hp
        have t1n : t + 1 < n := (gMB_iff S M' (by omega) tn (K := kd t) (by omega) (by omega)).2 rfl
        have La := L_adv hq L' t1n
        have fA1 : Fr2 (sGA q) A0 (aT A (t + 1)) := fA.trans (aT_fr _ _ _)
        have fB1 : Fr sGB B0 (bT B (t + 1)) := fB.trans (bT_fr _ _)
        obtain ⟨A2, B2, w, r1, r2, fA2, fB2, o⟩ := hf _ _ _ _ (X.g hq fA1) (M.g fB1) La (by omega)
        have X2 := X.g hq (fA1.trans fA2)
        rcases o with ⟨t', c', L2, u1, u2, u3, u4, u5, u6, u7⟩ | ⟨x, D, u1, u2⟩
        · have tn' : t' < n := L2.2.2.2.1
          have w1 := A_write hq (kd t) 0 L2.1.2.2 (by omega) (by omega)
          have w2 := B_node (gkm (kd t)) v w L2.2.1.2.2.1 (by omega) (by omega)
          have pp : gPre q A A2 B B2 c := (gPre.aT hq A B (t + 1) (t + 1) c).trans u7 (Int.le_refl _)
          have E1 := y5.pre pp l0 l1 (Int.le_refl _)
          have E2 := gXp_2 hq l0 l1 E1 u5 (v := 0) hK
          have pw := gPre_W hq A2 B2 (kd t) 0 (gkm (kd t)) (c - 1) (c' - 1) (c := c') (by omega)
          have LW := L_W hq L2 (by omega) (kd t) 0 (gkm (kd t)) (c - 1) (c' - 1)
          refine Or.inr ⟨(i + 1, aW q A2 (kd t) 0 c'), (c', bN B2 (gkm (kd t)) (c - 1) (c' - 1) c'), ?_, ?_, ⟨⟨(fA1.trans fA2).trans (aW_fr _ _ _ _ _), (fB1.trans fB2).trans (bN_fr _ _ _ _ _), Or.inl ⟨t', c' + 1, LW, by omega, by omega, by omega, by omega, E2, (y6.tr (gCl.one (by omega))).tr u6, (y7.trans pp (by omega)).trans pw (by omega)⟩⟩, ?_, ?_⟩, ?_⟩
          · rw [a1 i A B t c X' M' L' (by omega) hp, r1, bd1_s, X_oq X2 hq, w1, bd1_s]
          · rw [b1 v A B t c X' M' L' hp, r2, bd2_s, w2, bd2_s, show v = c - 1 from y4, show w = c' - 1 from u4]
          · show 0 ≤ i + 1
            omega
          · intro _
            have e : mI (aW q A2 (kd t) 0 c') 166 2 = t' := LW.1.2.1
            show i + 1 + 1 ≤ mI (aW q A2 (kd t) 0 c') 166 2 - t0
            omega
          · show (500 - (i + 1)).toNat < (500 - i).toNat
            omega
        · have xn : x < n := D.2.2.2
          obtain ⟨A3, B3, w1, w2, D3, e3, fA3, fB3⟩ := D.wr hq (by omega) (kd t) 0 (gkm (kd t)) v w
          refine Or.inr ⟨(i + 1, A3), (mI B2 220 11, B3), ?_, ?_, ⟨⟨(fA1.trans fA2).trans fA3, (fB1.trans fB2).trans fB3, Or.inr ⟨x, D3, by omega, by show mI B3 220 11 ≤ c0 + (x - t0) + 1; omega⟩⟩, ?_, ?_⟩, ?_⟩
          · rw [a1 i A B t c X' M' L' (by omega) hp, r1, bd1_s, X_oq X2 hq, w1, bd1_s]
          · rw [b1 v A B t c X' M' L' hp, r2, bd2_s, w2, bd2_s]
          · show 0 ≤ i + 1
            omega
          · intro k
            have k : mI A3 166 3 = 0 := k
            have := D3.1.1
            omega
          · show (500 - (i + 1)).toNat < (500 - i).toNat
            omega
      · exact Or.inl ⟨A, (v, B), a0 i A B t c X' M' L' hp, b0 v A B t c X' M' L' hp, fA, fB, Or.inl ⟨t, c, L', y1, y2, y3, y4, y5, y6, y7⟩⟩
    · exact Or.inl ⟨A, (v, B), aD i A D.1.1, bD v B D.2.1.1, fA, fB, Or.inr ⟨x, D, y1, y2⟩⟩) lpN (0, A1) (v1, B1) ⟨o, Int.le_refl _, fun k => by
      obtain ⟨_, _, ⟨t, c, L', y1, _⟩ | ⟨x, D, _⟩⟩ := o
      · have k1 : mI A1 166 2 = t := L'.1.2.1
        show 0 + 1 ≤ mI A1 166 2 - t0
        omega
      · have k : mI A1 166 3 = 0 := k
        have := D.1.1
        omega⟩ (by show (500 - (0 : Int)).toNat < lpN; decide)
  refine ⟨r, z.2, z.1, ?_, ?_, h3⟩
  · show bd1 (f A0) _ = _
    rw [e1, bd1_s, h1, bd1_s]
  · show bd2 (g B0) _ = _
    rw [e2, bd2_s, h2, bd1_s]
end ST2
