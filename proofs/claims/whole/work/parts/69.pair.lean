/-! part C: the grammar in step: pairs and values -/
def pA3 (K : Nat) (M : ax_M) : Option ax_M := (bd1 (fX3_need M 34) fun M14 => (oq (mR M14 166 1) none fun p16 => if (p16 = 157 ∨ p16 = 194) then (bd1 (fX7_write M14 p16 K 0) fun M19 => (some M19)) else none))
def pA1 (sA : Nat → Nat → Int → ax_M → Option ax_M) (d : Int) (K : Nat) (M : ax_M) : Option ax_M := (bd1 (fX3_need M 38) fun M10 => (bd1 (sA 3 0 (d + 1) M10) fun M12 => pA3 K M12))
def pB3 (k a b : Int) (M : ax_M) : Option (Int × ax_M) := (bd1 (fX14_take M 50) fun M117 => (bd2 (fX14_node (mUI M117 203 11 (wr ((mI M117 203 11) - 1))) k a b) fun v120 M119 => (some (v120, M119))))
def pB1 (sB : Nat → Int → ax_M → Option (Int × ax_M)) (k a : Int) (M : ax_M) : Option (Int × ax_M) := (bd1 (fX14_take M 54) fun M112 => (bd2 (sB 2 0 M112) fun v115 M114 => pB3 k a v115 M114))
section ST4
variable {q : Nat} {kd : Int → Nat} {vl : Int → Int} {n lo : Int} {A B A1 B1 : ax_M} {t c d x t1 : Int} {sA : Nat → Nat → Int → ax_M → Option ax_M} {sB : Nat → Int → ax_M → Option (Int × ax_M)}
theorem cD3 (hq : q = 157 ∨ q = 194) (H : gD1 q A) (K : Nat) : ∃ A', pA3 K A = some A' ∧ gDa q A A' := by
  have H1 := aF_d hq H
  obtain ⟨A', e1, e2⟩ := A_writeD hq H1.a K 0
  refine ⟨A', ?_, (aF_a hq H).trans e2⟩
  unfold pA3
  rw [A_needD H.1, bd1_s, D_oq H1 hq, e1, bd1_s]
theorem cD1 (hq : q = 157 ∨ q = 194) (H : gD1 q A) (hs : ∀ A', gD1 q A' → sA 3 0 (d + 1) A' = some (aF A')) (K : Nat) : ∃ A', pA1 sA d K A = some A' ∧ gDa q A A' := by
  have H1 := aF_d hq H
  have H2 := aF_d hq H1
  obtain ⟨A', e1, e2⟩ := cD3 hq H2 K
  refine ⟨A', ?_, ((aF_a hq H).trans (aF_a hq H1)).trans e2⟩
  unfold pA1
  rw [A_needD H.1, bd1_s, hs _ H1, bd1_s, e1]
theorem mD3 (D : gDe q n A B x) (h : mI B 220 11 < 800) (k a b : Int) : ∃ B' v, pB3 k a b B = some (v, B') ∧ gDe q n A B' x ∧ mI B' 220 11 = mI B 220 11 + 1 ∧ Fr sGB B B' := by
  obtain ⟨D2, e2⟩ := D.dp (wr (mI B 203 11 - 1))
  obtain ⟨B', e3, D3, e4, f⟩ := D2.nd (by omega) k a b
  refine ⟨B', mI (mUI B 203 11 (wr (mI B 203 11 - 1))) 220 11, ?_, D3, by omega, (wD_fr _ _).trans f⟩
  unfold pB3
  rw [B_takeD D.2.1.1, bd1_s, e3, bd2_s]
theorem mD1 (D : gDe q n A B x) (hs : ∀ B', mI B' 203 8 = 1 → sB 2 0 B' = some (0, B')) (h : mI B 220 11 < 800) (k a : Int) : ∃ B' v, pB1 sB k a B = some (v, B') ∧ gDe q n A B' x ∧ mI B' 220 11 = mI B 220 11 + 1 ∧ Fr sGB B B' := by
  obtain ⟨B', v, e1, e2⟩ := mD3 D h k a 0
  refine ⟨B', v, ?_, e2⟩
  unfold pB1
  rw [B_takeD D.2.1.1, bd1_s, hs _ D.2.1.1, bd2_s, e1]
theorem pL3 (hq : q = 157 ∨ q = 194) (S : gSt kd vl n) (l0 : 0 ≤ lo) {K : Nat} (hK : K = 31 ∨ K = 32) {t2 c1 c2 : Int} (X : gXA q kd vl A) (M : gMB kd vl n B) (L : gLv q n A B t2 c2 (d + 1)) (d0 : 0 ≤ d) (l1 : lo ≤ c) (H1 : gXp q A B lo c c1) (H2 : gXp q A B lo c1 c2) : ∃ A' B' v, pA3 K A = some A' ∧ pB3 (gkm K) (c1 - 1) (c2 - 1) B = some (v, B') ∧ Fr2 (sGA q) A A' ∧ Fr sGB B B' ∧ ((gLv q n A' B' (t2 + 1) (c2 + 1) d ∧ v = c2 ∧ gXp q A' B' lo c (c2 + 1) ∧ kd t2 = 34 ∧ gPre q A A' B B' c2) ∨ (gDe q n A' B' t2 ∧ mI B' 220 11 = c2 + 1)) := by
  have n1 := S.2.1
  have tn : t2 < n := L.2.2.2.1
  have t0 : 0 ≤ t2 := L.2.2.1
  have c0 : 0 ≤ c2 := L.2.2.2.2.1
  have ct : c2 ≤ t2 := L.2.2.2.2.2.1
  have d1 : d + 1 ≤ 8 := L.2.2.2.2.2.2.2
  obtain ⟨f1, hf1⟩ := H1.1
  obtain ⟨f2, hf2⟩ := H2.1
  have hlt1 := gEx_lt f1 _ _ _ hf1
  have hlt2 := gEx_lt f2 _ _ _ hf2
  unfold pA3 pB3
  rcases L_ask hq S X M L (K := 34) (k := 50) rfl (by omega) (by omega) with ⟨e, e1, w1, w2⟩ | ⟨e, w1, w2⟩
  · have La := L_adv hq L e1
    have ew : mI (bT B (t2 + 1)) 203 11 = d + 1 := La.2.1.2.2.2
    have L3 := L_dp La d0
    have pw : gPre q A (aT A (t2 + 1)) B (mUI (bT B (t2 + 1)) 203 11 d) c2 := (gPre.aT hq A B (t2 + 1) (t2 + 1) c2).trans (gPre.dp _ _ _ _) (Int.le_refl _)
    have E1 := H1.pre pw l0 l1 (by omega)
    have E2 := H2.pre pw l0 (by omega) (Int.le_refl _)
    have E := gXp_2 hq l0 l1 E1 E2 (K := K) (v := 0) (by omega)
    have X1 := X.g hq (aT_fr A q (t2 + 1))
    have LW := L_W hq L3 (by omega) K 0 (gkm K) (c1 - 1) (c2 - 1)
    refine ⟨aW q (aT A (t2 + 1)) K 0 c2, bN (mUI (bT B (t2 + 1)) 203 11 d) (gkm K) (c1 - 1) (c2 - 1) c2, c2, ?_, ?_, (aT_fr _ _ _).trans (aW_fr _ _ _ _ _), ((bT_fr _ _).trans (wD_fr _ _)).trans (bN_fr _ _ _ _ _), Or.inl ⟨LW, rfl, E, e, pw.trans (gPre_W hq _ _ K 0 _ _ _ c0) (Int.le_refl _)⟩⟩
    · rw [w1, bd1_s, X_oq X1 hq, A_write hq K 0 L3.1.2.2 c0 (by omega), bd1_s]
    · rw [w2, bd1_s, ew, show d + 1 - 1 = d by omega, wr_eq (by omega) (by omega), B_node _ _ _ L3.2.1.2.2.1 c0 (by omega), bd2_s]
  · obtain ⟨D, ec⟩ := L_die hq n1 L
    obtain ⟨D2, ec2⟩ := D.dp (wr (mI (bW B t2) 203 11 - 1))
    obtain ⟨A', B', r1, r2, D3, e3, fA, fB⟩ := D2.wr hq (by omega) K 0 (gkm K) (c1 - 1) (c2 - 1)
    have X1 := X.g hq (aF_fr A q)
    refine ⟨A', B', mI (mUI (bW B t2) 203 11 (wr (mI (bW B t2) 203 11 - 1))) 220 11, ?_, ?_, (aF_fr _ _).trans fA, ((bW_fr _ _).trans (wD_fr _ _)).trans fB, Or.inr ⟨D3, by omega⟩⟩
    · rw [w1, bd1_s, X_oq X1 hq, r1, bd1_s]
    · rw [w2, bd1_s, r2, bd2_s]
theorem pL1 (hq : q = 157 ∨ q = 194) (S : gSt kd vl n) (l0 : 0 ≤ lo) {K : Nat} (hK : K = 31 ∨ K = 32) {t1 c1 : Int} (hf : gRd q kd vl n lo (d + 1) (sA 3 0 (d + 1)) (sB 2 0)) (dA : ∀ A', gD1 q A' → sA 3 0 (d + 1) A' = some (aF A')) (dB : ∀ B', mI B' 203 8 = 1 → sB 2 0 B' = some (0, B')) (X : gXA q kd vl A) (M : gMB kd vl n B) (L : gLv q n A B t1 c1 (d + 1)) (d0 : 0 ≤ d) (l1 : lo ≤ c) (H1 : gXp q A B lo c c1) : ∃ A' B' v, pA1 sA d K A = some A' ∧ pB1 sB (gkm K) (c1 - 1) B = some (v, B') ∧ Fr2 (sGA q) A A' ∧ Fr sGB B B' ∧ ((∃ t' c', gLv q n A' B' t' c' d ∧ t1 < t' ∧ c1 < c' ∧ c' - c1 ≤ t' - t1 ∧ v = c' - 1 ∧ gXp q A' B' lo c c' ∧ gCl kd t1 t' ∧ gPre q A A' B B' c1) ∨ (∃ x, gDe q n A' B' x ∧ t1 ≤ x ∧ mI B' 220 11 ≤ c1 + (x - t1) + 1)) := by
  have n1 := S.2.1
  have tn : t1 < n := L.2.2.2.1
  have t0 : 0 ≤ t1 := L.2.2.1
  have c0 : 0 ≤ c1 := L.2.2.2.2.1
  have ct : c1 ≤ t1 := L.2.2.2.2.2.1
  obtain ⟨f1, hf1⟩ := H1.1
  have hlt1 := gEx_lt f1 _ _ _ hf1
  rcases L_ask hq S X M L (K := 38) (k := 54) rfl (by omega) (by omega) with ⟨e, e1, w1, w2⟩ | ⟨e, w1, w2⟩
  · have La := L_adv hq L e1
    have pw := gPre.aT hq A B (t1 + 1) (t1 + 1) c1
    have fA1 : Fr2 (sGA q) A (aT A (t1 + 1)) := aT_fr _ _ _
    have fB1 : Fr sGB B (bT B (t1 + 1)) := bT_fr _ _
    obtain ⟨A2, B2, v, r1, r2, fA2, fB2, o⟩ := hf _ _ _ _ (X.g hq fA1) (M.g fB1) La (by omega)
    have X2 := X.g hq (fA1.trans fA2)
    have M2 := M.g (fB1.trans fB2)
    unfold pA1 pB1
    rcases o with ⟨t2, c2, L2, u1, u2, u3, u4, u5, u6, u7⟩ | ⟨x, D, u1, u2⟩
    · have pp := pw.trans u7 (Int.le_refl _)
      obtain ⟨A3, B3, v3, r3, r4, fA3, fB3, o⟩ := pL3 hq S l0 hK X2 M2 L2 d0 l1 (H1.pre pp l0 l1 (Int.le_refl _)) u5
      refine ⟨A3, B3, v3, by rw [w1, bd1_s, r1, bd1_s, r3], by rw [w2, bd1_s, r2, bd2_s, u4, r4], (fA1.trans fA2).trans fA3, (fB1.trans fB2).trans fB3, ?_⟩
      rcases o with ⟨L3, y1, y2, y3, y4⟩ | ⟨D, y1⟩
      · exact Or.inl ⟨t2 + 1, c2 + 1, L3, by omega, by omega, by omega, by omega, y2, ((gCl.one (by omega)).tr u6).tr (gCl.one (by omega)), pp.trans y4 (by omega)⟩
      · exact Or.inr ⟨t2, D, by omega, by omega⟩
    · have xn : x < n := D.2.2.2
      obtain ⟨A3, r3, p3⟩ := cD3 hq (X2.d1 D) K
      obtain ⟨B3, v3, r4, D3, e3, fB3⟩ := mD3 D (by omega) (gkm K) (c1 - 1) v
      exact ⟨A3, B3, v3, by rw [w1, bd1_s, r1, bd1_s, r3], by rw [w2, bd1_s, r2, bd2_s, r4], (fA1.trans fA2).trans p3.1, (fB1.trans fB2).trans fB3, Or.inr ⟨x, D3.a p3, by omega, by omega⟩⟩
  · obtain ⟨D, ec⟩ := L_die hq n1 L
    have X1 := X.g hq (aF_fr A q)
    have H2 := aF_d hq (X1.d1 D)
    obtain ⟨A3, r3, p3⟩ := cD3 hq H2 K
    have p4 := (aF_a hq (X1.d1 D)).trans p3
    obtain ⟨B3, v3, r4, D3, e3, fB3⟩ := mD3 D (by omega) (gkm K) (c1 - 1) 0
    refine ⟨A3, B3, v3, ?_, ?_, (aF_fr _ _).trans p4.1, (bW_fr _ _).trans fB3, Or.inr ⟨t1, D3.a p4, Int.le_refl _, by omega⟩⟩
    · unfold pA1
      rw [w1, bd1_s, dA _ (X1.d1 D), bd1_s, r3]
    · unfold pB1
      rw [w2, bd1_s, dB _ D.2.1.1, bd2_s, r4]
theorem pA_eq (M : ax_M) (K : Nat) : fX3_readPair sA M K d = (if d < 8 then (bd2 (fX3_take M 33) fun v5 M4 => (if v5 = 0 then (some (mUI M4 166 3 1)) else (bd1 (sA 3 0 (d + 1) M4) fun M8 => pA1 sA d K M8))) else (some (mUI M 166 3 1))) := rfl
theorem pB_eq (M : ax_M) (k : Int) : fX14_ofTwo sB M k = (bd1 (fX14_is (mUI M 203 7 (wr ((mI M 203 7) + 1))) 49) fun v102 => (if v102 = 0 then (bd1 (fX14_wrong (mUI M 203 7 (wr ((mI M 203 7) + 1)))) fun M105 => (some (0, M105))) else (bd1 (fX14_deeper (mUI M 203 7 (wr ((mI M 203 7) + 1)))) fun M107 => (bd2 (sB 2 0 M107) fun v110 M109 => pB1 sB k v110 M109)))) := rfl
theorem L_pair (hq : q = 157 ∨ q = 194) (S : gSt kd vl n) (l0 : 0 ≤ lo) {K : Nat} (hK : K = 31 ∨ K = 32) (hf : d < 8 → gRd q kd vl n lo (d + 1) (sA 3 0 (d + 1)) (sB 2 0)) (dA : d < 8 → ∀ A', gD1 q A' → sA 3 0 (d + 1) A' = some (aF A')) (dB : ∀ B', mI B' 203 8 = 1 → sB 2 0 B' = some (0, B')) (X : gXA q kd vl A) (M : gMB kd vl n B) (L : gLv q n A B t c d) (l1 : lo ≤ c) (tn : t + 1 < n) (kt : kd t = K) : ∃ A' B' v, fX3_readPair sA (aT A (t + 1)) K d = some A' ∧ fX14_ofTwo sB B (gkm K) = some (v, B') ∧ gOut q kd n lo A B A' B' t c d v := by
  have n1 := S.2.1
  have t0 : 0 ≤ t := L.2.2.1
  have c0 : 0 ≤ c := L.2.2.2.2.1
  have ct : c ≤ t := L.2.2.2.2.2.1
  have d0 : 0 ≤ d := L.2.2.2.2.2.2.1
  have d1 : d ≤ 8 := L.2.2.2.2.2.2.2
  have La := L_adv hq L tn
  have fA1 : Fr2 (sGA q) A (aT A (t + 1)) := aT_fr _ _ _
  have fB1 : Fr sGB B (bT B (t + 1)) := bT_fr _ _
  have X1 := X.g hq fA1
  have M1 := M.g fB1
  have p1 := gPre.aT hq A B (t + 1) (t + 1) c
  obtain ⟨D1, ec1⟩ := L_die hq n1 La
  have hA := La.1
  have hB := La.2.1
  rw [pA_eq, pB_eq, L.2.1.2.1, wr_eq (by omega) (by omega), B_is S M1 hB.1 hB.2.1 (by omega) tn (K := 33) (k := 49) rfl (by omega) (by omega), bd1_s]
  by_cases e : kd (t + 1) = 33
  · have e1 := (gMB_iff S M1 (by omega) tn (K := 33) (by omega) (by omega)).2 e
    rw [if_pos e, if_neg (show ¬ (1 : Int) = 0 by decide)]
    by_cases d8 : d < 8
    · have Ld := L_deep hq La e1 d8
      have p2 : gPre q A (aT (aT A (t + 1)) (t + 1 + 1)) B (mUI (bT (bT B (t + 1)) (t + 1 + 1)) 203 11 (d + 1)) c := (p1.trans (gPre.aT hq _ _ (t + 1 + 1) (t + 1 + 1) c) (Int.le_refl _)).trans (gPre.dp _ _ _ _) (Int.le_refl _)
      have fA2 : Fr2 (sGA q) A (aT (aT A (t + 1)) (t + 1 + 1)) := fA1.trans (aT_fr _ _ _)
      have fB2 : Fr sGB B (mUI (bT (bT B (t + 1)) (t + 1 + 1)) 203 11 (d + 1)) := (fB1.trans (bT_fr _ _)).trans (wD_fr _ _)
      obtain ⟨A3, B3, v, r1, r2, fA3, fB3, o⟩ := hf d8 _ _ _ _ (X.g hq fA2) (M.g fB2) Ld l1
      have X3 := X.g hq (fA2.trans fA3)
      have M3 := M.g (fB2.trans fB3)
      rw [if_pos d8, A_take X1 hA.1 hA.2.1 (by omega) (by omega) e, bd2_s, if_neg (show ¬ (1 : Int) = 0 by decide), r1, bd1_s, B_deep hB.2.1 hB.2.2.2 (by omega) (by omega) d0 d8, bd1_s, r2, bd2_s]
      rcases o with ⟨t2, c2, L2, u1, u2, u3, u4, u5, u6, u7⟩ | ⟨x, D, u1, u2⟩
      · obtain ⟨A4, B4, w, r3, r4, fA4, fB4, o⟩ := pL1 hq S l0 hK (hf d8) (dA d8) dB X3 M3 L2 d0 l1 u5
        rw [r3, u4, r4]
        refine ⟨A4, B4, w, rfl, rfl, (fA2.trans fA3).trans fA4, (fB2.trans fB3).trans fB4, ?_⟩
        rcases o with ⟨t4, c4, L4, y1, y2, y3, y4, y5, y6, y7⟩ | ⟨x, D, y1, y2⟩
        · exact Or.inl ⟨t4, c4, L4, by omega, by omega, by omega, y4, y5, (((gCl.one (by omega)).tr (gCl.one (by omega))).tr u6).tr y6, (p2.trans u7 (Int.le_refl _)).trans y7 (by omega)⟩
        · exact Or.inr ⟨x, D, by omega, by omega⟩
      · have xn : x < n := D.2.2.2
        obtain ⟨A4, r3, p4⟩ := cD1 hq (X3.d1 D) (dA d8) K
        obtain ⟨B4, w, r4, D4, e4, fB4⟩ := mD1 D dB (by omega) (gkm K) v
        rw [r3, r4]
        exact ⟨A4, B4, w, rfl, rfl, (fA2.trans fA3).trans p4.1, (fB2.trans fB3).trans fB4, Or.inr ⟨x, D4.a p4, by omega, by omega⟩⟩
    · obtain rfl : d = 8 := by omega
      obtain ⟨D2, ec2⟩ := D1.dp 9
      obtain ⟨B4, w, r4, D4, e4, fB4⟩ := mD1 D2 dB (by omega) (gkm K) 0
      rw [if_neg d8, B_deep8 hB.1 hB.2.1 hB.2.2.2, bd1_s, dB _ D2.2.1.1, bd2_s, r4]
      exact ⟨_, B4, w, rfl, rfl, fA1.trans (aF_fr _ _), ((fB1.trans (bW_fr _ _)).trans (wD_fr _ _)).trans fB4, Or.inr ⟨t + 1, D4, by omega, by omega⟩⟩
  · rw [if_neg e, if_pos rfl, B_wrong hB.1 hB.2.1, bd1_s, A_takeN X1 hA.2.1 e, bd2_s, if_pos rfl]
    refine ⟨aF (aT A (t + 1)), bW (bT B (t + 1)) (t + 1), 0, ?_, rfl, fA1.trans (aF_fr _ _), fB1.trans (bW_fr _ _), Or.inr ⟨t + 1, D1, by omega, by omega⟩⟩
    split <;> rfl
end ST4
