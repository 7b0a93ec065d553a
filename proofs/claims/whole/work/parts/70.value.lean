/-! part C: the grammar in step: values, and all together -/
section ST5
variable {q : Nat} {kd : Int → Nat} {vl : Int → Int} {n lo : Int} {A B A1 B1 : ax_M} {t c d x t1 : Int}
/-- what is said of a player's stones -/
theorem L_stat (hq : q = 157 ∨ q = 194) (S : gSt kd vl n) (l0 : 0 ≤ lo) {K : Nat} (hK : K = 23 ∨ K = 24 ∨ K = 26 ∨ K = 27) (X : gXA q kd vl A) (M : gMB kd vl n B) (L : gLv q n A B t c d) (l1 : lo ≤ c) (tn : t + 1 < n) (kt : kd t = K) : ∃ A' B' v, (bd2 (fX3_readPlayer (aT A (t + 1))) fun v81 M80 => (bd1 (fX7_write M80 q K v81) fun M83 => (some M83))) = some A' ∧ (bd2 (fX14_player (bT B (t + 1))) fun v123 M122 => (bd2 (fX14_node M122 (gkm K) v123 0) fun v126 M125 => (some (v126, M125)))) = some (v, B') ∧ gOut q kd n lo A B A' B' t c d v := by
  have n1 := S.2.1
  have t0 : 0 ≤ t := L.2.2.1
  have c0 : 0 ≤ c := L.2.2.2.2.1
  have ct : c ≤ t := L.2.2.2.2.2.1
  have La := L_adv hq L tn
  have fA1 : Fr2 (sGA q) A (aT A (t + 1)) := aT_fr _ _ _
  have fB1 : Fr sGB B (bT B (t + 1)) := bT_fr _ _
  have X1 := X.g hq fA1
  have M1 := M.g fB1
  have p1 := gPre.aT hq A B (t + 1) (t + 1) c
  rcases L_player hq S X1 M1 La with ⟨v, hv, hk, tn2, r1, r2, _⟩ | ⟨r1, r2, _⟩
  · have Lb := L_adv hq La tn2
    obtain ⟨w1, w2, o⟩ := L_leaf hq n1 Lb (fA1.trans (aT_fr _ _ _)) (fB1.trans (bT_fr _ _)) (p1.trans (gPre.aT hq _ _ (t + 1 + 1) (t + 1 + 1) c) (Int.le_refl _)) ((gCl.one (kd := kd) (by omega)).tr (gCl.one (by omega))) l0 l1 ct (by omega) (K := K) (v := v) (by omega) (by omega) (fun _ => hv)
    exact ⟨_, _, c, by rw [r1, bd2_s, w1, bd1_s], by rw [r2, bd2_s, w2, bd2_s], o⟩
  · obtain ⟨D, ec⟩ := L_die hq n1 La
    obtain ⟨A', B', w1, w2, D3, e3, fA, fB⟩ := D.wr hq (by omega) K 1 (gkm K) 1 0
    exact ⟨A', B', _, by rw [r1, bd2_s, w1, bd1_s], by rw [r2, bd2_s, w2, bd2_s], (fA1.trans (aF_fr _ _)).trans fA, (fB1.trans (bW_fr _ _)).trans fB, Or.inr ⟨t + 1, D3, by omega, by omega⟩⟩
/-- what turns the value behind it, one deeper -/
theorem L_una (hq : q = 157 ∨ q = 194) (S : gSt kd vl n) (l0 : 0 ≤ lo) {f : ax_M → Option ax_M} {g : ax_M → Option (Int × ax_M)} {K : Nat} (hK : K = 51 ∨ K = 28) (d8 : d < 8) (hf : gRd q kd vl n lo (d + 1) f g) (X : gXA q kd vl A) (M : gMB kd vl n B) (L : gLv q n A B t c d) (l1 : lo ≤ c) (tn : t + 1 < n) (kt : 14 ≤ kd t) : ∃ A' B' v, (bd1 (f (aT A (t + 1))) fun M56 => (oq (mR M56 166 1) none fun p58 => if (p58 = 157 ∨ p58 = 194) then (bd1 (fX7_write M56 p58 K 0) fun M61 => (some M61)) else none)) = some A' ∧ (bd1 (fX14_deeper B) fun M144 => (bd2 (g M144) fun v147 M146 => (bd2 (fX14_node (mUI M146 203 11 (wr ((mI M146 203 11) - 1))) (gkm K) v147 0) fun v150 M149 => (some (v150, M149))))) = some (v, B') ∧ gOut q kd n lo A B A' B' t c d v := by
  have n1 := S.2.1
  have hB := L.2.1
  have t0 : 0 ≤ t := L.2.2.1
  have c0 : 0 ≤ c := L.2.2.2.2.1
  have ct : c ≤ t := L.2.2.2.2.2.1
  have d0 : 0 ≤ d := L.2.2.2.2.2.2.1
  have fA1 : Fr2 (sGA q) A (aT A (t + 1)) := aT_fr _ _ _
  have fB1 : Fr sGB B (mUI (bT B (t + 1)) 203 11 (d + 1)) := (bT_fr _ _).trans (wD_fr _ _)
  have p1 : gPre q A (aT A (t + 1)) B (mUI (bT B (t + 1)) 203 11 (d + 1)) c := (gPre.aT hq A B (t + 1) (t + 1) c).trans (gPre.dp _ _ _ _) (Int.le_refl _)
  obtain ⟨A2, B2, v, r1, r2, fA2, fB2, o⟩ := hf _ _ _ _ (X.g hq fA1) (M.g fB1) (L_deep hq L tn d8) l1
  have X2 := X.g hq (fA1.trans fA2)
  rw [B_deep hB.2.1 hB.2.2.2 t0 (by omega) d0 d8, r1]
  rcases o with ⟨t', c', L2, u1, u2, u3, u4, u5, u6, u7⟩ | ⟨x, D, u1, u2⟩
  · have tn2 : t' < n := L2.2.2.2.1
    have ew : mI B2 203 11 = d + 1 := L2.2.1.2.2.2
    have L3 := L_dp L2 d0
    have pw : gPre q A2 A2 B2 (mUI B2 203 11 d) c' := gPre.dp _ _ _ _
    have E := gXp_1 hq l0 l1 (u5.pre pw l0 l1 (Int.le_refl _)) (v := 0) (r := 0) hK
    have LW := L_W hq L3 (by omega) K 0 (gkm K) (c' - 1) 0
    refine ⟨aW q A2 K 0 c', bN (mUI B2 203 11 d) (gkm K) (c' - 1) 0 c', c', ?_, ?_, (fA1.trans fA2).trans (aW_fr _ _ _ _ _), ((fB1.trans fB2).trans (wD_fr _ _)).trans (bN_fr _ _ _ _ _), Or.inl ⟨t', c' + 1, LW, by omega, by omega, by omega, by omega, E, (gCl.one (by omega)).tr u6, ((p1.trans u7 (Int.le_refl _)).trans pw (by omega)).trans (gPre_W hq _ _ K 0 _ _ _ (by omega)) (by omega)⟩⟩
    · rw [bd1_s, X_oq X2 hq, A_write hq K 0 L3.1.2.2 (by omega) (by omega), bd1_s]
    · rw [bd1_s, r2, bd2_s, ew, show d + 1 - 1 = d by omega, wr_eq (by omega) (by omega), u4, B_node _ _ _ L3.2.1.2.2.1 (by omega) (by omega), bd2_s]
  · have xn : x < n := D.2.2.2
    obtain ⟨D2, ec2⟩ := D.dp (wr (mI B2 203 11 - 1))
    obtain ⟨A', B', w1, w2, D3, e3, fA, fB⟩ := D2.wr hq (by omega) K 0 (gkm K) v 0
    refine ⟨A', B', mI (mUI B2 203 11 (wr (mI B2 203 11 - 1))) 220 11, ?_, ?_, (fA1.trans fA2).trans fA, ((fB1.trans fB2).trans (wD_fr _ _)).trans fB, Or.inr ⟨x, D3, by omega, by omega⟩⟩
    · rw [bd1_s, X_oq X2 hq, w1, bd1_s]
    · rw [bd1_s, r2, bd2_s, w2, bd2_s]
theorem L_una8 (hq : q = 157 ∨ q = 194) (S : gSt kd vl n) {g : ax_M → Option (Int × ax_M)} (hg : ∀ B', mI B' 203 8 = 1 → mI B' 203 7 = t → g B' = some (0, B')) (k : Int) (L : gLv q n A B t c 8) : ∃ B' v, (bd1 (fX14_deeper B) fun M144 => (bd2 (g M144) fun v147 M146 => (bd2 (fX14_node (mUI M146 203 11 (wr ((mI M146 203 11) - 1))) k v147 0) fun v150 M149 => (some (v150, M149))))) = some (v, B') ∧ gOut q kd n lo A B (aF A) B' t c 8 v := by
  have n1 := S.2.1
  have hB := L.2.1
  have t0 : 0 ≤ t := L.2.2.1
  have ct : c ≤ t := L.2.2.2.2.2.1
  have tn : t < n := L.2.2.2.1
  obtain ⟨D, ec⟩ := L_die hq n1 L
  obtain ⟨D2, ec2⟩ := D.dp 9
  obtain ⟨D3, ec3⟩ := D2.dp (wr (mI (mUI (bW B t) 203 11 9) 203 11 - 1))
  obtain ⟨B', w2, D4, e4, fB⟩ := D3.nd (by omega) k 0 0
  refine ⟨B', mI (mUI (mUI (bW B t) 203 11 9) 203 11 (wr (mI (mUI (bW B t) 203 11 9) 203 11 - 1))) 220 11, ?_, aF_fr _ _, (((bW_fr _ _).trans (wD_fr _ _)).trans (wD_fr _ _)).trans fB, Or.inr ⟨t, D4, Int.le_refl _, by omega⟩⟩
  rw [B_deep8 hB.1 hB.2.1 hB.2.2.2, bd1_s, hg _ D2.2.1.1 D2.2.1.2.2.2.1, bd2_s, w2, bd2_s]
theorem B_find (S : gSt kd vl n) (M : gMB kd vl n B) (h : mI B 203 8 = 0) (ht : mI B 203 7 = t) (t0 : 0 ≤ t) (tn : t < n) (self : Nat → Int → ax_M → Option (Int × ax_M)) : lp (fun s => fX14_value_b77 self s.2 s.1) lpN (13, B) = some (if kd t = 23 ∨ kd t = 24 ∨ kd t = 26 then .inl (gkm (kd t), bT B (t + 1)) else .inr B) := by
  have hy : ∀ (K : Nat) (k : Int), gkm K = k → 10 ≤ K → K ≤ 48 → kd t = K → fX14_takes B k = some (1, bT B (t + 1)) := fun K k h1 h2 h3 e => B_takes S M h ht t0 tn h1 h2 h3 e
  have hn : ∀ (K : Nat) (k : Int), gkm K = k → 10 ≤ K → K ≤ 48 → kd t ≠ K → fX14_takes B k = some (0, B) := fun K k h1 h2 h3 e => B_takesN S M h ht t0 tn h1 h2 h3 e
  have s1 : ∀ v : Int, v ≤ 16 → v ≠ 15 → fX14_takes B v = some (0, B) → (fun s : Int × ax_M => fX14_value_b77 self s.2 s.1) (v, B) = some (.inl (v + 1, B)) := by
    intro v v0 v1 e
    show fX14_value_b77 self B v = _
    unfold fX14_value_b77
    rw [if_neg (by omega), if_neg v1, e, bd2_s, if_pos rfl]
  have s2 : (fun s : Int × ax_M => fX14_value_b77 self s.2 s.1) (15, B) = some (.inl (16, B)) := by
    show fX14_value_b77 self B 15 = _
    unfold fX14_value_b77
    rw [if_neg (by omega), if_pos rfl]
    rfl
  have s3 : (fun s : Int × ax_M => fX14_value_b77 self s.2 s.1) (17, B) = some (.inr (.inr B)) := by
    show fX14_value_b77 self B 17 = _
    unfold fX14_value_b77
    rw [if_pos (by omega)]
  have s4 : ∀ (v : Int) (B' : ax_M), v ≤ 16 → v ≠ 15 → fX14_takes B v = some (1, B') → (fun s : Int × ax_M => fX14_value_b77 self s.2 s.1) (v, B) = some (.inr (.inl (v, B'))) := by
    intro v B' v0 v1 e
    show fX14_value_b77 self B v = _
    unfold fX14_value_b77
    rw [if_neg (by omega), if_neg v1, e, bd2_s, if_neg (by decide)]
  rw [show lpN = 999995 + 1 + 1 + 1 + 1 + 1 from rfl]
  by_cases e1 : kd t = 23
  · rw [lp_r (s4 13 _ (by omega) (by omega) (hy 23 13 rfl (by omega) (by omega) e1)), if_pos (Or.inl e1), e1]
    rfl
  · rw [lp_s (s1 13 (by omega) (by omega) (hn 23 13 rfl (by omega) (by omega) e1))]
    by_cases e2 : kd t = 24
    · rw [show (13 : Int) + 1 = 14 from rfl, lp_r (s4 14 _ (by omega) (by omega) (hy 24 14 rfl (by omega) (by omega) e2)), if_pos (Or.inr (Or.inl e2)), e2]
      rfl
    · rw [show (13 : Int) + 1 = 14 from rfl, lp_s (s1 14 (by omega) (by omega) (hn 24 14 rfl (by omega) (by omega) e2)), show (14 : Int) + 1 = 15 from rfl, lp_s s2]
      by_cases e3 : kd t = 26
      · rw [lp_r (s4 16 _ (by omega) (by omega) (hy 26 16 rfl (by omega) (by omega) e3)), if_pos (Or.inr (Or.inr e3)), e3]
        rfl
      · rw [lp_s (s1 16 (by omega) (by omega) (hn 26 16 rfl (by omega) (by omega) e3)), show (16 : Int) + 1 = 17 from rfl, lp_r s3, if_neg (by omega)]
theorem L_value (hq : q = 157 ∨ q = 194) (S : gSt kd vl n) (l0 : 0 ≤ lo) {NA NB : Nat} (hNB : 3 ≤ NB) (hNA : d < 8 → 3 ≤ NA) (hv : d < 8 → gRd q kd vl n lo (d + 1) (fG3 (NA + 1) 5 0 (d + 1)) (fG14 (NB + 1) 0 0)) (hs : d < 8 → gRd q kd vl n lo (d + 1) (fG3 (NA + 1) 3 0 (d + 1)) (fG14 NB 2 0)) (hs2 : d < 8 → gRd q kd vl n lo (d + 1) (fG3 NA 3 0 (d + 1)) (fG14 NB 2 0)) : gRd q kd vl n lo d (fun A => fX3_readValue (fG3 (NA + 1)) A d) (fun B => fX14_value (fG14 (NB + 1)) B) := by
  intro A B t c X M L l1
  have n1 := S.2.1
  have hA := L.1
  have hB := L.2.1
  have t0 : 0 ≤ t := L.2.2.1
  have tn : t < n := L.2.2.2.1
  have c0 : 0 ≤ c := L.2.2.2.2.1
  have ct : c ≤ t := L.2.2.2.2.2.1
  have d0 : 0 ≤ d := L.2.2.2.2.2.2.1
  have d1 : d ≤ 8 := L.2.2.2.2.2.2.2
  have N : ∀ K, kd t ≠ K → fX3_take A K = some (0, A) := fun K e => A_takeN X hA.2.1 e
  have Y : ∀ K, kd t = K → fX3_take A K = some (1, aT A (t + 1)) := fun K e => A_take X hA.1 hA.2.1 t0 (by omega) e
  have I : ∀ (K : Nat) (k : Int), gkm K = k → 10 ≤ K → K ≤ 48 → kd t ≠ K → fX14_is B k = some 0 := fun K k h1 h2 h3 e => by rw [B_is S M hB.1 hB.2.1 t0 tn h1 h2 h3, if_neg e]
  have J : ∀ (K : Nat) (k : Int), gkm K = k → 10 ≤ K → K ≤ 48 → kd t = K → fX14_is B k = some 1 := fun K k h1 h2 h3 e => by rw [B_is S M hB.1 hB.2.1 t0 tn h1 h2 h3, if_pos e]
  have T0 : ∀ (K : Nat) (k : Int), gkm K = k → 10 ≤ K → K ≤ 48 → kd t ≠ K → fX14_takes B k = some (0, B) := fun K k h1 h2 h3 e => B_takesN S M hB.1 hB.2.1 t0 tn h1 h2 h3 e
  have T1 : ∀ (K : Nat) (k : Int), gkm K = k → 10 ≤ K → K ≤ 48 → kd t = K → fX14_takes B k = some (1, bT B (t + 1)) := fun K k h1 h2 h3 e => B_takes S M hB.1 hB.2.1 t0 tn h1 h2 h3 e
  have tn1 : kd t ≤ 48 → t + 1 < n := fun h => (gMB_iff S M t0 tn (K := kd t) (by
    rcases (show t < n - 1 ∨ t = n - 1 by omega) with z | z
    · exact (S.2.2.1 t t0 z).1
    · rw [z]; rcases S.2.2.2.1 with y | y <;> omega) h).2 rfl
  have F := B_find S M hB.1 hB.2.1 t0 tn (fG14 (NB + 1))
  have fA1 : Fr2 (sGA q) A (aT A (t + 1)) := aT_fr _ _ _
  have fB1 : Fr sGB B (bT B (t + 1)) := bT_fr _ _
  have X1 := X.g hq fA1
  have p1 := gPre.aT hq A B (t + 1) (t + 1) c
  have ex : wr (mI (aT A (t + 1)) 166 2 - 1) = t := by rw [mI_Us, wr_eq (by omega) (by omega)]; omega
  have ey : wr (mI (bT B (t + 1)) 203 7 - 1) = t := by rw [mI_Us, wr_eq (by omega) (by omega)]; omega
  have ez : mI (bT B (t + 1)) 206 t.toNat = mI B 206 t.toNat := mI_Un (by omega)
  show ∃ A' B' v, fX3_readValue (fG3 (NA + 1)) A d = some A' ∧ fX14_value (fG14 (NB + 1)) B = some (v, B') ∧ gOut q kd n lo A B A' B' t c d v
  by_cases e : kd t = 48
  · obtain ⟨w1, w2, o⟩ := L_leaf hq n1 (L_adv hq L (tn1 (by omega))) fA1 fB1 p1 (gCl.one (kd := kd) (by omega)) l0 l1 ct (by omega) (K := 48) (v := vl t) (by omega) (fun _ => S.2.2.2.2 t e) (by omega)
    refine ⟨_, _, c, ?_, ?_, o⟩
    · unfold fX3_readValue
      rw [Y 48 e, bd2_s, if_neg (show ¬ (1 : Int) = 0 by decide), X_oq X1 hq, hA.2.1, X.1, e, X1.2.1, ex, w1, bd1_s]
    · unfold fX14_value
      rw [J 48 31 rfl (by omega) (by omega) e, bd1_s, if_neg (show ¬ (1 : Int) = 0 by decide), hB.2.1, wr_eq (show -2147483648 ≤ t + 1 by omega) (by omega), ey, if_pos (show 0 ≤ t ∧ t < 402 by omega), ez, M.2.2 t t0 tn e]
      show bd2 (fX14_node (bT B (t + 1)) (gkm 48) (vl t) 0) _ = _
      rw [w2, bd2_s]
  have z48 := e
  clear e
  by_cases e : kd t = 22
  · obtain ⟨w1, w2, o⟩ := L_leaf hq n1 (L_adv hq L (tn1 (by omega))) fA1 fB1 p1 (gCl.one (kd := kd) (by omega)) l0 l1 ct (by omega) (K := 22) (v := 0) (by omega) (by omega) (by omega)
    refine ⟨_, _, c, ?_, ?_, o⟩
    · unfold fX3_readValue
      rw [N 48 (by omega), bd2_s, if_pos rfl, Y 22 e, bd2_s, if_neg (show ¬ (1 : Int) = 0 by decide), X_oq X1 hq, hA.2.1, X.1, e, w1, bd1_s]
    · unfold fX14_value
      rw [I 48 31 rfl (by omega) (by omega) (by omega), bd1_s, if_pos rfl, T1 22 12 rfl (by omega) (by omega) e, bd2_s, if_neg (show ¬ (1 : Int) = 0 by decide)]
      show bd2 (fX14_node (bT B (t + 1)) (gkm 22) 0 0) _ = _
      rw [w2, bd2_s]
  have z22 := e
  clear e
  by_cases e : kd t = 25
  · obtain ⟨w1, w2, o⟩ := L_leaf hq n1 (L_adv hq L (tn1 (by omega))) fA1 fB1 p1 (gCl.one (kd := kd) (by omega)) l0 l1 ct (by omega) (K := 25) (v := 0) (by omega) (by omega) (by omega)
    refine ⟨_, _, c, ?_, ?_, o⟩
    · unfold fX3_readValue
      rw [N 48 (by omega), bd2_s, if_pos rfl, N 22 (by omega), bd2_s, if_pos rfl, Y 25 e, bd2_s, if_neg (show ¬ (1 : Int) = 0 by decide), X_oq X1 hq, hA.2.1, X.1, e, w1, bd1_s]
    · unfold fX14_value
      rw [I 48 31 rfl (by omega) (by omega) (by omega), bd1_s, if_pos rfl, T0 22 12 rfl (by omega) (by omega) (by omega), bd2_s, if_pos rfl, T1 25 15 rfl (by omega) (by omega) e, bd2_s, if_neg (show ¬ (1 : Int) = 0 by decide)]
      show bd2 (fX14_node (bT B (t + 1)) (gkm 25) 0 0) _ = _
      rw [w2, bd2_s]
  have z25 := e
  clear e
  by_cases e : kd t = 23
  · obtain ⟨A', B', v, w1, w2, o⟩ := L_stat hq S l0 (K := 23) (by omega) X M L l1 (tn1 (by omega)) e
    refine ⟨A', B', v, ?_, ?_, o⟩
    · unfold fX3_readValue
      rw [N 48 (by omega), bd2_s, if_pos rfl, N 22 (by omega), bd2_s, if_pos rfl, N 25 (by omega), bd2_s, if_pos rfl, Y 23 e, bd2_s, if_neg (show ¬ (1 : Int) = 0 by decide), X_oq X1 hq, hA.2.1, X.1, e, w1]
    · unfold fX14_value
      rw [I 48 31 rfl (by omega) (by omega) (by omega), bd1_s, if_pos rfl, T0 22 12 rfl (by omega) (by omega) (by omega), bd2_s, if_pos rfl, T0 25 15 rfl (by omega) (by omega) (by omega), bd2_s, if_pos rfl, F, if_pos (by omega), bdS_l, e]
      exact w2
  have z23 := e
  clear e
  by_cases e : kd t = 24
  · obtain ⟨A', B', v, w1, w2, o⟩ := L_stat hq S l0 (K := 24) (by omega) X M L l1 (tn1 (by omega)) e
    refine ⟨A', B', v, ?_, ?_, o⟩
    · unfold fX3_readValue
      rw [N 48 (by omega), bd2_s, if_pos rfl, N 22 (by omega), bd2_s, if_pos rfl, N 25 (by omega), bd2_s, if_pos rfl, N 23 (by omega), bd2_s, if_pos rfl, Y 24 e, bd2_s, if_neg (show ¬ (1 : Int) = 0 by decide), X_oq X1 hq, hA.2.1, X.1, e, w1]
    · unfold fX14_value
      rw [I 48 31 rfl (by omega) (by omega) (by omega), bd1_s, if_pos rfl, T0 22 12 rfl (by omega) (by omega) (by omega), bd2_s, if_pos rfl, T0 25 15 rfl (by omega) (by omega) (by omega), bd2_s, if_pos rfl, F, if_pos (by omega), bdS_l, e]
      exact w2
  have z24 := e
  clear e
  by_cases e : kd t = 26
  · obtain ⟨A', B', v, w1, w2, o⟩ := L_stat hq S l0 (K := 26) (by omega) X M L l1 (tn1 (by omega)) e
    refine ⟨A', B', v, ?_, ?_, o⟩
    · unfold fX3_readValue
      rw [N 48 (by omega), bd2_s, if_pos rfl, N 22 (by omega), bd2_s, if_pos rfl, N 25 (by omega), bd2_s, if_pos rfl, N 23 (by omega), bd2_s, if_pos rfl, N 24 (by omega), bd2_s, if_pos rfl, Y 26 e, bd2_s, if_neg (show ¬ (1 : Int) = 0 by decide), X_oq X1 hq, hA.2.1, X.1, e, w1]
    · unfold fX14_value
      rw [I 48 31 rfl (by omega) (by omega) (by omega), bd1_s, if_pos rfl, T0 22 12 rfl (by omega) (by omega) (by omega), bd2_s, if_pos rfl, T0 25 15 rfl (by omega) (by omega) (by omega), bd2_s, if_pos rfl, F, if_pos (by omega), bdS_l, e]
      exact w2
  have z26 := e
  clear e
  by_cases e : kd t = 31
  · obtain ⟨A', B', v, w1, w2, o⟩ := L_pair hq S l0 (K := 31) (by omega) hs2 (fun d8 A' H => D_sum hq H (hNA d8) (d + 1)) (fun B' H => E_sum H hNB 0) X M L l1 (tn1 (by omega)) e
    refine ⟨A', B', v, ?_, ?_, o⟩
    · unfold fX3_readValue
      by_cases d8 : d < 8
      · rw [N 48 (by omega), bd2_s, if_pos rfl, N 22 (by omega), bd2_s, if_pos rfl, N 25 (by omega), bd2_s, if_pos rfl, N 23 (by omega), bd2_s, if_pos rfl, N 24 (by omega), bd2_s, if_pos rfl, N 26 (by omega), bd2_s, if_pos rfl, if_pos d8, N 40 (by omega), bd2_s, if_pos rfl, Y 31 e, bd2_s, if_neg (show ¬ (1 : Int) = 0 by decide), fG3_6, hA.2.1, X.1, e, w1, bd1_s]
      · rw [N 48 (by omega), bd2_s, if_pos rfl, N 22 (by omega), bd2_s, if_pos rfl, N 25 (by omega), bd2_s, if_pos rfl, N 23 (by omega), bd2_s, if_pos rfl, N 24 (by omega), bd2_s, if_pos rfl, N 26 (by omega), bd2_s, if_pos rfl, if_neg d8, Y 31 e, bd2_s, if_neg (show ¬ (1 : Int) = 0 by decide), fG3_6, hA.2.1, X.1, e, w1, bd1_s]
    · have em : mI B 205 t.toNat = gkm 31 := by
        have := (gMB_iff S M t0 tn (K := 31) (by omega) (by omega)).1.mpr e
        exact this
      unfold fX14_value
      rw [I 48 31 rfl (by omega) (by omega) (by omega), bd1_s, if_pos rfl, T0 22 12 rfl (by omega) (by omega) (by omega), bd2_s, if_pos rfl, T0 25 15 rfl (by omega) (by omega) (by omega), bd2_s, if_pos rfl, F, if_neg (by omega), bdS_r, J 31 21 rfl (by omega) (by omega) e, bd1_s, if_neg (show ¬ (1 : Int) = 0 by decide), hB.2.1, if_pos (show 0 ≤ t ∧ t < 402 by omega), fG14_4, em, w2, bd2_s]
  have z31 := e
  clear e
  by_cases e : kd t = 32
  · obtain ⟨A', B', v, w1, w2, o⟩ := L_pair hq S l0 (K := 32) (by omega) hs2 (fun d8 A' H => D_sum hq H (hNA d8) (d + 1)) (fun B' H => E_sum H hNB 0) X M L l1 (tn1 (by omega)) e
    refine ⟨A', B', v, ?_, ?_, o⟩
    · unfold fX3_readValue
      by_cases d8 : d < 8
      · rw [N 48 (by omega), bd2_s, if_pos rfl, N 22 (by omega), bd2_s, if_pos rfl, N 25 (by omega), bd2_s, if_pos rfl, N 23 (by omega), bd2_s, if_pos rfl, N 24 (by omega), bd2_s, if_pos rfl, N 26 (by omega), bd2_s, if_pos rfl, if_pos d8, N 40 (by omega), bd2_s, if_pos rfl, N 31 (by omega), bd2_s, if_pos rfl, Y 32 e, bd2_s, if_neg (show ¬ (1 : Int) = 0 by decide), fG3_6, hA.2.1, X.1, e, w1, bd1_s]
      · rw [N 48 (by omega), bd2_s, if_pos rfl, N 22 (by omega), bd2_s, if_pos rfl, N 25 (by omega), bd2_s, if_pos rfl, N 23 (by omega), bd2_s, if_pos rfl, N 24 (by omega), bd2_s, if_pos rfl, N 26 (by omega), bd2_s, if_pos rfl, if_neg d8, N 31 (by omega), bd2_s, if_pos rfl, Y 32 e, bd2_s, if_neg (show ¬ (1 : Int) = 0 by decide), fG3_6, hA.2.1, X.1, e, w1, bd1_s]
    · have em : mI B 205 t.toNat = gkm 32 := by
        have := (gMB_iff S M t0 tn (K := 32) (by omega) (by omega)).1.mpr e
        exact this
      unfold fX14_value
      rw [I 48 31 rfl (by omega) (by omega) (by omega), bd1_s, if_pos rfl, T0 22 12 rfl (by omega) (by omega) (by omega), bd2_s, if_pos rfl, T0 25 15 rfl (by omega) (by omega) (by omega), bd2_s, if_pos rfl, F, if_neg (by omega), bdS_r, I 31 21 rfl (by omega) (by omega) (by omega), bd1_s, if_pos rfl, J 32 22 rfl (by omega) (by omega) e, bd1_s, if_neg (show ¬ (1 : Int) = 0 by decide), hB.2.1, if_pos (show 0 ≤ t ∧ t < 402 by omega), fG14_4, em, w2, bd2_s]
  have z32 := e
  clear e
  by_cases d8 : d < 8
  · by_cases e : kd t = 33
    · obtain ⟨A', B', v, w1, w2, o⟩ := L_wrap hq S l0 d8 (hs d8) (K := 34) (k := 50) rfl (by omega) (by omega) X M L l1 (tn1 (by omega)) (by omega)
      refine ⟨A', B', v, ?_, ?_, o⟩
      · unfold fX3_readValue
        rw [N 48 (by omega), bd2_s, if_pos rfl, N 22 (by omega), bd2_s, if_pos rfl, N 25 (by omega), bd2_s, if_pos rfl, N 23 (by omega), bd2_s, if_pos rfl, N 24 (by omega), bd2_s, if_pos rfl, N 26 (by omega), bd2_s, if_pos rfl, if_pos d8, N 40 (by omega), bd2_s, if_pos rfl, N 31 (by omega), bd2_s, if_pos rfl, N 32 (by omega), bd2_s, if_pos rfl, Y 33 e, bd2_s, if_neg (show ¬ (1 : Int) = 0 by decide), w1]
      · unfold fX14_value
        rw [I 48 31 rfl (by omega) (by omega) (by omega), bd1_s, if_pos rfl, T0 22 12 rfl (by omega) (by omega) (by omega), bd2_s, if_pos rfl, T0 25 15 rfl (by omega) (by omega) (by omega), bd2_s, if_pos rfl, F, if_neg (by omega), bdS_r, I 31 21 rfl (by omega) (by omega) (by omega), bd1_s, if_pos rfl, I 32 22 rfl (by omega) (by omega) (by omega), bd1_s, if_pos rfl, J 33 49 rfl (by omega) (by omega) e, bd1_s, if_neg (show ¬ (1 : Int) = 0 by decide), fG14_3]
        unfold fX14_inBrackets
        rw [w2, bd2_s]
    have z33 := e
    clear e
    by_cases e : kd t = 40
    · obtain ⟨A', B', v, w1, w2, o⟩ := L_una hq S l0 (K := 51) (by omega) d8 (hv d8) X M L l1 (tn1 (by omega)) (by omega)
      refine ⟨A', B', v, ?_, ?_, o⟩
      · unfold fX3_readValue
        rw [N 48 (by omega), bd2_s, if_pos rfl, N 22 (by omega), bd2_s, if_pos rfl, N 25 (by omega), bd2_s, if_pos rfl, N 23 (by omega), bd2_s, if_pos rfl, N 24 (by omega), bd2_s, if_pos rfl, N 26 (by omega), bd2_s, if_pos rfl, if_pos d8, Y 40 e, bd2_s, if_neg (show ¬ (1 : Int) = 0 by decide), w1]
      · unfold fX14_value
        rw [I 48 31 rfl (by omega) (by omega) (by omega), bd1_s, if_pos rfl, T0 22 12 rfl (by omega) (by omega) (by omega), bd2_s, if_pos rfl, T0 25 15 rfl (by omega) (by omega) (by omega), bd2_s, if_pos rfl, F, if_neg (by omega), bdS_r, I 31 21 rfl (by omega) (by omega) (by omega), bd1_s, if_pos rfl, I 32 22 rfl (by omega) (by omega) (by omega), bd1_s, if_pos rfl, I 33 49 rfl (by omega) (by omega) (by omega), bd1_s, if_pos rfl, J 40 41 rfl (by omega) (by omega) e, bd1_s, if_neg (show ¬ (1 : Int) = 0 by decide)]
        exact w2
    have z40 := e
    clear e
    obtain ⟨D, ec⟩ := L_die hq n1 L
    refine ⟨aF A, bW B t, 0, ?_, ?_, aF_fr _ _, bW_fr _ _, Or.inr ⟨t, D, Int.le_refl _, by omega⟩⟩
    · unfold fX3_readValue
      rw [N 48 (by omega), bd2_s, if_pos rfl, N 22 (by omega), bd2_s, if_pos rfl, N 25 (by omega), bd2_s, if_pos rfl, N 23 (by omega), bd2_s, if_pos rfl, N 24 (by omega), bd2_s, if_pos rfl, N 26 (by omega), bd2_s, if_pos rfl, if_pos d8, N 40 (by omega), bd2_s, if_pos rfl, N 31 (by omega), bd2_s, if_pos rfl, N 32 (by omega), bd2_s, if_pos rfl, N 33 (by omega), bd2_s, if_pos rfl]
    · unfold fX14_value
      rw [I 48 31 rfl (by omega) (by omega) (by omega), bd1_s, if_pos rfl, T0 22 12 rfl (by omega) (by omega) (by omega), bd2_s, if_pos rfl, T0 25 15 rfl (by omega) (by omega) (by omega), bd2_s, if_pos rfl, F, if_neg (by omega), bdS_r, I 31 21 rfl (by omega) (by omega) (by omega), bd1_s, if_pos rfl, I 32 22 rfl (by omega) (by omega) (by omega), bd1_s, if_pos rfl, I 33 49 rfl (by omega) (by omega) (by omega), bd1_s, if_pos rfl, I 40 41 rfl (by omega) (by omega) (by omega), bd1_s, if_pos rfl, B_wrong hB.1 hB.2.1, bd1_s]
  · obtain rfl : d = 8 := by omega
    by_cases e : kd t = 33
    · obtain ⟨B', w2, o⟩ := L_wrap8 (lo := lo) (kd := kd) (vl := vl) hq S (g := fG14 NB 2 0) (fun B' H _ => E_sum H hNB 0) 50 L
      refine ⟨aF A, B', 0, ?_, ?_, o⟩
      · unfold fX3_readValue
        rw [N 48 (by omega), bd2_s, if_pos rfl, N 22 (by omega), bd2_s, if_pos rfl, N 25 (by omega), bd2_s, if_pos rfl, N 23 (by omega), bd2_s, if_pos rfl, N 24 (by omega), bd2_s, if_pos rfl, N 26 (by omega), bd2_s, if_pos rfl, if_neg d8, N 31 (by omega), bd2_s, if_pos rfl, N 32 (by omega), bd2_s, if_pos rfl]
      · unfold fX14_value
        rw [I 48 31 rfl (by omega) (by omega) (by omega), bd1_s, if_pos rfl, T0 22 12 rfl (by omega) (by omega) (by omega), bd2_s, if_pos rfl, T0 25 15 rfl (by omega) (by omega) (by omega), bd2_s, if_pos rfl, F, if_neg (by omega), bdS_r, I 31 21 rfl (by omega) (by omega) (by omega), bd1_s, if_pos rfl, I 32 22 rfl (by omega) (by omega) (by omega), bd1_s, if_pos rfl, J 33 49 rfl (by omega) (by omega) e, bd1_s, if_neg (show ¬ (1 : Int) = 0 by decide), fG14_3]
        unfold fX14_inBrackets
        rw [w2, bd2_s]
    have z33 := e
    clear e
    by_cases e : kd t = 40
    · obtain ⟨B', v, w2, o⟩ := L_una8 (lo := lo) (kd := kd) (vl := vl) hq S (g := fG14 (NB + 1) 0 0) (fun B' H _ => E_val H (by omega) 0) 60 L
      refine ⟨aF A, B', v, ?_, ?_, o⟩
      · unfold fX3_readValue
        rw [N 48 (by omega), bd2_s, if_pos rfl, N 22 (by omega), bd2_s, if_pos rfl, N 25 (by omega), bd2_s, if_pos rfl, N 23 (by omega), bd2_s, if_pos rfl, N 24 (by omega), bd2_s, if_pos rfl, N 26 (by omega), bd2_s, if_pos rfl, if_neg d8, N 31 (by omega), bd2_s, if_pos rfl, N 32 (by omega), bd2_s, if_pos rfl]
      · unfold fX14_value
        rw [I 48 31 rfl (by omega) (by omega) (by omega), bd1_s, if_pos rfl, T0 22 12 rfl (by omega) (by omega) (by omega), bd2_s, if_pos rfl, T0 25 15 rfl (by omega) (by omega) (by omega), bd2_s, if_pos rfl, F, if_neg (by omega), bdS_r, I 31 21 rfl (by omega) (by omega) (by omega), bd1_s, if_pos rfl, I 32 22 rfl (by omega) (by omega) (by omega), bd1_s, if_pos rfl, I 33 49 rfl (by omega) (by omega) (by omega), bd1_s, if_pos rfl, J 40 41 rfl (by omega) (by omega) e, bd1_s, if_neg (show ¬ (1 : Int) = 0 by decide)]
        exact w2
    have z40 := e
    clear e
    obtain ⟨D, ec⟩ := L_die hq n1 L
    refine ⟨aF A, bW B t, 0, ?_, ?_, aF_fr _ _, bW_fr _ _, Or.inr ⟨t, D, Int.le_refl _, by omega⟩⟩
    · unfold fX3_readValue
      rw [N 48 (by omega), bd2_s, if_pos rfl, N 22 (by omega), bd2_s, if_pos rfl, N 25 (by omega), bd2_s, if_pos rfl, N 23 (by omega), bd2_s, if_pos rfl, N 24 (by omega), bd2_s, if_pos rfl, N 26 (by omega), bd2_s, if_pos rfl, if_neg d8, N 31 (by omega), bd2_s, if_pos rfl, N 32 (by omega), bd2_s, if_pos rfl]
    · unfold fX14_value
      rw [I 48 31 rfl (by omega) (by omega) (by omega), bd1_s, if_pos rfl, T0 22 12 rfl (by omega) (by omega) (by omega), bd2_s, if_pos rfl, T0 25 15 rfl (by omega) (by omega) (by omega), bd2_s, if_pos rfl, F, if_neg (by omega), bdS_r, I 31 21 rfl (by omega) (by omega) (by omega), bd1_s, if_pos rfl, I 32 22 rfl (by omega) (by omega) (by omega), bd1_s, if_pos rfl, I 33 49 rfl (by omega) (by omega) (by omega), bd1_s, if_pos rfl, I 40 41 rfl (by omega) (by omega) (by omega), bd1_s, if_pos rfl, B_wrong hB.1 hB.2.1, bd1_s]
/-- values and sums, however deep -/
theorem L_all (hq : q = 157 ∨ q = 194) (S : gSt kd vl n) (l0 : 0 ≤ lo) : ∀ (m : Nat) (d : Int), d + m = 8 → (∀ NA NB : Nat, 4 * m + 2 ≤ NA → 4 * m + 5 ≤ NB → gRd q kd vl n lo d (fG3 NA 5 0 d) (fG14 NB 0 0)) ∧ (∀ NA NB : Nat, 4 * m + 4 ≤ NA → 4 * m + 7 ≤ NB → gRd q kd vl n lo d (fG3 NA 3 0 d) (fG14 NB 2 0)) := by
  have up : ∀ (m : Nat) (d : Int), (∀ NA NB : Nat, 4 * m + 2 ≤ NA → 4 * m + 5 ≤ NB → gRd q kd vl n lo d (fG3 NA 5 0 d) (fG14 NB 0 0)) → (∀ NA NB : Nat, 4 * m + 4 ≤ NA → 4 * m + 7 ≤ NB → gRd q kd vl n lo d (fG3 NA 3 0 d) (fG14 NB 2 0)) := by
    intro m d hv NA NB hA hB
    obtain ⟨NA, rfl⟩ : ∃ M, NA = M + 2 := ⟨NA - 2, by omega⟩
    obtain ⟨NB, rfl⟩ : ∃ M, NB = M + 2 := ⟨NB - 2, by omega⟩
    have h1 := L_prod hq S l0 (hv NA NB (by omega) (by omega))
    have e1 : (fun A => fX3_readProduct (fG3 NA) A d) = fG3 (NA + 1) 4 0 d := funext (fun A => (fG3_4 NA 0 d A).symm)
    have e2 : (fun B => fX14_product (fG14 NB) B) = fG14 (NB + 1) 1 0 := funext (fun B => (fG14_1 NB 0 B).symm)
    rw [e1, e2] at h1
    have h2 := L_sum hq S l0 h1
    have e3 : (fun A => fX3_readSum (fG3 (NA + 1)) A d) = fG3 (NA + 2) 3 0 d := funext (fun A => (fG3_3 (NA + 1) 0 d A).symm)
    have e4 : (fun B => fX14_sum (fG14 (NB + 1)) B) = fG14 (NB + 2) 2 0 := funext (fun B => (fG14_2 (NB + 1) 0 B).symm)
    rw [e3, e4] at h2
    exact h2
  have st : ∀ (m : Nat) (d : Int), d + m = 8 → (∀ m' : Nat, m = m' + 1 → (∀ NA NB : Nat, 4 * m' + 2 ≤ NA → 4 * m' + 5 ≤ NB → gRd q kd vl n lo (d + 1) (fG3 NA 5 0 (d + 1)) (fG14 NB 0 0)) ∧ (∀ NA NB : Nat, 4 * m' + 4 ≤ NA → 4 * m' + 7 ≤ NB → gRd q kd vl n lo (d + 1) (fG3 NA 3 0 (d + 1)) (fG14 NB 2 0))) → (∀ NA NB : Nat, 4 * m + 2 ≤ NA → 4 * m + 5 ≤ NB → gRd q kd vl n lo d (fG3 NA 5 0 d) (fG14 NB 0 0)) := by
    intro m d hm ih NA NB hA hB
    obtain ⟨NA, rfl⟩ : ∃ M, NA = M + 2 := ⟨NA - 2, by omega⟩
    obtain ⟨NB, rfl⟩ : ∃ M, NB = M + 2 := ⟨NB - 2, by omega⟩
    have e1 : (fun A => fX3_readValue (fG3 (NA + 1)) A d) = fG3 (NA + 2) 5 0 d := funext (fun A => (fG3_5 (NA + 1) 0 d A).symm)
    have e2 : (fun B => fX14_value (fG14 (NB + 1)) B) = fG14 (NB + 2) 0 0 := funext (fun B => (fG14_0 (NB + 1) 0 B).symm)
    rw [← e1, ← e2]
    refine L_value hq S l0 (by omega) (fun d8 => by omega) (fun d8 => ?_) (fun d8 => ?_) (fun d8 => ?_)
    · exact (ih (m - 1) (by omega)).1 _ _ (by omega) (by omega)
    · exact (ih (m - 1) (by omega)).2 _ _ (by omega) (by omega)
    · exact (ih (m - 1) (by omega)).2 _ _ (by omega) (by omega)
  intro m
  induction m with
  | zero =>
    intro d hd
    have h := st 0 d hd (fun m' e => absurd e (by omega))
    exact ⟨h, up 0 d h⟩
  | succ m ih =>
    intro d hd
    have h := st (m + 1) d hd (fun m' e => by
      obtain rfl : m' = m := by omega
      exact ih (d + 1) (by omega))
    exact ⟨h, up (m + 1) d h⟩
theorem L_S (hq : q = 157 ∨ q = 194) (S : gSt kd vl n) (l0 : 0 ≤ lo) (d0 : 0 ≤ d) (d8 : d ≤ 8) {NA NB : Nat} (hA : 4 * (8 - d) + 4 ≤ NA) (hB : 4 * (8 - d) + 7 ≤ NB) : gRd q kd vl n lo d (fG3 NA 3 0 d) (fG14 NB 2 0) := (L_all hq S l0 (8 - d).toNat d (by omega)).2 NA NB (by omega) (by omega)
end ST5
