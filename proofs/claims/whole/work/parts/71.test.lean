/-! part C: the grammar in step: tests -/
theorem gkm_rel : ∀ a : Nat, 10 ≤ a → a ≤ 48 → ((44 ≤ gkm a ∧ gkm a ≤ 48) ↔ (43 ≤ a ∧ a ≤ 47)) := by
  have l : ∀ a : Fin 39, ((44 ≤ gkm (10 + (a : Nat)) ∧ gkm (10 + (a : Nat)) ≤ 48) ↔ (43 ≤ 10 + (a : Nat) ∧ 10 + (a : Nat) ≤ 47)) := by decide +kernel
  intro a a0 a1
  have := l ⟨a - 10, by omega⟩
  have : ((44 ≤ gkm (10 + (a - 10)) ∧ gkm (10 + (a - 10)) ≤ 48) ↔ (43 ≤ 10 + (a - 10) ∧ 10 + (a - 10) ≤ 47)) := this
  rw [show 10 + (a - 10) = a by omega] at this
  exact this
section ST6
variable {q : Nat} {kd : Int → Nat} {vl : Int → Int} {n lo : Int} {A B A1 B1 : ax_M} {t c d x t1 : Int}
theorem L_rel (X : gXA q kd vl A) (L : gLv q n A B t c d) (h : n ≤ 401) : fX3_readRelation A = some (kd t, if 43 ≤ kd t ∧ kd t ≤ 47 then aT A (t + 1) else aF A) := by
  have hA := L.1
  have t0 : 0 ≤ t := L.2.2.1
  have tn : t < n := L.2.2.2.1
  unfold fX3_readRelation
  rw [hA.2.1, X.1]
  by_cases e : 43 ≤ kd t ∧ kd t ≤ 47
  · have w := A_need X hA.1 hA.2.1 t0 (by omega) (K := kd t) rfl
    rw [if_pos e]
    simp only [w, bd1_s]
    by_cases e1 : kd t = 43
    · rw [if_pos e1]
    · rw [if_neg e1]
      by_cases e2 : kd t = 44
      · rw [if_pos e2]
      · rw [if_neg e2]
        by_cases e3 : kd t = 45
        · rw [if_pos e3]
        · rw [if_neg e3]
          by_cases e4 : kd t = 46
          · rw [if_pos e4]
          · rw [if_neg e4, if_pos (show kd t = 47 by omega)]
  · rw [if_neg e, if_neg (by omega), if_neg (by omega), if_neg (by omega), if_neg (by omega), if_neg (by omega), A_needN X hA.2.1 (show kd t ≠ 43 by omega), bd1_s]
def cA (NA : Nat) (d : Int) (M : ax_M) : Option ax_M := (bd1 (fG3 NA 3 0 d M) fun M18 => (bd2 (fX3_readRelation M18) fun v21 M20 => (bd1 (fG3 NA 3 0 d M20) fun M25 => (oq (mR M25 166 1) none fun p27 => if (p27 = 157 ∨ p27 = 194) then (bd1 (fX7_write M25 p27 v21 0) fun M30 => (some M30)) else none))))
theorem cA_D (hq : q = 157 ∨ q = 194) {NA : Nat} (hN : 3 ≤ NA) {A2 : ax_M} (h : fG3 NA 3 0 d A = some A2) (H : gD1 q A2) : ∃ A', cA NA d A = some A' ∧ gDa q A2 A' := by
  have H1 := aF_d hq H
  have H2 := aF_d hq H1
  have p2 := (aF_a hq H).trans (aF_a hq H1)
  obtain ⟨K, hK⟩ := D_rel hq H
  obtain ⟨A', e1, e2⟩ := A_writeD hq H2.a K 0
  refine ⟨A', ?_, p2.trans e2⟩
  unfold cA
  rw [h, bd1_s, hK, bd2_s, D_sum hq H1 hN, bd1_s, D_oq H2 hq, e1, bd1_s]
theorem L_comp (hq : q = 157 ∨ q = 194) (S : gSt kd vl n) (l0 : 0 ≤ lo) {NA : Nat} (hA : 4 * (8 - d) + 4 ≤ NA) : gRd q kd vl n lo d (cA NA d) fX14_comparison := by
  intro A B t c X M L l1
  have n1 := S.2.1
  have t0 : 0 ≤ t := L.2.2.1
  have tn : t < n := L.2.2.2.1
  have c0 : 0 ≤ c := L.2.2.2.2.1
  have ct : c ≤ t := L.2.2.2.2.2.1
  have d0 : 0 ≤ d := L.2.2.2.2.2.2.1
  have d1 : d ≤ 8 := L.2.2.2.2.2.2.2
  have sm := L_S hq S l0 d0 d1 (NA := NA) (NB := 60) hA (by omega)
  obtain ⟨A2, B2, v, r1, r2, fA2, fB2, o⟩ := sm A B t c X M L l1
  have X2 := X.g hq fA2
  have M2 := M.g fB2
  unfold fX14_comparison
  rw [r2, bd2_s]
  rcases o with ⟨t2, c2, L2, u1, u2, u3, u4, u5, u6, u7⟩ | ⟨x, D, u1, u2⟩
  · have hB2 := L2.2.1
    have tn2 : t2 < n := L2.2.2.2.1
    have hr := L_rel X2 L2 n1
    obtain ⟨f0, hf0⟩ := u5.1
    have hlt := gEx_lt f0 _ _ _ hf0
    rw [hB2.2.1, if_pos (show 0 ≤ t2 ∧ t2 < 402 by omega), if_pos hB2.1]
    by_cases e : 43 ≤ kd t2 ∧ kd t2 ≤ 47
    · have e1 := (gMB_iff S M2 (by omega) tn2 (K := kd t2) (by omega) (by omega)).2 rfl
      have em : mI B2 205 t2.toNat = gkm (kd t2) := M2.1 t2 (by omega) (by omega)
      have ei : (44 ≤ gkm (kd t2) ∧ gkm (kd t2) ≤ 48) := (gkm_rel (kd t2) (by omega) (by omega)).mpr e
      have Lb := L_adv hq L2 e1
      have fA3 : Fr2 (sGA q) A (aT A2 (t2 + 1)) := fA2.trans (aT_fr _ _ _)
      have fB3 : Fr sGB B (bT B2 (t2 + 1)) := fB2.trans (bT_fr _ _)
      obtain ⟨A4, B4, w, r3, r4, fA4, fB4, o⟩ := sm _ _ _ _ (X.g hq fA3) (M.g fB3) Lb (by omega)
      have X4 := X.g hq (fA3.trans fA4)
      have p1 := gPre.aT hq A2 B2 (t2 + 1) (t2 + 1) c2
      have eI : fX14_isIn B2 (gkm (kd t2)) 44 48 = 1 := by
        unfold fX14_isIn
        rw [if_neg (by omega), if_neg (by omega)]
      rw [em, eI, if_neg (show ¬ (1 : Int) = 0 by decide), r4, bd2_s]
      unfold cA
      rw [r1, bd1_s, hr, if_pos e, bd2_s, r3, bd1_s, X_oq X4 hq]
      rcases o with ⟨t5, c5, L5, y1, y2, y3, y4, y5, y6, y7⟩ | ⟨x, D, y1, y2⟩
      · have tn5 : t5 < n := L5.2.2.2.1
        have pp := p1.trans y7 (Int.le_refl _)
        have E := gXp_2 hq l0 l1 (u5.pre pp l0 l1 (Int.le_refl _)) y5 (K := kd t2) (v := 0) (by omega)
        have LW := L_W hq L5 (by omega) (kd t2) 0 (gkm (kd t2)) (c2 - 1) (c5 - 1)
        rw [A_write hq (kd t2) 0 L5.1.2.2 (by omega) (by omega), bd1_s, u4, y4, B_node _ _ _ L5.2.1.2.2.1 (by omega) (by omega), bd2_s]
        exact ⟨_, _, c5, rfl, rfl, (fA3.trans fA4).trans (aW_fr _ _ _ _ _), (fB3.trans fB4).trans (bN_fr _ _ _ _ _), Or.inl ⟨t5, c5 + 1, LW, by omega, by omega, by omega, by omega, E, (u6.tr (gCl.one (by omega))).tr y6, (u7.trans pp (by omega)).trans (gPre_W hq _ _ (kd t2) 0 _ _ _ (by omega)) (by omega)⟩⟩
      · have xn : x < n := D.2.2.2
        obtain ⟨A', B', w1, w2, D3, e3, fA, fB⟩ := D.wr hq (by omega) (kd t2) 0 (gkm (kd t2)) v w
        rw [w1, bd1_s, w2, bd2_s]
        exact ⟨A', B', _, rfl, rfl, (fA3.trans fA4).trans fA, (fB3.trans fB4).trans fB, Or.inr ⟨x, D3, by omega, by omega⟩⟩
    · have em : ¬ (44 ≤ mI B2 205 t2.toNat ∧ mI B2 205 t2.toNat ≤ 48) := by
        rcases (show t2 < n - 1 ∨ t2 = n - 1 by omega) with z | z
        · rw [M2.1 t2 (by omega) z]
          intro y
          have s := S.2.2.1 t2 (by omega) z
          exact e ((gkm_rel (kd t2) s.1 s.2).mp y)
        · rw [z]
          rcases M2.2.1 with ⟨_, y⟩ | ⟨_, y | y⟩ <;> omega
      have eI : fX14_isIn B2 (mI B2 205 t2.toNat) 44 48 = 0 := by
        unfold fX14_isIn
        by_cases y : mI B2 205 t2.toNat < 44
        · rw [if_pos y]
        · rw [if_neg y, if_pos (by omega)]
      obtain ⟨D, ec⟩ := L_die hq n1 L2
      have H1 := (X.g hq (fA2.trans (aF_fr _ _))).d1 D
      obtain ⟨A', w1, w2⟩ := A_writeD hq (aF_d hq H1).a (kd t2) 0
      have p3 := (aF_a hq H1).trans w2
      rw [eI, if_pos rfl, B_wrong hB2.1 hB2.2.1, bd1_s]
      unfold cA
      rw [r1, bd1_s, hr, if_neg e, bd2_s, D_sum hq H1 (by omega), bd1_s, D_oq (aF_d hq H1) hq, w1, bd1_s]
      exact ⟨A', _, 0, rfl, rfl, (fA2.trans (aF_fr _ _)).trans p3.1, fB2.trans (bW_fr _ _), Or.inr ⟨t2, D.a p3, by omega, by omega⟩⟩
  · have xn : x < n := D.2.2.2
    obtain ⟨A', w1, p⟩ := cA_D hq (show 3 ≤ NA by omega) r1 (X2.d1 D)
    rw [w1, D.2.1.2.2.2.1, if_pos (show 0 ≤ x ∧ x < 402 by have := D.2.2.1; omega), if_neg (show ¬ mI B2 203 8 = 0 by have := D.2.1.1; omega), B_wrongD D.2.1.1, bd1_s]
    exact ⟨A', B2, 0, rfl, rfl, fA2.trans p.1, fB2, Or.inr ⟨x, D.a p, by omega, by omega⟩⟩
/-- a value may not begin so -/
theorem F_sum (hq : q = 157 ∨ q = 194) (X : gXA q kd vl A) (L : gLv q n A B t c d) (hn : n ≤ 401) (hk : kd t = 28 ∨ kd t = 35) {N : Nat} (hN : 3 ≤ N) (e : Int) : fG3 N 3 0 e A = some (aF A) := by
  have hA := L.1
  have h1 : mI (aF A) 166 3 = 1 := mI_Us _ _ _ _
  obtain ⟨N, rfl⟩ : ∃ M, N = M + 3 := ⟨N - 3, by omega⟩
  have V : ∀ K, kd t ≠ K → fX3_take A K = some (0, A) := fun K e => A_takeN X hA.2.1 e
  have b1 : (fun s : Int × ax_M => fX3_readProduct_b7 (fG3 (N + 1)) s.2 e s.1) (0, aF A) = some (.inr (aF A)) := by
    show fX3_readProduct_b7 (fG3 (N + 1)) (aF A) e 0 = _
    unfold fX3_readProduct_b7
    rw [if_pos (by omega), A_seesD h1, if_pos rfl, A_seesD h1, if_pos rfl]
  have b2 : (fun s : Int × ax_M => fX3_readSum_b7 (fG3 (N + 2)) s.2 e s.1) (0, aF A) = some (.inr (aF A)) := by
    show fX3_readSum_b7 (fG3 (N + 2)) (aF A) e 0 = _
    unfold fX3_readSum_b7
    rw [if_pos (by omega), A_seesD h1, if_pos rfl, A_seesD h1, if_pos rfl]
  have v : fG3 (N + 1) 5 0 e A = some (aF A) := by
    rw [fG3_5]
    unfold fX3_readValue
    rw [V 48 (by omega), bd2_s, if_pos rfl, V 22 (by omega), bd2_s, if_pos rfl, V 25 (by omega), bd2_s, if_pos rfl, V 23 (by omega), bd2_s, if_pos rfl, V 24 (by omega), bd2_s, if_pos rfl, V 26 (by omega), bd2_s, if_pos rfl]
    by_cases d8 : e < 8
    · rw [if_pos d8, V 40 (by omega), bd2_s, if_pos rfl, V 31 (by omega), bd2_s, if_pos rfl, V 32 (by omega), bd2_s, if_pos rfl, V 33 (by omega), bd2_s, if_pos rfl]
    · rw [if_neg d8, V 31 (by omega), bd2_s, if_pos rfl, V 32 (by omega), bd2_s, if_pos rfl]
  rw [show N + 3 = (N + 2) + 1 from rfl, fG3_3]
  unfold fX3_readSum
  rw [show N + 2 = (N + 1) + 1 from rfl, fG3_4]
  unfold fX3_readProduct
  rw [v, bd1_s, show lpN = 999999 + 1 from rfl, lp_r b1, bd1_s, bd1_s, lp_r b2, bd1_s]
theorem L_single (hq : q = 157 ∨ q = 194) (S : gSt kd vl n) (l0 : 0 ≤ lo) {NA NB : Nat} (hNB : 3 ≤ NB) (hNA : 4 * (8 - d) + 4 ≤ NA) (hs : d < 8 → gRd q kd vl n lo (d + 1) (fG3 NA 2 0 (d + 1)) (fG15 NB 2 0)) (ht : d < 8 → gRd q kd vl n lo (d + 1) (fG3 NA 0 0 (d + 1)) (fG15 NB 1 0)) : gRd q kd vl n lo d (fun A => fX3_readSingle (fG3 NA) A d) (fun B => fX14_single (fG15 NB) B) := by
  intro A B t c X M L l1
  have n1 := S.2.1
  have hA := L.1
  have hB := L.2.1
  have t0 : 0 ≤ t := L.2.2.1
  have tn : t < n := L.2.2.2.1
  have c0 : 0 ≤ c := L.2.2.2.2.1
  have ct : c ≤ t := L.2.2.2.2.2.1
  have d0 : 0 ≤ d := L.2.2.2.2.2.2.1
  have d1 : d ≤ 8 := L.2.2.2.2.2.2.2
  have N : ∀ K, kd t ≠ K → fX3_take A K = some (0, A) := fun K e => A_takeN X hA.2.1 e
  have Y : ∀ K, kd t = K → fX3_take A K = some (1, aT A (t + 1)) := fun K e => A_take X hA.1 hA.2.1 t0 (by omega) e
  have I : ∀ (K : Nat) (k : Int), gkm K = k → 10 ≤ K → K ≤ 48 → kd t ≠ K → fX14_is B k = some 0 := fun K k h1 h2 h3 e => by rw [B_is S M hB.1 hB.2.1 t0 tn h1 h2 h3, if_neg e]
  have J : ∀ (K : Nat) (k : Int), gkm K = k → 10 ≤ K → K ≤ 48 → kd t = K → fX14_is B k = some 1 := fun K k h1 h2 h3 e => by rw [B_is S M hB.1 hB.2.1 t0 tn h1 h2 h3, if_pos e]
  have tn1 : ∀ K, kd t = K → 10 ≤ K → K ≤ 48 → t + 1 < n := fun K e h1 h2 => (gMB_iff S M t0 tn (K := K) h1 h2).2 e
  have X1 := X.g hq (aT_fr A q (t + 1))
  show ∃ A' B' v, fX3_readSingle (fG3 NA) A d = some A' ∧ fX14_single (fG15 NB) B = some (v, B') ∧ gOut q kd n lo A B A' B' t c d v
  unfold fX3_readSingle fX14_single
  by_cases z27 : kd t = 27
  · obtain ⟨A', B', v, w1, w2, o⟩ := L_stat hq S l0 (K := 27) (by omega) X M L l1 (tn1 27 z27 (by omega) (by omega)) z27
    refine ⟨A', B', v, ?_, ?_, o⟩
    · by_cases d8 : d < 8
      · rw [if_pos d8, N 28 (by omega), bd2_s, if_pos rfl, N 35 (by omega), bd2_s, if_pos rfl, Y 27 z27, bd2_s, if_neg (show ¬ (1 : Int) = 0 by decide), X_oq X1 hq, w1]
      · rw [if_neg d8, Y 27 z27, bd2_s, if_neg (show ¬ (1 : Int) = 0 by decide), X_oq X1 hq, w1]
    · rw [I 28 18 rfl (by omega) (by omega) (by omega), bd1_s, if_pos rfl, I 35 51 rfl (by omega) (by omega) (by omega), bd1_s, if_pos rfl, B_takes S M hB.1 hB.2.1 t0 tn (K := 27) (k := 17) rfl (by omega) (by omega) z27, bd2_s, if_neg (show ¬ (1 : Int) = 0 by decide)]
      exact w2
  by_cases z28 : kd t = 28
  · by_cases d8 : d < 8
    · obtain ⟨A', B', v, w1, w2, o⟩ := L_una hq S l0 (K := 28) (by omega) d8 (hs d8) X M L l1 (tn1 28 z28 (by omega) (by omega)) (by omega)
      refine ⟨A', B', v, ?_, ?_, o⟩
      · rw [if_pos d8, Y 28 z28, bd2_s, if_neg (show ¬ (1 : Int) = 0 by decide), w1]
      · rw [J 28 18 rfl (by omega) (by omega) z28, bd1_s, if_neg (show ¬ (1 : Int) = 0 by decide)]
        exact w2
    · obtain rfl : d = 8 := by omega
      obtain ⟨B', v, w2, o1, o2, o3⟩ := L_una8 (lo := lo) (kd := kd) (vl := vl) hq S (g := fG15 NB 2 0) (fun B' H H2 => E_single H (by omega) (by omega) (by omega) 0) 18 L
      obtain ⟨D0, _⟩ := L_die hq n1 L
      obtain ⟨A', w1, p⟩ := cA_D hq (show 3 ≤ NA by omega) (F_sum hq X L n1 (Or.inl z28) (by omega) 8) ((X.g hq (aF_fr A q)).d1 D0)
      refine ⟨A', B', v, ?_, ?_, (aF_fr _ _).trans p.1, o2, ?_⟩
      · rw [if_neg d8, N 27 (by omega), bd2_s, if_pos rfl]
        exact w1
      · rw [J 28 18 rfl (by omega) (by omega) z28, bd1_s, if_neg (show ¬ (1 : Int) = 0 by decide)]
        exact w2
      · rcases o3 with ⟨t', c', L', _⟩ | ⟨x, D, y1, y2⟩
        · have h1 : mI (aF A) 166 3 = 1 := mI_Us _ _ _ _
          have := L'.1.1
          omega
        · exact Or.inr ⟨x, D.a p, y1, y2⟩
  by_cases z35 : kd t = 35
  · by_cases d8 : d < 8
    · obtain ⟨A', B', v, w1, w2, o⟩ := L_wrap hq S l0 d8 (ht d8) (K := 36) (k := 52) rfl (by omega) (by omega) X M L l1 (tn1 35 z35 (by omega) (by omega)) (by omega)
      refine ⟨A', B', v, ?_, ?_, o⟩
      · rw [if_pos d8, N 28 (by omega), bd2_s, if_pos rfl, Y 35 z35, bd2_s, if_neg (show ¬ (1 : Int) = 0 by decide), w1]
      · rw [I 28 18 rfl (by omega) (by omega) (by omega), bd1_s, if_pos rfl, J 35 51 rfl (by omega) (by omega) z35, bd1_s, if_neg (show ¬ (1 : Int) = 0 by decide)]
        exact w2
    · obtain rfl : d = 8 := by omega
      obtain ⟨B', w2, o1, o2, o3⟩ := L_wrap8 (lo := lo) (kd := kd) (vl := vl) hq S (g := fG15 NB 1 0) (fun B' H H2 => E_test H (by omega) (by omega) (by omega) 0) 52 L
      obtain ⟨D0, _⟩ := L_die hq n1 L
      obtain ⟨A', w1, p⟩ := cA_D hq (show 3 ≤ NA by omega) (F_sum hq X L n1 (Or.inr z35) (by omega) 8) ((X.g hq (aF_fr A q)).d1 D0)
      refine ⟨A', B', 0, ?_, ?_, (aF_fr _ _).trans p.1, o2, ?_⟩
      · rw [if_neg d8, N 27 (by omega), bd2_s, if_pos rfl]
        exact w1
      · rw [I 28 18 rfl (by omega) (by omega) (by omega), bd1_s, if_pos rfl, J 35 51 rfl (by omega) (by omega) z35, bd1_s, if_neg (show ¬ (1 : Int) = 0 by decide)]
        exact w2
      · rcases o3 with ⟨t', c', L', _⟩ | ⟨x, D, y1, y2⟩
        · have h1 : mI (aF A) 166 3 = 1 := mI_Us _ _ _ _
          have := L'.1.1
          omega
        · exact Or.inr ⟨x, D.a p, y1, y2⟩
  obtain ⟨A', B', v, w1, w2, o⟩ := L_comp hq S l0 hNA A B t c X M L l1
  refine ⟨A', B', v, ?_, ?_, o⟩
  · by_cases d8 : d < 8
    · rw [if_pos d8, N 28 z28, bd2_s, if_pos rfl, N 35 z35, bd2_s, if_pos rfl, N 27 z27, bd2_s, if_pos rfl]
      exact w1
    · rw [if_neg d8, N 27 z27, bd2_s, if_pos rfl]
      exact w1
  · rw [I 28 18 rfl (by omega) (by omega) z28, bd1_s, if_pos rfl, I 35 51 rfl (by omega) (by omega) z35, bd1_s, if_pos rfl, B_takesN S M hB.1 hB.2.1 t0 tn (K := 27) (k := 17) rfl (by omega) (by omega) z27, bd2_s, if_pos rfl, w2, bd2_s]
theorem L_both (hq : q = 157 ∨ q = 194) (S : gSt kd vl n) (l0 : 0 ≤ lo) {sA : Nat → Nat → Int → ax_M → Option ax_M} {sB : Nat → Int → ax_M → Option (Int × ax_M)} (hf : gRd q kd vl n lo d (sA 2 0 d) (sB 2 0)) : gRd q kd vl n lo d (fun A => fX3_readBoth sA A d) (fun B => fX14_both sB B) := by
  have n1 := S.2.1
  refine L_loop (bA := fun s => fX3_readBoth_b7 sA s.2 d s.1) (bB := fun s => fX14_both_b5 sB s.2 s.1) hq S l0 (fun K => K = 29) (fun K h => by omega) hf ?_ ?_ ?_ ?_ ?_ ?_
  · intro i A B t c X M L hi hp
    have hA := L.1
    have tn : t < n := L.2.2.2.1
    have e : kd t = 29 := hp
    show fX3_readBoth_b7 sA A d i = _
    unfold fX3_readBoth_b7
    rw [if_pos hi, A_take X hA.1 hA.2.1 L.2.2.1 (by omega) e, bd2_s, if_neg (by decide), e]
  · intro v A B t c X M L hp
    have hB := L.2.1
    have e : kd t = 29 := hp
    show fX14_both_b5 sB B v = _
    unfold fX14_both_b5
    rw [B_takes S M hB.1 hB.2.1 L.2.2.1 L.2.2.2.1 (K := 29) (k := 19) rfl (by omega) (by omega) e, bd2_s, if_neg (by decide), e]
    rfl
  · intro i A B t c X M L hp
    show fX3_readBoth_b7 sA A d i = _
    unfold fX3_readBoth_b7
    rw [A_takeN X L.1.2.1 hp, bd2_s, if_pos rfl]
    split <;> rfl
  · intro v A B t c X M L hp
    have hB := L.2.1
    show fX14_both_b5 sB B v = _
    unfold fX14_both_b5
    rw [B_takesN S M hB.1 hB.2.1 L.2.2.1 L.2.2.2.1 (K := 29) (k := 19) rfl (by omega) (by omega) hp, bd2_s, if_pos rfl]
  · intro i A h
    show fX3_readBoth_b7 sA A d i = _
    unfold fX3_readBoth_b7
    rw [A_takeD h, bd2_s, if_pos rfl]
    split <;> rfl
  · intro v B h
    show fX14_both_b5 sB B v = _
    unfold fX14_both_b5
    rw [B_takesD h, bd2_s, if_pos rfl]
theorem L_test (hq : q = 157 ∨ q = 194) (S : gSt kd vl n) (l0 : 0 ≤ lo) {sA : Nat → Nat → Int → ax_M → Option ax_M} {sB : Nat → Int → ax_M → Option (Int × ax_M)} (hf : gRd q kd vl n lo d (sA 1 0 d) (sB 0 0)) : gRd q kd vl n lo d (fun A => fX3_readTest sA A d) (fun B => fX14_test sB B) := by
  have n1 := S.2.1
  refine L_loop (bA := fun s => fX3_readTest_b7 sA s.2 d s.1) (bB := fun s => fX14_test_b5 sB s.2 s.1) hq S l0 (fun K => K = 30) (fun K h => by omega) hf ?_ ?_ ?_ ?_ ?_ ?_
  · intro i A B t c X M L hi hp
    have hA := L.1
    have tn : t < n := L.2.2.2.1
    have e : kd t = 30 := hp
    show fX3_readTest_b7 sA A d i = _
    unfold fX3_readTest_b7
    rw [if_pos hi, A_take X hA.1 hA.2.1 L.2.2.1 (by omega) e, bd2_s, if_neg (by decide), e]
  · intro v A B t c X M L hp
    have hB := L.2.1
    have e : kd t = 30 := hp
    show fX14_test_b5 sB B v = _
    unfold fX14_test_b5
    rw [B_takes S M hB.1 hB.2.1 L.2.2.1 L.2.2.2.1 (K := 30) (k := 20) rfl (by omega) (by omega) e, bd2_s, if_neg (by decide), e]
    rfl
  · intro i A B t c X M L hp
    show fX3_readTest_b7 sA A d i = _
    unfold fX3_readTest_b7
    rw [A_takeN X L.1.2.1 hp, bd2_s, if_pos rfl]
    split <;> rfl
  · intro v A B t c X M L hp
    have hB := L.2.1
    show fX14_test_b5 sB B v = _
    unfold fX14_test_b5
    rw [B_takesN S M hB.1 hB.2.1 L.2.2.1 L.2.2.2.1 (K := 30) (k := 20) rfl (by omega) (by omega) hp, bd2_s, if_pos rfl]
  · intro i A h
    show fX3_readTest_b7 sA A d i = _
    unfold fX3_readTest_b7
    rw [A_takeD h, bd2_s, if_pos rfl]
    split <;> rfl
  · intro v B h
    show fX14_test_b5 sB B v = _
    unfold fX14_test_b5
    rw [B_takesD h, bd2_s, if_pos rfl]
theorem L_allT (hq : q = 157 ∨ q = 194) (S : gSt kd vl n) (l0 : 0 ≤ lo) : ∀ (m : Nat) (d : Int), d + m = 8 → (∀ NA NB : Nat, 4 * m + 5 ≤ NA → 3 * m + 4 ≤ NB → gRd q kd vl n lo d (fG3 NA 2 0 d) (fG15 NB 2 0)) ∧ (∀ NA NB : Nat, 4 * m + 7 ≤ NA → 3 * m + 6 ≤ NB → gRd q kd vl n lo d (fG3 NA 0 0 d) (fG15 NB 1 0)) := by
  have up : ∀ (m : Nat) (d : Int), (∀ NA NB : Nat, 4 * m + 5 ≤ NA → 3 * m + 4 ≤ NB → gRd q kd vl n lo d (fG3 NA 2 0 d) (fG15 NB 2 0)) → (∀ NA NB : Nat, 4 * m + 7 ≤ NA → 3 * m + 6 ≤ NB → gRd q kd vl n lo d (fG3 NA 0 0 d) (fG15 NB 1 0)) := by
    intro m d hv NA NB hA hB
    obtain ⟨NA, rfl⟩ : ∃ M, NA = M + 2 := ⟨NA - 2, by omega⟩
    obtain ⟨NB, rfl⟩ : ∃ M, NB = M + 2 := ⟨NB - 2, by omega⟩
    have h1 := L_both hq S l0 (hv NA NB (by omega) (by omega))
    have e1 : (fun A => fX3_readBoth (fG3 NA) A d) = fG3 (NA + 1) 1 0 d := funext (fun A => (fG3_1 NA 0 d A).symm)
    have e2 : (fun B => fX14_both (fG15 NB) B) = fG15 (NB + 1) 0 0 := funext (fun B => (fG15_0 NB 0 B).symm)
    rw [e1, e2] at h1
    have h2 := L_test hq S l0 h1
    have e3 : (fun A => fX3_readTest (fG3 (NA + 1)) A d) = fG3 (NA + 2) 0 0 d := funext (fun A => (fG3_0 (NA + 1) 0 d A).symm)
    have e4 : (fun B => fX14_test (fG15 (NB + 1)) B) = fG15 (NB + 2) 1 0 := funext (fun B => (fG15_1 (NB + 1) 0 B).symm)
    rw [e3, e4] at h2
    exact h2
  have st : ∀ (m : Nat) (d : Int), d + m = 8 → (∀ m' : Nat, m = m' + 1 → (∀ NA NB : Nat, 4 * m' + 5 ≤ NA → 3 * m' + 4 ≤ NB → gRd q kd vl n lo (d + 1) (fG3 NA 2 0 (d + 1)) (fG15 NB 2 0)) ∧ (∀ NA NB : Nat, 4 * m' + 7 ≤ NA → 3 * m' + 6 ≤ NB → gRd q kd vl n lo (d + 1) (fG3 NA 0 0 (d + 1)) (fG15 NB 1 0))) → (∀ NA NB : Nat, 4 * m + 5 ≤ NA → 3 * m + 4 ≤ NB → gRd q kd vl n lo d (fG3 NA 2 0 d) (fG15 NB 2 0)) := by
    intro m d hm ih NA NB hA hB
    obtain ⟨NA, rfl⟩ : ∃ M, NA = M + 1 := ⟨NA - 1, by omega⟩
    obtain ⟨NB, rfl⟩ : ∃ M, NB = M + 1 := ⟨NB - 1, by omega⟩
    have e1 : (fun A => fX3_readSingle (fG3 NA) A d) = fG3 (NA + 1) 2 0 d := funext (fun A => (fG3_2 NA 0 d A).symm)
    have e2 : (fun B => fX14_single (fG15 NB) B) = fG15 (NB + 1) 2 0 := funext (fun B => (fG15_2 NB 0 B).symm)
    rw [← e1, ← e2]
    refine L_single hq S l0 (by omega) (by omega) (fun d8 => ?_) (fun d8 => ?_)
    · exact (ih (m - 1) (by omega)).1 _ _ (by omega) (by omega)
    · exact (ih (m - 1) (by omega)).2 _ _ (by omega) (by omega)
  intro m
  induction m with
  | zero =>
    intro d hd
    have h := st 0 d hd (fun m' e => absurd e (by omega))
    exact ⟨h, up 0 d h⟩
  | succ m ih =>
    intro d hd
    have h := st (m + 1) d hd (fun m' e => by
      obtain rfl : m' = m := by omega
      exact ih (d + 1) (by omega))
    exact ⟨h, up (m + 1) d h⟩
/-- a sum and a test, as a plan has them -/
theorem L_S0 (hq : q = 157 ∨ q = 194) (S : gSt kd vl n) (l0 : 0 ≤ lo) : gRd q kd vl n lo 0 (fG3 60 3 0 0) (fG14 60 2 0) := L_S hq S l0 (by omega) (by omega) (by omega) (by omega)
theorem L_T0 (hq : q = 157 ∨ q = 194) (S : gSt kd vl n) (l0 : 0 ≤ lo) : gRd q kd vl n lo 0 (fG3 60 0 0 0) (fG15 60 1 0) := (L_allT hq S l0 8 0 (by omega)).2 60 60 (by omega) (by omega)
end ST6
