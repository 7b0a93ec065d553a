/-! part C: the grammar in step: products, sums, brackets, players -/
section ST3
variable {q : Nat} {kd : Int → Nat} {vl : Int → Int} {n lo : Int} {A B A1 B1 : ax_M} {t c d x t1 : Int}
theorem L_prod (hq : q = 157 ∨ q = 194) (S : gSt kd vl n) (l0 : 0 ≤ lo) {sA : Nat → Nat → Int → ax_M → Option ax_M} {sB : Nat → Int → ax_M → Option (Int × ax_M)} (hf : gRd q kd vl n lo d (sA 5 0 d) (sB 0 0)) : gRd q kd vl n lo d (fun A => fX3_readProduct sA A d) (fun B => fX14_product sB B) := by
  have n1 := S.2.1
  refine L_loop (bA := fun s => fX3_readProduct_b7 sA s.2 d s.1) (bB := fun s => fX14_product_b5 sB s.2 s.1) hq S l0 (fun K => K = 41 ∨ K = 42) (fun K h => by omega) hf ?_ ?_ ?_ ?_ ?_ ?_
  · intro i A B t c X M L hi hp
    have hA := L.1
    have tn : t < n := L.2.2.2.1
    have t0 : 0 ≤ t := L.2.2.1
    show fX3_readProduct_b7 sA A d i = _
    unfold fX3_readProduct_b7
    rw [if_pos hi, A_sees X hA.1 hA.2.1 41, A_sees X hA.1 hA.2.1 42, hA.2.1, X.1, A_need X hA.1 hA.2.1 t0 (by omega) (K := kd t) rfl]
    rcases hp with e | e
    · rw [e, if_pos rfl, if_neg (by decide), bd1_s]
    · rw [e, if_pos (by decide), if_neg (by decide), bd1_s]
  · intro v A B t c X M L hp
    have hB := L.2.1
    have tn : t < n := L.2.2.2.1
    have t0 : 0 ≤ t := L.2.2.1
    have em : mI B 205 t.toNat = gkm (kd t) := M.1 t t0 (by have := (gMB_iff S M t0 tn (K := kd t) (by omega) (by omega)).2 rfl; omega)
    show fX14_product_b5 sB B v = _
    unfold fX14_product_b5
    rw [B_is S M hB.1 hB.2.1 t0 tn (K := 41) (k := 42) rfl (by omega) (by omega), B_is S M hB.1 hB.2.1 t0 tn (K := 42) (k := 43) rfl (by omega) (by omega), bd1_s, bd1_s, hB.2.1, if_pos (show 0 ≤ t ∧ t < 402 by omega), em]
    rcases hp with e | e
    · rw [e, if_pos rfl, if_neg (by decide)]
    · rw [e, if_pos (by decide), if_neg (by decide)]
  · intro i A B t c X M L hp
    have hA := L.1
    show fX3_readProduct_b7 sA A d i = _
    unfold fX3_readProduct_b7
    rw [A_sees X hA.1 hA.2.1 41, A_sees X hA.1 hA.2.1 42, if_neg (show ¬ kd t = 41 by omega), if_neg (show ¬ kd t = 42 by omega), if_pos rfl, if_pos rfl]
    split <;> rfl
  · intro v A B t c X M L hp
    have hB := L.2.1
    have tn : t < n := L.2.2.2.1
    have t0 : 0 ≤ t := L.2.2.1
    show fX14_product_b5 sB B v = _
    unfold fX14_product_b5
    rw [B_is S M hB.1 hB.2.1 t0 tn (K := 41) (k := 42) rfl (by omega) (by omega), B_is S M hB.1 hB.2.1 t0 tn (K := 42) (k := 43) rfl (by omega) (by omega), bd1_s, bd1_s, if_neg (show ¬ kd t = 41 by omega), if_neg (show ¬ kd t = 42 by omega), if_pos rfl, if_pos rfl]
  · intro i A h
    show fX3_readProduct_b7 sA A d i = _
    unfold fX3_readProduct_b7
    rw [A_seesD h, A_seesD h, if_pos rfl, if_pos rfl]
    split <;> rfl
  · intro v B h
    show fX14_product_b5 sB B v = _
    unfold fX14_product_b5
    rw [B_isD h, bd1_s, if_pos rfl, B_isD h, bd1_s, if_pos rfl]
theorem L_sum (hq : q = 157 ∨ q = 194) (S : gSt kd vl n) (l0 : 0 ≤ lo) {sA : Nat → Nat → Int → ax_M → Option ax_M} {sB : Nat → Int → ax_M → Option (Int × ax_M)} (hf : gRd q kd vl n lo d (sA 4 0 d) (sB 1 0)) : gRd q kd vl n lo d (fun A => fX3_readSum sA A d) (fun B => fX14_sum sB B) := by
  have n1 := S.2.1
  refine L_loop (bA := fun s => fX3_readSum_b7 sA s.2 d s.1) (bB := fun s => fX14_sum_b5 sB s.2 s.1) hq S l0 (fun K => K = 39 ∨ K = 40) (fun K h => by omega) hf ?_ ?_ ?_ ?_ ?_ ?_
  · intro i A B t c X M L hi hp
    have hA := L.1
    have tn : t < n := L.2.2.2.1
    have t0 : 0 ≤ t := L.2.2.1
    show fX3_readSum_b7 sA A d i = _
    unfold fX3_readSum_b7
    rw [if_pos hi, A_sees X hA.1 hA.2.1 39, A_sees X hA.1 hA.2.1 40, hA.2.1, X.1, A_need X hA.1 hA.2.1 t0 (by omega) (K := kd t) rfl]
    rcases hp with e | e
    · rw [e, if_pos rfl, if_neg (by decide), bd1_s]
    · rw [e, if_pos (by decide), if_neg (by decide), bd1_s]
  · intro v A B t c X M L hp
    have hB := L.2.1
    have tn : t < n := L.2.2.2.1
    have t0 : 0 ≤ t := L.2.2.1
    have em : mI B 205 t.toNat = gkm (kd t) := M.1 t t0 (by have := (gMB_iff S M t0 tn (K := kd t) (by omega) (by omega)).2 rfl; omega)
    show fX14_sum_b5 sB B v = _
    unfold fX14_sum_b5
    rw [B_is S M hB.1 hB.2.1 t0 tn (K := 39) (k := 40) rfl (by omega) (by omega), B_is S M hB.1 hB.2.1 t0 tn (K := 40) (k := 41) rfl (by omega) (by omega), bd1_s, bd1_s, hB.2.1, if_pos (show 0 ≤ t ∧ t < 402 by omega), em]
    rcases hp with e | e
    · rw [e, if_pos rfl, if_neg (by decide)]
    · rw [e, if_pos (by decide), if_neg (by decide)]
  · intro i A B t c X M L hp
    have hA := L.1
    show fX3_readSum_b7 sA A d i = _
    unfold fX3_readSum_b7
    rw [A_sees X hA.1 hA.2.1 39, A_sees X hA.1 hA.2.1 40, if_neg (show ¬ kd t = 39 by omega), if_neg (show ¬ kd t = 40 by omega), if_pos rfl, if_pos rfl]
    split <;> rfl
  · intro v A B t c X M L hp
    have hB := L.2.1
    have tn : t < n := L.2.2.2.1
    have t0 : 0 ≤ t := L.2.2.1
    show fX14_sum_b5 sB B v = _
    unfold fX14_sum_b5
    rw [B_is S M hB.1 hB.2.1 t0 tn (K := 39) (k := 40) rfl (by omega) (by omega), B_is S M hB.1 hB.2.1 t0 tn (K := 40) (k := 41) rfl (by omega) (by omega), bd1_s, bd1_s, if_neg (show ¬ kd t = 39 by omega), if_neg (show ¬ kd t = 40 by omega), if_pos rfl, if_pos rfl]
  · intro i A h
    show fX3_readSum_b7 sA A d i = _
    unfold fX3_readSum_b7
    rw [A_seesD h, A_seesD h, if_pos rfl, if_pos rfl]
    split <;> rfl
  · intro v B h
    show fX14_sum_b5 sB B v = _
    unfold fX14_sum_b5
    rw [B_isD h, bd1_s, if_pos rfl, B_isD h, bd1_s, if_pos rfl]
/-- whose stone -/
theorem L_player (hq : q = 157 ∨ q = 194) (S : gSt kd vl n) (X : gXA q kd vl A) (M : gMB kd vl n B) (L : gLv q n A B t c d) : (∃ v : Int, (v = 0 ∨ v = 1) ∧ (kd t = 14 ∨ kd t = 15) ∧ t + 1 < n ∧ fX3_readPlayer A = some (v, aT A (t + 1)) ∧ fX14_player B = some (v, bT B (t + 1)) ∧ (v = 0 ↔ kd t = 14)) ∨ (fX3_readPlayer A = some (1, aF A) ∧ fX14_player B = some (1, bW B t) ∧ kd t ≠ 14 ∧ kd t ≠ 15) := by
  obtain ⟨⟨a1, a2, a3⟩, ⟨b1, b2, b3, b4⟩, t0, tn, c0, c1, d0, d1⟩ := L
  have n1 := S.2.1
  have i4 := (gMB_iff S M t0 tn (K := 14) (by omega) (by omega)).2
  have i5 := (gMB_iff S M t0 tn (K := 15) (by omega) (by omega)).2
  unfold fX3_readPlayer fX14_player
  by_cases e : kd t = 14
  · refine Or.inl ⟨0, Or.inl rfl, Or.inl e, i4 e, ?_, ?_, fun _ => e, fun _ => rfl⟩
    · rw [A_take X a1 a2 t0 (by omega) e, bd2_s, if_neg (by decide)]
    · rw [B_takes S M b1 b2 t0 tn (K := 14) (k := 4) rfl (by omega) (by omega) e, bd2_s, if_neg (by decide)]
  · by_cases e2 : kd t = 15
    · refine Or.inl ⟨1, Or.inr rfl, Or.inr e2, i5 e2, ?_, ?_, by omega, by omega⟩
      · rw [A_takeN X a2 e, bd2_s, if_pos rfl, A_need X a1 a2 t0 (by omega) e2, bd1_s]
      · rw [B_takesN S M b1 b2 t0 tn (K := 14) (k := 4) rfl (by omega) (by omega) e, bd2_s, if_pos rfl, B_take S M b1 b2 t0 tn (K := 15) (k := 5) rfl (by omega) (by omega), if_pos e2, bd1_s]
    · refine Or.inr ⟨?_, ?_, e, e2⟩
      · rw [A_takeN X a2 e, bd2_s, if_pos rfl, A_needN X a2 e2, bd1_s]
      · rw [B_takesN S M b1 b2 t0 tn (K := 14) (k := 4) rfl (by omega) (by omega) e, bd2_s, if_pos rfl, B_take S M b1 b2 t0 tn (K := 15) (k := 5) rfl (by omega) (by omega), if_neg e2, bd1_s]
/-- a token asked for -/
theorem L_ask (hq : q = 157 ∨ q = 194) (S : gSt kd vl n) (X : gXA q kd vl A) (M : gMB kd vl n B) (L : gLv q n A B t c d) {K : Nat} {k : Int} (hk : gkm K = k) (k0 : 10 ≤ K) (k1 : K ≤ 48) : (kd t = K ∧ t + 1 < n ∧ fX3_need A K = some (aT A (t + 1)) ∧ fX14_take B k = some (bT B (t + 1))) ∨ (kd t ≠ K ∧ fX3_need A K = some (aF A) ∧ fX14_take B k = some (bW B t)) := by
  obtain ⟨⟨a1, a2, a3⟩, ⟨b1, b2, b3, b4⟩, t0, tn, c0, c1, d0, d1⟩ := L
  have n1 := S.2.1
  have i4 := (gMB_iff S M t0 tn (K := K) k0 k1).2
  by_cases e : kd t = K
  · exact Or.inl ⟨e, i4 e, A_need X a1 a2 t0 (by omega) e, by rw [B_take S M b1 b2 t0 tn hk k0 k1, if_pos e]⟩
  · exact Or.inr ⟨e, A_needN X a2 e, by rw [B_take S M b1 b2 t0 tn hk k0 k1, if_neg e]⟩
/-- behind a wrong token: gone on with -/
theorem gDe.ask (hq : q = 157 ∨ q = 194) (D : gDe q n A B x) (K : Nat) (k : Int) : fX3_need A K = some (aF A) ∧ fX14_take B k = some B ∧ gDe q n (aF A) B x ∧ Fr2 (sGA q) A (aF A) := ⟨A_needD D.1.1 K, B_takeD D.2.1.1 k, D.a (A_failD hq D.self), aF_fr _ _⟩
theorem gXA.d1 (X : gXA q kd vl A) (D : gDe q n A B x) : gD1 q A := D.d1 X.2.2
/-- what stands in brackets -/
theorem L_wrap (hq : q = 157 ∨ q = 194) (S : gSt kd vl n) (l0 : 0 ≤ lo) {f : ax_M → Option ax_M} {g : ax_M → Option (Int × ax_M)} (d8 : d < 8) (hf : gRd q kd vl n lo (d + 1) f g) {K : Nat} {k : Int} (hk : gkm K = k) (k0 : 14 ≤ K) (k1 : K ≤ 48) (X : gXA q kd vl A) (M : gMB kd vl n B) (L : gLv q n A B t c d) (l1 : lo ≤ c) (tn : t + 1 < n) (kt : 14 ≤ kd t) : ∃ A' B' v, (bd1 (f (aT A (t + 1))) fun M1 => (bd1 (fX3_need M1 K) fun M2 => (some M2))) = some A' ∧ (bd1 (fX14_deeper B) fun M1 => (bd2 (g M1) fun v M2 => (bd1 (fX14_take M2 k) fun M3 => (some (v, (mUI M3 203 11 (wr ((mI M3 203 11) - 1)))))))) = some (v, B') ∧ gOut q kd n lo A B A' B' t c d v := by
  have n1 := S.2.1
  have hA := L.1
  have hB := L.2.1
  have t0 : 0 ≤ t := L.2.2.1
  have c0 : 0 ≤ c := L.2.2.2.2.1
  have ct : c ≤ t := L.2.2.2.2.2.1
  have d0 : 0 ≤ d := L.2.2.2.2.2.2.1
  have fA1 : Fr2 (sGA q) A (aT A (t + 1)) := aT_fr _ _ _
  have fB1 : Fr sGB B (mUI (bT B (t + 1)) 203 11 (d + 1)) := (bT_fr _ _).trans (wD_fr _ _)
  have p1 : gPre q A (aT A (t + 1)) B (mUI (bT B (t + 1)) 203 11 (d + 1)) c := (gPre.aT hq A B (t + 1) (t + 1) c).trans (gPre.dp _ _ _ _) (Int.le_refl _)
  obtain ⟨A2, B2, v, r1, r2, fA2, fB2, o⟩ := hf _ _ _ _ (X.g hq fA1) (M.g fB1) (L_deep hq L tn d8) l1
  have X2 := X.g hq (fA1.trans fA2)
  have M2 := M.g (fB1.trans fB2)
  rw [B_deep hB.2.1 hB.2.2.2 t0 (by omega) d0 d8, r1]
  rcases o with ⟨t', c', L2, u1, u2, u3, u4, u5, u6, u7⟩ | ⟨x, D, u1, u2⟩
  · rcases L_ask hq S X2 M2 L2 hk (by omega) k1 with ⟨e, e1, w1, w2⟩ | ⟨e, w1, w2⟩
    · have La := L_adv hq L2 e1
      have ew : mI (bT B2 (t' + 1)) 203 11 = d + 1 := La.2.1.2.2.2
      have pw : gPre q A2 (aT A2 (t' + 1)) B2 (mUI (bT B2 (t' + 1)) 203 11 d) c' := (gPre.aT hq A2 B2 (t' + 1) (t' + 1) c').trans (gPre.dp _ _ _ _) (Int.le_refl _)
      refine ⟨aT A2 (t' + 1), mUI (bT B2 (t' + 1)) 203 11 d, v, ?_, ?_, (fA1.trans fA2).trans (aT_fr _ _ _), (fB1.trans fB2).trans ((bT_fr _ _).trans (wD_fr _ _)), Or.inl ⟨t' + 1, c', L_dp La d0, by omega, u2, by omega, u4, u5.pre pw l0 l1 (Int.le_refl _), ((gCl.one (by omega)).tr u6).tr (gCl.one (by omega)), (p1.trans u7 (Int.le_refl _)).trans pw (by omega)⟩⟩
      · rw [bd1_s, w1, bd1_s]
      · rw [bd1_s, r2, bd2_s, w2, bd1_s, ew, show d + 1 - 1 = d by omega, wr_eq (by omega) (by omega)]
    · obtain ⟨D, ec⟩ := L_die hq n1 L2
      obtain ⟨D2, ec2⟩ := D.dp (wr (mI (bW B2 t') 203 11 - 1))
      refine ⟨aF A2, mUI (bW B2 t') 203 11 (wr (mI (bW B2 t') 203 11 - 1)), v, ?_, ?_, (fA1.trans fA2).trans (aF_fr _ _), (fB1.trans fB2).trans ((bW_fr _ _).trans (wD_fr _ _)), Or.inr ⟨t', D2, by omega, by omega⟩⟩
      · rw [bd1_s, w1, bd1_s]
      · rw [bd1_s, r2, bd2_s, w2, bd1_s]
  · obtain ⟨w1, w2, D1, fA3⟩ := D.ask hq K k
    obtain ⟨D2, ec2⟩ := D1.dp (wr (mI B2 203 11 - 1))
    refine ⟨aF A2, mUI B2 203 11 (wr (mI B2 203 11 - 1)), v, ?_, ?_, (fA1.trans fA2).trans fA3, (fB1.trans fB2).trans (wD_fr _ _), Or.inr ⟨x, D2, by omega, by omega⟩⟩
    · rw [bd1_s, w1, bd1_s]
    · rw [bd1_s, r2, bd2_s, w2, bd1_s]
/-- … too deep -/
theorem L_wrap8 (hq : q = 157 ∨ q = 194) (S : gSt kd vl n) {g : ax_M → Option (Int × ax_M)} (hg : ∀ B', mI B' 203 8 = 1 → mI B' 203 7 = t → g B' = some (0, B')) (k : Int) (L : gLv q n A B t c 8) : ∃ B', (bd1 (fX14_deeper B) fun M1 => (bd2 (g M1) fun v M2 => (bd1 (fX14_take M2 k) fun M3 => (some (v, (mUI M3 203 11 (wr ((mI M3 203 11) - 1)))))))) = some (0, B') ∧ gOut q kd n lo A B (aF A) B' t c 8 0 := by
  have n1 := S.2.1
  have hB := L.2.1
  have t0 : 0 ≤ t := L.2.2.1
  obtain ⟨D, ec⟩ := L_die hq n1 L
  obtain ⟨D2, ec2⟩ := D.dp 9
  obtain ⟨D3, ec3⟩ := D2.dp (wr (mI (mUI (bW B t) 203 11 9) 203 11 - 1))
  refine ⟨mUI (mUI (bW B t) 203 11 9) 203 11 (wr (mI (mUI (bW B t) 203 11 9) 203 11 - 1)), ?_, aF_fr _ _, ((bW_fr _ _).trans (wD_fr _ _)).trans (wD_fr _ _), Or.inr ⟨t, D3, Int.le_refl _, by omega⟩⟩
  rw [B_deep8 hB.1 hB.2.1 hB.2.2.2, bd1_s, hg _ D2.2.1.1 D2.2.1.2.2.2.1, bd2_s, B_takeD D2.2.1.1, bd1_s]
end ST3
