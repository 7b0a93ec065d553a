/-! part C: the grammar behind a wrong token -/
section DEA
variable {q : Nat} {kd : Int → Nat} {vl : Int → Int} {n : Int} {A B : ax_M} {t c d x : Int}
/-- the class, behind a wrong token -/
def gD1 (q : Nat) (A : ax_M) : Prop := mI A 166 3 = 1 ∧ 0 ≤ mI A q 2 ∧ mI A q 2 ≤ 400 ∧ mR A 166 1 = some q
theorem gD1.a (H : gD1 q A) : gDa q A A := ⟨Fr2.refl _ _, H.1, rfl, H.2.1, H.2.2.1⟩
theorem gDa.dd (hq : q = 157 ∨ q = 194) {A' : ax_M} (H : gD1 q A) (p : gDa q A A') : gD1 q A' := ⟨p.2.1, p.2.2.2.1, p.2.2.2.2, by rw [(p.1.1 166 1 (by unfold sGA; omega)).2]; exact H.2.2.2⟩
theorem gDa.f (hq : q = 157 ∨ q = 194) {A' : ax_M} (p : gDa q A A') : gDa q A (aF A') := p.trans (A_failD hq p.self)
theorem gDe.d1 (hr : mR A 166 1 = some q) (D : gDe q n A B x) : gD1 q A := ⟨D.1.1, D.1.2.2.1, D.1.2.2.2, hr⟩
theorem gDe.a {A' : ax_M} (D : gDe q n A B x) (p : gDa q A A') : gDe q n A' B x := ⟨⟨p.2.1, p.2.2.1.trans D.1.2.1, p.2.2.2.1, p.2.2.2.2⟩, D.2⟩
theorem D_player (hq : q = 157 ∨ q = 194) (H : gD1 q A) : fX3_readPlayer A = some (1, aF A) := by
  unfold fX3_readPlayer
  rw [A_takeD H.1, bd2_s, if_pos rfl, A_needD H.1, bd1_s]
theorem D_rel (hq : q = 157 ∨ q = 194) (H : gD1 q A) : ∃ K, fX3_readRelation A = some (K, aF A) := by
  unfold fX3_readRelation
  simp only [A_needD H.1, bd1_s]
  refine ⟨fX10_kindOf A (mI A 166 2), ?_⟩
  repeat' split
  all_goals rfl
theorem D_value (hq : q = 157 ∨ q = 194) (H : gD1 q A) (self : Nat → Nat → Int → ax_M → Option ax_M) (e : Int) : fX3_readValue self A e = some (aF A) := by
  unfold fX3_readValue
  simp only [A_takeD H.1, bd2_s, if_true]
  split <;> rfl
theorem D_oq (H : gD1 q A) {α : Type} (hq : q = 157 ∨ q = 194) (f : Nat → Option α) : (oq (mR A 166 1) none fun p => if (p = 157 ∨ p = 194) then f p else none) = f q := by
  rw [H.2.2.2]
  show (if q = 157 ∨ q = 194 then f q else none) = f q
  rw [if_pos hq]
theorem D_prodS (hq : q = 157 ∨ q = 194) (H : gD1 q A) (self : Nat → Nat → Int → ax_M → Option ax_M) (hs : ∀ e, self 5 0 e A = some (aF A)) (e : Int) : fX3_readProduct self A e = some (aF A) := by
  have h1 : mI (aF A) 166 3 = 1 := mI_Us _ _ _ _
  have b : (fun s : Int × ax_M => fX3_readProduct_b7 self s.2 e s.1) (0, aF A) = some (.inr (aF A)) := by
    show fX3_readProduct_b7 self (aF A) e 0 = _
    unfold fX3_readProduct_b7
    rw [if_pos (by omega), A_seesD h1, if_pos rfl, A_seesD h1, if_pos rfl]
  unfold fX3_readProduct
  rw [hs, bd1_s, show lpN = 999999 + 1 from rfl, lp_r b]
  rfl
theorem D_sumS (hq : q = 157 ∨ q = 194) (H : gD1 q A) (self : Nat → Nat → Int → ax_M → Option ax_M) (hs : ∀ e, self 4 0 e A = some (aF A)) (e : Int) : fX3_readSum self A e = some (aF A) := by
  have h1 : mI (aF A) 166 3 = 1 := mI_Us _ _ _ _
  have b : (fun s : Int × ax_M => fX3_readSum_b7 self s.2 e s.1) (0, aF A) = some (.inr (aF A)) := by
    show fX3_readSum_b7 self (aF A) e 0 = _
    unfold fX3_readSum_b7
    rw [if_pos (by omega), A_seesD h1, if_pos rfl, A_seesD h1, if_pos rfl]
  unfold fX3_readSum
  rw [hs, bd1_s, show lpN = 999999 + 1 from rfl, lp_r b]
  rfl
theorem fG3_5 (N : Nat) (k : Nat) (e : Int) (M : ax_M) : fG3 (N + 1) 5 k e M = fX3_readValue (fG3 N) M e := by
  show (if (5 : Nat) = 0 then _ else if (5 : Nat) = 1 then _ else if (5 : Nat) = 2 then _ else if (5 : Nat) = 3 then _ else if (5 : Nat) = 4 then _ else if (5 : Nat) = 5 then fX3_readValue (fG3 N) M e else _) = _
  rw [if_neg (by decide), if_neg (by decide), if_neg (by decide), if_neg (by decide), if_neg (by decide), if_pos rfl]
theorem fG3_4 (N : Nat) (k : Nat) (e : Int) (M : ax_M) : fG3 (N + 1) 4 k e M = fX3_readProduct (fG3 N) M e := by
  show (if (4 : Nat) = 0 then _ else if (4 : Nat) = 1 then _ else if (4 : Nat) = 2 then _ else if (4 : Nat) = 3 then _ else if (4 : Nat) = 4 then fX3_readProduct (fG3 N) M e else _) = _
  rw [if_neg (by decide), if_neg (by decide), if_neg (by decide), if_neg (by decide), if_pos rfl]
theorem fG3_3 (N : Nat) (k : Nat) (e : Int) (M : ax_M) : fG3 (N + 1) 3 k e M = fX3_readSum (fG3 N) M e := by
  show (if (3 : Nat) = 0 then _ else if (3 : Nat) = 1 then _ else if (3 : Nat) = 2 then _ else if (3 : Nat) = 3 then fX3_readSum (fG3 N) M e else _) = _
  rw [if_neg (by decide), if_neg (by decide), if_neg (by decide), if_pos rfl]
theorem fG3_2 (N : Nat) (k : Nat) (e : Int) (M : ax_M) : fG3 (N + 1) 2 k e M = fX3_readSingle (fG3 N) M e := by
  show (if (2 : Nat) = 0 then _ else if (2 : Nat) = 1 then _ else if (2 : Nat) = 2 then fX3_readSingle (fG3 N) M e else _) = _
  rw [if_neg (by decide), if_neg (by decide), if_pos rfl]
theorem fG3_1 (N : Nat) (k : Nat) (e : Int) (M : ax_M) : fG3 (N + 1) 1 k e M = fX3_readBoth (fG3 N) M e := by
  show (if (1 : Nat) = 0 then _ else if (1 : Nat) = 1 then fX3_readBoth (fG3 N) M e else _) = _
  rw [if_neg (by decide), if_pos rfl]
theorem fG3_0 (N : Nat) (k : Nat) (e : Int) (M : ax_M) : fG3 (N + 1) 0 k e M = fX3_readTest (fG3 N) M e := by
  show (if (0 : Nat) = 0 then fX3_readTest (fG3 N) M e else _) = _
  rw [if_pos rfl]
theorem fG3_6 (N : Nat) (k : Nat) (e : Int) (M : ax_M) : fG3 (N + 1) 6 k e M = fX3_readPair (fG3 N) M k e := by
  show (if (6 : Nat) = 0 then _ else if (6 : Nat) = 1 then _ else if (6 : Nat) = 2 then _ else if (6 : Nat) = 3 then _ else if (6 : Nat) = 4 then _ else if (6 : Nat) = 5 then _ else fX3_readPair (fG3 N) M k e) = _
  rw [if_neg (by decide), if_neg (by decide), if_neg (by decide), if_neg (by decide), if_neg (by decide), if_neg (by decide)]
theorem D_sum (hq : q = 157 ∨ q = 194) (H : gD1 q A) {N : Nat} (hN : 3 ≤ N) (e : Int) : fG3 N 3 0 e A = some (aF A) := by
  obtain ⟨N, rfl⟩ : ∃ M, N = M + 3 := ⟨N - 3, by omega⟩
  rw [show N + 3 = (N + 2) + 1 from rfl, fG3_3]
  refine D_sumS hq H _ (fun e => ?_) e
  rw [show N + 2 = (N + 1) + 1 from rfl, fG3_4]
  refine D_prodS hq H _ (fun e => ?_) e
  rw [fG3_5]
  exact D_value hq H _ e
theorem aF_a (hq : q = 157 ∨ q = 194) (H : gD1 q A) : gDa q A (aF A) := A_failD hq H.a
theorem aF_d (hq : q = 157 ∨ q = 194) (H : gD1 q A) : gD1 q (aF A) := (aF_a hq H).dd hq H
theorem D_singleS (hq : q = 157 ∨ q = 194) (H : gD1 q A) (self : Nat → Nat → Int → ax_M → Option ax_M) (hs : ∀ A', gD1 q A' → ∀ e, self 3 0 e A' = some (aF A')) (e : Int) : ∃ A', fX3_readSingle self A e = some A' ∧ gDa q A A' := by
  have H1 := aF_d hq H
  have H2 := aF_d hq H1
  have H3 := aF_d hq H2
  have p3 : gDa q A (aF (aF (aF A))) := ((aF_a hq H).trans (aF_a hq H1)).trans (aF_a hq H2)
  obtain ⟨K, hK⟩ := D_rel hq H1
  obtain ⟨A', e1, e2⟩ := A_writeD hq H3.a K 0
  refine ⟨A', ?_, p3.trans e2⟩
  unfold fX3_readSingle
  simp only [A_takeD H.1, bd2_s, if_true]
  rw [hs A H, bd1_s, hK, bd2_s, hs _ H2, bd1_s, D_oq H3 hq, e1, bd1_s]
  split <;> rfl
theorem D_bothS (hq : q = 157 ∨ q = 194) (self : Nat → Nat → Int → ax_M → Option ax_M) (e : Int) {A1 : ax_M} (p : gDa q A A1) (hs : self 2 0 e A = some A1) : fX3_readBoth self A e = some A1 := by
  have b : (fun s : Int × ax_M => fX3_readBoth_b7 self s.2 e s.1) (0, A1) = some (.inr A1) := by
    show fX3_readBoth_b7 self A1 e 0 = _
    unfold fX3_readBoth_b7
    rw [if_pos (by omega), A_takeD p.2.1, bd2_s, if_pos rfl]
  unfold fX3_readBoth
  rw [hs, bd1_s, show lpN = 999999 + 1 from rfl, lp_r b]
  rfl
theorem D_testS (hq : q = 157 ∨ q = 194) (self : Nat → Nat → Int → ax_M → Option ax_M) (e : Int) {A1 : ax_M} (p : gDa q A A1) (hs : self 1 0 e A = some A1) : fX3_readTest self A e = some A1 := by
  have b : (fun s : Int × ax_M => fX3_readTest_b7 self s.2 e s.1) (0, A1) = some (.inr A1) := by
    show fX3_readTest_b7 self A1 e 0 = _
    unfold fX3_readTest_b7
    rw [if_pos (by omega), A_takeD p.2.1, bd2_s, if_pos rfl]
  unfold fX3_readTest
  rw [hs, bd1_s, show lpN = 999999 + 1 from rfl, lp_r b]
  rfl
theorem D_single (hq : q = 157 ∨ q = 194) (H : gD1 q A) {N : Nat} (hN : 4 ≤ N) (e : Int) : ∃ A', fG3 N 2 0 e A = some A' ∧ gDa q A A' := by
  obtain ⟨N, rfl⟩ : ∃ M, N = M + 1 := ⟨N - 1, by omega⟩
  rw [fG3_2]
  exact D_singleS hq H _ (fun A' H' e => D_sum hq H' (by omega) e) e
theorem D_both (hq : q = 157 ∨ q = 194) (H : gD1 q A) {N : Nat} (hN : 5 ≤ N) (e : Int) : ∃ A', fG3 N 1 0 e A = some A' ∧ gDa q A A' := by
  obtain ⟨N, rfl⟩ : ∃ M, N = M + 1 := ⟨N - 1, by omega⟩
  obtain ⟨A1, e1, p⟩ := D_single hq H (N := N) (by omega) e
  rw [fG3_1]
  exact ⟨A1, D_bothS hq _ e p e1, p⟩
theorem D_test (hq : q = 157 ∨ q = 194) (H : gD1 q A) {N : Nat} (hN : 6 ≤ N) (e : Int) : ∃ A', fG3 N 0 0 e A = some A' ∧ gDa q A A' := by
  obtain ⟨N, rfl⟩ : ∃ M, N = M + 1 := ⟨N - 1, by omega⟩
  obtain ⟨A1, e1, p⟩ := D_both hq H (N := N) (by omega) e
  rw [fG3_0]
  exact ⟨A1, D_testS hq _ e p e1, p⟩
/-! the model -/
theorem E_player (h : mI B 203 8 = 1) : fX14_player B = some (1, B) := by
  unfold fX14_player
  rw [B_takesD h, bd2_s, if_pos rfl, B_takeD h, bd1_s]
theorem E_find (h : mI B 203 8 = 1) (self : Nat → Int → ax_M → Option (Int × ax_M)) : lp (fun s => fX14_value_b77 self s.2 s.1) lpN (13, B) = some (.inr B) := by
  have s1 : ∀ v : Int, v ≤ 16 → v ≠ 15 → (fun s : Int × ax_M => fX14_value_b77 self s.2 s.1) (v, B) = some (.inl (v + 1, B)) := by
    intro v v0 v1
    show fX14_value_b77 self B v = _
    unfold fX14_value_b77
    rw [if_neg (by omega), if_neg v1, B_takesD h, bd2_s, if_pos rfl]
  have s2 : (fun s : Int × ax_M => fX14_value_b77 self s.2 s.1) (15, B) = some (.inl (16, B)) := by
    show fX14_value_b77 self B 15 = _
    unfold fX14_value_b77
    rw [if_neg (by omega), if_pos rfl]
    rfl
  have s3 : (fun s : Int × ax_M => fX14_value_b77 self s.2 s.1) (17, B) = some (.inr (.inr B)) := by
    show fX14_value_b77 self B 17 = _
    unfold fX14_value_b77
    rw [if_pos (by omega)]
  rw [show lpN = 999995 + 1 + 1 + 1 + 1 + 1 from rfl, lp_s (s1 13 (by omega) (by omega)), lp_s (s1 14 (by omega) (by omega)), lp_s s2, lp_s (s1 16 (by omega) (by omega)), lp_r s3]
theorem E_value (h : mI B 203 8 = 1) (self : Nat → Int → ax_M → Option (Int × ax_M)) : fX14_value self B = some (0, B) := by
  unfold fX14_value
  rw [B_isD h, bd1_s, if_pos rfl, B_takesD h, bd2_s, if_pos rfl, B_takesD h, bd2_s, if_pos rfl, E_find h, bdS_r, B_isD h, bd1_s, if_pos rfl, B_isD h, bd1_s, if_pos rfl, B_isD h, bd1_s, if_pos rfl, B_isD h, bd1_s, if_pos rfl, B_wrongD h, bd1_s]
theorem fG14_0 (N : Nat) (e : Int) (M : ax_M) : fG14 (N + 1) 0 e M = fX14_value (fG14 N) M := by
  show (if (0 : Nat) = 0 then fX14_value (fG14 N) M else _) = _
  rw [if_pos rfl]
theorem fG14_1 (N : Nat) (e : Int) (M : ax_M) : fG14 (N + 1) 1 e M = fX14_product (fG14 N) M := by
  show (if (1 : Nat) = 0 then _ else if (1 : Nat) = 1 then fX14_product (fG14 N) M else _) = _
  rw [if_neg (by decide), if_pos rfl]
theorem fG14_2 (N : Nat) (e : Int) (M : ax_M) : fG14 (N + 1) 2 e M = fX14_sum (fG14 N) M := by
  show (if (2 : Nat) = 0 then _ else if (2 : Nat) = 1 then _ else if (2 : Nat) = 2 then fX14_sum (fG14 N) M else _) = _
  rw [if_neg (by decide), if_neg (by decide), if_pos rfl]
theorem fG14_3 (N : Nat) (e : Int) (M : ax_M) : fG14 (N + 1) 3 e M = fX14_inBrackets (fG14 N) M := by
  show (if (3 : Nat) = 0 then _ else if (3 : Nat) = 1 then _ else if (3 : Nat) = 2 then _ else if (3 : Nat) = 3 then fX14_inBrackets (fG14 N) M else _) = _
  rw [if_neg (by decide), if_neg (by decide), if_neg (by decide), if_pos rfl]
theorem fG14_4 (N : Nat) (e : Int) (M : ax_M) : fG14 (N + 1) 4 e M = fX14_ofTwo (fG14 N) M e := by
  show (if (4 : Nat) = 0 then _ else if (4 : Nat) = 1 then _ else if (4 : Nat) = 2 then _ else if (4 : Nat) = 3 then _ else fX14_ofTwo (fG14 N) M e) = _
  rw [if_neg (by decide), if_neg (by decide), if_neg (by decide), if_neg (by decide)]
theorem fG15_0 (N : Nat) (e : Int) (M : ax_M) : fG15 (N + 1) 0 e M = fX14_both (fG15 N) M := by
  show (if (0 : Nat) = 0 then fX14_both (fG15 N) M else _) = _
  rw [if_pos rfl]
theorem fG15_1 (N : Nat) (e : Int) (M : ax_M) : fG15 (N + 1) 1 e M = fX14_test (fG15 N) M := by
  show (if (1 : Nat) = 0 then _ else if (1 : Nat) = 1 then fX14_test (fG15 N) M else _) = _
  rw [if_neg (by decide), if_pos rfl]
theorem fG15_2 (N : Nat) (e : Int) (M : ax_M) : fG15 (N + 1) 2 e M = fX14_single (fG15 N) M := by
  show (if (2 : Nat) = 0 then _ else if (2 : Nat) = 1 then _ else fX14_single (fG15 N) M) = _
  rw [if_neg (by decide), if_neg (by decide)]
theorem E_val (h : mI B 203 8 = 1) {N : Nat} (hN : 1 ≤ N) (e : Int) : fG14 N 0 e B = some (0, B) := by
  obtain ⟨N, rfl⟩ : ∃ M, N = M + 1 := ⟨N - 1, by omega⟩
  rw [fG14_0]
  exact E_value h _
theorem E_prod (h : mI B 203 8 = 1) {N : Nat} (hN : 2 ≤ N) (e : Int) : fG14 N 1 e B = some (0, B) := by
  obtain ⟨N, rfl⟩ : ∃ M, N = M + 1 := ⟨N - 1, by omega⟩
  have b : (fun s : Int × ax_M => fX14_product_b5 (fG14 N) s.2 s.1) (0, B) = some (.inr (0, B)) := by
    show fX14_product_b5 (fG14 N) B 0 = _
    unfold fX14_product_b5
    rw [B_isD h, bd1_s, if_pos rfl, B_isD h, bd1_s, if_pos rfl]
  rw [fG14_1]
  unfold fX14_product
  rw [E_val h (by omega), bd2_s, show lpN = 999999 + 1 from rfl, lp_r b, bd1_s]
theorem E_sum (h : mI B 203 8 = 1) {N : Nat} (hN : 3 ≤ N) (e : Int) : fG14 N 2 e B = some (0, B) := by
  obtain ⟨N, rfl⟩ : ∃ M, N = M + 1 := ⟨N - 1, by omega⟩
  have b : (fun s : Int × ax_M => fX14_sum_b5 (fG14 N) s.2 s.1) (0, B) = some (.inr (0, B)) := by
    show fX14_sum_b5 (fG14 N) B 0 = _
    unfold fX14_sum_b5
    rw [B_isD h, bd1_s, if_pos rfl, B_isD h, bd1_s, if_pos rfl]
  rw [fG14_2]
  unfold fX14_sum
  rw [E_prod h (by omega), bd2_s, show lpN = 999999 + 1 from rfl, lp_r b, bd1_s]
theorem E_comp (h : mI B 203 8 = 1) (t0 : 0 ≤ mI B 203 7) (t1 : mI B 203 7 < 402) : fX14_comparison B = some (0, B) := by
  unfold fX14_comparison
  rw [E_sum h (by omega), bd2_s, if_pos ⟨t0, t1⟩, if_neg (by omega), B_wrongD h, bd1_s]
theorem E_single (h : mI B 203 8 = 1) (t0 : 0 ≤ mI B 203 7) (t1 : mI B 203 7 < 402) {N : Nat} (hN : 1 ≤ N) (e : Int) : fG15 N 2 e B = some (0, B) := by
  obtain ⟨N, rfl⟩ : ∃ M, N = M + 1 := ⟨N - 1, by omega⟩
  rw [fG15_2]
  unfold fX14_single
  rw [B_isD h, bd1_s, if_pos rfl, B_isD h, bd1_s, if_pos rfl, B_takesD h, bd2_s, if_pos rfl, E_comp h t0 t1, bd2_s]
theorem E_both (h : mI B 203 8 = 1) (t0 : 0 ≤ mI B 203 7) (t1 : mI B 203 7 < 402) {N : Nat} (hN : 2 ≤ N) (e : Int) : fG15 N 0 e B = some (0, B) := by
  obtain ⟨N, rfl⟩ : ∃ M, N = M + 1 := ⟨N - 1, by omega⟩
  have b : (fun s : Int × ax_M => fX14_both_b5 (fG15 N) s.2 s.1) (0, B) = some (.inr (0, B)) := by
    show fX14_both_b5 (fG15 N) B 0 = _
    unfold fX14_both_b5
    rw [B_takesD h, bd2_s, if_pos rfl]
  rw [fG15_0]
  unfold fX14_both
  rw [E_single h t0 t1 (by omega), bd2_s, show lpN = 999999 + 1 from rfl, lp_r b, bd1_s]
theorem E_test (h : mI B 203 8 = 1) (t0 : 0 ≤ mI B 203 7) (t1 : mI B 203 7 < 402) {N : Nat} (hN : 3 ≤ N) (e : Int) : fG15 N 1 e B = some (0, B) := by
  obtain ⟨N, rfl⟩ : ∃ M, N = M + 1 := ⟨N - 1, by omega⟩
  have b : (fun s : Int × ax_M => fX14_test_b5 (fG15 N) s.2 s.1) (0, B) = some (.inr (0, B)) := by
    show fX14_test_b5 (fG15 N) B 0 = _
    unfold fX14_test_b5
    rw [B_takesD h, bd2_s, if_pos rfl]
  rw [fG15_1]
  unfold fX14_test
  rw [E_both h t0 t1 (by omega), bd2_s, show lpN = 999999 + 1 from rfl, lp_r b, bd1_s]
end DEA
