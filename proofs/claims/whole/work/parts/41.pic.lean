/-! part C: pictures of the memory; what only reads -/
theorem lpx {σ ρ : Type} {b : σ → Option (σ ⊕ ρ)} (n : Nat) (I : Nat → σ → Prop) (Q : ρ → Prop) (hs : ∀ i s, i < n → I i s → (∃ r, b s = some (.inr r) ∧ Q r) ∨ (∃ s', b s = some (.inl s') ∧ I (i + 1) s')) (he : ∀ s, I n s → ∃ r, b s = some (.inr r) ∧ Q r) : ∀ (d i L : Nat) (s : σ), i + d = n → d < L → I i s → ∃ r, lp b L s = some r ∧ Q r
  | _, _, 0, _, _, h, _ => absurd h (Nat.not_lt_zero _)
  | 0, i, L + 1, s, e, _, h => by
    obtain rfl : i = n := e
    obtain ⟨r, e, q⟩ := he s h
    simp only [lp]
    rw [e]
    exact ⟨r, rfl, q⟩
  | d + 1, i, L + 1, s, e, hl, h => by
    simp only [lp]
    rcases hs i s (by omega) h with ⟨r, e, q⟩ | ⟨s', e', hi'⟩
    · rw [e]
      exact ⟨r, rfl, q⟩
    · rw [e']
      exact lpx n I Q hs he d (i + 1) L s' (by omega) (by omega) hi'
theorem lpN_gt {n : Nat} (h : n < 1000000) : n < lpN := h
/-- a loop that counts up to n -/
theorem lpn {σ ρ : Type} {b : σ → Option (σ ⊕ ρ)} (n : Nat) (hn : n < 1000000) (I : Nat → σ → Prop) (Q : ρ → Prop) (s : σ) (h0 : I 0 s) (hs : ∀ i s, i < n → I i s → (∃ r, b s = some (.inr r) ∧ Q r) ∨ (∃ s', b s = some (.inl s') ∧ I (i + 1) s')) (he : ∀ s, I n s → ∃ r, b s = some (.inr r) ∧ Q r) : ∃ r, lp b lpN s = some r ∧ Q r :=
  lpx n I Q hs he n 0 lpN s (Nat.zero_add n) (lpN_gt hn) h0
/-- a loop that ends, as a number falls -/
theorem lpm {σ ρ : Type} {b : σ → Option (σ ⊕ ρ)} (I : σ → Prop) (μ : σ → Nat) (Q : ρ → Prop) (s : σ) (h0 : I s) (hm : μ s < 1000000) (hb : ∀ s, I s → (∃ r, b s = some (.inr r) ∧ Q r) ∨ (∃ s', b s = some (.inl s') ∧ I s' ∧ μ s' < μ s)) : ∃ r, lp b lpN s = some r ∧ Q r :=
  lp_go hb lpN s h0 (lpN_gt hm)
theorem mI_U (M : ax_M) (k j a b : Nat) (v : Int) : mI (mUI M k j v) a b = if a = k ∧ b = j then v else mI M a b := rfl
theorem mI_Us (M : ax_M) (k j : Nat) (v : Int) : mI (mUI M k j v) k j = v := if_pos ⟨rfl, rfl⟩
theorem mI_Un {M : ax_M} {k j a b : Nat} {v : Int} (h : ¬ (a = k ∧ b = j)) : mI (mUI M k j v) a b = mI M a b := if_neg h
theorem mI_F (M : ax_M) (k n a b : Nat) (v : Int) : mI (mFi M k n v) a b = if a = k ∧ b < n then v else mI M a b := rfl
/-- outside of S nothing has changed -/
def Fr (S : Nat → Nat → Prop) (M M' : ax_M) : Prop := M'.2 = M.2 ∧ ∀ k j, ¬ S k j → mI M' k j = mI M k j
theorem Fr.refl (S : Nat → Nat → Prop) (M : ax_M) : Fr S M M := ⟨rfl, fun _ _ _ => rfl⟩
theorem Fr.trans {S : Nat → Nat → Prop} {A B C : ax_M} (p : Fr S A B) (q : Fr S B C) : Fr S A C := ⟨q.1.trans p.1, fun k j h => (q.2 k j h).trans (p.2 k j h)⟩
theorem Fr.mono {S T : Nat → Nat → Prop} {A B : ax_M} (p : Fr S A B) (h : ∀ k j, S k j → T k j) : Fr T A B := ⟨p.1, fun k j g => p.2 k j (fun z => g (h k j z))⟩
theorem Fr.up {S : Nat → Nat → Prop} {A B : ax_M} (p : Fr S A B) {k j : Nat} {v : Int} (h : S k j) : Fr S A (mUI B k j v) := ⟨p.1, fun a b g => by
  rw [mI_Un (fun e => g (by rw [e.1, e.2]; exact h))]
  exact p.2 a b g⟩
theorem Fr.fi {S : Nat → Nat → Prop} {A B : ax_M} (p : Fr S A B) {k n : Nat} {v : Int} (h : ∀ j, S k j) : Fr S A (mFi B k n v) := ⟨p.1, fun a b g => by
  rw [mI_F, if_neg (fun e => g (by rw [e.1]; exact h b))]
  exact p.2 a b g⟩
/-- the class's pond -/
def PdG (M : ax_M) (w h : Int) : Prop := gOk w h ∧ mI M 169 0 = w ∧ mI M 169 1 = h ∧ (∀ c s, 0 ≤ c → c < w * h → 0 ≤ s → s < 6 → mI M 171 (c * 6 + s).toNat = gbs w h c s) ∧ (∀ c, 0 ≤ c → c < w * h → mI M 172 c.toNat = c % w ∧ mI M 173 c.toNat = c / w)
def gOwn (w h : Int) (o : Int → Int) : Prop := (∀ c, (c < 0 ∨ w * h ≤ c) → o c = 0) ∧ (∀ c, o c = 0 ∨ o c = 1 ∨ o c = 2)
def PdO (M : ax_M) (w h : Int) (o : Int → Int) : Prop := gOwn w h o ∧ (∀ c, 0 ≤ c → c < 81 → mI M 170 c.toNat = o c) ∧ mI M 174 0 = gcn (fun c => o c = 1) 81 ∧ mI M 174 1 = gcn (fun c => o c = 2) 81
def Pd (M : ax_M) (w h : Int) (o : Int → Int) : Prop := PdG M w h ∧ PdO M w h o
theorem PdG.fr {S : Nat → Nat → Prop} {M M' : ax_M} {w h : Int} (H : PdG M w h) (f : Fr S M M') (hS : ∀ k j, (k = 169 ∧ j < 2) ∨ 171 ≤ k ∧ k ≤ 173 → ¬ S k j) : PdG M' w h := by
  obtain ⟨k, a, b, c, d⟩ := H
  refine ⟨k, ?_, ?_, fun x s x0 x1 s0 s1 => ?_, fun x x0 x1 => ?_⟩
  · rw [f.2 _ _ (hS _ _ (by omega))]; exact a
  · rw [f.2 _ _ (hS _ _ (by omega))]; exact b
  · rw [f.2 _ _ (hS _ _ (by omega))]; exact c x s x0 x1 s0 s1
  · rw [f.2 _ _ (hS _ _ (by omega)), f.2 _ _ (hS _ _ (by omega))]; exact d x x0 x1
theorem Pd.fr {S : Nat → Nat → Prop} {M M' : ax_M} {w h : Int} {o : Int → Int} (H : Pd M w h o) (f : Fr S M M') (hS : ∀ k j, (k = 169 ∧ j < 2) ∨ 170 ≤ k ∧ k ≤ 174 → ¬ S k j) : Pd M' w h o := by
  obtain ⟨H, g, a, b, c⟩ := H
  refine ⟨H.fr f (fun k j e => hS k j (by omega)), g, fun x x0 x1 => ?_, ?_, ?_⟩
  · rw [f.2 _ _ (hS _ _ (by omega))]; exact a x x0 x1
  · rw [f.2 _ _ (hS _ _ (by omega))]; exact b
  · rw [f.2 _ _ (hS _ _ (by omega))]; exact c
section PREAD
variable {M : ax_M} {w h : Int} {o : Int → Int}
theorem Pd.k (H : Pd M w h o) : gOk w h := H.1.1
theorem Pd.n (H : Pd M w h o) : 9 ≤ w * h ∧ w * h ≤ 81 := gOk_le H.1.1
theorem P_cells (H : PdG M w h) : fX8_cells M = w * h := by
  obtain ⟨k, a, b, _⟩ := H
  have := gOk_le k
  unfold fX8_cells
  rw [a, b, wr_eq (by omega) (by omega)]
theorem P_own (H : Pd M w h o) (c : Int) : fX8_ownerAt M c = o c := by
  obtain ⟨⟨k, _⟩, ⟨g0, _⟩, a, _⟩ := H
  have := gOk_le k
  unfold fX8_ownerAt
  by_cases c0 : c < 0
  · rw [if_pos c0, g0 c (Or.inl c0)]
  · rw [if_neg c0]
    by_cases c1 : c < 81
    · rw [if_pos c1]; exact a c (by omega) c1
    · rw [if_neg c1, g0 c (by omega)]
theorem P_bs (H : PdG M w h) (c s : Int) : fX8_beside M c s = gbs w h c s := by
  obtain ⟨k, a, b, hb, _⟩ := H
  have hk := gOk_le k
  unfold fX8_beside
  rw [a, b, wr_eq (x := w * h) (by omega) (by omega)]
  by_cases z : 0 ≤ c ∧ c < w * h ∧ 0 ≤ s ∧ s < 6
  · obtain ⟨c0, c1, s0, s1⟩ := z
    rw [if_neg (by omega), if_pos c1, if_neg (by omega), if_pos s1, wr_eq (x := c * 6) (by omega) (by omega), wr_eq (by omega) (by omega), if_neg (by omega), if_pos (by omega)]
    exact hb c s c0 c1 s0 s1
  · have e : gbs w h c s = -1 := if_neg z
    rw [e]
    by_cases c0 : c < 0
    · rw [if_pos c0]
    · rw [if_neg c0]
      by_cases c1 : c < w * h
      · rw [if_pos c1]
        by_cases s0 : s < 0
        · rw [if_pos s0]
        · rw [if_neg s0, if_neg (by omega)]
      · rw [if_neg c1]
theorem P_has (H : PdG M w h) (c : Int) : fX8_hasCell M c = if 0 ≤ c ∧ c < w * h then 1 else 0 := by
  obtain ⟨k, a, b, _⟩ := H
  have hk := gOk_le k
  unfold fX8_hasCell
  rw [a, b, wr_eq (x := w * h) (by omega) (by omega)]
  by_cases c0 : c < 0
  · rw [if_pos c0, if_neg (by omega)]
  · rw [if_neg c0]
    by_cases c1 : c < w * h
    · rw [if_pos c1, if_pos (by omega), if_pos (by omega)]
    · rw [if_neg c1, if_neg (by omega)]
theorem P_has1 (H : PdG M w h) {c : Int} (c0 : 0 ≤ c) (c1 : c < w * h) : fX8_hasCell M c = 1 := by rw [P_has H, if_pos ⟨c0, c1⟩]
theorem P_cellAt (H : PdG M w h) (a b : Int) : fX8_cellAt M a b = gCell w h a b := C_cellAt H.2.1 H.2.2.1 H.1.2.1 H.1.2.2.2 a b
theorem P_sh (H : PdG M w h) {c : Int} (p s : Int) (c0 : 0 ≤ c) (c1 : c < w * h) : fX8_isAtShore M p s c = if gsh w h p s c then 1 else 0 := by
  obtain ⟨k, a, b, _, hd⟩ := H
  have hk := gOk_le k
  obtain ⟨k1, k2, k3, k4⟩ := k
  obtain ⟨d1, d2⟩ := hd c c0 c1
  unfold fX8_isAtShore
  rw [a, b, d1, d2, if_neg (by omega), if_pos (by omega), wr_eq (x := w - 1) (by omega) (by omega), wr_eq (x := h - 1) (by omega) (by omega)]
  unfold gsh
  by_cases hp : p = 0
  · by_cases hs : s = 0
    · rw [if_pos hp, if_pos hs, if_pos hp, if_pos hs]
    · rw [if_pos hp, if_neg hs, if_pos hp, if_neg hs, if_pos hp]
  · by_cases hs : s = 0
    · rw [if_neg hp, if_pos hs, if_neg hp, if_pos hs]
    · rw [if_neg hp, if_neg hs, if_neg hp, if_neg hs, if_neg hp]
end PREAD
/-- the model's pond -/
def Md (M : ax_M) (w h : Int) (o : Int → Int) : Prop := gOk w h ∧ gOwn w h o ∧ mI M 208 0 = w ∧ mI M 208 1 = h ∧ (∀ c, 0 ≤ c → c < 81 → mI M 233 c.toNat = o c - 1)
theorem Md.fr {S : Nat → Nat → Prop} {M M' : ax_M} {w h : Int} {o : Int → Int} (H : Md M w h o) (f : Fr S M M') (hS : ∀ k j, (k = 208 ∧ j < 2) ∨ k = 233 → ¬ S k j) : Md M' w h o := by
  obtain ⟨k, g, a, b, c⟩ := H
  refine ⟨k, g, ?_, ?_, fun x x0 x1 => ?_⟩
  · rw [f.2 _ _ (hS _ _ (by omega))]; exact a
  · rw [f.2 _ _ (hS _ _ (by omega))]; exact b
  · rw [f.2 _ _ (hS _ _ (by omega))]; exact c x x0 x1
theorem gA3 {s : Int} (s0 : 0 ≤ s) (s1 : s < 6) : cA3.getD s.toNat 0 = gdx s ∧ cA4.getD s.toNat 0 = gdy s := by
  rcases g6 s0 s1 with rfl | rfl | rfl | rfl | rfl | rfl <;> exact ⟨rfl, rfl⟩
theorem gA1 {s : Int} (s0 : 0 ≤ s) (s1 : s < 6) : cA1.getD s.toNat 0 = gdx s ∧ cA2.getD s.toNat 0 = gdy s := by
  rcases g6 s0 s1 with rfl | rfl | rfl | rfl | rfl | rfl <;> exact ⟨rfl, rfl⟩
theorem gdb (s : Int) : -1 ≤ gdx s ∧ gdx s ≤ 1 ∧ -1 ≤ gdy s ∧ gdy s ≤ 1 := by
  unfold gdx gdy
  refine ⟨?_, ?_, ?_, ?_⟩ <;> (repeat' split) <;> omega
theorem gtm {c w : Int} (c0 : 0 ≤ c) : Int.tmod c w = c % w ∧ Int.tdiv c w = c / w := ⟨Int.tmod_eq_emod_of_nonneg c0, Int.tdiv_eq_ediv_of_nonneg c0⟩
section QREAD
variable {M : ax_M} {w h : Int} {o : Int → Int}
theorem Q_cells (H : Md M w h o) : fX14_cells M = w * h := by
  obtain ⟨k, _, a, b, _⟩ := H
  have := gOk_le k
  unfold fX14_cells
  rw [a, b, wr_eq (by omega) (by omega)]
theorem Q_in (M : ax_M) (x a b : Int) : fX14_isIn M x a b = if a ≤ x ∧ x ≤ b then 1 else 0 := by
  unfold fX14_isIn
  by_cases p : x < a
  · rw [if_pos p, if_neg (by omega)]
  · rw [if_neg p]
    by_cases q : b < x
    · rw [if_pos q, if_neg (by omega)]
    · rw [if_neg q, if_pos (by omega)]
theorem Q_on (H : Md M w h o) (a b : Int) : fX14_isOn M a b = if 0 ≤ a ∧ a < w ∧ 0 ≤ b ∧ b < h then 1 else 0 := by
  obtain ⟨k, _, e1, e2, _⟩ := H
  obtain ⟨k1, k2, k3, k4⟩ := k
  unfold fX14_isOn
  rw [e1, e2, wr_eq (x := w - 1) (by omega) (by omega), wr_eq (x := h - 1) (by omega) (by omega), Q_in, Q_in]
  by_cases p : 0 ≤ a ∧ a ≤ w - 1
  · rw [if_pos p, if_neg (by omega)]
    by_cases q : 0 ≤ b ∧ b ≤ h - 1
    · rw [if_pos q, if_neg (by omega), if_pos (by omega)]
    · rw [if_neg q, if_pos rfl, if_neg (by omega)]
  · rw [if_neg p, if_pos rfl, if_neg (by omega)]
theorem Q_at (H : Md M w h o) {a b : Int} (z : 0 ≤ a ∧ a < w ∧ 0 ≤ b ∧ b < h) : fX14_at M a b = gCell w h a b := by
  obtain ⟨k, _, e1, e2, _⟩ := H
  have hk := gOk_le k
  obtain ⟨c1, c2, c3, _⟩ := gC_on k z.1 z.2.1 z.2.2.1 z.2.2.2
  have h2 : 0 ≤ w * b := Int.mul_nonneg (by omega) (by omega)
  unfold fX14_at
  rw [e1, wr_eq (x := w * b) (by omega) (by omega), wr_eq (by omega) (by omega), c1]
theorem Q_bs (H : Md M w h o) {c s : Int} (c0 : 0 ≤ c) (c1 : c < w * h) (s0 : 0 ≤ s) (s1 : s < 6) : fX14_beside M c s = some (gbs w h c s) := by
  obtain ⟨x0, x1, y0, y1, _⟩ := gXY H.1 c0 c1
  obtain ⟨k1, k2, k3, k4⟩ := H.1
  obtain ⟨d1, d2, d3, d4⟩ := gdb s
  unfold fX14_beside
  rw [H.2.2.1, if_pos (by omega), if_pos ⟨s0, s1⟩, (gtm c0).1, (gtm c0).2, (gA3 s0 s1).1, (gA3 s0 s1).2, wr_eq (x := c / w) (by omega) (by omega), wr_eq (x := c % w + gdx s) (by omega) (by omega), wr_eq (x := c / w + gdy s) (by omega) (by omega), Q_on H, gbs_on c0 c1 s0 s1]
  by_cases z : 0 ≤ c % w + gdx s ∧ c % w + gdx s < w ∧ 0 ≤ c / w + gdy s ∧ c / w + gdy s < h
  · rw [if_pos z, if_neg (by omega), Q_at H z]
  · rw [if_neg z, if_pos rfl, gC_off z]
theorem Q_sh (H : Md M w h o) {c : Int} (p s : Int) (c0 : 0 ≤ c) (c1 : c < w * h) : fX14_isShore M c p s = some (if gsh w h p s c then 1 else 0) := by
  obtain ⟨x0, x1, y0, y1, _⟩ := gXY H.1 c0 c1
  obtain ⟨k1, k2, k3, k4⟩ := H.1
  unfold fX14_isShore
  rw [H.2.2.1, H.2.2.2.1, (gtm c0).1, (gtm c0).2, wr_eq (x := c / w) (by omega) (by omega), wr_eq (x := w - 1) (by omega) (by omega), wr_eq (x := h - 1) (by omega) (by omega), if_pos (show ¬ w = 0 by omega)]
  unfold gsh
  by_cases hp : p = 0
  · rw [if_pos hp, if_pos hp]
    by_cases hs : s = 0
    · rw [if_pos hs, if_pos hs]
      by_cases q : c % w = 0
      · rw [if_pos q, if_pos q]
      · rw [if_neg q, if_neg q]
    · rw [if_neg hs, if_neg hs, if_pos hp]
      by_cases q : c % w = w - 1
      · rw [if_pos q, if_pos q]
      · rw [if_neg q, if_neg q]
  · rw [if_neg hp, if_neg hp]
    by_cases hs : s = 0
    · rw [if_pos hs, if_pos hs]
      by_cases q : c / w = 0
      · rw [if_pos q, if_pos q, if_pos (show ¬ w = 0 by omega)]
      · rw [if_neg q, if_neg q, if_pos (show ¬ w = 0 by omega)]
    · rw [if_neg hs, if_neg hs, if_neg hp]
      by_cases q : c / w = h - 1
      · rw [if_pos q, if_pos q, if_pos (show ¬ w = 0 by omega)]
      · rw [if_neg q, if_neg q, if_pos (show ¬ w = 0 by omega)]
theorem Q_cost (H : Md M w h o) {c : Int} (c0 : 0 ≤ c) (c1 : c < 81) : fX14_cost M c = some (gcost o c) := by
  unfold fX14_cost gcost
  rw [if_pos ⟨c0, c1⟩, H.2.2.2.2 c c0 c1]
  by_cases z : o c = 0
  · rw [if_pos (by omega), if_pos z]
  · rw [if_neg (by omega), if_neg z]
theorem Q_count (H : Md M w h o) (v : Int) : fX14_count M v = some (gcn (fun c => o c = v + 1) (w * h).toNat) := by
  have hk := gOk_le H.1
  have key : ∃ r, lp (fun s => fX14_count_b4 M v s.1 s.2) lpN (0, 0) = some r ∧ r = gcn (fun c => o c = v + 1) (w * h).toNat := by
    refine lpn (w * h).toNat (by omega) (fun i s => s = (gcn (fun c => o c = v + 1) i, (i : Int))) _ _ rfl ?_ ?_
    · rintro i s hi rfl
      right
      have hb := gcn_b (fun c => o c = v + 1) i
      show ∃ s', fX14_count_b4 M v (gcn (fun c => o c = v + 1) i) (i : Int) = some (.inl s') ∧ _
      unfold fX14_count_b4
      rw [Q_cells H, if_pos (by omega), if_pos (by omega), H.2.2.2.2 i (by omega) (by omega)]
      by_cases z : o (i : Int) = v + 1
      · refine ⟨(gcn (fun c => o c = v + 1) i + 1, (i : Int) + 1), ?_, ?_⟩
        · rw [if_pos (by omega), wr_eq (by omega) (by omega)]
        · rw [gcn_s (P := fun c => o c = v + 1) z]; rfl
      · refine ⟨(gcn (fun c => o c = v + 1) i, (i : Int) + 1), ?_, ?_⟩
        · rw [if_neg (by omega), Int.add_zero, wr_eq (by omega) (by omega)]
        · rw [gcn_n (P := fun c => o c = v + 1) z]; rfl
    · rintro s rfl
      refine ⟨_, ?_, rfl⟩
      show fX14_count_b4 M v (gcn (fun c => o c = v + 1) (w * h).toNat) ((w * h).toNat : Int) = _
      unfold fX14_count_b4
      rw [Q_cells H, if_neg (by omega)]
  obtain ⟨r, e, rfl⟩ := key
  unfold fX14_count
  rw [e]
  rfl
end QREAD
