/-! part C: the lines of a game, in step -/
def mTl (M : ax_M) : Option (ax_M ⊕ ax_M) := (bd2 (fX14_takes M 2) fun v113 M112 => (if v113 = 0 then (bd2 (fX14_takes M112 3) fun v117 M116 => (if v117 = 0 then (bd1 (fX14_wrong M116) fun M120 => (bd1 (fX14_take M120 53) fun M122 => (some (.inl M122)))) else (bd1 (fX14_plan M116) fun M124 => (bd1 (fX14_take M124 53) fun M126 => (some (.inl M126)))))) else (bd1 (fX14_stone M112) fun M128 => (bd1 (fX14_take M128 53) fun M130 => (some (.inl M130))))))
theorem mTl_eq (M : ax_M) : fX14_game_b12 M = (if (mI M 203 8) = 0 then (if 0 ≤ (mI M 203 7) ∧ (mI M 203 7) < 402 then (if (mI M 205 (Int.toNat (mI M 203 7))) = 33 then (some (.inr M)) else (bd1 (fX14_is M 3) fun v109 => (if v109 = 0 then mTl M else (if (mI M 220 3) = 16 then (bd1 (fX14_mark M 4) fun M133 => mTl M133) else mTl M)))) else none) else (some (.inr M))) := rfl
/-- what holds at the start of a line -/
def gGm (q : Nat) (kd : Int → Nat) (vl : Int → Int) (n : Int) (A B : ax_M) (t c : Int) : Prop := gXA q kd vl A ∧ gMB kd vl n B ∧ gLv q n A B t c 0 ∧ gMk kd vl t B ∧ kd (t - 1) ≠ 12 ∧ (0 ≤ mI B 220 3 ∧ mI B 220 3 ≤ t) ∧ mI A q 9 = (if mI B 220 3 < 16 then mI B 220 3 else 16) ∧ (∀ i : Nat, (i : Int) < mI B 220 3 → i < 16 → gPj q A B i ∧ mI B 225 i ≤ c) ∧ (16 < mI B 220 3 → mI B 203 9 ≠ 0)
/-- what the model's reading of a game writes -/
def sGg : Nat → Nat → Prop := fun k j => (k = 203 ∧ 7 ≤ j ∧ j ≤ 11) ∨ (220 ≤ k ∧ k ≤ 231)
section GAM
variable {q : Nat} {kd : Int → Nat} {vl : Int → Int} {n : Int} {A B A1 B1 B' A' : ax_M} {t c d x p : Int}
theorem gPj.fr {i : Nat} (h : gPj q A B i) (g : gPre q A A' B B' c) (h5 : mI B 225 i ≤ c) (ha : ∀ k : Nat, q + 3 ≤ k → k ≤ q + 8 → mI A' k i = mI A k i ∧ mR A' k i = mR A k i) (hb : ∀ k : Nat, 222 ≤ k → k ≤ 228 → mI B' k i = mI B k i) : gPj q A' B' i := by
  obtain ⟨K, v, a, c1, c2, c3, h1, h2, h3, h4, h6, h7, ⟨e1, e2, e3, e4⟩, ⟨e5, e6⟩, ⟨b0, b1, b2, b3, b4⟩, o, o2⟩ := h
  have hc3 : c3 ≤ c := by omega
  refine ⟨K, v, a, c1, c2, c3, (ha _ (by omega) (by omega)).2.trans h1, h2, (hb _ (by omega) (by omega)).trans h3, (ha _ (by omega) (by omega)).1.trans h4, (hb _ (by omega) (by omega)).trans h6, h7, ⟨(ha _ (by omega) (by omega)).1.trans e1, (ha _ (by omega) (by omega)).1.trans e2, (ha _ (by omega) (by omega)).1.trans e3, (ha _ (by omega) (by omega)).1.trans e4⟩, ⟨(hb _ (by omega) (by omega)).trans e5, (hb _ (by omega) (by omega)).trans e6⟩, ⟨b0, b1, b2, b3, b4⟩, ?_, ?_⟩
  · rcases o with ⟨k, x1, x2, x3, x4⟩ | k
    · obtain ⟨f1, hf1⟩ := x1.1
      have l1 := gEx_lt f1 _ _ _ hf1
      exact Or.inl ⟨k, x1.pre g b0 (Int.le_refl _) (by omega), (hb _ (by omega) (by omega)).trans x2, x3.pre g b0 (by omega) (by omega), (hb _ (by omega) (by omega)).trans x4⟩
    · exact Or.inr k
  · rcases o2 with ⟨x1, x2⟩ | ⟨x1, x2⟩
    · exact Or.inl ⟨(hb _ (by omega) (by omega)).trans x1, x2⟩
    · exact Or.inr ⟨x1.pre g b0 b1 hc3, (hb _ (by omega) (by omega)).trans x2⟩
/-- the full stop of a line -/
theorem L_stop (hq : q = 157 ∨ q = 194) (S : gSt kd vl n) (h : gGm q kd vl n A B t c → True) (X : gXA q kd vl A) (M : gMB kd vl n B) (L : gLv q n A B t c 0) (K : gMk kd vl t B) : ∃ A' B', fX3_need A 37 = some A' ∧ fX14_take B 53 = some B' ∧ Fr2 s166 A A' ∧ Fr s203 B B' ∧ gKo B B' ∧ ((gLv q n A' B' (t + 1) c 0 ∧ gMk kd vl (t + 1) B' ∧ kd t = 37 ∧ B' = bT B (t + 1) ∧ A' = aT A (t + 1)) ∨ gDe q n A' B' t) := by
  have n1 := S.2.1
  rcases L_ask hq S X M L (K := 37) (k := 53) rfl (by omega) (by omega) with ⟨e, e1, w1, w2⟩ | ⟨e, w1, w2⟩
  · exact ⟨_, _, w1, w2, aT_f6 _ _, bT_f3 _ _, bT_ko _ _, Or.inl ⟨L_adv hq L e1, (K.skip L.2.2.1 (by omega) (by omega)).bT _, e, rfl, rfl⟩⟩
  · obtain ⟨D, ec⟩ := L_die hq n1 L
    exact ⟨_, _, w1, w2, aF_f6 _, bW_f3 _ _, bW_ko _ _, Or.inr D⟩
end GAM
