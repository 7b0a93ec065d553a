/-! part C: what the model told is taken over -/
theorem mI_C (M : ax_M) (a0 a n x y : Nat) : mI (mCp M a0 a n) x y = if x = a ∧ y < n then mI M a0 y else mI M x y := rfl
theorem Fr.cp {S : Nat → Nat → Prop} {A B : ax_M} (p : Fr S A B) {a0 a n : Nat} (h : ∀ j, S a j) : Fr S A (mCp B a0 a n) := ⟨p.1, fun x y g => by
  rw [mI_C, if_neg (fun e => g (by rw [e.1]; exact h y))]
  exact p.2 x y g⟩
def sBc : Nat → Nat → Prop := fun k j => (k = 208 ∧ (j = 0 ∨ j = 1 ∨ j = 3 ∨ j = 11)) ∨ (209 ≤ k ∧ k ≤ 219)
section BCM
variable {M : ax_M}
set_option maxRecDepth 4000 in
theorem Q_become (M : ax_M) : ∃ M', fX13_become M = some M' ∧ Fr sBc M M' ∧ (mI M' 208 0 = mI M 220 0 ∧ mI M' 208 1 = mI M 220 1 ∧ mI M' 208 3 = mI M 220 3) ∧ (∀ j, j < 81 → mI M' 209 j = mI M 221 j) ∧ (∀ k j, 210 ≤ k → k ≤ 216 → j < 17 → mI M' k j = mI M (k + 12) j) ∧ (∀ k j, 217 ≤ k → k ≤ 219 → j < 800 → mI M' k j = mI M (k + 12) j) := by
  unfold fX13_become
  rw [mI_Un (k := 208) (j := 0) (a := 220) (b := 1) (by omega), mI_Un (k := 208) (j := 1) (a := 220) (b := 3) (by omega), mI_Un (k := 208) (j := 0) (a := 220) (b := 3) (by omega), mI_Un (k := 208) (j := 3) (a := 220) (b := 11) (by omega), mI_Un (k := 208) (j := 1) (a := 220) (b := 11) (by omega), mI_Un (k := 208) (j := 0) (a := 220) (b := 11) (by omega)]
  refine ⟨_, rfl, ?_, ⟨?_, ?_, ?_⟩, fun j hj => ?_, fun k j k0 k1 hj => ?_, fun k j k0 k1 hj => ?_⟩
  · refine Fr.cp (Fr.cp (Fr.cp (Fr.cp (Fr.cp (Fr.cp (Fr.cp (Fr.cp (Fr.cp (Fr.cp (Fr.cp (Fr.up (Fr.up (Fr.up (Fr.up (Fr.refl _ _) ?_) ?_) ?_) ?_) ?_) ?_) ?_) ?_) ?_) ?_) ?_) ?_) ?_) ?_) ?_ <;> (first | (intro j; unfold sBc; omega) | (unfold sBc; omega))
  · rw [mI_C, if_neg (by omega), mI_C, if_neg (by omega), mI_C, if_neg (by omega), mI_C, if_neg (by omega), mI_C, if_neg (by omega), mI_C, if_neg (by omega), mI_C, if_neg (by omega), mI_C, if_neg (by omega), mI_C, if_neg (by omega), mI_C, if_neg (by omega), mI_C, if_neg (by omega), mI_Un (by omega), mI_Un (by omega), mI_Un (by omega), mI_Us]
  · rw [mI_C, if_neg (by omega), mI_C, if_neg (by omega), mI_C, if_neg (by omega), mI_C, if_neg (by omega), mI_C, if_neg (by omega), mI_C, if_neg (by omega), mI_C, if_neg (by omega), mI_C, if_neg (by omega), mI_C, if_neg (by omega), mI_C, if_neg (by omega), mI_C, if_neg (by omega), mI_Un (by omega), mI_Un (by omega), mI_Us]
  · rw [mI_C, if_neg (by omega), mI_C, if_neg (by omega), mI_C, if_neg (by omega), mI_C, if_neg (by omega), mI_C, if_neg (by omega), mI_C, if_neg (by omega), mI_C, if_neg (by omega), mI_C, if_neg (by omega), mI_C, if_neg (by omega), mI_C, if_neg (by omega), mI_C, if_neg (by omega), mI_Un (by omega), mI_Us]
  · rw [mI_C, if_neg (by omega), mI_C, if_neg (by omega), mI_C, if_neg (by omega), mI_C, if_neg (by omega), mI_C, if_neg (by omega), mI_C, if_neg (by omega), mI_C, if_neg (by omega), mI_C, if_neg (by omega), mI_C, if_neg (by omega), mI_C, if_neg (by omega), mI_C, if_pos ⟨rfl, by omega⟩, mI_Un (by omega), mI_Un (by omega), mI_Un (by omega), mI_Un (by omega)]
  · have hk : k = 210 ∨ k = 211 ∨ k = 212 ∨ k = 213 ∨ k = 214 ∨ k = 215 ∨ k = 216 := by omega
    rcases hk with rfl | rfl | rfl | rfl | rfl | rfl | rfl
    · rw [mI_C, if_neg (by omega), mI_C, if_neg (by omega), mI_C, if_neg (by omega), mI_C, if_neg (by omega), mI_C, if_neg (by omega), mI_C, if_neg (by omega), mI_C, if_neg (by omega), mI_C, if_neg (by omega), mI_C, if_neg (by omega), mI_C, if_pos ⟨rfl, by omega⟩, mI_C, if_neg (by omega), mI_Un (by omega), mI_Un (by omega), mI_Un (by omega), mI_Un (by omega)]
    · rw [mI_C, if_neg (by omega), mI_C, if_neg (by omega), mI_C, if_neg (by omega), mI_C, if_neg (by omega), mI_C, if_neg (by omega), mI_C, if_neg (by omega), mI_C, if_neg (by omega), mI_C, if_neg (by omega), mI_C, if_pos ⟨rfl, by omega⟩, mI_C, if_neg (by omega), mI_C, if_neg (by omega), mI_Un (by omega), mI_Un (by omega), mI_Un (by omega), mI_Un (by omega)]
    · rw [mI_C, if_neg (by omega), mI_C, if_neg (by omega), mI_C, if_neg (by omega), mI_C, if_neg (by omega), mI_C, if_neg (by omega), mI_C, if_neg (by omega), mI_C, if_neg (by omega), mI_C, if_pos ⟨rfl, by omega⟩, mI_C, if_neg (by omega), mI_C, if_neg (by omega), mI_C, if_neg (by omega), mI_Un (by omega), mI_Un (by omega), mI_Un (by omega), mI_Un (by omega)]
    · rw [mI_C, if_neg (by omega), mI_C, if_neg (by omega), mI_C, if_neg (by omega), mI_C, if_neg (by omega), mI_C, if_neg (by omega), mI_C, if_neg (by omega), mI_C, if_pos ⟨rfl, by omega⟩, mI_C, if_neg (by omega), mI_C, if_neg (by omega), mI_C, if_neg (by omega), mI_C, if_neg (by omega), mI_Un (by omega), mI_Un (by omega), mI_Un (by omega), mI_Un (by omega)]
    · rw [mI_C, if_neg (by omega), mI_C, if_neg (by omega), mI_C, if_neg (by omega), mI_C, if_neg (by omega), mI_C, if_neg (by omega), mI_C, if_pos ⟨rfl, by omega⟩, mI_C, if_neg (by omega), mI_C, if_neg (by omega), mI_C, if_neg (by omega), mI_C, if_neg (by omega), mI_C, if_neg (by omega), mI_Un (by omega), mI_Un (by omega), mI_Un (by omega), mI_Un (by omega)]
    · rw [mI_C, if_neg (by omega), mI_C, if_neg (by omega), mI_C, if_neg (by omega), mI_C, if_neg (by omega), mI_C, if_pos ⟨rfl, by omega⟩, mI_C, if_neg (by omega), mI_C, if_neg (by omega), mI_C, if_neg (by omega), mI_C, if_neg (by omega), mI_C, if_neg (by omega), mI_C, if_neg (by omega), mI_Un (by omega), mI_Un (by omega), mI_Un (by omega), mI_Un (by omega)]
    · rw [mI_C, if_neg (by omega), mI_C, if_neg (by omega), mI_C, if_neg (by omega), mI_C, if_pos ⟨rfl, by omega⟩, mI_C, if_neg (by omega), mI_C, if_neg (by omega), mI_C, if_neg (by omega), mI_C, if_neg (by omega), mI_C, if_neg (by omega), mI_C, if_neg (by omega), mI_C, if_neg (by omega), mI_Un (by omega), mI_Un (by omega), mI_Un (by omega), mI_Un (by omega)]
  · have hk : k = 217 ∨ k = 218 ∨ k = 219 := by omega
    rcases hk with rfl | rfl | rfl
    · rw [mI_C, if_neg (by omega), mI_C, if_neg (by omega), mI_C, if_pos ⟨rfl, by omega⟩, mI_C, if_neg (by omega), mI_C, if_neg (by omega), mI_C, if_neg (by omega), mI_C, if_neg (by omega), mI_C, if_neg (by omega), mI_C, if_neg (by omega), mI_C, if_neg (by omega), mI_C, if_neg (by omega), mI_Un (by omega), mI_Un (by omega), mI_Un (by omega), mI_Un (by omega)]
    · rw [mI_C, if_neg (by omega), mI_C, if_pos ⟨rfl, by omega⟩, mI_C, if_neg (by omega), mI_C, if_neg (by omega), mI_C, if_neg (by omega), mI_C, if_neg (by omega), mI_C, if_neg (by omega), mI_C, if_neg (by omega), mI_C, if_neg (by omega), mI_C, if_neg (by omega), mI_C, if_neg (by omega), mI_Un (by omega), mI_Un (by omega), mI_Un (by omega), mI_Un (by omega)]
    · rw [mI_C, if_pos ⟨rfl, by omega⟩, mI_C, if_neg (by omega), mI_C, if_neg (by omega), mI_C, if_neg (by omega), mI_C, if_neg (by omega), mI_C, if_neg (by omega), mI_C, if_neg (by omega), mI_C, if_neg (by omega), mI_C, if_neg (by omega), mI_C, if_neg (by omega), mI_C, if_neg (by omega), mI_Un (by omega), mI_Un (by omega), mI_Un (by omega), mI_Un (by omega)]
def sBg (this : Nat) : Nat → Nat → Prop := fun k j => (k = this ∧ (j = 0 ∨ j = 1 ∨ j = 3 ∨ j = 11)) ∨ k = this + 1
theorem Q_fresh (M : ax_M) (this : Nat) : ∃ M', fX13_begin M this = some M' ∧ Fr (sBg this) M M' ∧ (mI M' this 0 = 7 ∧ mI M' this 1 = 7 ∧ mI M' this 3 = 0 ∧ mI M' this 11 = 0) ∧ ∀ j : Int, 0 ≤ j → j < 81 → mI M' (this + 1) j.toNat = -1 := by
  obtain ⟨M1, e1⟩ : ∃ M1, M1 = mUI (mUI (mUI (mUI M this 0 7) this 1 7) this 3 0) this 11 0 := ⟨_, rfl⟩
  have f1 : Fr (sBg this) M M1 := by
    rw [e1]
    refine Fr.up (Fr.up (Fr.up (Fr.up (Fr.refl _ _) ?_) ?_) ?_) ?_ <;> (unfold sBg; omega)
  have key : ∃ r, lp (fun s => fX13_begin_b24 s.2 this s.1) lpN (0, M1) = some r ∧ (Fr (fun k _ => k = this + 1) M1 r ∧ ∀ j : Int, 0 ≤ j → j < 81 → mI r (this + 1) j.toNat = -1) := by
    refine lpn 81 (by omega) (fun i s => s.1 = (i : Int) ∧ Fr (fun k _ => k = this + 1) M1 s.2 ∧ ∀ j : Int, 0 ≤ j → j < i → mI s.2 (this + 1) j.toNat = -1) _ _ ?_ ?_ ?_
    · exact ⟨rfl, Fr.refl _ _, fun j j0 j1 => by have j1 : j < ((0 : Nat) : Int) := j1; omega⟩
    · rintro i ⟨v, N⟩ hi ⟨hv, f, p⟩
      have hv : v = (i : Int) := hv
      subst hv
      right
      refine ⟨((i : Int) + 1, mUI N (this + 1) (i : Int).toNat (-1)), ?_, rfl, Fr.up (B := N) f rfl, fun j j0 j1 => ?_⟩
      · show fX13_begin_b24 N this (i : Int) = _
        unfold fX13_begin_b24
        rw [if_pos (by omega), if_pos (by omega)]
      · have j1 : j < ((i + 1 : Nat) : Int) := j1
        have p : ∀ j : Int, 0 ≤ j → j < i → mI N (this + 1) j.toNat = -1 := p
        show mI (mUI N (this + 1) (i : Int).toNat (-1)) (this + 1) j.toNat = -1
        rw [mI_Z _ _ _ (by omega) j0]
        by_cases ej : j = i
        · rw [if_pos ej]
        · rw [if_neg ej]; exact p j j0 (by omega)
    · rintro ⟨v, N⟩ ⟨hv, f, p⟩
      have hv : v = ((81 : Nat) : Int) := hv
      subst hv
      refine ⟨N, ?_, f, fun j j0 j1 => p j j0 j1⟩
      show fX13_begin_b24 N this ((81 : Nat) : Int) = _
      unfold fX13_begin_b24
      rw [if_neg (by omega)]
  obtain ⟨M', r, f, p⟩ := key
  have g : ∀ j, mI M' this j = mI M1 this j := fun j => f.2 this j (by omega)
  refine ⟨M', ?_, f1.trans (f.mono (fun k j z => by unfold sBg; omega)), ⟨?_, ?_, ?_, ?_⟩, p⟩
  · unfold fX13_begin
    rw [← e1, r, bd1_s]
  · rw [g, e1, mI_Un (by omega), mI_Un (by omega), mI_Un (by omega), mI_Us]
  · rw [g, e1, mI_Un (by omega), mI_Un (by omega), mI_Us]
  · rw [g, e1, mI_Un (by omega), mI_Us]
  · rw [g, e1, mI_Us]
def sQs : Nat → Nat → Prop := fun k j => (k = 203 ∧ (j = 0 ∨ (7 ≤ j ∧ j ≤ 11))) ∨ (205 ≤ k ∧ k ≤ 207) ∨ (k = 220 ∧ (j = 0 ∨ j = 1 ∨ j = 3 ∨ j = 11)) ∨ k = 221
/-- the model's beginning of a teaching -/
theorem Q_start {b : Int → Int} {T : Int} {n : Nat} (H : gTB M b T) (hL : gLast b T n) : ∃ M1 B, fX13_begin (mUI (mUI (mUI (mUI (mUI M 203 0 0) 203 7 0) 203 8 0) 203 9 0) 203 11 0) 220 = some M1 ∧ fX14_readAll M1 = some B ∧ Fr sQs M B ∧ gB0 B ∧ gTokB B b T n := by
  obtain ⟨M0, e0⟩ : ∃ M0, M0 = mUI (mUI (mUI (mUI (mUI M 203 0 0) 203 7 0) 203 8 0) 203 9 0) 203 11 0 := ⟨_, rfl⟩
  have f0 : Fr sQs M M0 := by
    rw [e0]
    refine Fr.up (Fr.up (Fr.up (Fr.up (Fr.up (Fr.refl _ _) ?_) ?_) ?_) ?_) ?_ <;> (unfold sQs; omega)
  have a7 : mI M0 203 7 = 0 := by rw [e0, mI_Un (by omega), mI_Un (by omega), mI_Un (by omega), mI_Us]
  have a8 : mI M0 203 8 = 0 := by rw [e0, mI_Un (by omega), mI_Un (by omega), mI_Us]
  have a9 : mI M0 203 9 = 0 := by rw [e0, mI_Un (by omega), mI_Us]
  have a11 : mI M0 203 11 = 0 := by rw [e0, mI_Us]
  obtain ⟨M1, r1, f1, ⟨c0, c1, c3, c11⟩, c4⟩ := Q_fresh M0 220
  have fs : Fr sQs M M1 := f0.trans (f1.mono (fun k j z => by unfold sBg at z; unfold sQs; omega))
  obtain ⟨B, r2, f2, tk⟩ := Q_readAll (H.fr fs (fun k j z => by unfold sQs; omega)) hL
  rw [← e0]
  refine ⟨M1, B, r1, r2, fs.trans (f2.mono (fun k j z => by unfold sTB at z; unfold sQs; omega)), ⟨⟨?_, ?_, ?_, ?_⟩, ⟨?_, ?_, ?_, ?_⟩, fun j j0 j1 => ?_⟩, tk⟩
  · rw [f2.2 _ _ (by unfold sTB; omega), f1.2 _ _ (by unfold sBg; omega)]; exact a7
  · rw [f2.2 _ _ (by unfold sTB; omega), f1.2 _ _ (by unfold sBg; omega)]; exact a8
  · rw [f2.2 _ _ (by unfold sTB; omega), f1.2 _ _ (by unfold sBg; omega)]; exact a9
  · rw [f2.2 _ _ (by unfold sTB; omega), f1.2 _ _ (by unfold sBg; omega)]; exact a11
  · rw [f2.2 _ _ (by unfold sTB; omega)]; exact c0
  · rw [f2.2 _ _ (by unfold sTB; omega)]; exact c1
  · rw [f2.2 _ _ (by unfold sTB; omega)]; exact c3
  · rw [f2.2 _ _ (by unfold sTB; omega)]; exact c11
  · rw [f2.2 _ _ (by unfold sTB; omega)]; exact c4 j j0 j1
end BCM
/-! what is known of the meaning -/
section MEN
variable {kd : Int → Nat} {vl : Int → Int} {t : Int}
theorem gMR_tok : ∀ k : Nat, (gMR kd vl k).1 ≠ 0 → 0 ≤ (gMR kd vl k).2.1 ∧ (gMR kd vl k).2.1 < k
  | 0, h => absurd rfl h
  | k + 1, h => by
    have e : gMR kd vl (k + 1) = if (gMR kd vl k).1 = 0 then ((gM1 kd vl k (gMR kd vl k).2.2).1, (if (gM1 kd vl k (gMR kd vl k).2.2).1 = 0 then -1 else (k : Int)), (gM1 kd vl k (gMR kd vl k).2.2).2) else gMR kd vl k := rfl
    by_cases z : (gMR kd vl k).1 = 0
    · rw [if_pos z] at e
      rw [e] at h ⊢
      have h : (gM1 kd vl k (gMR kd vl k).2.2).1 ≠ 0 := h
      show 0 ≤ (if (gM1 kd vl k (gMR kd vl k).2.2).1 = 0 then (-1 : Int) else (k : Int)) ∧ (if (gM1 kd vl k (gMR kd vl k).2.2).1 = 0 then (-1 : Int) else (k : Int)) < ((k + 1 : Nat) : Int)
      rw [if_neg h]
      omega
    · rw [if_neg z] at e
      rw [e]
      have := gMR_tok k z
      omega
theorem gM1_ow {s : Int × Int × Int × (Int → Int)} (h : ∀ j, s.2.2.2 j = 0 ∨ s.2.2.2 j = 1 ∨ s.2.2.2 j = 2) (j : Int) : (gM1 kd vl t s).2.2.2.2 j = 0 ∨ (gM1 kd vl t s).2.2.2.2 j = 1 ∨ (gM1 kd vl t s).2.2.2.2 j = 2 := by
  unfold gM1
  by_cases a : kd t = 13
  · rw [if_pos a]; exact h j
  · rw [if_neg a]
    by_cases b : kd t = 48
    · rw [if_pos b]
      by_cases c : kd (t - 1) = 10
      · rw [if_pos c]; exact h j
      · rw [if_neg c]
        by_cases d : kd (t - 1) = 11
        · rw [if_pos d]; exact h j
        · rw [if_neg d]
          by_cases e : kd (t - 2) = 12
          · rw [if_pos e]; exact h j
          · rw [if_neg e]
            by_cases f : kd (t - 4) = 12
            · rw [if_pos f]
              by_cases g : vl t < s.2.1
              · rw [if_pos g]
                by_cases i : gMo s.2.2.2 (wr (wr (s.1 * vl t) + vl (t - 2))) = 0
                · rw [if_pos i]
                  show (if j = wr (wr (s.1 * vl t) + vl (t - 2)) ∧ 0 ≤ j ∧ j < 81 then (if kd (t - 3) = 14 then 1 else 2) else s.2.2.2 j) = 0 ∨ (if j = wr (wr (s.1 * vl t) + vl (t - 2)) ∧ 0 ≤ j ∧ j < 81 then (if kd (t - 3) = 14 then 1 else 2) else s.2.2.2 j) = 1 ∨ (if j = wr (wr (s.1 * vl t) + vl (t - 2)) ∧ 0 ≤ j ∧ j < 81 then (if kd (t - 3) = 14 then 1 else 2) else s.2.2.2 j) = 2
                  by_cases y : j = wr (wr (s.1 * vl t) + vl (t - 2)) ∧ 0 ≤ j ∧ j < 81
                  · rw [if_pos y]
                    by_cases x : kd (t - 3) = 14
                    · rw [if_pos x]; omega
                    · rw [if_neg x]; omega
                  · rw [if_neg y]; exact h j
                · rw [if_neg i]; exact h j
              · rw [if_neg g]; exact h j
            · rw [if_neg f]; exact h j
    · rw [if_neg b]; exact h j
theorem gMR_ow : ∀ (k : Nat) (j : Int), (gMR kd vl k).2.2.2.2.2 j = 0 ∨ (gMR kd vl k).2.2.2.2.2 j = 1 ∨ (gMR kd vl k).2.2.2.2.2 j = 2
  | 0, _ => Or.inl rfl
  | k + 1, j => by
    have e : gMR kd vl (k + 1) = if (gMR kd vl k).1 = 0 then ((gM1 kd vl k (gMR kd vl k).2.2).1, (if (gM1 kd vl k (gMR kd vl k).2.2).1 = 0 then -1 else (k : Int)), (gM1 kd vl k (gMR kd vl k).2.2).2) else gMR kd vl k := rfl
    have ih := gMR_ow k
    by_cases z : (gMR kd vl k).1 = 0
    · rw [if_pos z] at e
      rw [e]
      exact gM1_ow ih j
    · rw [if_neg z] at e
      rw [e]
      exact ih j
end MEN
/-! plans that were told are plans in force -/
section PLT
variable {q : Nat} {A B M : ax_M} {c x : Int}
theorem gXp.to {lo a e : Int} (H : gXp q A B lo a e) (hq : q = 157 ∨ q = 194) (l0 : 0 ≤ lo) (la : lo ≤ a) (hc : mI M q 2 = c) (ec : e ≤ c) (c4 : c ≤ 400) (gp : ∀ j : Nat, (j : Int) < c → mR M (q + 1) j = mR A (q + 1) j ∧ mI M (q + 2) j = mI A (q + 2) j) (gn : ∀ k j : Nat, 217 ≤ k → k ≤ 219 → j < 800 → mI M k j = mI B (k + 12) j) : (∃ f, gEx (fX7_opAt M q) (fX7_operandAt M q) (gPS M) (gPL M) (gPR M) lo f a e (e - 1)) ∧ ∀ m, a ≤ m → m < e → gNd (gPS M) (gPL M) (gPR M) lo m := by
  have hop : ∀ j : Int, 0 ≤ j → j < c → fX7_opAt M q j = gop q A j ∧ fX7_operandAt M q j = god q A j := fun j j0 j1 => by
    have g := gp j.toNat (by omega)
    unfold fX7_opAt fX7_operandAt
    rw [hc, if_neg (by omega), if_pos j1, if_pos (by omega), g.1, g.2, if_neg (by omega), if_pos (by omega)]
    refine ⟨?_, rfl⟩
    show (oq (mR A (q + 1) j.toNat) 50 fun k8 => k8) = (mR A (q + 1) j.toNat).getD 50
    cases mR A (q + 1) j.toNat <;> rfl
  have hnd : ∀ j : Int, j < 800 → gPS M j = gnS B j ∧ gPL M j = gnL B j ∧ gPR M j = gnR B j := fun j j1 => ⟨gn 217 j.toNat (by omega) (by omega) (by omega), gn 218 j.toNat (by omega) (by omega) (by omega), gn 219 j.toNat (by omega) (by omega) (by omega)⟩
  obtain ⟨⟨f, H1⟩, H2⟩ := H
  refine ⟨⟨f, gEx_c f a e (e - 1) (fun j j0 j1 => hop j (by omega) (by omega)) (fun j j0 j1 => hnd j (by omega)) H1⟩, fun m m0 m1 => ?_⟩
  have h := H2 m m0 m1
  obtain ⟨e1, e2, e3⟩ := hnd m (by omega)
  unfold gNd at h ⊢
  rw [e1, e2, e3]
  exact h
theorem gPj.to {i : Nat} (H : gPj q A B i) (hq : q = 157 ∨ q = 194) (hi : i < 16) (hb : mI B 225 i ≤ c) (hc : mI M q 2 = c) (c4 : c ≤ 400) (gp : ∀ j : Nat, (j : Int) < c → mR M (q + 1) j = mR A (q + 1) j ∧ mI M (q + 2) j = mI A (q + 2) j) (gs : ∀ k j : Nat, q + 3 ≤ k → k ≤ q + 8 → mI M k j = mI A k j ∧ mR M k j = mR A k j) (gr : ∀ k j : Nat, 210 ≤ k → k ≤ 216 → j < 17 → mI M k j = mI B (k + 12) j) (gn : ∀ k j : Nat, 217 ≤ k → k ≤ 219 → j < 800 → mI M k j = mI B (k + 12) j) : gPi M q (i : Int) := by
  obtain ⟨K, v, a, c1, c2, c3, h1, h2, h3, h4, h6, h7, ⟨e1, e2, e3, e4⟩, ⟨e5, e6⟩, ⟨b0, b1, b2, b3, b4⟩, o, o2⟩ := H
  have hi7 : i < 17 := by omega
  have r0 : mI M 210 i = v := (gr 210 i (by omega) (by omega) hi7).trans h6
  have r1 : mI M 211 i = gkm K := (gr 211 i (by omega) (by omega) hi7).trans h3
  have r2 : mI M 212 i = a := (gr 212 i (by omega) (by omega) hi7).trans e5
  have r3 : mI M 213 i = c3 := (gr 213 i (by omega) (by omega) hi7).trans e6
  have s3 : mR M (q + 3) i = some K := (gs _ _ (by omega) (by omega)).2.trans h1
  have s4 : mI M (q + 4) i = v := (gs _ _ (by omega) (by omega)).1.trans h4
  have s5 : mI M (q + 5) i = a := (gs _ _ (by omega) (by omega)).1.trans e1
  have s6 : mI M (q + 6) i = c1 := (gs _ _ (by omega) (by omega)).1.trans e2
  have s7 : mI M (q + 7) i = c2 := (gs _ _ (by omega) (by omega)).1.trans e3
  have s8 : mI M (q + 8) i = c3 := (gs _ _ (by omega) (by omega)).1.trans e4
  have c3c : c3 ≤ c := by omega
  unfold gPi
  rw [show (i : Int).toNat = i from rfl, r0, r1, r2, r3, s3, s4, s5, s6, s7, s8]
  have up : ∀ lo x y, gXp q A B lo x y → 0 ≤ lo → lo ≤ x → y ≤ c → _ := fun lo x y H l0 lx yc => H.to (M := M) hq l0 lx hc yc c4 gp gn
  refine ⟨⟨K, rfl, h2.1, h2.2, rfl⟩, ⟨rfl, h7⟩, ⟨by omega, by omega, by omega⟩, ⟨b0, by omega, by omega⟩, fun n n0 n1 => ?_, fun z => ?_, ?_⟩
  · have test : c2 ≤ n → gNd (gPS M) (gPL M) (gPR M) a n := fun z => by
      rcases o2 with ⟨_, y⟩ | ⟨y, _⟩
      · omega
      · exact (up _ _ _ y b0 b1 (by omega)).2 n z n1
    rcases o with ⟨k, x1, _, x3, _⟩ | ⟨k, x1, x2⟩
    · obtain ⟨f1, hf1⟩ := x1.1
      have l1 := gEx_lt f1 _ _ _ hf1
      by_cases z1 : n < c1
      · exact (up _ _ _ x1 b0 (Int.le_refl _) (by omega)).2 n n0 z1
      · by_cases z2 : n < c2
        · exact (up _ _ _ x3 b0 (by omega) (by omega)).2 n (by omega) z2
        · exact test (by omega)
    · exact test (by omega)
  · rcases o with ⟨k, x1, x2, x3, x4⟩ | ⟨k, _, _⟩
    · obtain ⟨f1, hf1⟩ := x1.1
      have l1 := gEx_lt f1 _ _ _ hf1
      have t4 : mI M 214 i = c1 - 1 := (gr 214 i (by omega) (by omega) hi7).trans x2
      have t5 : mI M 215 i = c2 - 1 := (gr 215 i (by omega) (by omega) hi7).trans x4
      rw [t4, t5]
      exact ⟨(up _ _ _ x1 b0 (Int.le_refl _) (by omega)).1, by omega, (up _ _ _ x3 b0 (by omega) (by omega)).1, by omega⟩
    · exfalso
      have := gkm5 h2.1 h2.2
      omega
  · rcases o2 with ⟨x1, x2⟩ | ⟨x1, x2⟩
    · have t6 : mI M 216 i = -1 := (gr 216 i (by omega) (by omega) hi7).trans x1
      exact Or.inl ⟨t6, by omega⟩
    · have t6 : mI M 216 i = c3 - 1 := (gr 216 i (by omega) (by omega) hi7).trans x2
      obtain ⟨f1, hf1⟩ := x1.1
      have l1 := gEx_lt f1 _ _ _ hf1
      rw [t6]
      exact Or.inr ⟨(up _ _ _ x1 b0 b1 (by omega)).1, by omega⟩
end PLT
