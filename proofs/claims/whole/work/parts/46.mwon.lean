/-! part C: who has won, as the model sees it -/
def sV : Nat → Nat → Prop := fun k _ => k = 240 ∨ k = 241
theorem sV_pond : ∀ k j, (k = 208 ∧ j < 2) ∨ k = 233 → ¬ sV k j := by
  intro k j h1 h2
  unfold sV at h2
  omega
theorem sV_M : ∀ k j, sV k j → sM k j := by
  intro k j h
  unfold sV at h
  unfold sM
  omega
/-- a player has won -/
def gwon (w h : Int) (o : Int → Int) (p : Int) : Prop := ∃ z, gsh w h p 1 z ∧ gW w h o p 0 z 0
/-- while stones are gone on from: n are in line -/
def gV (M : ax_M) (w h : Int) (o : Int → Int) (p n : Int) : Prop :=
  0 ≤ n ∧ (∀ j : Int, 0 ≤ j → j < n → gW w h o p 0 (mI M 240 j.toNat) 0) ∧
  (∀ c : Int, 0 ≤ c → c < w * h → mI M 241 c.toNat ≠ 0 → ∃ j : Int, 0 ≤ j ∧ j < n ∧ mI M 240 j.toNat = c) ∧
  gcn (fun c => mI M 241 c.toNat ≠ 0) (w * h).toNat = n ∧
  (∀ c : Int, 0 ≤ c → c < w * h → o c = p + 1 → gsh w h p 0 c → mI M 241 c.toNat ≠ 0)
section MWON
variable {M : ax_M} {w h : Int} {o : Int → Int} {p : Int} {n : Int}
theorem gcost0 {o : Int → Int} {c : Int} (h : o c ≠ 0) : gcost o c = 0 := if_neg h
theorem gV_le (k : gOk w h) (H : gV M w h o p n) : n ≤ w * h := by
  obtain ⟨_, _, _, e, _⟩ := H
  have h1 := gcn_b (fun c => mI M 241 c.toNat ≠ 0) (w * h).toNat
  have := gOk_le k
  omega
theorem gV_add {a : Int} (k : gOk w h) (H : gV M w h o p n) (ha : gW w h o p 0 a 0) (hm : mI M 241 a.toNat = 0) : n < w * h ∧ gV (mUI (mUI M 241 a.toNat 1) 240 n.toNat a) w h o p (n + 1) ∧ Fr sV M (mUI (mUI M 241 a.toNat 1) 240 n.toNat a) ∧ (∀ j : Int, 0 ≤ j → j < n → mI (mUI (mUI M 241 a.toNat 1) 240 n.toNat a) 240 j.toNat = mI M 240 j.toNat) ∧ mI (mUI (mUI M 241 a.toNat 1) 240 n.toNat a) 241 a.toNat ≠ 0 ∧ (∀ c : Int, 0 ≤ c → mI M 241 c.toNat ≠ 0 → mI (mUI (mUI M 241 a.toNat 1) 240 n.toNat a) 241 c.toNat ≠ 0) := by
  obtain ⟨q2, q3, q4, q5, q6⟩ := H
  have hN := gOk_le k
  obtain ⟨⟨a0, a1, _⟩, _⟩ := gW_al ha
  have hz := gcn_lt (P := fun c => mI M 241 c.toNat ≠ 0) (w * h).toNat a0 (by omega) (fun z => z hm)
  generalize eM : mUI (mUI M 241 a.toNat 1) 240 n.toNat a = M'
  have r241 : ∀ c : Int, 0 ≤ c → mI M' 241 c.toNat = if c = a then 1 else mI M 241 c.toNat := fun c hc => by
    rw [← eM, mI_Un (by omega), mI_Z _ _ _ a0 hc]
  have r240 : ∀ j : Int, 0 ≤ j → mI M' 240 j.toNat = if j = n then a else mI M 240 j.toNat := fun c hc => by
    rw [← eM, mI_Z _ _ _ q2 hc, mI_Un (by omega)]
  have mono : ∀ c : Int, 0 ≤ c → mI M 241 c.toNat ≠ 0 → mI M' 241 c.toNat ≠ 0 := fun c hc hz => by
    rw [r241 c hc]
    split
    · decide
    · exact hz
  have ma : mI M' 241 a.toNat ≠ 0 := by rw [r241 a a0, if_pos rfl]; decide
  refine ⟨by omega, ⟨by omega, fun j j0 j1 => ?_, fun c c0 c1 hc => ?_, ?_, fun c c0 c1 ho hs => mono c c0 (q6 c c0 c1 ho hs)⟩, ?_, fun j j0 j1 => ?_, ma, mono⟩
  · rw [r240 j j0]
    by_cases e : j = n
    · rw [if_pos e]; exact ha
    · rw [if_neg e]; exact q3 j j0 (by omega)
  · by_cases e : c = a
    · exact ⟨n, q2, by omega, by rw [r240 n q2, if_pos rfl, e]⟩
    · rw [r241 c c0, if_neg e] at hc
      obtain ⟨j, j0, j1, z⟩ := q4 c c0 c1 hc
      exact ⟨j, j0, by omega, by rw [r240 j j0, if_neg (by omega)]; exact z⟩
  · rw [gcn_add (P := fun c => mI M 241 c.toNat ≠ 0) (c0 := a) (w * h).toNat a0 (by omega) (fun z => z hm) ma (fun c c0 c1 e => by rw [r241 c c0, if_neg e]), q5]
  · subst eM
    exact ((Fr.refl _ _).up (Or.inr rfl)).up (Or.inl rfl)
  · rw [r240 j j0, if_neg (by omega)]
theorem gV_sides {i : Int} (P : Md M w h o) (hp : 0 ≤ p) (H : gV M w h o p n) (i0 : 0 ≤ i) (i1 : i < n) : ∃ M' n', lp (fun s => fX14_won_b98 s.2.2 p i s.1 s.2.1) lpN (n, 0, M) = some (n', M') ∧ gV M' w h o p n' ∧ Fr sV M M' ∧ n ≤ n' ∧ (∀ j : Int, 0 ≤ j → j < n → mI M' 240 j.toNat = mI M 240 j.toNat) ∧ (∀ c : Int, 0 ≤ c → mI M 241 c.toNat ≠ 0 → mI M' 241 c.toNat ≠ 0) ∧ (∀ t : Int, 0 ≤ t → t < 6 → 0 ≤ gbs w h (mI M 240 i.toNat) t → o (gbs w h (mI M 240 i.toNat) t) = p + 1 → mI M' 241 (gbs w h (mI M 240 i.toNat) t).toNat ≠ 0) := by
  have hN := gOk_le P.1
  have key : ∃ r, lp (fun s => fX14_won_b98 s.2.2 p i s.1 s.2.1) lpN (n, 0, M) = some r ∧ gV r.2 w h o p r.1 ∧ Fr sV M r.2 ∧ n ≤ r.1 ∧ (∀ j : Int, 0 ≤ j → j < n → mI r.2 240 j.toNat = mI M 240 j.toNat) ∧ (∀ c : Int, 0 ≤ c → mI M 241 c.toNat ≠ 0 → mI r.2 241 c.toNat ≠ 0) ∧ (∀ t : Int, 0 ≤ t → t < 6 → 0 ≤ gbs w h (mI M 240 i.toNat) t → o (gbs w h (mI M 240 i.toNat) t) = p + 1 → mI r.2 241 (gbs w h (mI M 240 i.toNat) t).toNat ≠ 0) := by
    refine lpn 6 (by omega) (fun s x => x.2.1 = (s : Int) ∧ gV x.2.2 w h o p x.1 ∧ Fr sV M x.2.2 ∧ n ≤ x.1 ∧ (∀ j : Int, 0 ≤ j → j < n → mI x.2.2 240 j.toNat = mI M 240 j.toNat) ∧ (∀ c : Int, 0 ≤ c → mI M 241 c.toNat ≠ 0 → mI x.2.2 241 c.toNat ≠ 0) ∧ (∀ t : Int, 0 ≤ t → t < (s : Int) → 0 ≤ gbs w h (mI M 240 i.toNat) t → o (gbs w h (mI M 240 i.toNat) t) = p + 1 → mI x.2.2 241 (gbs w h (mI M 240 i.toNat) t).toNat ≠ 0)) _ _ ⟨rfl, H, Fr.refl _ _, Int.le_refl _, fun _ _ _ => rfl, fun _ _ z => z, fun t t0 t1 => by omega⟩ ?_ ?_
    · rintro s ⟨n', x, M1⟩ hs ⟨hx, h1, h2, h3, h4, h5, h6⟩
      right
      have hx : x = (s : Int) := hx
      subst hx
      have h1 : gV M1 w h o p n' := h1
      have h2 : Fr sV M M1 := h2
      have h3 : n ≤ n' := h3
      have P1 := P.fr h2 sV_pond
      have hnn := gV_le P.1 h1
      have q3 := H.2.1
      have hal := (gW_al (q3 i i0 i1)).1
      have i2 : i < 81 := by omega
      show ∃ s', fX14_won_b98 M1 p i n' (s : Int) = some (.inl s') ∧ _
      unfold fX14_won_b98
      have hs0 : 0 ≤ (s : Int) ∧ (s : Int) < 6 := by omega
      rw [if_pos hs0.2, if_pos ⟨i0, i2⟩, h4 i i0 i1, Q_bs P1 hal.1 hal.2.1 hs0.1 hs0.2, bd1_s]
      generalize hb : gbs w h (mI M 240 i.toNat) (s : Int) = b
      have hbr := gbs_range P.1 (mI M 240 i.toNat) (s : Int)
      rw [hb] at hbr
      have b3 : ¬ b = -1 → 0 ≤ b ∧ b < w * h ∧ b < 81 := by omega
      have ho1 : o b = p + 1 → o b - 1 = p := by omega
      have ho2 : ¬ o b = p + 1 → ¬ (o b - 1 = p) := by omega
      have n0 : 0 ≤ n' := h1.1
      have same : o b ≠ p + 1 ∨ b = -1 ∨ mI M1 241 b.toNat ≠ 0 → ∃ s' : Int × Int × ax_M, some (Sum.inl (n', (s : Int) + 1, M1)) = some (Sum.inl s' : (Int × Int × ax_M) ⊕ (Int × ax_M)) ∧ s'.2.1 = ((s + 1 : Nat) : Int) ∧ gV s'.2.2 w h o p s'.1 ∧ Fr sV M s'.2.2 ∧ n ≤ s'.1 ∧ (∀ j : Int, 0 ≤ j → j < n → mI s'.2.2 240 j.toNat = mI M 240 j.toNat) ∧ (∀ c : Int, 0 ≤ c → mI M 241 c.toNat ≠ 0 → mI s'.2.2 241 c.toNat ≠ 0) ∧ (∀ t : Int, 0 ≤ t → t < ((s + 1 : Nat) : Int) → 0 ≤ gbs w h (mI M 240 i.toNat) t → o (gbs w h (mI M 240 i.toNat) t) = p + 1 → mI s'.2.2 241 (gbs w h (mI M 240 i.toNat) t).toNat ≠ 0) := by
        intro hz
        refine ⟨(n', (s : Int) + 1, M1), rfl, rfl, h1, h2, h3, h4, h5, fun t t0 t1 z0 zo => ?_⟩
        by_cases e : t = (s : Int)
        · rw [e, hb] at zo z0 ⊢
          rcases hz with z | z | z
          · exact absurd zo z
          · omega
          · exact z
        · exact h6 t t0 (by omega) z0 zo
      by_cases b1 : b = -1
      · rw [if_pos b1]
        exact same (Or.inr (Or.inl b1))
      · obtain ⟨b3, b4, b5⟩ := b3 b1
        rw [if_neg b1, if_pos ⟨b3, b5⟩]
        by_cases b2 : mI M1 241 b.toNat = 0
        · rw [if_pos b2, P1.2.2.2.2 b b3 b5]
          by_cases ho : o b = p + 1
          · clear same
            have hw := gW_step (q3 i i0 i1) hs0.1 hs0.2 hb ⟨b3, b4, Or.inr ho⟩
            rw [gcost0 (by omega)] at hw
            obtain ⟨g1, g2, g3, g4, g5, g6⟩ := gV_add P.1 h1 hw b2
            rw [if_pos (ho1 ho), if_pos (show 0 ≤ n' ∧ n' < 81 by omega)]
            refine ⟨(n' + 1, (s : Int) + 1, mUI (mUI M1 241 b.toNat 1) 240 n'.toNat b), rfl, rfl, g2, h2.trans g3, by show n ≤ n' + 1; omega, fun j j0 j1 => (g4 j j0 (by show j < n'; omega)).trans (h4 j j0 j1), fun c c0 z => g6 c c0 (h5 c c0 z), fun t t0 t1 z0 zo => ?_⟩
            by_cases e : t = (s : Int)
            · rw [e, hb]; exact g5
            · exact g6 _ z0 (h6 t t0 (by omega) z0 zo)
          · rw [if_neg (ho2 ho)]
            exact same (Or.inl ho)
        · rw [if_neg b2]
          exact same (Or.inr (Or.inr b2))
    · rintro ⟨n', x, M1⟩ ⟨hx, h1⟩
      have hx : x = ((6 : Nat) : Int) := hx
      subst hx
      refine ⟨(n', M1), ?_, h1⟩
      show fX14_won_b98 M1 p i n' ((6 : Nat) : Int) = _
      unfold fX14_won_b98
      rw [if_neg (by omega)]
  obtain ⟨r, e, k⟩ := key
  exact ⟨r.2, r.1, e, k⟩
/-- the stones at the first shore -/
theorem gV_first (P : Md M w h o) (hp : 0 ≤ p) : ∃ M' n', lp (fun s => fX14_won_b4 s.2.2 p s.1 s.2.1) lpN (0, 0, M) = some (n', M') ∧ gV M' w h o p n' ∧ Fr sV M M' := by
  have hN := gOk_le P.1
  have key : ∃ r, lp (fun s => fX14_won_b4 s.2.2 p s.1 s.2.1) lpN (0, 0, M) = some r ∧ gV r.2 w h o p r.1 ∧ Fr sV M r.2 := by
    refine lpn (w * h).toNat (by omega) (fun i x => x.2.1 = (i : Int) ∧ Fr sV M x.2.2 ∧ 0 ≤ x.1 ∧ (∀ j : Int, 0 ≤ j → j < x.1 → gW w h o p 0 (mI x.2.2 240 j.toNat) 0) ∧
      (∀ c : Int, 0 ≤ c → c < (i : Int) → mI x.2.2 241 c.toNat ≠ 0 → ∃ j : Int, 0 ≤ j ∧ j < x.1 ∧ mI x.2.2 240 j.toNat = c) ∧
      gcn (fun c => mI x.2.2 241 c.toNat ≠ 0) i = x.1 ∧
      (∀ c : Int, 0 ≤ c → c < (i : Int) → o c = p + 1 → gsh w h p 0 c → mI x.2.2 241 c.toNat ≠ 0)) _ _ ⟨rfl, Fr.refl _ _, Int.le_refl _, fun j j0 j1 => absurd j1 (by show ¬ j < 0; omega), fun c c0 c1 => by omega, rfl, fun c c0 c1 => by omega⟩ ?_ ?_
    · rintro i ⟨n, x, M1⟩ hi ⟨hx, h2, n0, h3, h4, h5, h6⟩
      right
      have hx : x = (i : Int) := hx
      subst hx
      have h2 : Fr sV M M1 := h2
      have n0 : 0 ≤ n := n0
      have h5 : gcn (fun c => mI M1 241 c.toNat ≠ 0) i = n := h5
      have h3 : ∀ j : Int, 0 ≤ j → j < n → gW w h o p 0 (mI M1 240 j.toNat) 0 := h3
      have h4 : ∀ c : Int, 0 ≤ c → c < (i : Int) → mI M1 241 c.toNat ≠ 0 → ∃ j : Int, 0 ≤ j ∧ j < n ∧ mI M1 240 j.toNat = c := h4
      have h6 : ∀ c : Int, 0 ≤ c → c < (i : Int) → o c = p + 1 → gsh w h p 0 c → mI M1 241 c.toNat ≠ 0 := h6
      have P1 := P.fr h2 sV_pond
      have hnb := gcn_b (fun c => mI M1 241 c.toNat ≠ 0) i
      have i0 : 0 ≤ (i : Int) := by omega
      have i1 : (i : Int) < w * h := by omega
      have hst : mI M1 233 (i : Int).toNat = o (i : Int) - 1 := P1.2.2.2.2 _ i0 (by omega)
      show ∃ s', fX14_won_b4 M1 p n (i : Int) = some (.inl s') ∧ _
      -- not taken into the line
      have no : ¬ (o (i : Int) = p + 1 ∧ gsh w h p 0 (i : Int)) → fX14_won_b4 M1 p n (i : Int) = some (.inl (n, (i : Int) + 1, mUI M1 241 (i : Int).toNat 0)) := by
        intro hz
        unfold fX14_won_b4
        rw [Q_cells P1, if_pos i1, if_pos (show 0 ≤ (i : Int) ∧ (i : Int) < 81 by omega), hst]
        by_cases ho : o (i : Int) = p + 1
        · rw [if_pos (by omega), Q_sh P1 p 0 i0 i1, if_neg (fun z => hz ⟨ho, z⟩), bd1_s, if_pos rfl, mI_Us, if_pos rfl]
        · rw [if_neg (by omega), mI_Us, if_pos rfl]
      have yes : o (i : Int) = p + 1 ∧ gsh w h p 0 (i : Int) → fX14_won_b4 M1 p n (i : Int) = some (.inl (n + 1, (i : Int) + 1, mUI (mUI M1 241 (i : Int).toNat 1) 240 n.toNat (i : Int))) := by
        rintro ⟨ho, hz⟩
        unfold fX14_won_b4
        rw [Q_cells P1, if_pos i1, if_pos (show 0 ≤ (i : Int) ∧ (i : Int) < 81 by omega), hst, if_pos (by omega), Q_sh P1 p 0 i0 i1, if_pos hz, bd1_s, if_neg (by omega), mI_Us, if_neg (by omega), if_pos (show 0 ≤ n ∧ n < 81 by omega)]
      by_cases hz : o (i : Int) = p + 1 ∧ gsh w h p 0 (i : Int)
      · rw [yes hz]
        clear yes no
        have hw := gW_base (o := o) (p := p) (s := 0) (c := (i : Int)) ⟨i0, i1, Or.inr hz.1⟩ hz.2
        rw [gcost0 (by omega)] at hw
        refine ⟨(_, _, _), rfl, rfl, ?_, ?_, fun j j0 j1 => ?_, fun c c0 c1 hc => ?_, ?_, fun c c0 c1 ho hs => ?_⟩
        · exact (h2.up (Or.inr rfl)).up (Or.inl rfl)
        · show 0 ≤ n + 1; omega
        · show gW w h o p 0 (mI (mUI (mUI M1 241 (i : Int).toNat 1) 240 n.toNat (i : Int)) 240 j.toNat) 0
          rw [mI_Z _ _ _ n0 j0, mI_Un (by omega)]
          by_cases e : j = n
          · rw [if_pos e]; exact hw
          · rw [if_neg e]; exact h3 j j0 (by have : j < n + 1 := j1; omega)
        · have hc : mI (mUI (mUI M1 241 (i : Int).toNat 1) 240 n.toNat (i : Int)) 241 c.toNat ≠ 0 := hc
          show ∃ j : Int, 0 ≤ j ∧ j < n + 1 ∧ mI (mUI (mUI M1 241 (i : Int).toNat 1) 240 n.toNat (i : Int)) 240 j.toNat = c
          rw [mI_Un (by omega), mI_Z _ _ _ i0 c0] at hc
          by_cases e : c = (i : Int)
          · exact ⟨n, n0, by omega, by rw [mI_Z _ _ _ n0 n0, if_pos rfl, e]⟩
          · rw [if_neg e] at hc
            obtain ⟨j, j0, j1, z⟩ := h4 c c0 (by omega) hc
            exact ⟨j, j0, by omega, by rw [mI_Z _ _ _ n0 j0, if_neg (by omega), mI_Un (by omega)]; exact z⟩
        · show gcn (fun c => mI (mUI (mUI M1 241 (i : Int).toNat 1) 240 n.toNat (i : Int)) 241 c.toNat ≠ 0) (i + 1) = n + 1
          rw [gcn_s (P := fun c => mI (mUI (mUI M1 241 (i : Int).toNat 1) 240 n.toNat (i : Int)) 241 c.toNat ≠ 0) (by rw [mI_Un (by omega), mI_Us]; decide)]
          rw [gcn_c (Q := fun c => mI M1 241 c.toNat ≠ 0) i (fun c c0 c1 => by rw [mI_Un (by omega), mI_Z _ _ _ i0 c0, if_neg (by omega)]), h5]
        · show mI (mUI (mUI M1 241 (i : Int).toNat 1) 240 n.toNat (i : Int)) 241 c.toNat ≠ 0
          rw [mI_Un (by omega), mI_Z _ _ _ i0 c0]
          by_cases e : c = (i : Int)
          · rw [if_pos e]; decide
          · rw [if_neg e]; exact h6 c c0 (by omega) ho hs
      · rw [no hz]
        clear yes no
        refine ⟨(_, _, _), rfl, rfl, h2.up (Or.inr rfl), n0, fun j j0 j1 => ?_, fun c c0 c1 hc => ?_, ?_, fun c c0 c1 ho hs => ?_⟩
        · show gW w h o p 0 (mI (mUI M1 241 (i : Int).toNat 0) 240 j.toNat) 0
          rw [mI_Un (by omega)]
          exact h3 j j0 j1
        · have hc : mI (mUI M1 241 (i : Int).toNat 0) 241 c.toNat ≠ 0 := hc
          show ∃ j : Int, 0 ≤ j ∧ j < n ∧ mI (mUI M1 241 (i : Int).toNat 0) 240 j.toNat = c
          rw [mI_Z _ _ _ i0 c0] at hc
          by_cases e : c = (i : Int)
          · rw [if_pos e] at hc; exact absurd rfl hc
          · rw [if_neg e] at hc
            obtain ⟨j, j0, j1, z⟩ := h4 c c0 (by omega) hc
            exact ⟨j, j0, j1, by rw [mI_Un (by omega)]; exact z⟩
        · show gcn (fun c => mI (mUI M1 241 (i : Int).toNat 0) 241 c.toNat ≠ 0) (i + 1) = n
          rw [gcn_n (P := fun c => mI (mUI M1 241 (i : Int).toNat 0) 241 c.toNat ≠ 0) (by rw [mI_Us]; decide)]
          rw [gcn_c (Q := fun c => mI M1 241 c.toNat ≠ 0) i (fun c c0 c1 => by rw [mI_Z _ _ _ i0 c0, if_neg (by omega)]), h5]
        · show mI (mUI M1 241 (i : Int).toNat 0) 241 c.toNat ≠ 0
          rw [mI_Z _ _ _ i0 c0]
          by_cases e : c = (i : Int)
          · subst e; exact absurd ⟨ho, hs⟩ hz
          · rw [if_neg e]; exact h6 c c0 (by omega) ho hs
    · rintro ⟨n, x, M1⟩ ⟨hx, h2, n0, h3, h4, h5, h6⟩
      have hx : x = ((w * h).toNat : Int) := hx
      subst hx
      have P1 := P.fr (show Fr sV M M1 from h2) sV_pond
      refine ⟨(n, M1), ?_, ⟨n0, h3, fun c c0 c1 => h4 c c0 (by omega), h5, fun c c0 c1 => h6 c c0 (by omega)⟩, h2⟩
      show fX14_won_b4 M1 p n ((w * h).toNat : Int) = _
      unfold fX14_won_b4
      rw [Q_cells P1, if_neg (by omega)]
  obtain ⟨r, e, k⟩ := key
  exact ⟨r.2, r.1, e, k⟩
theorem Q_won (P : Md M w h o) (hp : 0 ≤ p) : ∃ M', fX14_won M p = some (gat (gwon w h o p), M') ∧ Fr sV M M' := by
  have hN := gOk_le P.1
  obtain ⟨M1, n1, e1, g1, g2⟩ := gV_first P hp
  have key : ∃ r, lp (fun s => fX14_won_b73 s.2.2 p s.1 s.2.1) lpN (n1, 0, M1) = some r ∧ ((∃ M', r = .inl M' ∧ Fr sV M M' ∧ gwon w h o p) ∨ (∃ M', r = .inr M' ∧ Fr sV M M' ∧ ¬ gwon w h o p)) := by
    refine lpn 81 (by omega) (fun i x => x.2.1 = (i : Int) ∧ (i : Int) ≤ x.1 ∧ gV x.2.2 w h o p x.1 ∧ Fr sV M x.2.2 ∧ (∀ j : Int, 0 ≤ j → j < (i : Int) → ¬ gsh w h p 1 (mI x.2.2 240 j.toNat)) ∧ ∀ j t : Int, 0 ≤ j → j < (i : Int) → 0 ≤ t → t < 6 → 0 ≤ gbs w h (mI x.2.2 240 j.toNat) t → o (gbs w h (mI x.2.2 240 j.toNat) t) = p + 1 → mI x.2.2 241 (gbs w h (mI x.2.2 240 j.toNat) t).toNat ≠ 0) _ _ ⟨rfl, g1.1, g1, g2, fun j j0 j1 => by omega, fun j t j0 j1 => by omega⟩ ?_ ?_
    · rintro i ⟨n', x, M2⟩ hi ⟨hx, h0, h1, h2, h3, h4⟩
      have hx : x = (i : Int) := hx
      subst hx
      have h0 : (i : Int) ≤ n' := h0
      have h1 : gV M2 w h o p n' := h1
      have h2 : Fr sV M M2 := h2
      have h3 : ∀ j : Int, 0 ≤ j → j < (i : Int) → ¬ gsh w h p 1 (mI M2 240 j.toNat) := h3
      have hn : n' ≤ w * h := gV_le P.1 h1
      have P2 := P.fr h2 sV_pond
      show (∃ r, fX14_won_b73 M2 p n' (i : Int) = some (.inr r) ∧ _) ∨ (∃ s', fX14_won_b73 M2 p n' (i : Int) = some (.inl s') ∧ _)
      unfold fX14_won_b73
      by_cases hlt : (i : Int) < n'
      · have hw := h1.2.1 (i : Int) (by omega) hlt
        have hal := (gW_al hw).1
        rw [if_pos hlt, if_pos (show 0 ≤ (i : Int) ∧ (i : Int) < 81 by omega), Q_sh P2 p 1 hal.1 hal.2.1, bd1_s]
        by_cases hz : gsh w h p 1 (mI M2 240 (i : Int).toNat)
        · left
          rw [if_pos hz, if_neg (by omega)]
          exact ⟨_, rfl, Or.inl ⟨M2, rfl, h2, _, hz, hw⟩⟩
        · right
          obtain ⟨M3, n3, f1, f2, f3, f4, f5, f6, f7⟩ := gV_sides (i := (i : Int)) P2 hp h1 (by omega) hlt
          rw [if_neg hz, if_pos rfl, f1]
          refine ⟨(n3, (i : Int) + 1, M3), rfl, by show (i : Int) + 1 = ((i + 1 : Nat) : Int); omega, by show ((i + 1 : Nat) : Int) ≤ n3; omega, f2, h2.trans f3, fun j j0 j1 => ?_, fun j t j0 j1 t0 t1 z0 zo => ?_⟩
          · show ¬ gsh w h p 1 (mI M3 240 j.toNat)
            rw [f5 j j0 (by omega)]
            by_cases e : j = (i : Int)
            · subst e; exact hz
            · exact h3 j j0 (by omega)
          · show mI M3 241 (gbs w h (mI M3 240 j.toNat) t).toNat ≠ 0
            have z0 : 0 ≤ gbs w h (mI M3 240 j.toNat) t := z0
            have zo : o (gbs w h (mI M3 240 j.toNat) t) = p + 1 := zo
            rw [f5 j j0 (by omega)] at z0 zo ⊢
            by_cases e : j = (i : Int)
            · subst e; exact f7 t t0 t1 z0 zo
            · exact f6 _ z0 (h4 j t j0 (by omega) t0 t1 z0 zo)
      · left
        rw [if_neg hlt]
        refine ⟨_, rfl, Or.inr ⟨M2, rfl, h2, ?_⟩⟩
        obtain rfl : n' = (i : Int) := by omega
        rintro ⟨z, z1, z2⟩
        obtain ⟨q2, q3, q4, q5, q6⟩ := h1
        have key : ∀ c n, gW w h o p 0 c n → n = 0 → mI M2 241 c.toNat ≠ 0 := by
          intro c n hc hn0
          refine gW_ind (Q := fun c n => n = 0 → mI M2 241 c.toNat ≠ 0) (fun c a b e => ?_) (fun b m t c hb ih t0 t1 e a hm => ?_) hc hn0
          · obtain ⟨a0, a1, a2⟩ := a
            rcases gcost_b o c with y | y
            · omega
            · exact q6 c a0 a1 (by omega) b
          · have hbal := gW_al hb
            obtain ⟨a0, a1, a2⟩ := a
            rcases gcost_b o c with y | y
            · omega
            · obtain ⟨j, j0, j1, ej⟩ := q4 b hbal.1.1 hbal.1.2.1 (ih (by omega))
              have h4 : 0 ≤ gbs w h (mI M2 240 j.toNat) t → o (gbs w h (mI M2 240 j.toNat) t) = p + 1 → mI M2 241 (gbs w h (mI M2 240 j.toNat) t).toNat ≠ 0 := h4 j t j0 j1 t0 t1
              rw [ej, e] at h4
              exact h4 a0 (by omega)
        have hal := (gW_al z2).1
        obtain ⟨j, j0, j1, ej⟩ := q4 z hal.1 hal.2.1 (key z 0 z2 rfl)
        exact h3 j j0 j1 (by rw [ej]; exact z1)
    · rintro ⟨n', x, M2⟩ ⟨hx, h0, h1, h2, h3, h4⟩
      have hx : x = ((81 : Nat) : Int) := hx
      subst hx
      have h0 : ((81 : Nat) : Int) ≤ n' := h0
      have h1 : gV M2 w h o p n' := h1
      have h3 : ∀ j : Int, 0 ≤ j → j < ((81 : Nat) : Int) → ¬ gsh w h p 1 (mI M2 240 j.toNat) := h3
      have hn : n' ≤ w * h := gV_le P.1 h1
      refine ⟨.inr M2, ?_, Or.inr ⟨M2, rfl, h2, ?_⟩⟩
      · show fX14_won_b73 M2 p n' ((81 : Nat) : Int) = _
        unfold fX14_won_b73
        rw [if_neg (by omega)]
      · obtain rfl : n' = ((81 : Nat) : Int) := by omega
        rintro ⟨z, z1, z2⟩
        obtain ⟨q2, q3, q4, q5, q6⟩ := h1
        have key : ∀ c n, gW w h o p 0 c n → n = 0 → mI M2 241 c.toNat ≠ 0 := by
          intro c n hc hn0
          refine gW_ind (Q := fun c n => n = 0 → mI M2 241 c.toNat ≠ 0) (fun c a b e => ?_) (fun b m t c hb ih t0 t1 e a hm => ?_) hc hn0
          · obtain ⟨a0, a1, a2⟩ := a
            rcases gcost_b o c with y | y
            · omega
            · exact q6 c a0 a1 (by omega) b
          · have hbal := gW_al hb
            obtain ⟨a0, a1, a2⟩ := a
            rcases gcost_b o c with y | y
            · omega
            · obtain ⟨j, j0, j1, ej⟩ := q4 b hbal.1.1 hbal.1.2.1 (ih (by omega))
              have h4 : 0 ≤ gbs w h (mI M2 240 j.toNat) t → o (gbs w h (mI M2 240 j.toNat) t) = p + 1 → mI M2 241 (gbs w h (mI M2 240 j.toNat) t).toNat ≠ 0 := h4 j t j0 j1 t0 t1
              rw [ej, e] at h4
              exact h4 a0 (by omega)
        have hal := (gW_al z2).1
        obtain ⟨j, j0, j1, ej⟩ := q4 z hal.1 hal.2.1 (key z 0 z2 rfl)
        exact h3 j j0 j1 (by rw [ej]; exact z1)
  obtain ⟨r, e, q⟩ := key
  unfold fX14_won
  rw [e1, bd1_s]
  show ∃ M', bdS (lp (fun s => fX14_won_b73 s.2.2 p s.1 s.2.1) lpN (n1, 0, M1)) _ _ = _ ∧ _
  rw [e]
  rcases q with ⟨M', rfl, f, q⟩ | ⟨M', rfl, f, q⟩
  · exact ⟨M', by rw [gat_t q]; rfl, f⟩
  · exact ⟨M', by rw [gat_f q]; rfl, f⟩
end MWON
