/-! part C: the model's groups -/
theorem bd1_s {α β : Type} (a : α) (f : α → Option β) : bd1 (some a) f = f a := rfl
theorem bd2_s {α β γ : Type} (a : α) (b : β) (f : α → β → Option γ) : bd2 (some (a, b)) f = f a b := rfl
theorem bdS_l {α β γ : Type} (a : α) (f : α → Option γ) (g : β → Option γ) : bdS (some (.inl a)) f g = f a := rfl
theorem bdS_r {α β γ : Type} (b : β) (f : α → Option γ) (g : β → Option γ) : bdS (some (.inr b)) f g = g b := rfl
/-- a cell's entry is set: what an entry then holds -/
theorem mI_Z (M : ax_M) (k : Nat) (v : Int) {a c : Int} (a0 : 0 ≤ a) (c0 : 0 ≤ c) : mI (mUI M k a.toNat v) k c.toNat = if c = a then v else mI M k c.toNat := by
  rw [mI_U]
  by_cases e : c = a
  · rw [if_pos ⟨rfl, by rw [e]⟩, if_pos e]
  · rw [if_neg (by omega), if_neg e]
def sS : Nat → Nat → Prop := fun k _ => k = 238 ∨ k = 240
def sM : Nat → Nat → Prop := fun k j => (236 ≤ k ∧ k ≤ 242) ∨ (k = 203 ∧ j = 25)
theorem sM_pond : ∀ k j, (k = 208 ∧ j < 2) ∨ k = 233 → ¬ sM k j := by
  intro k j h1 h2
  unfold sM at h2
  omega
theorem sS_pond : ∀ k j, (k = 208 ∧ j < 2) ∨ k = 233 → ¬ sS k j := by
  intro k j h1 h2
  unfold sS at h2
  omega
theorem sS_M : ∀ k j, sS k j → sM k j := by
  intro k j h
  unfold sS at h
  unfold sM
  omega
/-- while a group is spread: n are in line -/
def gS (M : ax_M) (w h : Int) (o : Int → Int) (v : Int) (g0 : Int → Int) (g st n : Int) : Prop :=
  0 ≤ n ∧ (∀ j : Int, 0 ≤ j → j < n → gG w h o v st (mI M 240 j.toNat) ∧ mI M 238 (mI M 240 j.toNat).toNat = g) ∧
  (∀ c : Int, 0 ≤ c → c < w * h → g0 c = -1 → mI M 238 c.toNat ≠ -1 → mI M 238 c.toNat = g ∧ ∃ j : Int, 0 ≤ j ∧ j < n ∧ mI M 240 j.toNat = c) ∧
  (∀ c : Int, 0 ≤ c → c < w * h → g0 c ≠ -1 → mI M 238 c.toNat = g0 c) ∧
  gcn (fun c => mI M 238 c.toNat ≠ -1) (w * h).toNat = gcn (fun c => g0 c ≠ -1) (w * h).toNat + n
section MGR
variable {M : ax_M} {w h : Int} {o : Int → Int} {v g : Int} {g0 : Int → Int} {st n : Int}
theorem gS_le (k : gOk w h) (H : gS M w h o v g0 g st n) : n ≤ w * h := by
  obtain ⟨_, _, _, _, e⟩ := H
  have h1 := gcn_b (fun c => mI M 238 c.toNat ≠ -1) (w * h).toNat
  have h2 := gcn_b (fun c => g0 c ≠ -1) (w * h).toNat
  have := gOk_le k
  omega
theorem gS_add {a : Int} (k : gOk w h) (hg : g ≠ -1) (H : gS M w h o v g0 g st n) (ha : gG w h o v st a) (hm : mI M 238 a.toNat = -1) : n < w * h ∧ gS (mUI (mUI M 238 a.toNat g) 240 n.toNat a) w h o v g0 g st (n + 1) ∧ Fr sS M (mUI (mUI M 238 a.toNat g) 240 n.toNat a) ∧ (∀ j : Int, 0 ≤ j → j < n → mI (mUI (mUI M 238 a.toNat g) 240 n.toNat a) 240 j.toNat = mI M 240 j.toNat) ∧ mI (mUI (mUI M 238 a.toNat g) 240 n.toNat a) 238 a.toNat ≠ -1 ∧ (∀ c : Int, 0 ≤ c → mI M 238 c.toNat ≠ -1 → mI (mUI (mUI M 238 a.toNat g) 240 n.toNat a) 238 c.toNat ≠ -1) := by
  obtain ⟨q2, q3, q4, q5, q6⟩ := H
  have hN := gOk_le k
  obtain ⟨au, a0, a1⟩ := gC_mem k ha
  have hz := gcn_lt (P := fun c => mI M 238 c.toNat ≠ -1) (w * h).toNat a0 (by omega) (fun z => z hm)
  have h2 := gcn_b (fun c => g0 c ≠ -1) (w * h).toNat
  generalize eM : mUI (mUI M 238 a.toNat g) 240 n.toNat a = M'
  have r238 : ∀ c : Int, 0 ≤ c → mI M' 238 c.toNat = if c = a then g else mI M 238 c.toNat := fun c hc => by
    rw [← eM, mI_Un (by omega), mI_Z _ _ _ a0 hc]
  have r240 : ∀ j : Int, 0 ≤ j → mI M' 240 j.toNat = if j = n then a else mI M 240 j.toNat := fun c hc => by
    rw [← eM, mI_Z _ _ _ q2 hc, mI_Un (by omega)]
  have mono : ∀ c : Int, 0 ≤ c → mI M 238 c.toNat ≠ -1 → mI M' 238 c.toNat ≠ -1 := fun c hc hz => by
    rw [r238 c hc]
    split
    · exact hg
    · exact hz
  have ma : mI M' 238 a.toNat = g := by rw [r238 a a0, if_pos rfl]
  refine ⟨by omega, ⟨by omega, fun j j0 j1 => ?_, fun c c0 c1 hc hz => ?_, fun c c0 c1 hc => ?_, ?_⟩, ?_, fun j j0 j1 => ?_, by rw [ma]; exact hg, mono⟩
  · rw [r240 j j0]
    by_cases e : j = n
    · rw [if_pos e]; exact ⟨ha, ma⟩
    · rw [if_neg e]
      obtain ⟨u1, u2⟩ := q3 j j0 (by omega)
      refine ⟨u1, ?_⟩
      rw [r238 _ (gC_nn u1), u2]
      split <;> rfl
  · by_cases e : c = a
    · exact ⟨by rw [e]; exact ma, n, q2, by omega, by rw [r240 n q2, if_pos rfl, e]⟩
    · rw [r238 c c0, if_neg e] at hz ⊢
      obtain ⟨u1, j, j0, j1, z⟩ := q4 c c0 c1 hc hz
      exact ⟨u1, j, j0, by omega, by rw [r240 j j0, if_neg (by omega)]; exact z⟩
  · rw [r238 c c0]
    by_cases e : c = a
    · have := q5 c c0 c1 hc
      rw [e] at this hc
      omega
    · rw [if_neg e]; exact q5 c c0 c1 hc
  · rw [gcn_add (P := fun c => mI M 238 c.toNat ≠ -1) (c0 := a) (w * h).toNat a0 (by omega) (fun z => z hm) (by rw [ma]; exact hg) (fun c c0 c1 e => by rw [r238 c c0, if_neg e]), q6]
    omega
  · subst eM
    exact ((Fr.refl _ _).up (Or.inl rfl)).up (Or.inr rfl)
  · rw [r240 j j0, if_neg (by omega)]
theorem gS_sides {i : Int} (P : Md M w h o) (hst : o st = v) (s0 : 0 ≤ st) (s1 : st < w * h) (hg : mI M 203 25 = g) (hg1 : g ≠ -1) (H : gS M w h o v g0 g st n) (i0 : 0 ≤ i) (i1 : i < n) : ∃ M' n', lp (fun s => fX14_spread_b29 s.2.2 st i s.1 s.2.1) lpN (n, 0, M) = some (n', M') ∧ gS M' w h o v g0 g st n' ∧ Fr sS M M' ∧ n ≤ n' ∧ (∀ j : Int, 0 ≤ j → j < n → mI M' 240 j.toNat = mI M 240 j.toNat) ∧ (∀ c : Int, 0 ≤ c → mI M 238 c.toNat ≠ -1 → mI M' 238 c.toNat ≠ -1) ∧ (∀ t : Int, 0 ≤ t → t < 6 → 0 ≤ gbs w h (mI M 240 i.toNat) t → o (gbs w h (mI M 240 i.toNat) t) = v → mI M' 238 (gbs w h (mI M 240 i.toNat) t).toNat ≠ -1) := by
  have hN := gOk_le P.1
  have key : ∃ r, lp (fun s => fX14_spread_b29 s.2.2 st i s.1 s.2.1) lpN (n, 0, M) = some r ∧ gS r.2 w h o v g0 g st r.1 ∧ Fr sS M r.2 ∧ n ≤ r.1 ∧ (∀ j : Int, 0 ≤ j → j < n → mI r.2 240 j.toNat = mI M 240 j.toNat) ∧ (∀ c : Int, 0 ≤ c → mI M 238 c.toNat ≠ -1 → mI r.2 238 c.toNat ≠ -1) ∧ (∀ t : Int, 0 ≤ t → t < 6 → 0 ≤ gbs w h (mI M 240 i.toNat) t → o (gbs w h (mI M 240 i.toNat) t) = v → mI r.2 238 (gbs w h (mI M 240 i.toNat) t).toNat ≠ -1) := by
    refine lpn 6 (by omega) (fun s x => x.2.1 = (s : Int) ∧ gS x.2.2 w h o v g0 g st x.1 ∧ Fr sS M x.2.2 ∧ n ≤ x.1 ∧ (∀ j : Int, 0 ≤ j → j < n → mI x.2.2 240 j.toNat = mI M 240 j.toNat) ∧ (∀ c : Int, 0 ≤ c → mI M 238 c.toNat ≠ -1 → mI x.2.2 238 c.toNat ≠ -1) ∧ (∀ t : Int, 0 ≤ t → t < (s : Int) → 0 ≤ gbs w h (mI M 240 i.toNat) t → o (gbs w h (mI M 240 i.toNat) t) = v → mI x.2.2 238 (gbs w h (mI M 240 i.toNat) t).toNat ≠ -1)) _ _ ⟨rfl, H, Fr.refl _ _, Int.le_refl _, fun _ _ _ => rfl, fun _ _ z => z, fun t t0 t1 => by omega⟩ ?_ ?_
    · rintro s ⟨n', x, M1⟩ hs ⟨hx, h1, h2, h3, h4, h5, h6⟩
      right
      have hx : x = (s : Int) := hx
      subst hx
      have P1 := P.fr h2 sS_pond
      have hnn := gS_le P.1 h1
      obtain ⟨_, q3, _⟩ := H
      have hmem := gC_mem P.1 (q3 i i0 i1).1
      have i2 : i < 81 := by have : n ≤ n' := h3; have : n' ≤ w * h := hnn; omega
      have hg2 : mI M1 203 25 = g := by rw [h2.2 203 25 (by unfold sS; omega)]; exact hg
      show ∃ s', fX14_spread_b29 M1 st i n' (s : Int) = some (.inl s') ∧ _
      unfold fX14_spread_b29
      rw [if_pos (by omega), if_pos ⟨i0, i2⟩, h4 i i0 i1, Q_bs P1 hmem.2.1 hmem.2.2 (by omega) (by omega), bd1_s]
      generalize hb : gbs w h (mI M 240 i.toNat) (s : Int) = b
      have hbr := gbs_range P.1 (mI M 240 i.toNat) (s : Int)
      rw [hb] at hbr
      have b3 : ¬ b = -1 → 0 ≤ b ∧ b < w * h ∧ b < 81 := by omega
      have st3 : 0 ≤ st ∧ st < 81 := by omega
      have ho1 : o b = v → o b - 1 = v - 1 := fun e => by rw [e]
      have ho2 : ¬ o b = v → ¬ (o b - 1 = v - 1) := by omega
      have hs0 : 0 ≤ (s : Int) ∧ (s : Int) < 6 := by omega
      have same : o b ≠ v ∨ b = -1 ∨ mI M1 238 b.toNat ≠ -1 → ∃ s' : Int × Int × ax_M, some (Sum.inl (n', (s : Int) + 1, M1)) = some (Sum.inl s' : (Int × Int × ax_M) ⊕ (Int × ax_M)) ∧ s'.2.1 = ((s + 1 : Nat) : Int) ∧ gS s'.2.2 w h o v g0 g st s'.1 ∧ Fr sS M s'.2.2 ∧ n ≤ s'.1 ∧ (∀ j : Int, 0 ≤ j → j < n → mI s'.2.2 240 j.toNat = mI M 240 j.toNat) ∧ (∀ c : Int, 0 ≤ c → mI M 238 c.toNat ≠ -1 → mI s'.2.2 238 c.toNat ≠ -1) ∧ (∀ t : Int, 0 ≤ t → t < ((s + 1 : Nat) : Int) → 0 ≤ gbs w h (mI M 240 i.toNat) t → o (gbs w h (mI M 240 i.toNat) t) = v → mI s'.2.2 238 (gbs w h (mI M 240 i.toNat) t).toNat ≠ -1) := by
        intro hz
        refine ⟨(n', (s : Int) + 1, M1), rfl, rfl, h1, h2, h3, h4, h5, fun t t0 t1 z0 zo => ?_⟩
        by_cases e : t = (s : Int)
        · rw [e, hb] at zo z0 ⊢
          rcases hz with z | z | z
          · exact absurd zo z
          · omega
          · exact z
        · exact h6 t t0 (by omega) z0 zo
      by_cases b1 : b = -1
      · rw [if_pos b1]
        exact same (Or.inr (Or.inl b1))
      · obtain ⟨b3, b4, b5⟩ := b3 b1
        rw [if_neg b1, if_pos ⟨b3, b5⟩]
        by_cases b2 : mI M1 238 b.toNat = -1
        · rw [if_pos b2, if_pos st3, P1.2.2.2.2 b b3 b5, P1.2.2.2.2 st st3.1 st3.2, hst]
          by_cases ho : o b = v
          · clear same
            obtain ⟨g1, g2, g3, g4, g5, g6⟩ := gS_add P.1 hg1 h1 (gC_step (q3 i i0 i1).1 hs0.1 hs0.2 hb b3 ho) b2
            have h1' : 0 ≤ n' := h1.1
            have g1' : n' < w * h := g1
            rw [if_pos (ho1 ho), if_pos (show 0 ≤ n' ∧ n' < 81 by omega), hg2]
            refine ⟨(n' + 1, (s : Int) + 1, mUI (mUI M1 238 b.toNat g) 240 n'.toNat b), rfl, rfl, g2, h2.trans g3, by show n ≤ n' + 1; omega, fun j j0 j1 => (g4 j j0 (by show j < n'; omega)).trans (h4 j j0 j1), fun c c0 z => g6 c c0 (h5 c c0 z), fun t t0 t1 z0 zo => ?_⟩
            by_cases e : t = (s : Int)
            · rw [e, hb]; exact g5
            · exact g6 _ z0 (h6 t t0 (by omega) z0 zo)
          · rw [if_neg (ho2 ho)]
            exact same (Or.inl ho)
        · rw [if_neg b2]
          exact same (Or.inr (Or.inr b2))
    · rintro ⟨n', x, M1⟩ ⟨hx, h1⟩
      have hx : x = ((6 : Nat) : Int) := hx
      subst hx
      refine ⟨(n', M1), ?_, h1⟩
      show fX14_spread_b29 M1 st i n' ((6 : Nat) : Int) = _
      unfold fX14_spread_b29
      rw [if_neg (by omega)]
  obtain ⟨r, e, k⟩ := key
  exact ⟨r.2, r.1, e, k⟩
theorem Q_spread (P : Md M w h o) (s0 : 0 ≤ st) (s1 : st < w * h) (hv : o st = v) (hg : mI M 203 25 = g) (hg0 : 0 ≤ g) (hg1 : g < 82) (hd : ∀ c : Int, gG w h o v st c → mI M 238 c.toNat = -1) :
    ∃ M', fX14_spread M st = some M' ∧ Fr sM M M' ∧ mI M' 203 25 = g + 1 ∧ mI M' 239 g.toNat = gsz w h o v st ∧ (∀ k : Int, 0 ≤ k → k ≠ g → mI M' 239 k.toNat = mI M 239 k.toNat) ∧ (∀ c : Int, 0 ≤ c → c < w * h → gG w h o v st c → mI M' 238 c.toNat = g) ∧ (∀ c : Int, 0 ≤ c → c < w * h → ¬ gG w h o v st c → mI M' 238 c.toNat = mI M 238 c.toNat) := by
  have hN := gOk_le P.1
  have c0 : gG w h o v st st := gC_refl hv s0 s1
  generalize em : (fun c : Int => mI M 238 c.toNat) = g0
  have hm0 : ∀ c, g0 c = mI M 238 c.toNat := fun c => by rw [← em]
  have H0 : gS M w h o v g0 g st 0 := by
    refine ⟨Int.le_refl _, fun j j0 j1 => by omega, fun c _ _ z y => absurd (by rw [← hm0]; exact z) y, fun c _ _ z => (hm0 c).symm, ?_⟩
    rw [gcn_c (Q := fun c => g0 c ≠ -1) (w * h).toNat (fun c _ _ => by rw [hm0])]
    omega
  obtain ⟨g1, g2, g3, g4, g5, g6⟩ := gS_add P.1 (by omega) H0 c0 (hd st c0)
  have key : ∃ r, lp (fun s => fX14_spread_b21 s.2.2 st s.1 s.2.1) lpN (1, 0, mUI (mUI M 238 st.toNat g) 240 0 st) = some r ∧ gS r.2 w h o v g0 g st r.1 ∧ Fr sS M r.2 ∧ mI r.2 238 st.toNat ≠ -1 ∧ ∀ j t : Int, 0 ≤ j → j < r.1 → 0 ≤ t → t < 6 → 0 ≤ gbs w h (mI r.2 240 j.toNat) t → o (gbs w h (mI r.2 240 j.toNat) t) = v → mI r.2 238 (gbs w h (mI r.2 240 j.toNat) t).toNat ≠ -1 := by
    refine lpn 81 (by omega) (fun i x => x.2.1 = (i : Int) ∧ (i : Int) ≤ x.1 ∧ gS x.2.2 w h o v g0 g st x.1 ∧ Fr sS M x.2.2 ∧ mI x.2.2 238 st.toNat ≠ -1 ∧ ∀ j t : Int, 0 ≤ j → j < (i : Int) → 0 ≤ t → t < 6 → 0 ≤ gbs w h (mI x.2.2 240 j.toNat) t → o (gbs w h (mI x.2.2 240 j.toNat) t) = v → mI x.2.2 238 (gbs w h (mI x.2.2 240 j.toNat) t).toNat ≠ -1) _ _ ⟨rfl, by show (0 : Int) ≤ 1; omega, g2, g3, g5, fun j t j0 j1 => by omega⟩ ?_ ?_
    · rintro i ⟨n', x, M2⟩ hi ⟨hx, h0, h1, h2, h3, h4⟩
      have hx : x = (i : Int) := hx
      subst hx
      have hn : n' ≤ w * h := gS_le P.1 h1
      show (∃ r, fX14_spread_b21 M2 st n' (i : Int) = some (.inr r) ∧ _) ∨ (∃ s', fX14_spread_b21 M2 st n' (i : Int) = some (.inl s') ∧ _)
      unfold fX14_spread_b21
      by_cases hlt : (i : Int) < n'
      · right
        obtain ⟨M3, n3, f1, f2, f3, f4, f5, f6, f7⟩ := gS_sides (i := (i : Int)) (P.fr h2 sS_pond) hv s0 s1 (by rw [h2.2 203 25 (by unfold sS; omega)]; exact hg) (by omega) h1 (by omega) hlt
        rw [if_pos hlt, f1]
        refine ⟨(n3, (i : Int) + 1, M3), rfl, by show (i : Int) + 1 = ((i + 1 : Nat) : Int); omega, by show ((i + 1 : Nat) : Int) ≤ n3; omega, f2, h2.trans f3, f6 _ s0 h3, fun j t j0 j1 t0 t1 z0 zo => ?_⟩
        show mI M3 238 (gbs w h (mI M3 240 j.toNat) t).toNat ≠ -1
        have z0 : 0 ≤ gbs w h (mI M3 240 j.toNat) t := z0
        have zo : o (gbs w h (mI M3 240 j.toNat) t) = v := zo
        rw [f5 j j0 (by omega)] at z0 zo ⊢
        by_cases e : j = (i : Int)
        · subst e; exact f7 t t0 t1 z0 zo
        · exact f6 _ z0 (h4 j t j0 (by omega) t0 t1 z0 zo)
      · left
        rw [if_neg hlt]
        refine ⟨(n', M2), rfl, h1, h2, h3, fun j t j0 j1 => h4 j t j0 (by show j < (i : Int); have : j < n' := j1; omega)⟩
    · rintro ⟨n', x, M2⟩ ⟨hx, h0, h1, h2, h3, h4⟩
      have hx : x = ((81 : Nat) : Int) := hx
      subst hx
      have hn : n' ≤ w * h := gS_le P.1 h1
      refine ⟨(n', M2), ?_, h1, h2, h3, fun j t j0 j1 => h4 j t j0 (by have : j < n' := j1; omega)⟩
      show fX14_spread_b21 M2 st n' ((81 : Nat) : Int) = _
      unfold fX14_spread_b21
      rw [if_neg (by omega)]
  obtain ⟨⟨n', r⟩, e, h1, h2, h3, h4⟩ := key
  have h1 : gS r w h o v g0 g st n' := h1
  have h2 : Fr sS M r := h2
  have all : ∀ c, gG w h o v st c → mI r 238 c.toNat = g ∧ ∃ j : Int, 0 ≤ j ∧ j < n' ∧ mI r 240 j.toNat = c := by
    intro c hc
    obtain ⟨q2, q3, q4, q5, q6⟩ := h1
    have fin : ∀ c, gG w h o v st c → mI r 238 c.toNat ≠ -1 → mI r 238 c.toNat = g ∧ ∃ j : Int, 0 ≤ j ∧ j < n' ∧ mI r 240 j.toNat = c := fun c hc z => by
      have hcm := gC_mem P.1 hc
      exact q4 c hcm.2.1 hcm.2.2 (by rw [hm0]; exact hd c hc) z
    have m : mI r 238 c.toNat ≠ -1 := by
      refine gC_ind (Q := fun c => mI r 238 c.toNat ≠ -1) (fun _ _ _ => h3) (fun d t b hd' ih t0 t1 e b0 u => ?_) hc
      obtain ⟨_, j, j0, j1, ej⟩ := fin d hd' ih
      have := h4 j t j0 j1 t0 t1
      have : 0 ≤ gbs w h (mI r 240 j.toNat) t → o (gbs w h (mI r 240 j.toNat) t) = v → mI r 238 (gbs w h (mI r 240 j.toNat) t).toNat ≠ -1 := this
      rw [ej, e] at this
      exact this b0 u
    exact fin c hc m
  have new : ∀ c : Int, 0 ≤ c → c < w * h → ¬ gG w h o v st c → mI r 238 c.toNat = mI M 238 c.toNat := by
    intro c c0 c1 hc
    obtain ⟨q2, q3, q4, q5, q6⟩ := h1
    by_cases z : g0 c = -1
    · by_cases y : mI r 238 c.toNat = -1
      · rw [y, ← hm0, z]
      · obtain ⟨_, j, j0, j1, ej⟩ := q4 c c0 c1 z y
        exact absurd (ej ▸ (q3 j j0 j1).1) hc
    · rw [q5 c c0 c1 z, hm0]
  have hsz : n' = gsz w h o v st := by
    obtain ⟨q2, q3, q4, q5, q6⟩ := h1
    have e1 : gsz w h o v st = gcn (gG w h o v st) (w * h).toNat := by
      unfold gsz
      have : ∀ d : Nat, gcn (gG w h o v st) ((w * h).toNat + d) = gcn (gG w h o v st) (w * h).toNat := by
        intro d
        induction d with
        | zero => rfl
        | succ d ih =>
          rw [← Nat.add_assoc, gcn_n (fun z => by have := (gC_mem P.1 z).2.2; omega), ih]
      have := this (81 - (w * h).toNat)
      rw [show (w * h).toNat + (81 - (w * h).toNat) = 81 by omega] at this
      exact this
    have : ∀ N : Nat, N ≤ (w * h).toNat → gcn (fun c => mI r 238 c.toNat ≠ -1) N = gcn (fun c => g0 c ≠ -1) N + gcn (gG w h o v st) N := by
      intro N
      induction N with
      | zero => intro _; rfl
      | succ N ih =>
        intro hN
        have ih := ih (by omega)
        by_cases a : g0 (N : Int) ≠ -1
        · have b : ¬ gG w h o v st (N : Int) := fun z => a (by rw [hm0]; exact hd _ z)
          have c : mI r 238 (N : Int).toNat ≠ -1 := by rw [q5 _ (by omega) (by omega) a]; exact a
          rw [gcn_s (P := fun c => mI r 238 c.toNat ≠ -1) c, gcn_s (P := fun c => g0 c ≠ -1) a, gcn_n b, ih]
          omega
        · by_cases b : gG w h o v st (N : Int)
          · rw [gcn_s (P := fun c => mI r 238 c.toNat ≠ -1) (by rw [(all _ b).1]; omega), gcn_n (P := fun c => g0 c ≠ -1) a, gcn_s b, ih]
            omega
          · have c : ¬ mI r 238 (N : Int).toNat ≠ -1 := by rw [new _ (by omega) (by omega) b, ← hm0]; exact a
            rw [gcn_n (P := fun c => mI r 238 c.toNat ≠ -1) c, gcn_n (P := fun c => g0 c ≠ -1) a, gcn_n b, ih]
    have := this (w * h).toNat (Nat.le_refl _)
    omega
  have hg' : mI r 203 25 = g := by rw [h2.2 203 25 (by unfold sS; omega)]; exact hg
  refine ⟨mUI (mUI r 239 g.toNat n') 203 25 (g + 1), ?_, ?_, mI_Us _ _ _ _, ?_, fun k k0 k1 => ?_, fun c c0 c1 hc => ?_, fun c c0 c1 hc => ?_⟩
  · unfold fX14_spread
    rw [if_pos (by omega), hg]
    show bd1 (lp (fun s => fX14_spread_b21 s.2.2 st s.1 s.2.1) lpN (1, 0, mUI (mUI M 238 st.toNat g) 240 0 st)) _ = _
    rw [e]
    show (if 0 ≤ mI r 203 25 ∧ mI r 203 25 < 82 then _ else _) = _
    rw [hg', if_pos ⟨hg0, hg1⟩, mI_Un (M := r) (by omega), hg', wr_eq (by omega) (by omega)]
  · exact ((h2.mono sS_M).up (Or.inl (by omega))).up (Or.inr ⟨rfl, rfl⟩)
  · rw [mI_Un (by omega), mI_Us]; exact hsz
  · rw [mI_Un (by omega), mI_Un (by omega)]
    exact h2.2 239 _ (by unfold sS; omega)
  · rw [mI_Un (by omega), mI_Un (by omega)]
    exact (all c hc).1
  · rw [mI_Un (by omega), mI_Un (by omega)]
    exact new c c0 c1 hc
end MGR
