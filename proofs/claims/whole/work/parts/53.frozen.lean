/-! part C: frozen cells -/
/-- whose the place on a side is -/
def gar (w h : Int) (o : Int → Int) (c s : Int) : Int := if 0 ≤ c % w + gdx s ∧ c % w + gdx s < w then (if 0 ≤ c / w + gdy s ∧ c / w + gdy s < h then o (gCell w h (c % w + gdx s) (c / w + gdy s)) else 2) else (if 0 ≤ c / w + gdy s ∧ c / w + gdy s < h then 1 else 0)
def gfour (w h : Int) (o : Int → Int) (c f : Int) : Prop := gar w h o c f ≠ 0 ∧ ∀ k : Int, 0 ≤ k → k < 4 → gar w h o c ((f + k) % 6) = gar w h o c f
def gfz (w h : Int) (o : Int → Int) (c : Int) : Prop := o c = 0 ∧ ∃ f : Int, 0 ≤ f ∧ f < 6 ∧ gfour w h o c f
section FRZ
variable {M : ax_M} {w h : Int} {o : Int → Int}
theorem C_around (P : Pd M w h o) {c s : Int} (c0 : 0 ≤ c) (c1 : c < w * h) (s0 : 0 ≤ s) (s1 : s < 6) : fX8_ownerAround M (mI M 172 c.toNat) (mI M 173 c.toNat) s = gar w h o c s := by
  obtain ⟨x0, x1, y0, y1, _⟩ := gXY P.k c0 c1
  obtain ⟨k1, k2, k3, k4⟩ := P.k
  obtain ⟨d1, d2, d3, d4⟩ := gdb s
  obtain ⟨e1, e2⟩ := P.1.2.2.2.2 c c0 c1
  unfold fX8_ownerAround gar
  rw [e1, e2, (gA1 s0 s1).1, (gA1 s0 s1).2, P.1.2.1, P.1.2.2.1, if_neg (by omega), if_pos s1, wr_eq (x := c % w + gdx s) (by omega) (by omega), wr_eq (x := c / w + gdy s) (by omega) (by omega), P_cellAt P.1, P_own P]
  by_cases a : c % w + gdx s < 0
  · rw [if_pos a, if_neg (show ¬ (0 ≤ c % w + gdx s ∧ c % w + gdx s < w) by omega)]
    by_cases b : c / w + gdy s < 0
    · rw [if_pos b, if_neg (by omega)]
    · rw [if_neg b]
      by_cases b2 : c / w + gdy s < h
      · rw [if_pos b2, if_pos (by omega)]
      · rw [if_neg b2, if_neg (by omega)]
  · rw [if_neg a]
    by_cases a2 : c % w + gdx s < w
    · rw [if_pos a2, if_pos (show 0 ≤ c % w + gdx s ∧ c % w + gdx s < w by omega)]
      by_cases b : c / w + gdy s < 0
      · rw [if_pos b, if_neg (by omega)]
      · rw [if_neg b]
        by_cases b2 : c / w + gdy s < h
        · rw [if_pos b2, if_pos (by omega)]
        · rw [if_neg b2, if_neg (by omega)]
    · rw [if_neg a2, if_neg (show ¬ (0 ≤ c % w + gdx s ∧ c % w + gdx s < w) by omega)]
      by_cases b : c / w + gdy s < 0
      · rw [if_pos b, if_neg (by omega)]
      · rw [if_neg b]
        by_cases b2 : c / w + gdy s < h
        · rw [if_pos b2, if_pos (by omega)]
        · rw [if_neg b2, if_neg (by omega)]
theorem C_iced (P : Pd M w h o) {c : Int} (c0 : 0 ≤ c) (c1 : c < w * h) : fX8_isIced M c = some (gat (gfz w h o c)) := by
  have hN := P.n
  have c2 : 0 ≤ c ∧ c < 81 := by omega
  unfold fX8_isIced
  rw [P_has1 P.1 c0 c1, if_neg (by omega), if_pos c2, P.2.2.1 c c0 c2.2]
  by_cases ho : o c = 0
  · rw [if_pos ho]
    generalize hR : (fun t : Int => gar w h o c (t % 6)) = R
    have hR' : ∀ t : Int, gar w h o c (t % 6) = R t := fun t => by rw [← hR]
    have key : ∃ r, lp (fun q => fX8_isIced_b26 M c q.1 q.2.1 q.2.2) lpN (0, 0, 0) = some r ∧ ((r = .inl () ∧ ∃ t : Int, 3 ≤ t ∧ t < 9 ∧ R t ≠ 0 ∧ R (t - 1) = R t ∧ R (t - 2) = R t ∧ R (t - 3) = R t) ∨ (r = .inr () ∧ ¬ ∃ t : Int, 3 ≤ t ∧ t < 9 ∧ R t ≠ 0 ∧ R (t - 1) = R t ∧ R (t - 2) = R t ∧ R (t - 3) = R t)) := by
      refine lpn 9 (by omega) (fun i q => q.2.2 = (i : Int) ∧ 0 ≤ q.1 ∧ q.1 ≤ (i : Int) ∧ (i = 0 → q.2.1 = 0) ∧ (i ≠ 0 → q.2.1 = R ((i : Int) - 1)) ∧ (q.2.1 ≠ 0 → 1 ≤ q.1 ∧ q.1 ≤ 3 ∧ (2 ≤ q.1 → R ((i : Int) - 2) = q.2.1) ∧ (3 ≤ q.1 → R ((i : Int) - 3) = q.2.1) ∧ (q.1 = (i : Int) ∨ R ((i : Int) - 1 - q.1) ≠ q.2.1)) ∧ ∀ t : Int, 3 ≤ t → t < (i : Int) → R t ≠ 0 → R (t - 1) = R t → R (t - 2) = R t → R (t - 3) ≠ R t) _ _ ⟨rfl, Int.le_refl _, Int.le_refl _, fun _ => rfl, fun z => absurd rfl z, fun z => absurd rfl z, fun t a b => by omega⟩ ?_ ?_
      · rintro i ⟨x, y, z⟩ hi ⟨hz, h1, h2, h3, h4, h5, h6⟩
        have hz : z = (i : Int) := hz
        subst hz
        have h1 : 0 ≤ x := h1
        have h2 : x ≤ (i : Int) := h2
        have h3 : i = 0 → y = 0 := h3
        have h4 : i ≠ 0 → y = R ((i : Int) - 1) := h4
        have h5 : y ≠ 0 → 1 ≤ x ∧ x ≤ 3 ∧ (2 ≤ x → R ((i : Int) - 2) = y) ∧ (3 ≤ x → R ((i : Int) - 3) = y) ∧ (x = (i : Int) ∨ R ((i : Int) - 1 - x) ≠ y) := h5
        have em : Int.tmod (i : Int) 6 = (i : Int) % 6 := (gtm (by omega)).1
        show (∃ r, fX8_isIced_b26 M c x y (i : Int) = some (.inr r) ∧ _) ∨ (∃ s', fX8_isIced_b26 M c x y (i : Int) = some (.inl s') ∧ _)
        unfold fX8_isIced_b26
        rw [if_pos (by omega), if_pos c2, em, C_around P c0 c1 (by omega) (by omega), hR']
        -- what the next state asks
        have nxt : ∀ x' : Int, 1 ≤ x' → x' ≤ (i : Int) + 1 → (R (i : Int) ≠ 0 → x' ≤ 3 ∧ (2 ≤ x' → R ((i : Int) - 1) = R (i : Int)) ∧ (3 ≤ x' → R ((i : Int) - 2) = R (i : Int)) ∧ (x' = (i : Int) + 1 ∨ R ((i : Int) - x') ≠ R (i : Int))) → ∃ s' : Int × Int × Int, (some (Sum.inl (x', R (i : Int), (i : Int) + 1)) : Option ((Int × Int × Int) ⊕ (Unit ⊕ Unit))) = some (Sum.inl s') ∧ (s'.2.2 = ((i + 1 : Nat) : Int) ∧ 0 ≤ s'.1 ∧ s'.1 ≤ ((i + 1 : Nat) : Int) ∧ (i + 1 = 0 → s'.2.1 = 0) ∧ (i + 1 ≠ 0 → s'.2.1 = R (((i + 1 : Nat) : Int) - 1)) ∧ (s'.2.1 ≠ 0 → 1 ≤ s'.1 ∧ s'.1 ≤ 3 ∧ (2 ≤ s'.1 → R (((i + 1 : Nat) : Int) - 2) = s'.2.1) ∧ (3 ≤ s'.1 → R (((i + 1 : Nat) : Int) - 3) = s'.2.1) ∧ (s'.1 = ((i + 1 : Nat) : Int) ∨ R (((i + 1 : Nat) : Int) - 1 - s'.1) ≠ s'.2.1)) ∧ ∀ t : Int, 3 ≤ t → t < ((i + 1 : Nat) : Int) → R t ≠ 0 → R (t - 1) = R t → R (t - 2) = R t → R (t - 3) ≠ R t) := by
          intro x' a1 a2 a3
          refine ⟨(x', R (i : Int), (i : Int) + 1), rfl, rfl, by show 0 ≤ x'; omega, by show x' ≤ ((i + 1 : Nat) : Int); omega, fun z => by omega, fun _ => ?_, fun hz => ?_, fun t t0 t1 u1 u2 u3 u4 => ?_⟩
          · show R (i : Int) = R (((i + 1 : Nat) : Int) - 1)
            rw [show ((i + 1 : Nat) : Int) - 1 = (i : Int) by omega]
          · obtain ⟨b1, b2, b3, b4⟩ := a3 hz
            refine ⟨a1, b1, fun q => ?_, fun q => ?_, ?_⟩
            · rw [show ((i + 1 : Nat) : Int) - 2 = (i : Int) - 1 by omega]; exact b2 q
            · rw [show ((i + 1 : Nat) : Int) - 3 = (i : Int) - 2 by omega]; exact b3 q
            · show x' = ((i + 1 : Nat) : Int) ∨ R (((i + 1 : Nat) : Int) - 1 - x') ≠ R (i : Int)
              rw [show ((i + 1 : Nat) : Int) - 1 - x' = (i : Int) - x' by omega]
              rcases b4 with q | q
              · exact Or.inl (by omega)
              · exact Or.inr q
          · by_cases e : t = (i : Int)
            · subst e
              obtain ⟨b1, b2, b3, b4⟩ := a3 u1
              rcases b4 with q | q
              · omega
              · rcases (show x' = 1 ∨ x' = 2 ∨ x' = 3 by omega) with rfl | rfl | rfl
                · exact q u2
                · exact q u3
                · exact q u4
            · exact h6 t t0 (by omega) u1 u2 u3 u4
        by_cases e1 : R (i : Int) = y
        · rw [if_pos e1, wr_eq (x := x + 1) (by omega) (by omega)]
          by_cases e2 : R (i : Int) = 0
          · rw [if_pos e2]
            exact Or.inr (nxt (x + 1) (by omega) (by omega) (fun q => absurd e2 q))
          · rw [if_neg e2]
            have i1 : i ≠ 0 := fun q => e2 (e1.trans (h3 q))
            obtain ⟨b1, b2, b3, b4, b5⟩ := h5 (by rw [← e1]; exact e2)
            have h4 := h4 i1
            by_cases e3 : x + 1 < 4
            · rw [if_pos e3]
              refine Or.inr (nxt (x + 1) (by omega) (by omega) (fun _ => ⟨by omega, fun _ => by rw [← h4]; exact e1.symm, fun q => by rw [e1]; exact b3 (by omega), ?_⟩))
              rcases b5 with q | q
              · exact Or.inl (by omega)
              · refine Or.inr ?_
                rw [show (i : Int) - (x + 1) = (i : Int) - 1 - x by omega, e1]
                exact q
            · rw [if_neg e3]
              have x3 : x = 3 := by omega
              exact Or.inl ⟨_, rfl, Or.inl ⟨rfl, (i : Int), by omega, by omega, e2, by rw [← h4]; exact e1.symm, by rw [e1]; exact b3 (by omega), by rw [e1]; exact b4 (by omega)⟩⟩
        · rw [if_neg e1]
          have q1 : R (i : Int) ≠ 0 → (1 : Int) = (i : Int) + 1 ∨ R ((i : Int) - 1) ≠ R (i : Int) := fun _ => by
            by_cases i1 : i = 0
            · exact Or.inl (by omega)
            · exact Or.inr (by rw [← h4 i1]; exact fun z => e1 z.symm)
          by_cases e2 : R (i : Int) = 0
          · rw [if_pos e2]
            exact Or.inr (nxt 1 (by omega) (by omega) (fun q => absurd e2 q))
          · rw [if_neg e2]
            exact Or.inr (nxt 1 (by omega) (by omega) (fun q => ⟨by omega, fun z => by omega, fun z => by omega, q1 q⟩))
      · rintro ⟨x, y, z⟩ ⟨hz, h1, h2, h3, h4, h5, h6⟩
        have hz : z = ((9 : Nat) : Int) := hz
        subst hz
        refine ⟨.inr (), ?_, Or.inr ⟨rfl, ?_⟩⟩
        · show fX8_isIced_b26 M c x y ((9 : Nat) : Int) = _
          unfold fX8_isIced_b26
          rw [if_neg (by omega)]
        · rintro ⟨t, a, b, u1, u2, u3, u4⟩
          exact h6 t a (by omega) u1 u2 u3 u4
    have iff : gfz w h o c ↔ ∃ t : Int, 3 ≤ t ∧ t < 9 ∧ R t ≠ 0 ∧ R (t - 1) = R t ∧ R (t - 2) = R t ∧ R (t - 3) = R t := by
      constructor
      · rintro ⟨_, f, f0, f1, g1, g2⟩
        have ef : gar w h o c f = R f := by rw [← hR', show f % 6 = f by omega]
        have g2' : ∀ k : Int, 0 ≤ k → k < 4 → R (f + k) = R f := fun k a b => by rw [← hR', g2 k a b, ef]
        refine ⟨f + 3, by omega, by omega, ?_, ?_, ?_, ?_⟩
        · rw [g2' 3 (by omega) (by omega), ← ef]; exact g1
        · rw [show f + 3 - 1 = f + 2 by omega, g2' 2 (by omega) (by omega), g2' 3 (by omega) (by omega)]
        · rw [show f + 3 - 2 = f + 1 by omega, g2' 1 (by omega) (by omega), g2' 3 (by omega) (by omega)]
        · rw [show f + 3 - 3 = f by omega, g2' 3 (by omega) (by omega)]
      · rintro ⟨t, a, b, u1, u2, u3, u4⟩
        have ef : gar w h o c (t - 3) = R (t - 3) := by rw [← hR', show (t - 3) % 6 = t - 3 by omega]
        refine ⟨ho, t - 3, by omega, by omega, by rw [ef, u4]; exact u1, fun k k0 k1 => ?_⟩
        rw [hR', ef, u4]
        rcases (show k = 0 ∨ k = 1 ∨ k = 2 ∨ k = 3 by omega) with rfl | rfl | rfl | rfl
        · rw [show t - 3 + 0 = t - 3 by omega, u4]
        · rw [show t - 3 + 1 = t - 2 by omega, u3]
        · rw [show t - 3 + 2 = t - 1 by omega, u2]
        · rw [show t - 3 + 3 = t by omega]
    obtain ⟨r, e, q⟩ := key
    rw [e]
    rcases q with ⟨rfl, q⟩ | ⟨rfl, q⟩
    · rw [gat_t (iff.mpr q)]; rfl
    · rw [gat_f (fun z => q (iff.mp z))]; rfl
  · rw [if_neg ho, gat_f (fun z => ho z.1)]
end FRZ
section FRZM
variable {M : ax_M} {w h : Int} {o : Int → Int}
def sF : Nat → Nat → Prop := fun k _ => k = 242
theorem sF_pond : ∀ k j, (k = 208 ∧ j < 2) ∨ k = 233 → ¬ sF k j := by
  intro k j h1 h2
  unfold sF at h2
  omega
theorem Q_around (P : Md M w h o) {c s : Int} (c0 : 0 ≤ c) (c1 : c < w * h) (s0 : 0 ≤ s) (s1 : s < 6) : fX14_around M c s = some (gar w h o c s - 1) := by
  obtain ⟨x0, x1, y0, y1, _⟩ := gXY P.1 c0 c1
  have hN := gOk_le P.1
  obtain ⟨k1, k2, k3, k4⟩ := P.1
  obtain ⟨d1, d2, d3, d4⟩ := gdb s
  unfold fX14_around gar
  rw [P.2.2.1, P.2.2.2.1, if_pos (show ¬ w = 0 by omega), if_pos ⟨s0, s1⟩, (gtm c0).1, (gtm c0).2, (gA3 s0 s1).1, (gA3 s0 s1).2, wr_eq (x := c / w) (by omega) (by omega), wr_eq (x := c % w + gdx s) (by omega) (by omega), wr_eq (x := c / w + gdy s) (by omega) (by omega), wr_eq (x := w - 1) (by omega) (by omega), wr_eq (x := h - 1) (by omega) (by omega), Q_in, Q_in]
  by_cases a : 0 ≤ c % w + gdx s ∧ c % w + gdx s < w
  · rw [if_pos a, if_pos (show 0 ≤ c % w + gdx s ∧ c % w + gdx s ≤ w - 1 by omega), if_neg (by omega)]
    by_cases b : 0 ≤ c / w + gdy s ∧ c / w + gdy s < h
    · obtain ⟨q1, q2, q3, _⟩ := gC_on P.1 a.1 a.2 b.1 b.2
      rw [if_pos b, if_pos (show 0 ≤ c / w + gdy s ∧ c / w + gdy s ≤ h - 1 by omega), if_neg (by omega), Q_at P ⟨a.1, a.2, b.1, b.2⟩, if_pos (show 0 ≤ gCell w h (c % w + gdx s) (c / w + gdy s) ∧ gCell w h (c % w + gdx s) (c / w + gdy s) < 81 by omega), P.2.2.2.2 _ q2 (by omega)]
    · rw [if_neg b, if_neg (show ¬ (0 ≤ c / w + gdy s ∧ c / w + gdy s ≤ h - 1) by omega), if_pos rfl]
      rfl
  · rw [if_neg a, if_neg (show ¬ (0 ≤ c % w + gdx s ∧ c % w + gdx s ≤ w - 1) by omega), if_pos rfl]
    by_cases b : 0 ≤ c / w + gdy s ∧ c / w + gdy s < h
    · rw [if_pos b, if_pos (show 0 ≤ c / w + gdy s ∧ c / w + gdy s ≤ h - 1 by omega), if_neg (by omega)]
      rfl
    · rw [if_neg b, if_neg (show ¬ (0 ≤ c / w + gdy s ∧ c / w + gdy s ≤ h - 1) by omega), if_pos rfl]
      rfl
theorem Q_frozen (P : Md M w h o) {c : Int} (c0 : 0 ≤ c) (c1 : c < w * h) : ∃ M', fX14_frozen M c = some (gat (gfz w h o c), M') ∧ Fr sM M M' := by
  have hN := gOk_le P.1
  have c2 : 0 ≤ c ∧ c < 81 := by omega
  unfold fX14_frozen
  rw [if_pos c2, P.2.2.2.2 c c0 c2.2]
  by_cases ho : o c = 0
  · rw [if_pos (show o c - 1 = -1 by omega)]
    have key1 : ∃ r, lp (fun q => fX14_frozen_b14 q.2 c q.1) lpN (0, M) = some r ∧ Fr sF M r ∧ ∀ s : Int, 0 ≤ s → s < 6 → mI r 242 s.toNat = gar w h o c s - 1 := by
      refine lpn 6 (by omega) (fun i q => q.1 = (i : Int) ∧ Fr sF M q.2 ∧ ∀ s : Int, 0 ≤ s → s < (i : Int) → mI q.2 242 s.toNat = gar w h o c s - 1) _ _ ⟨rfl, Fr.refl _ _, fun s a b => by omega⟩ ?_ ?_
      · rintro i ⟨x, M1⟩ hi ⟨hx, f1, h1⟩
        right
        have hx : x = (i : Int) := hx
        subst hx
        have f1 : Fr sF M M1 := f1
        have i0 : 0 ≤ (i : Int) ∧ (i : Int) < 6 := by omega
        refine ⟨((i : Int) + 1, mUI M1 242 (i : Int).toNat (gar w h o c (i : Int) - 1)), ?_, rfl, f1.up rfl, fun s s0 s1 => ?_⟩
        · show fX14_frozen_b14 M1 c (i : Int) = _
          unfold fX14_frozen_b14
          rw [if_pos i0.2, Q_around (P.fr f1 sF_pond) c0 c1 i0.1 i0.2, bd1_s, if_pos i0]
        · show mI (mUI M1 242 (i : Int).toNat (gar w h o c (i : Int) - 1)) 242 s.toNat = _
          rw [mI_Z _ _ _ i0.1 s0]
          by_cases e : s = (i : Int)
          · rw [if_pos e, e]
          · rw [if_neg e]; exact h1 s s0 (by omega)
      · rintro ⟨x, M1⟩ ⟨hx, f1, h1⟩
        have hx : x = ((6 : Nat) : Int) := hx
        subst hx
        refine ⟨M1, ?_, f1, fun s a b => h1 s a (by omega)⟩
        show fX14_frozen_b14 M1 c ((6 : Nat) : Int) = _
        unfold fX14_frozen_b14
        rw [if_neg (by omega)]
    obtain ⟨M1, e1, f1, hr⟩ := key1
    rw [e1, bd1_s]
    have inner : ∀ f : Int, 0 ≤ f → f < 6 → ∃ t : Int, lp (fun q => fX14_frozen_b48 M1 f q) lpN 0 = some t ∧ (t = 4 ↔ gfour w h o c f) := by
      intro f f0 f1'
      have f6 : 0 ≤ f ∧ f < 6 := ⟨f0, f1'⟩
      refine lpn 4 (by omega) (fun i q => q = (i : Int) ∧ (i ≠ 0 → gar w h o c f ≠ 0) ∧ ∀ k : Int, 0 ≤ k → k < (i : Int) → gar w h o c ((f + k) % 6) = gar w h o c f) _ _ ⟨rfl, fun z => absurd rfl z, fun k a b => by omega⟩ ?_ ?_
      · rintro i x hi ⟨hx, h1, h2⟩
        subst hx
        have em : Int.tmod (f + (i : Int)) 6 = (f + (i : Int)) % 6 := (gtm (by omega)).1
        show (∃ r, fX14_frozen_b48 M1 f (i : Int) = some (.inr r) ∧ _) ∨ (∃ s', fX14_frozen_b48 M1 f (i : Int) = some (.inl s') ∧ _)
        unfold fX14_frozen_b48
        rw [if_pos (by omega), if_pos f6, hr f f0 f1', em, hr ((f + (i : Int)) % 6) (by omega) (by omega)]
        by_cases e0 : gar w h o c f = 0
        · rw [if_pos (by omega)]
          exact Or.inl ⟨_, rfl, ⟨fun z => by omega, fun z => absurd e0 z.1⟩⟩
        · rw [if_neg (by omega), if_pos (show 0 ≤ (f + (i : Int)) % 6 ∧ (f + (i : Int)) % 6 < 6 by omega)]
          by_cases e2 : gar w h o c ((f + (i : Int)) % 6) = gar w h o c f
          · rw [if_pos (by omega)]
            refine Or.inr ⟨_, rfl, by show (i : Int) + 1 = ((i + 1 : Nat) : Int); omega, fun _ => e0, fun k a b => ?_⟩
            by_cases e : k = (i : Int)
            · rw [e]; exact e2
            · exact h2 k a (by omega)
          · rw [if_neg (by omega)]
            exact Or.inl ⟨_, rfl, ⟨fun z => by omega, fun z => absurd (z.2 (i : Int) (by omega) (by omega)) e2⟩⟩
      · rintro x ⟨hx, h1, h2⟩
        subst hx
        refine ⟨((4 : Nat) : Int), ?_, ⟨fun _ => ⟨h1 (by omega), fun k a b => h2 k a (by omega)⟩, fun _ => rfl⟩⟩
        show fX14_frozen_b48 M1 f ((4 : Nat) : Int) = _
        unfold fX14_frozen_b48
        rw [if_neg (by omega)]
    have key2 : ∃ r, lp (fun q => fX14_frozen_b40 M1 q) lpN 0 = some r ∧ ((r = .inl () ∧ gfz w h o c) ∨ (r = .inr () ∧ ¬ gfz w h o c)) := by
      refine lpn 6 (by omega) (fun i q => q = (i : Int) ∧ ∀ f : Int, 0 ≤ f → f < (i : Int) → ¬ gfour w h o c f) _ _ ⟨rfl, fun f a b => by omega⟩ ?_ ?_
      · rintro i x hi ⟨hx, h1⟩
        subst hx
        obtain ⟨t, et, ht⟩ := inner (i : Int) (by omega) (by omega)
        show (∃ r, fX14_frozen_b40 M1 (i : Int) = some (.inr r) ∧ _) ∨ (∃ s', fX14_frozen_b40 M1 (i : Int) = some (.inl s') ∧ _)
        unfold fX14_frozen_b40
        rw [if_pos (by omega), et, bd1_s]
        by_cases e4 : t = 4
        · rw [if_pos e4]
          exact Or.inl ⟨_, rfl, Or.inl ⟨rfl, ho, (i : Int), by omega, by omega, ht.mp e4⟩⟩
        · rw [if_neg e4]
          refine Or.inr ⟨_, rfl, by show (i : Int) + 1 = ((i + 1 : Nat) : Int); omega, fun f a b => ?_⟩
          by_cases e : f = (i : Int)
          · rw [e]; exact fun z => e4 (ht.mpr z)
          · exact h1 f a (by omega)
      · rintro x ⟨hx, h1⟩
        subst hx
        refine ⟨.inr (), ?_, Or.inr ⟨rfl, ?_⟩⟩
        · show fX14_frozen_b40 M1 ((6 : Nat) : Int) = _
          unfold fX14_frozen_b40
          rw [if_neg (by omega)]
        · rintro ⟨_, f, f0, f1, z⟩
          exact h1 f f0 (by omega) z
    obtain ⟨r, e2, q⟩ := key2
    have fM : Fr sM M M1 := f1.mono (fun k j z => by unfold sF at z; unfold sM; omega)
    show ∃ M', bdS (lp (fun q => fX14_frozen_b40 M1 q) lpN 0) _ _ = _ ∧ _
    rw [e2]
    rcases q with ⟨rfl, q⟩ | ⟨rfl, q⟩
    · exact ⟨M1, by rw [gat_t q]; rfl, fM⟩
    · exact ⟨M1, by rw [gat_f q]; rfl, fM⟩
  · rw [if_neg (by omega)]
    exact ⟨M, by rw [gat_f (fun z => ho z.1)], Fr.refl _ _⟩
end FRZM
