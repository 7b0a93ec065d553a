/-! part C: the model's groups, gathered -/
def gfm (f : Int → Int) : Nat → Int
  | 0 => 0
  | n + 1 => if gfm f n < f n then f n else gfm f n
theorem gfm_c {f g : Int → Int} : ∀ n : Nat, (∀ k : Int, 0 ≤ k → k < n → f k = g k) → gfm f n = gfm g n
  | 0, _ => rfl
  | n + 1, h => by
    show (if gfm f n < f n then f n else gfm f n) = (if gfm g n < g n then g n else gfm g n)
    rw [gfm_c n (fun k a b => h k a (by omega)), h n (by omega) (by omega)]
def gGt (M : ax_M) (w h : Int) (o : Int → Int) (v : Int) : Prop :=
  mI M 203 25 = gcn (gnew w h o v) (w * h).toNat ∧ gfm (fun k => mI M 239 k.toNat) (mI M 203 25).toNat = gmx (gnew w h o v) (gsz w h o v) (w * h).toNat ∧
  ∀ c : Int, 0 ≤ c → c < w * h → o c = v → 0 ≤ mI M 238 c.toNat ∧ mI M 238 c.toNat < mI M 203 25 ∧ mI M 239 (mI M 238 c.toNat).toNat = gsz w h o v c ∧ ∀ c' : Int, 0 ≤ c' → c' < w * h → (mI M 238 c'.toNat = mI M 238 c.toNat ↔ gG w h o v c c')
section MGA
variable {M : ax_M} {w h : Int} {o : Int → Int} {v p : Int} {st : Int}
theorem gsz_eq (k : gOk w h) {a b : Int} (H : gG w h o v a b) : gsz w h o v b = gsz w h o v a :=
  gcn_c 81 (fun _ _ _ => ⟨fun z => gC_trans H z, fun z => gC_trans (gC_sym k H) z⟩)
theorem Q_gather (P : Md M w h o) (hp : p = 0 ∨ p = 1) : ∃ M', fX14_gather M p = some M' ∧ Fr sM M M' ∧ gGt M' w h o (p + 1) := by
  have hN := gOk_le P.1
  have F0 : Fr sM M (mUI M 203 25 0) := (Fr.refl _ _).up (Or.inr ⟨rfl, rfl⟩)
  have key1 : ∃ r, lp (fun s => fX14_gather_b7 s.2 p s.1) lpN (0, mUI M 203 25 0) = some r ∧ Fr sM M r ∧ mI r 203 25 = 0 ∧ ∀ c : Int, 0 ≤ c → c < w * h → mI r 238 c.toNat = -1 := by
    refine lpn (w * h).toNat (by omega) (fun i x => x.1 = (i : Int) ∧ Fr sM M x.2 ∧ mI x.2 203 25 = 0 ∧ ∀ c : Int, 0 ≤ c → c < (i : Int) → mI x.2 238 c.toNat = -1) _ _ ⟨rfl, F0, mI_Us _ _ _ _, fun c c0 c1 => by omega⟩ ?_ ?_
    · rintro i ⟨x, M1⟩ hi ⟨hx, f1, h1, h2⟩
      right
      have hx : x = (i : Int) := hx
      subst hx
      have P1 := P.fr f1 sM_pond
      have h1 : mI M1 203 25 = 0 := h1
      refine ⟨((i : Int) + 1, mUI M1 238 (i : Int).toNat (-1)), ?_, rfl, f1.up (Or.inl (by omega)), ?_, fun c c0 c1 => ?_⟩
      · show fX14_gather_b7 M1 p (i : Int) = _
        unfold fX14_gather_b7
        rw [Q_cells P1, if_pos (by omega), if_pos (by omega)]
      · show mI (mUI M1 238 (i : Int).toNat (-1)) 203 25 = 0
        rw [mI_Un (by omega)]; exact h1
      · show mI (mUI M1 238 (i : Int).toNat (-1)) 238 c.toNat = -1
        rw [mI_Z _ _ _ (by omega) c0]
        by_cases e : c = (i : Int)
        · rw [if_pos e]
        · rw [if_neg e]; exact h2 c c0 (by omega)
    · rintro ⟨x, M1⟩ ⟨hx, f1, h1, h2⟩
      have hx : x = ((w * h).toNat : Int) := hx
      subst hx
      refine ⟨M1, ?_, f1, h1, fun c c0 c1 => h2 c c0 (by omega)⟩
      show fX14_gather_b7 M1 p ((w * h).toNat : Int) = _
      unfold fX14_gather_b7
      rw [Q_cells (P.fr f1 sM_pond), if_neg (by omega)]
  obtain ⟨M1, e1, f1, g1, g2⟩ := key1
  have key2 : ∃ r, lp (fun s => fX14_gather_b30 s.2 p s.1) lpN (0, M1) = some r ∧ Fr sM M r ∧ gGt r w h o (p + 1) := by
    refine lpn (w * h).toNat (by omega) (fun i x => x.1 = (i : Int) ∧ Fr sM M x.2 ∧ mI x.2 203 25 = gcn (gnew w h o (p + 1)) i ∧ gfm (fun k => mI x.2 239 k.toNat) (mI x.2 203 25).toNat = gmx (gnew w h o (p + 1)) (gsz w h o (p + 1)) i ∧
      (∀ c : Int, 0 ≤ c → c < w * h → (∃ c' : Int, 0 ≤ c' ∧ c' < (i : Int) ∧ gG w h o (p + 1) c' c) → 0 ≤ mI x.2 238 c.toNat ∧ mI x.2 238 c.toNat < mI x.2 203 25 ∧ mI x.2 239 (mI x.2 238 c.toNat).toNat = gsz w h o (p + 1) c ∧ ∀ c' : Int, 0 ≤ c' → c' < w * h → (mI x.2 238 c'.toNat = mI x.2 238 c.toNat ↔ gG w h o (p + 1) c c')) ∧
      (∀ c : Int, 0 ≤ c → c < w * h → (¬ ∃ c' : Int, 0 ≤ c' ∧ c' < (i : Int) ∧ gG w h o (p + 1) c' c) → mI x.2 238 c.toNat = -1)) _ _ ⟨rfl, f1, g1, ?_, fun c c0 c1 ⟨c', z0, z1, _⟩ => by omega, fun c c0 c1 _ => g2 c c0 c1⟩ ?_ ?_
    · show gfm (fun k => mI M1 239 k.toNat) (mI M1 203 25).toNat = 0
      rw [g1]; rfl
    · rintro i ⟨x, M2⟩ hi ⟨hx, f2, h1, h2, hA, hB⟩
      right
      have hx : x = (i : Int) := hx
      subst hx
      have f2 : Fr sM M M2 := f2
      have P2 := P.fr f2 sM_pond
      have h1 : mI M2 203 25 = gcn (gnew w h o (p + 1)) i := h1
      have h2 : gfm (fun k => mI M2 239 k.toNat) (mI M2 203 25).toNat = gmx (gnew w h o (p + 1)) (gsz w h o (p + 1)) i := h2
      have hA : ∀ c : Int, 0 ≤ c → c < w * h → (∃ c' : Int, 0 ≤ c' ∧ c' < (i : Int) ∧ gG w h o (p + 1) c' c) → 0 ≤ mI M2 238 c.toNat ∧ mI M2 238 c.toNat < mI M2 203 25 ∧ mI M2 239 (mI M2 238 c.toNat).toNat = gsz w h o (p + 1) c ∧ ∀ c' : Int, 0 ≤ c' → c' < w * h → (mI M2 238 c'.toNat = mI M2 238 c.toNat ↔ gG w h o (p + 1) c c') := hA
      have hB : ∀ c : Int, 0 ≤ c → c < w * h → (¬ ∃ c' : Int, 0 ≤ c' ∧ c' < (i : Int) ∧ gG w h o (p + 1) c' c) → mI M2 238 c.toNat = -1 := hB
      have hb := gcn_b (gnew w h o (p + 1)) i
      have i0 : 0 ≤ (i : Int) := by omega
      have i1 : (i : Int) < w * h := by omega
      have sk : ¬ gnew w h o (p + 1) (i : Int) → (∀ c : Int, gG w h o (p + 1) (i : Int) c → ∃ c' : Int, 0 ≤ c' ∧ c' < (i : Int) ∧ gG w h o (p + 1) c' c) → ∃ s' : Int × ax_M, (some (Sum.inl ((i : Int) + 1, M2)) : Option ((Int × ax_M) ⊕ ax_M)) = some (Sum.inl s') ∧ s'.1 = ((i + 1 : Nat) : Int) ∧ Fr sM M s'.2 ∧ mI s'.2 203 25 = gcn (gnew w h o (p + 1)) (i + 1) ∧ gfm (fun k => mI s'.2 239 k.toNat) (mI s'.2 203 25).toNat = gmx (gnew w h o (p + 1)) (gsz w h o (p + 1)) (i + 1) ∧ (∀ c : Int, 0 ≤ c → c < w * h → (∃ c' : Int, 0 ≤ c' ∧ c' < ((i + 1 : Nat) : Int) ∧ gG w h o (p + 1) c' c) → 0 ≤ mI s'.2 238 c.toNat ∧ mI s'.2 238 c.toNat < mI s'.2 203 25 ∧ mI s'.2 239 (mI s'.2 238 c.toNat).toNat = gsz w h o (p + 1) c ∧ ∀ c' : Int, 0 ≤ c' → c' < w * h → (mI s'.2 238 c'.toNat = mI s'.2 238 c.toNat ↔ gG w h o (p + 1) c c')) ∧ (∀ c : Int, 0 ≤ c → c < w * h → (¬ ∃ c' : Int, 0 ≤ c' ∧ c' < ((i + 1 : Nat) : Int) ∧ gG w h o (p + 1) c' c) → mI s'.2 238 c.toNat = -1) := by
        intro nw old
        have ex : ∀ c : Int, (∃ c' : Int, 0 ≤ c' ∧ c' < ((i + 1 : Nat) : Int) ∧ gG w h o (p + 1) c' c) → ∃ c' : Int, 0 ≤ c' ∧ c' < (i : Int) ∧ gG w h o (p + 1) c' c := by
          rintro c ⟨c', z0, z1, z⟩
          by_cases e : c' = (i : Int)
          · exact old c (e ▸ z)
          · exact ⟨c', z0, by omega, z⟩
        refine ⟨((i : Int) + 1, M2), rfl, rfl, f2, by rw [gcn_n nw]; exact h1, by rw [gmx_n nw]; exact h2, fun c c0 c1 z => hA c c0 c1 (ex c z), fun c c0 c1 z => hB c c0 c1 (fun ⟨c', y0, y1, y⟩ => z ⟨c', y0, by omega, y⟩)⟩
      have hst : mI M2 233 (i : Int).toNat = o (i : Int) - 1 := P2.2.2.2.2 _ i0 (by omega)
      have e1 : ∀ b, (if mI M2 233 (i : Int).toNat = p then b else some (Sum.inl ((i : Int) + 1, M2))) = fX14_gather_b30 M2 p (i : Int) → True := fun _ _ => trivial
      show ∃ s', fX14_gather_b30 M2 p (i : Int) = some (.inl s') ∧ _
      unfold fX14_gather_b30
      rw [Q_cells P2, if_pos i1, if_pos ⟨i0, by clear sk; omega⟩, hst]
      by_cases ho : o (i : Int) = p + 1
      · rw [if_pos (by clear sk; omega)]
        by_cases hz : mI M2 238 (i : Int).toNat = -1
        · clear sk
          have gii : gG w h o (p + 1) (i : Int) (i : Int) := gC_refl ho i0 i1
          have un : ¬ ∃ c' : Int, 0 ≤ c' ∧ c' < (i : Int) ∧ gG w h o (p + 1) c' (i : Int) := fun z => by
            have := (hA i i0 i1 z).1
            omega
          have nw : gnew w h o (p + 1) (i : Int) := ⟨ho, fun c' z0 z1 z => un ⟨c', z0, z1, z⟩⟩
          have unc : ∀ c, gG w h o (p + 1) (i : Int) c → ¬ ∃ c' : Int, 0 ≤ c' ∧ c' < (i : Int) ∧ gG w h o (p + 1) c' c := fun c hc ⟨c', z0, z1, z⟩ => un ⟨c', z0, z1, gC_trans z (gC_sym P.1 hc)⟩
          obtain ⟨M3, k1, k2, k3, k4, k5, k6, k7⟩ := Q_spread P2 i0 i1 ho h1 hb.1 (by omega) (fun c hc => hB c (gC_mem P.1 hc).2.1 (gC_mem P.1 hc).2.2 (unc c hc))
          rw [if_pos hz, k1]
          refine ⟨((i : Int) + 1, M3), rfl, rfl, f2.trans k2, ?_, ?_, fun c c0 c1 z => ?_, fun c c0 c1 z => ?_⟩
          · rw [gcn_s nw]; exact k3
          · show gfm (fun k => mI M3 239 k.toNat) (mI M3 203 25).toNat = _
            rw [gmx_s nw, k3, show (gcn (gnew w h o (p + 1)) i + 1).toNat = (gcn (gnew w h o (p + 1)) i).toNat + 1 by omega]
            show (if gfm (fun k => mI M3 239 k.toNat) (gcn (gnew w h o (p + 1)) i).toNat < mI M3 239 (((gcn (gnew w h o (p + 1)) i).toNat : Int)).toNat then mI M3 239 (((gcn (gnew w h o (p + 1)) i).toNat : Int)).toNat else gfm (fun k => mI M3 239 k.toNat) (gcn (gnew w h o (p + 1)) i).toNat) = _
            rw [gfm_c (g := fun k => mI M2 239 k.toNat) _ (fun k a b => k5 k a (by omega)), show ((gcn (gnew w h o (p + 1)) i).toNat : Int) = gcn (gnew w h o (p + 1)) i by omega, k4]
            rw [h1] at h2
            rw [h2]
          · show 0 ≤ mI M3 238 c.toNat ∧ mI M3 238 c.toNat < mI M3 203 25 ∧ mI M3 239 (mI M3 238 c.toNat).toNat = gsz w h o (p + 1) c ∧ ∀ c' : Int, 0 ≤ c' → c' < w * h → (mI M3 238 c'.toNat = mI M3 238 c.toNat ↔ gG w h o (p + 1) c c')
            by_cases hc : gG w h o (p + 1) (i : Int) c
            · rw [k6 c c0 c1 hc, k3, k4]
              refine ⟨hb.1, by omega, (gsz_eq P.1 hc).symm, fun c' y0 y1 => ⟨fun y => ?_, fun y => k6 c' y0 y1 (gC_trans hc y)⟩⟩
              by_cases hc' : gG w h o (p + 1) (i : Int) c'
              · exact gC_trans (gC_sym P.1 hc) hc'
              · rw [k7 c' y0 y1 hc'] at y
                by_cases ex : ∃ c2 : Int, 0 ≤ c2 ∧ c2 < (i : Int) ∧ gG w h o (p + 1) c2 c'
                · have := (hA c' y0 y1 ex).2.1
                  omega
                · have := hB c' y0 y1 ex
                  omega
            · have ex : ∃ c' : Int, 0 ≤ c' ∧ c' < (i : Int) ∧ gG w h o (p + 1) c' c := by
                obtain ⟨c', z0, z1, z⟩ := z
                by_cases e : c' = (i : Int)
                · exact absurd (e ▸ z) hc
                · exact ⟨c', z0, by omega, z⟩
              obtain ⟨a1, a2, a3, a4⟩ := hA c c0 c1 ex
              rw [k7 c c0 c1 hc, k3]
              refine ⟨a1, by omega, by rw [k5 _ a1 (by omega)]; exact a3, fun c' y0 y1 => ?_⟩
              by_cases hc' : gG w h o (p + 1) (i : Int) c'
              · rw [k6 c' y0 y1 hc']
                refine ⟨fun y => by omega, fun y => ?_⟩
                exact absurd (gC_trans hc' (gC_sym P.1 y)) hc
              · rw [k7 c' y0 y1 hc']
                exact a4 c' y0 y1
          · show mI M3 238 c.toNat = -1
            rw [k7 c c0 c1 (fun y => z ⟨i, i0, by omega, y⟩)]
            exact hB c c0 c1 (fun ⟨c', y0, y1, y⟩ => z ⟨c', y0, by omega, y⟩)
        · rw [if_neg hz]
          by_cases ex : ∃ c' : Int, 0 ≤ c' ∧ c' < (i : Int) ∧ gG w h o (p + 1) c' (i : Int)
          · obtain ⟨c', z0, z1, z⟩ := ex
            exact sk (fun y => y.2 c' z0 z1 z) (fun c hc => ⟨c', z0, z1, gC_trans z hc⟩)
          · exact absurd (hB i i0 i1 ex) hz
      · rw [if_neg (by clear sk; omega)]
        exact sk (fun y => ho y.1) (fun c hc => absurd (gC_st hc).1 ho)
    · rintro ⟨x, M2⟩ ⟨hx, f2, h1, h2, hA, hB⟩
      have hx : x = ((w * h).toNat : Int) := hx
      subst hx
      refine ⟨M2, ?_, f2, h1, h2, fun c c0 c1 ho => hA c c0 c1 ⟨c, c0, by omega, gC_refl ho c0 c1⟩⟩
      show fX14_gather_b30 M2 p ((w * h).toNat : Int) = _
      unfold fX14_gather_b30
      rw [Q_cells (P.fr f2 sM_pond), if_neg (by omega)]
  obtain ⟨r, e, k1, k2⟩ := key2
  refine ⟨r, ?_, k1, k2⟩
  unfold fX14_gather
  rw [e1, bd1_s, e]
  rfl
theorem Q_groups (P : Md M w h o) (hp : p = 0 ∨ p = 1) : ∃ M', fX14_groupsThen M p = some (gcn (gnew w h o (p + 1)) (w * h).toNat, M') ∧ Fr sM M M' := by
  obtain ⟨M', e, f, g, _⟩ := Q_gather P hp
  refine ⟨M', ?_, f⟩
  unfold fX14_groupsThen
  rw [e, bd1_s, g]
theorem Q_greatest (P : Md M w h o) (hp : p = 0 ∨ p = 1) : ∃ M', fX14_greatest M p = some (gmx (gnew w h o (p + 1)) (gsz w h o (p + 1)) (w * h).toNat, M') ∧ Fr sM M M' := by
  have hN := gOk_le P.1
  obtain ⟨M', e, f, g1, g2, _⟩ := Q_gather P hp
  have hb := gcn_b (gnew w h o (p + 1)) (w * h).toNat
  refine ⟨M', ?_, f⟩
  have key : ∃ r, lp (fun s => fX14_greatest_b9 M' s.1 s.2) lpN (0, 0) = some r ∧ r = gfm (fun k => mI M' 239 k.toNat) (mI M' 203 25).toNat := by
    refine lpn (mI M' 203 25).toNat (by omega) (fun i x => x.2 = (i : Int) ∧ x.1 = gfm (fun k => mI M' 239 k.toNat) i) _ _ ⟨rfl, rfl⟩ ?_ ?_
    · rintro i ⟨x, y⟩ hi ⟨hx, hy⟩
      right
      have hx : y = (i : Int) := hx
      subst hx
      have hy : x = gfm (fun k => mI M' 239 k.toNat) i := hy
      refine ⟨(fJ9_max_7cf53 M' x (mI M' 239 (i : Int).toNat), (i : Int) + 1), ?_, rfl, ?_⟩
      · show fX14_greatest_b9 M' x (i : Int) = _
        unfold fX14_greatest_b9
        rw [if_pos (by omega), if_pos (by omega)]
      · show (if x < mI M' 239 (i : Int).toNat then mI M' 239 (i : Int).toNat else x) = _
        rw [hy]
        rfl
    · rintro ⟨x, y⟩ ⟨hx, hy⟩
      have hx : y = ((mI M' 203 25).toNat : Int) := hx
      subst hx
      refine ⟨x, ?_, hy⟩
      show fX14_greatest_b9 M' x ((mI M' 203 25).toNat : Int) = _
      unfold fX14_greatest_b9
      rw [if_neg (by omega)]
  obtain ⟨r, e2, rfl⟩ := key
  unfold fX14_greatest
  rw [e, bd1_s, e2, bd1_s, g2]
theorem Q_hasShore (P : Md M w h o) (G : gGt M w h o v) {c : Int} (c0 : 0 ≤ c) (c1 : c < w * h) (hc : o c = v) (p s : Int) : fX14_hasShore M (mI M 238 c.toNat) p s = some (gat (∃ z : Int, gG w h o v c z ∧ gsh w h p s z)) := by
  have hN := gOk_le P.1
  obtain ⟨_, _, G⟩ := G
  obtain ⟨a1, a2, a3, a4⟩ := G c c0 c1 hc
  have key : ∃ r, lp (fun s' => fX14_hasShore_b3 M (mI M 238 c.toNat) p s s') lpN 0 = some r ∧ ((r = .inl () ∧ ∃ z : Int, gG w h o v c z ∧ gsh w h p s z) ∨ (r = .inr () ∧ ¬ ∃ z : Int, gG w h o v c z ∧ gsh w h p s z)) := by
    refine lpn (w * h).toNat (by omega) (fun i x => x = (i : Int) ∧ ∀ z : Int, z < (i : Int) → gG w h o v c z → ¬ gsh w h p s z) _ _ ⟨rfl, fun z z1 hz => by have := (gC_mem P.1 hz).2.1; omega⟩ ?_ ?_
    · rintro i x hi ⟨hx, h3⟩
      subst hx
      have i0 : 0 ≤ (i : Int) := by omega
      have i1 : (i : Int) < w * h := by omega
      show (∃ r, fX14_hasShore_b3 M (mI M 238 c.toNat) p s (i : Int) = some (.inr r) ∧ _) ∨ (∃ s', fX14_hasShore_b3 M (mI M 238 c.toNat) p s (i : Int) = some (.inl s') ∧ _)
      unfold fX14_hasShore_b3
      rw [Q_cells P, if_pos i1, if_pos (show 0 ≤ (i : Int) ∧ (i : Int) < 81 by omega)]
      by_cases hg : mI M 238 (i : Int).toNat = mI M 238 c.toNat
      · have hg' := (a4 _ i0 i1).mp hg
        rw [if_pos hg, Q_sh P p s i0 i1, bd1_s]
        by_cases hz : gsh w h p s (i : Int)
        · rw [if_pos hz, if_neg (by omega)]
          exact Or.inl ⟨_, rfl, Or.inl ⟨rfl, _, hg', hz⟩⟩
        · rw [if_neg hz, if_pos rfl]
          refine Or.inr ⟨_, rfl, by show (i : Int) + 1 = ((i + 1 : Nat) : Int); omega, fun z z1 hz' => ?_⟩
          by_cases e : z = (i : Int)
          · subst e; exact hz
          · exact h3 z (by omega) hz'
      · rw [if_neg hg]
        refine Or.inr ⟨_, rfl, by show (i : Int) + 1 = ((i + 1 : Nat) : Int); omega, fun z z1 hz' => ?_⟩
        by_cases e : z = (i : Int)
        · subst e; exact absurd ((a4 _ i0 i1).mpr hz') hg
        · exact h3 z (by omega) hz'
    · rintro x ⟨hx, h3⟩
      subst hx
      refine ⟨.inr (), ?_, Or.inr ⟨rfl, ?_⟩⟩
      · show fX14_hasShore_b3 M (mI M 238 c.toNat) p s ((w * h).toNat : Int) = _
        unfold fX14_hasShore_b3
        rw [Q_cells P, if_neg (by omega)]
      · rintro ⟨z, hz, y⟩
        exact h3 z (by have := (gC_mem P.1 hz).2.2; omega) hz y
  obtain ⟨r, e, q⟩ := key
  unfold fX14_hasShore
  rw [e]
  rcases q with ⟨rfl, q⟩ | ⟨rfl, q⟩
  · rw [gat_t q]; rfl
  · rw [gat_f q]; rfl
end MGA
