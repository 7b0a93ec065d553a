/-! part C: the class's groups, looked at -/
noncomputable def gat (P : Prop) : Int := @ite Int P (Classical.propDecidable _) 1 0
theorem gat_t {P : Prop} (h : P) : gat P = 1 := if_pos h
theorem gat_f {P : Prop} (h : ¬ P) : gat P = 0 := if_neg h
theorem gat_c {P Q : Prop} (h : P ↔ Q) : gat P = gat Q := by rw [propext h]
theorem gat_b (P : Prop) : gat P = 0 ∨ gat P = 1 := by
  by_cases h : P
  · exact Or.inr (gat_t h)
  · exact Or.inl (gat_f h)
/-- a cell that begins a group, in the order of the cells -/
def gnew (w h : Int) (o : Int → Int) (v c : Int) : Prop := o c = v ∧ ∀ c' : Int, 0 ≤ c' → c' < c → ¬ gG w h o v c' c
noncomputable def gmx (P : Int → Prop) (f : Int → Int) : Nat → Int
  | 0 => 0
  | n + 1 => @ite Int (P (n : Int)) (Classical.propDecidable _) (if gmx P f n < f n then f n else gmx P f n) (gmx P f n)
theorem gmx_s {P : Int → Prop} {f : Int → Int} {n : Nat} (h : P n) : gmx P f (n + 1) = if gmx P f n < f n then f n else gmx P f n := if_pos h
theorem gmx_n {P : Int → Prop} {f : Int → Int} {n : Nat} (h : ¬ P n) : gmx P f (n + 1) = gmx P f n := if_neg h
section CLK
variable {M : ax_M} {w h : Int} {o : Int → Int} {v : Int} {st : Int}
theorem C_fill0 (P : Pd M w h o) (s0 : 0 ≤ st) (s1 : st < w * h) (hv : o st = v) (v1 : 1 ≤ v) : ∃ M', fX4_gather (mFi M 177 81 0) st = some M' ∧ Fr sG M M' ∧ mI M' 176 3 = gsz w h o v st ∧ (∀ j : Int, 0 ≤ j → j < gsz w h o v st → gG w h o v st (mI M' 178 j.toNat)) ∧ (∀ c : Int, gG w h o v st c → ∃ j : Int, 0 ≤ j ∧ j < gsz w h o v st ∧ mI M' 178 j.toNat = c) := by
  have hN := P.n
  have F0 : Fr sG M (mFi M 177 81 0) := (Fr.refl _ _).fi (fun _ => ⟨by omega, by omega⟩)
  have z : ∀ c : Int, c < 81 → mI (mFi M 177 81 0) 177 c.toNat = 0 := fun c h => by rw [mI_F, if_pos ⟨rfl, by omega⟩]
  obtain ⟨M', e, f, g1, g2, g3, g4⟩ := C_gather (P.fr F0 sG_pond) s0 s1 hv v1 (z st (by omega)) (fun c hc => z c (by have := gC_mem P.k hc; omega))
  exact ⟨M', e, F0.trans (f.mono (fun k j s => by unfold sQ at s; unfold sG; omega)), g1, g3, g4⟩
theorem C_sizeAt (P : Pd M w h o) (s0 : 0 ≤ st) (s1 : st < w * h) (hv : o st = v) (v1 : 1 ≤ v) : ∃ M', fX4_sizeAt M st = some (gsz w h o v st, M') ∧ Fr sG M M' := by
  obtain ⟨M', e, f, g1, _⟩ := C_fill0 P s0 s1 hv v1
  refine ⟨M', ?_, f⟩
  unfold fX4_sizeAt
  rw [e]
  show some (mI M' 176 3, M') = _
  rw [g1]
/-- at how many shores of a player's the group of a cell has stones -/
noncomputable def gshs (w h : Int) (o : Int → Int) (v p a : Int) : Int := gat (∃ c : Int, gG w h o v a c ∧ gsh w h p 0 c) + gat (∃ c : Int, gG w h o v a c ∧ gsh w h p 1 c)
theorem C_hasG (P : Pd M w h o) (p s : Int) (hn : mI M 176 3 = gsz w h o v st) (h1 : ∀ j : Int, 0 ≤ j → j < gsz w h o v st → gG w h o v st (mI M 178 j.toNat)) (h2 : ∀ c : Int, gG w h o v st c → ∃ j : Int, 0 ≤ j ∧ j < gsz w h o v st ∧ mI M 178 j.toNat = c) : fX4_hasGatheredAt M p s = some (gat (∃ c : Int, gG w h o v st c ∧ gsh w h p s c)) := by
  have hb : 0 ≤ gsz w h o v st ∧ gsz w h o v st ≤ 81 := gcn_b _ 81
  have key : ∃ r, lp (fun s' => fX4_hasGatheredAt_b2 M p s s') lpN 0 = some r ∧ ((r = .inl () ∧ ∃ c : Int, gG w h o v st c ∧ gsh w h p s c) ∨ (r = .inr () ∧ ¬ ∃ c : Int, gG w h o v st c ∧ gsh w h p s c)) := by
    refine lpn 81 (by omega) (fun i x => x = (i : Int) ∧ ∀ j : Int, 0 ≤ j → j < (i : Int) → j < gsz w h o v st → ¬ gsh w h p s (mI M 178 j.toNat)) _ _ ⟨rfl, fun j j0 j1 => by omega⟩ ?_ ?_
    · rintro i x hi ⟨hx, h3⟩
      subst hx
      show (∃ r, fX4_hasGatheredAt_b2 M p s (i : Int) = some (.inr r) ∧ _) ∨ (∃ s', fX4_hasGatheredAt_b2 M p s (i : Int) = some (.inl s') ∧ _)
      unfold fX4_hasGatheredAt_b2
      rw [hn]
      by_cases hlt : (i : Int) < gsz w h o v st
      · have hg := h1 i (by omega) hlt
        have hm := gC_mem P.k hg
        rw [if_pos hlt, if_pos (by omega), if_pos (by omega), P_sh P.1 p s hm.2.1 hm.2.2]
        by_cases hz : gsh w h p s (mI M 178 (i : Int).toNat)
        · rw [if_pos hz, if_neg (by omega)]
          exact Or.inl ⟨_, rfl, Or.inl ⟨rfl, _, hg, hz⟩⟩
        · rw [if_neg hz, if_pos rfl]
          refine Or.inr ⟨_, rfl, by show (i : Int) + 1 = ((i + 1 : Nat) : Int); omega, fun j j0 j1 j2 => ?_⟩
          by_cases e : j = (i : Int)
          · subst e; exact hz
          · exact h3 j j0 (by omega) j2
      · rw [if_neg hlt]
        refine Or.inl ⟨_, rfl, Or.inr ⟨rfl, ?_⟩⟩
        rintro ⟨c, hc, hz⟩
        obtain ⟨j, j0, j1, rfl⟩ := h2 c hc
        exact h3 j j0 (by omega) j1 hz
    · rintro x ⟨hx, h3⟩
      subst hx
      refine ⟨.inr (), ?_, Or.inr ⟨rfl, ?_⟩⟩
      · show fX4_hasGatheredAt_b2 M p s ((81 : Nat) : Int) = _
        unfold fX4_hasGatheredAt_b2
        rw [hn, if_neg (by omega)]
      · rintro ⟨c, hc, hz⟩
        obtain ⟨j, j0, j1, rfl⟩ := h2 c hc
        exact h3 j j0 (by omega) j1 hz
  obtain ⟨r, e, q⟩ := key
  unfold fX4_hasGatheredAt
  rw [e]
  rcases q with ⟨rfl, q⟩ | ⟨rfl, q⟩
  · rw [gat_t q]; rfl
  · rw [gat_f q]; rfl
theorem C_shoresAt (P : Pd M w h o) (s0 : 0 ≤ st) (s1 : st < w * h) (hv : o st = v) (v1 : 1 ≤ v) : ∃ M', fX4_shoresAt M st = some (gshs w h o v (v - 1) st, M') ∧ Fr sG M M' := by
  obtain ⟨M', e, f, g1, g2, g3⟩ := C_fill0 P s0 s1 hv v1
  refine ⟨M', ?_, f⟩
  have P' := P.fr f sG_pond
  have hv2 : v ≤ 2 := by have := P.2.1.2 st; omega
  unfold fX4_shoresAt
  rw [e]
  show bd1 (lp (fun s => fX4_shoresAt_b29 M' (wr (fX8_ownerAt M' st - 1)) s.1 s.2) lpN (0, 0)) _ = _
  rw [P_own P', hv, wr_eq (by omega) (by omega)]
  have key : ∃ r, lp (fun s => fX4_shoresAt_b29 M' (v - 1) s.1 s.2) lpN (0, 0) = some r ∧ r = gshs w h o v (v - 1) st := by
    refine lpn 2 (by omega) (fun i x => x.2 = (i : Int) ∧ x.1 = (if i = 0 then 0 else gat (∃ c : Int, gG w h o v st c ∧ gsh w h (v - 1) 0 c)) + (if i ≤ 1 then 0 else gat (∃ c : Int, gG w h o v st c ∧ gsh w h (v - 1) 1 c))) _ _ ⟨rfl, rfl⟩ ?_ ?_
    · rintro i ⟨x, y⟩ hi ⟨hx, hy⟩
      right
      have hx : y = (i : Int) := hx
      subst hx
      have hy : x = (if i = 0 then 0 else gat (∃ c : Int, gG w h o v st c ∧ gsh w h (v - 1) 0 c)) + (if i ≤ 1 then 0 else gat (∃ c : Int, gG w h o v st c ∧ gsh w h (v - 1) 1 c)) := hy
      show ∃ s', fX4_shoresAt_b29 M' (v - 1) x (i : Int) = some (.inl s') ∧ _
      unfold fX4_shoresAt_b29
      rw [if_pos (by omega), C_hasG P' (v - 1) (i : Int) g1 g2 g3]
      show ∃ s', (if gat (∃ c : Int, gG w h o v st c ∧ gsh w h (v - 1) (i : Int) c) = 0 then some (Sum.inl (x, (i : Int) + 1)) else some (Sum.inl (wr (x + 1), (i : Int) + 1))) = some (.inl s') ∧ _
      rcases (show i = 0 ∨ i = 1 by omega) with rfl | rfl
      · have hy : x = 0 := hy
        subst hy
        rcases gat_b (∃ c : Int, gG w h o v st c ∧ gsh w h (v - 1) ((0 : Nat) : Int) c) with q | q
        · rw [if_pos q]
          refine ⟨_, rfl, rfl, ?_⟩
          show (0 : Int) = gat (∃ c : Int, gG w h o v st c ∧ gsh w h (v - 1) 0 c) + 0
          have q : gat (∃ c : Int, gG w h o v st c ∧ gsh w h (v - 1) 0 c) = 0 := q
          rw [q]; rfl
        · rw [if_neg (by omega)]
          refine ⟨_, rfl, rfl, ?_⟩
          show wr (0 + 1) = gat (∃ c : Int, gG w h o v st c ∧ gsh w h (v - 1) 0 c) + 0
          have q : gat (∃ c : Int, gG w h o v st c ∧ gsh w h (v - 1) 0 c) = 1 := q
          rw [q]; rfl
      · have hy : x = gat (∃ c : Int, gG w h o v st c ∧ gsh w h (v - 1) 0 c) + 0 := hy
        have hx := gat_b (∃ c : Int, gG w h o v st c ∧ gsh w h (v - 1) 0 c)
        rcases gat_b (∃ c : Int, gG w h o v st c ∧ gsh w h (v - 1) ((1 : Nat) : Int) c) with q | q
        · rw [if_pos q]
          refine ⟨_, rfl, rfl, ?_⟩
          show x = gat (∃ c : Int, gG w h o v st c ∧ gsh w h (v - 1) 0 c) + gat (∃ c : Int, gG w h o v st c ∧ gsh w h (v - 1) 1 c)
          have q : gat (∃ c : Int, gG w h o v st c ∧ gsh w h (v - 1) 1 c) = 0 := q
          omega
        · rw [if_neg (by omega), wr_eq (by omega) (by omega)]
          refine ⟨_, rfl, rfl, ?_⟩
          show x + 1 = gat (∃ c : Int, gG w h o v st c ∧ gsh w h (v - 1) 0 c) + gat (∃ c : Int, gG w h o v st c ∧ gsh w h (v - 1) 1 c)
          have q : gat (∃ c : Int, gG w h o v st c ∧ gsh w h (v - 1) 1 c) = 1 := q
          omega
    · rintro ⟨x, y⟩ ⟨hx, hy⟩
      have hx : y = ((2 : Nat) : Int) := hx
      subst hx
      exact ⟨x, rfl, hy⟩
  obtain ⟨r, e, rfl⟩ := key
  rw [e]
  rfl
theorem C_look (P : Pd M w h o) {p : Int} (hp : p = 0 ∨ p = 1) : ∃ M', fX4_look M p = some M' ∧ Fr sG M M' ∧ mI M' 176 4 = gcn (gnew w h o (p + 1)) (w * h).toNat ∧ mI M' 176 5 = gmx (gnew w h o (p + 1)) (gsz w h o (p + 1)) (w * h).toNat := by
  have hN := P.n
  have F0 : Fr sG M (mUI (mUI (mFi M 177 81 0) 176 4 0) 176 5 0) := (((Fr.refl _ _).fi (fun _ => ⟨by omega, by omega⟩)).up ⟨by omega, by omega⟩).up ⟨by omega, by omega⟩
  have key : ∃ r, lp (fun s => fX4_look_b20 s.2 p s.1) lpN (0, mUI (mUI (mFi M 177 81 0) 176 4 0) 176 5 0) = some r ∧ (Fr sG M r ∧ mI r 176 4 = gcn (gnew w h o (p + 1)) (w * h).toNat ∧ mI r 176 5 = gmx (gnew w h o (p + 1)) (gsz w h o (p + 1)) (w * h).toNat) := by
    refine lpn (w * h).toNat (by omega) (fun i x => x.1 = (i : Int) ∧ Fr sG M x.2 ∧ mI x.2 176 4 = gcn (gnew w h o (p + 1)) i ∧ mI x.2 176 5 = gmx (gnew w h o (p + 1)) (gsz w h o (p + 1)) i ∧ ∀ c : Int, 0 ≤ c → c < 81 → (mI x.2 177 c.toNat ≠ 0 ↔ ∃ c' : Int, 0 ≤ c' ∧ c' < (i : Int) ∧ gG w h o (p + 1) c' c)) _ _ ⟨rfl, F0, ?_, ?_, fun c c0 c1 => ⟨fun z => ?_, fun ⟨c', z0, z1, _⟩ => ?_⟩⟩ ?_ ?_
    · show mI (mUI (mUI (mFi M 177 81 0) 176 4 0) 176 5 0) 176 4 = 0
      rw [mI_Un (by omega), mI_Us]
    · exact mI_Us _ _ _ _
    · refine absurd ?_ z
      show mI (mUI (mUI (mFi M 177 81 0) 176 4 0) 176 5 0) 177 c.toNat = 0
      rw [mI_Un (by omega), mI_Un (by omega), mI_F, if_pos ⟨rfl, by omega⟩]
    · omega
    · rintro i ⟨x, M1⟩ hi ⟨hx, f1, h4, h5, hm⟩
      right
      have hx : x = (i : Int) := hx
      subst hx
      have P1 := P.fr f1 sG_pond
      have h4 : mI M1 176 4 = gcn (gnew w h o (p + 1)) i := h4
      have h5 : mI M1 176 5 = gmx (gnew w h o (p + 1)) (gsz w h o (p + 1)) i := h5
      have hb := gcn_b (gnew w h o (p + 1)) i
      show ∃ s', fX4_look_b20 M1 p (i : Int) = some (.inl s') ∧ _
      unfold fX4_look_b20
      rw [P_cells P1.1, if_pos (by omega), if_pos (by omega), P_own P1, wr_eq (x := p + 1) (by omega) (by omega)]
      by_cases ho : o (i : Int) = p + 1
      · rw [if_pos ho, if_pos (by omega)]
        by_cases hz : mI M1 177 (i : Int).toNat = 0
        · have nw : gnew w h o (p + 1) (i : Int) := ⟨ho, fun c' z0 z1 z => (hm i (by omega) (by omega)).mpr ⟨c', z0, z1, z⟩ hz⟩
          obtain ⟨M2, g1, g2, g3, g4, _⟩ := C_gather P1 (by omega) (by omega) ho (by omega) hz (fun c hc => by
            have hcm := gC_mem P.k hc
            by_cases y : mI M1 177 c.toNat = 0
            · exact y
            · obtain ⟨c', z0, z1, z⟩ := (hm c hcm.2.1 (by omega)).mp y
              exact absurd hz ((hm i (by omega) (by omega)).mpr ⟨c', z0, z1, gC_trans z (gC_sym P.k hc)⟩))
          have q4 : mI M2 176 4 = gcn (gnew w h o (p + 1)) i := by rw [g2.2 176 4 (by unfold sQ; omega)]; exact h4
          have q5 : mI M2 176 5 = gmx (gnew w h o (p + 1)) (gsz w h o (p + 1)) i := by rw [g2.2 176 5 (by unfold sQ; omega)]; exact h5
          have f2 : Fr sG M M2 := f1.trans (g2.mono (fun k j s => by unfold sQ at s; unfold sG; omega))
          rw [if_pos hz, g1]
          refine ⟨(_, _), rfl, rfl, ?_, ?_, ?_, fun c c0 c1 => ?_⟩
          · exact (f2.up ⟨by omega, by omega⟩).up ⟨by omega, by omega⟩
          · rw [gcn_s nw]
            show mI (mUI (mUI M2 176 4 _) 176 5 _) 176 4 = _
            rw [mI_Un (by omega), mI_Us, q4, wr_eq (by omega) (by omega)]
          · rw [gmx_s nw]
            show mI (mUI (mUI M2 176 4 _) 176 5 _) 176 5 = _
            rw [mI_Us, mI_Un (by omega), mI_Un (by omega), q5, g3]
            rfl
          · show mI (mUI (mUI M2 176 4 _) 176 5 _) 177 c.toNat ≠ 0 ↔ _
            rw [mI_Un (by omega), mI_Un (by omega), g4 c c0 c1]
            constructor
            · rintro (y | y)
              · obtain ⟨c', z0, z1, z⟩ := (hm c c0 c1).mp y
                exact ⟨c', z0, by omega, z⟩
              · exact ⟨i, by omega, by omega, y⟩
            · rintro ⟨c', z0, z1, z⟩
              by_cases e : c' = (i : Int)
              · subst e; exact Or.inr z
              · exact Or.inl ((hm c c0 c1).mpr ⟨c', z0, by omega, z⟩)
        · obtain ⟨c1, z0, z1, z⟩ := (hm i (by omega) (by omega)).mp hz
          have nw : ¬ gnew w h o (p + 1) (i : Int) := fun y => y.2 c1 z0 z1 z
          rw [if_neg hz]
          refine ⟨(_, _), rfl, rfl, f1, by rw [gcn_n nw]; exact h4, by rw [gmx_n nw]; exact h5, fun c c0 c1' => ?_⟩
          show mI M1 177 c.toNat ≠ 0 ↔ _
          rw [hm c c0 c1']
          constructor
          · rintro ⟨c', y0, y1, y⟩
            exact ⟨c', y0, by omega, y⟩
          · rintro ⟨c', y0, y1, y⟩
            by_cases e : c' = (i : Int)
            · subst e; exact ⟨c1, z0, z1, gC_trans z y⟩
            · exact ⟨c', y0, by omega, y⟩
      · have nw : ¬ gnew w h o (p + 1) (i : Int) := fun y => ho y.1
        rw [if_neg ho]
        refine ⟨(_, _), rfl, rfl, f1, by rw [gcn_n nw]; exact h4, by rw [gmx_n nw]; exact h5, fun c c0 c1' => ?_⟩
        show mI M1 177 c.toNat ≠ 0 ↔ _
        rw [hm c c0 c1']
        constructor
        · rintro ⟨c', y0, y1, y⟩
          exact ⟨c', y0, by omega, y⟩
        · rintro ⟨c', y0, y1, y⟩
          by_cases e : c' = (i : Int)
          · subst e; exact absurd (gC_st y).1 ho
          · exact ⟨c', y0, by omega, y⟩
    · rintro ⟨x, M1⟩ ⟨hx, f1, h4, h5, hm⟩
      have hx : x = ((w * h).toNat : Int) := hx
      subst hx
      have P1 := P.fr f1 sG_pond
      refine ⟨M1, ?_, f1, h4, h5⟩
      show fX4_look_b20 M1 p ((w * h).toNat : Int) = _
      unfold fX4_look_b20
      rw [P_cells P1.1, if_neg (by omega)]
  obtain ⟨r, e, k⟩ := key
  refine ⟨r, ?_, k⟩
  unfold fX4_look
  rw [e]
  rfl
end CLK
