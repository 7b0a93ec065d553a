/-! part C: the class's ways, looked at and asked -/
theorem lp_s {σ ρ : Type} {b : σ → Option (σ ⊕ ρ)} {n : Nat} {s s' : σ} (h : b s = some (.inl s')) : lp b (n + 1) s = lp b n s' := by
  simp only [lp]
  rw [h]
theorem lp_r {σ ρ : Type} {b : σ → Option (σ ⊕ ρ)} {n : Nat} {s : σ} {r : ρ} (h : b s = some (.inr r)) : lp b (n + 1) s = some r := by
  simp only [lp]
  rw [h]
abbrev gK (p s : Int) : Nat := 185 + (p * 2 + s).toNat
noncomputable def gnf (w h : Int) (o : Int → Int) (p : Int) : Nat → Int
  | 0 => 1000
  | n + 1 => if gsh w h p 1 (n : Int) then (if gd w h o p 0 (n : Int) < gnf w h o p n then gd w h o p 0 (n : Int) else gnf w h o p n) else gnf w h o p n
noncomputable def gneed (w h : Int) (o : Int → Int) (p : Int) : Int := if gnf w h o p (w * h).toNat = 1000 then 99 else gnf w h o p (w * h).toNat
def gRow (M : ax_M) (w h : Int) (o : Int → Int) (p s : Int) : Prop := (∀ c : Int, 0 ≤ c → c < w * h → mI M (gK p s) c.toNat = gd w h o p s c) ∧ (s = 0 → mI M 190 p.toNat = gneed w h o p)
def gWays (M : ax_M) (w h : Int) (o : Int → Int) : Prop := ∀ p s : Int, (p = 0 ∨ p = 1) → (s = 0 ∨ s = 1) → mI M 189 (p * 2 + s).toNat ≤ mI M 169 9 ∧ (mI M 189 (p * 2 + s).toNat = mI M 169 9 → gRow M w h o p s)
def gAll (M : ax_M) (w h : Int) (o : Int → Int) : Prop := ∀ p s : Int, (p = 0 ∨ p = 1) → (s = 0 ∨ s = 1) → gRow M w h o p s
def sU : Nat → Nat → Prop := fun k _ => 183 ≤ k ∧ k ≤ 191
theorem sU_pond : ∀ k j, (k = 169 ∧ j < 2) ∨ 170 ≤ k ∧ k ≤ 174 → ¬ sU k j := by
  intro k j h1 h2
  unfold sU at h2
  omega
section CWA
variable {M : ax_M} {w h : Int} {o : Int → Int} {p s : Int}
theorem gd_lo (P : Pd M w h o) (hp : 0 ≤ p ∧ p ≤ 1) {c : Int} (c0 : 0 ≤ c) (c1 : c < w * h) : gcost o c ≤ gd w h o p s c ∧ (gd w h o p s c = 1000 ∨ gd w h o p s c ≤ 82) := by
  rcases gd_cases (s := s) P hp c0 c1 with z | z
  · rcases gcost_b o c with y | y <;> omega
  · exact ⟨(gW_al z.1).2.2, Or.inr z.2.2⟩
theorem gnf_f (P : Pd M w h o) (hp : 0 ≤ p ∧ p ≤ 1) : ∀ n : Nat, n ≤ (w * h).toNat → 0 ≤ gnf w h o p n ∧ (∀ c : Int, 0 ≤ c → c < n → gsh w h p 1 c → gnf w h o p n ≤ gd w h o p 0 c) ∧ (gnf w h o p n = 1000 ∨ (gnf w h o p n ≤ 82 ∧ ∃ c : Int, 0 ≤ c ∧ c < n ∧ gsh w h p 1 c ∧ gnf w h o p n = gd w h o p 0 c))
  | 0, _ => ⟨by show (0 : Int) ≤ 1000; omega, fun c a b => by omega, Or.inl rfl⟩
  | n + 1, hn => by
    obtain ⟨h1, h2, h3⟩ := gnf_f P hp n (by omega)
    obtain ⟨l1, l2⟩ := gd_lo (s := 0) P hp (c := (n : Int)) (by omega) (by omega)
    have l0 : 0 ≤ gcost o (n : Int) := by rcases gcost_b o (n : Int) with y | y <;> omega
    show 0 ≤ (if gsh w h p 1 (n : Int) then (if gd w h o p 0 (n : Int) < gnf w h o p n then gd w h o p 0 (n : Int) else gnf w h o p n) else gnf w h o p n) ∧ (∀ c : Int, 0 ≤ c → c < ((n + 1 : Nat) : Int) → gsh w h p 1 c → (if gsh w h p 1 (n : Int) then (if gd w h o p 0 (n : Int) < gnf w h o p n then gd w h o p 0 (n : Int) else gnf w h o p n) else gnf w h o p n) ≤ gd w h o p 0 c) ∧ ((if gsh w h p 1 (n : Int) then (if gd w h o p 0 (n : Int) < gnf w h o p n then gd w h o p 0 (n : Int) else gnf w h o p n) else gnf w h o p n) = 1000 ∨ ((if gsh w h p 1 (n : Int) then (if gd w h o p 0 (n : Int) < gnf w h o p n then gd w h o p 0 (n : Int) else gnf w h o p n) else gnf w h o p n) ≤ 82 ∧ ∃ c : Int, 0 ≤ c ∧ c < ((n + 1 : Nat) : Int) ∧ gsh w h p 1 c ∧ (if gsh w h p 1 (n : Int) then (if gd w h o p 0 (n : Int) < gnf w h o p n then gd w h o p 0 (n : Int) else gnf w h o p n) else gnf w h o p n) = gd w h o p 0 c))
    by_cases hz : gsh w h p 1 (n : Int)
    · rw [if_pos hz]
      by_cases hl : gd w h o p 0 (n : Int) < gnf w h o p n
      · rw [if_pos hl]
        refine ⟨by omega, fun c a b e => ?_, ?_⟩
        · by_cases ec : c = (n : Int)
          · rw [ec]; omega
          · have := h2 c a (by omega) e; omega
        · have h4 : gnf w h o p n = 1000 ∨ gnf w h o p n ≤ 82 := h3.imp id (fun z => z.1)
          clear h3
          exact Or.inr ⟨by omega, n, by omega, by omega, hz, rfl⟩
      · rw [if_neg hl]
        refine ⟨h1, fun c a b e => ?_, ?_⟩
        · by_cases ec : c = (n : Int)
          · rw [ec]; omega
          · exact h2 c a (by omega) e
        · rcases h3 with z | ⟨z, c, a, b, e, f⟩
          · exact Or.inl z
          · exact Or.inr ⟨z, c, a, by omega, e, f⟩
    · rw [if_neg hz]
      refine ⟨h1, fun c a b e => ?_, ?_⟩
      · by_cases ec : c = (n : Int)
        · rw [ec] at e; exact absurd e hz
        · exact h2 c a (by omega) e
      · rcases h3 with z | ⟨z, c, a, b, e, f⟩
        · exact Or.inl z
        · exact Or.inr ⟨z, c, a, by omega, e, f⟩
theorem gneed_b (P : Pd M w h o) (hp : 0 ≤ p ∧ p ≤ 1) : 0 ≤ gneed w h o p ∧ (gneed w h o p = 99 ∨ gneed w h o p ≤ 82) := by
  obtain ⟨h1, h2, h3⟩ := gnf_f P hp _ (Nat.le_refl _)
  unfold gneed
  by_cases e : gnf w h o p (w * h).toNat = 1000
  · rw [if_pos e]; omega
  · rw [if_neg e]; omega
theorem gneed_0 (P : Pd M w h o) (hp : 0 ≤ p ∧ p ≤ 1) : gneed w h o p = 0 ↔ gwon w h o p := by
  obtain ⟨h1, h2, h3⟩ := gnf_f P hp _ (Nat.le_refl _)
  unfold gneed
  constructor
  · intro e
    by_cases f : gnf w h o p (w * h).toNat = 1000
    · rw [if_pos f] at e; omega
    · rw [if_neg f] at e
      rcases h3 with z | ⟨z, c, a, b, hz, y⟩
      · exact absurd z f
      · rcases gd_cases (s := 0) P hp (c := c) a (by omega) with u | u
        · omega
        · have e0 : gd w h o p 0 c = 0 := by omega
          have u1 := u.1
          rw [e0] at u1
          exact ⟨c, hz, u1⟩
  · rintro ⟨z, z1, z2⟩
    have hal := (gW_al z2).1
    have hn := P.n
    have := h2 z hal.1 (by have := hal.2.1; omega) z1
    rcases gd_cases (s := 0) P hp (c := z) hal.1 hal.2.1 with u | u
    · exact absurd z2 (u.2 0)
    · have := u.2.1 0 z2
      rw [if_neg (by omega)]
      omega
theorem C_dist (hp : p = 0 ∨ p = 1) (hs : s = 0 ∨ s = 1) {c : Int} (c0 : 0 ≤ c) (c1 : c < 81) : fX11_distance M p s c = mI M (gK p s) c.toNat := by
  unfold fX11_distance
  rw [wr_eq (x := p * 2) (by omega) (by omega), wr_eq (x := p * 2 + s) (by omega) (by omega), if_neg (by omega), if_pos (by omega), if_neg (by omega), if_pos c1]
theorem C_few (P : Pd M w h o) (hp : p = 0 ∨ p = 1) (hr : ∀ c : Int, 0 ≤ c → c < w * h → mI M (gK p 0) c.toNat = gd w h o p 0 c) : fX11_fewestAtOtherShore M p = some (gneed w h o p) := by
  have hN := P.n
  have key : ∃ r, lp (fun q => fX11_fewestAtOtherShore_b6 M p q.1 q.2) lpN (1000, 0) = some r ∧ r = gnf w h o p (w * h).toNat := by
    refine lpn (w * h).toNat (by omega) (fun i q => q.2 = (i : Int) ∧ q.1 = gnf w h o p i) _ _ ⟨rfl, rfl⟩ ?_ ?_
    · rintro i ⟨x, y⟩ hi ⟨hx, hy⟩
      right
      have hx : y = (i : Int) := hx
      subst hx
      have hy : x = gnf w h o p i := hy
      have i0 : 0 ≤ (i : Int) := by omega
      have i1 : (i : Int) < w * h := by omega
      show ∃ s', fX11_fewestAtOtherShore_b6 M p x (i : Int) = some (.inl s') ∧ _
      unfold fX11_fewestAtOtherShore_b6
      rw [P_cells P.1, if_pos i1, P_sh P.1 p 1 i0 i1]
      by_cases hz : gsh w h p 1 (i : Int)
      · rw [if_pos hz, if_neg (by omega), C_dist hp (Or.inl rfl) i0 (by omega), hr _ i0 i1]
        refine ⟨(_, _), rfl, rfl, ?_⟩
        show (if gd w h o p 0 (i : Int) < x then gd w h o p 0 (i : Int) else x) = (if gsh w h p 1 (i : Int) then (if gd w h o p 0 (i : Int) < gnf w h o p i then gd w h o p 0 (i : Int) else gnf w h o p i) else gnf w h o p i)
        rw [if_pos hz, hy]
      · rw [if_neg hz, if_pos rfl]
        refine ⟨(_, _), rfl, rfl, ?_⟩
        show x = (if gsh w h p 1 (i : Int) then (if gd w h o p 0 (i : Int) < gnf w h o p i then gd w h o p 0 (i : Int) else gnf w h o p i) else gnf w h o p i)
        rw [if_neg hz, hy]
    · rintro ⟨x, y⟩ ⟨hx, hy⟩
      have hx : y = ((w * h).toNat : Int) := hx
      subst hx
      refine ⟨x, ?_, hy⟩
      show fX11_fewestAtOtherShore_b6 M p x ((w * h).toNat : Int) = _
      unfold fX11_fewestAtOtherShore_b6
      rw [P_cells P.1, if_neg (by omega)]
  obtain ⟨r, e, rfl⟩ := key
  unfold fX11_fewestAtOtherShore gneed
  rw [e, bd1_s]
  by_cases z : gnf w h o p (w * h).toNat = 1000
  · rw [if_pos z, if_pos z]
  · rw [if_neg z, if_neg z]
theorem C_measure (P : Pd M w h o) (W : gWays M w h o) (hp : p = 0 ∨ p = 1) (hs : s = 0 ∨ s = 1) : ∃ M', fX11_measure M p s = some M' ∧ gWays M' w h o ∧ Fr sU M M' ∧ mI M' 189 (p * 2 + s).toNat = mI M' 169 9 ∧ ∀ p' s' : Int, (p' = 0 ∨ p' = 1) → (s' = 0 ∨ s' = 1) → mI M 189 (p' * 2 + s').toNat = mI M 169 9 → mI M' 189 (p' * 2 + s').toNat = mI M' 169 9 := by
  have hN := P.n
  have hw : wr (wr (p * 2) + s) = p * 2 + s := by rw [wr_eq (x := p * 2) (by omega) (by omega), wr_eq (by omega) (by omega)]
  have hch : fX8_changes M = mI M 169 9 := rfl
  unfold fX11_measure
  rw [hw, hch, if_neg (by omega), if_pos (by omega)]
  by_cases hf : mI M 189 (p * 2 + s).toNat = mI M 169 9
  · rw [if_pos hf]
    exact ⟨M, rfl, W, Fr.refl _ _, hf, fun _ _ _ _ z => z⟩
  · rw [if_neg hf]
    have hK : 185 ≤ gK p s ∧ gK p s < 189 := ⟨by show 185 ≤ 185 + (p * 2 + s).toNat; omega, by show 185 + (p * 2 + s).toNat < 189; omega⟩
    have F1 : Fr sU M (mUI (mUI (mFi (mUI M 189 (p * 2 + s).toNat (mI M 169 9)) (gK p s) 81 1000) 183 5 81) 183 6 81) := ((((Fr.refl sU M).up ⟨by omega, by omega⟩).fi (fun _ => ⟨by omega, by omega⟩)).up ⟨by omega, by omega⟩).up ⟨by omega, by omega⟩
    have P1 := P.fr F1 sU_pond
    obtain ⟨M1, M2, e1, e2, F2, hd⟩ := C_me4 (p := p) (s := s) P1 hK (by omega) (fun c a b => by rw [mI_Un (by omega), mI_Un (by omega), mI_F, if_pos ⟨rfl, by omega⟩]) (by rw [mI_Un (by omega), mI_Us]) (mI_Us _ _ _ _)
    have P2 := P1.fr F2 (sW_pond hK.1)
    have F3 : Fr sU M M2 := F1.trans (F2.mono (fun k j z => by unfold sW at z; unfold sU; omega))
    have c9 : mI M2 169 9 = mI M 169 9 := F3.2 169 9 (by unfold sU; omega)
    have o189 : ∀ j, j ≠ (p * 2 + s).toNat → mI M2 189 j = mI M 189 j := fun j hj => by
      rw [F2.2 189 j (by unfold sW; omega), mI_Un (by omega), mI_Un (by omega), mI_F, if_neg (by omega), mI_Un (by omega)]
    have n189 : mI M2 189 (p * 2 + s).toNat = mI M 169 9 := by
      rw [F2.2 189 _ (by unfold sW; omega), mI_Un (by omega), mI_Un (by omega), mI_F, if_neg (by omega), mI_Us]
    have o190 : ∀ j, mI M2 190 j = mI M 190 j := fun j => by
      rw [F2.2 190 j (by unfold sW; omega), mI_Un (by omega), mI_Un (by omega), mI_F, if_neg (by omega), mI_Un (by omega)]
    have oK : ∀ k j, 185 ≤ k → k < 189 → k ≠ gK p s → mI M2 k j = mI M k j := fun k j k0 k1 k2 => by
      rw [F2.2 k j (by unfold sW; omega), mI_Un (by omega), mI_Un (by omega), mI_F, if_neg (by omega), mI_Un (by omega)]
    have hd : ∀ c : Int, 0 ≤ c → c < w * h → mI M2 (gK p s) c.toNat = gd w h o p s c := fun c c0 c1 => (hd c c0 c1).1
    show ∃ M', bd1 (lp (fun q => fX11_measure_b80 q.2 p s (gK p s) q.1) lpN (0, mUI (mUI (mFi (mUI M 189 (p * 2 + s).toNat (mI M 169 9)) (gK p s) 81 1000) 183 5 81) 183 6 81)) (fun t11 => bd1 (lp (fun q => fX11_measure_b125 q.2 p s (gK p s) q.1) lpN (0, t11)) fun t35 => (if s = 0 then (if p < 0 then (some t35) else (if p < 2 then (bd1 (fX11_fewestAtOtherShore t35 p) fun v43 => (some (mUI t35 190 (Int.toNat p) v43))) else (some t35))) else (some t35))) = some M' ∧ _
    rw [e1, bd1_s, e2, bd1_s]
    by_cases hs0 : s = 0
    · rw [if_pos hs0, if_neg (by omega), if_pos (by omega), C_few P2 hp (by rw [hs0] at hd; exact hd), bd1_s]
      refine ⟨_, rfl, fun p' s' hp' hs' => ?_, F3.up ⟨by omega, by omega⟩, ?_, fun p' s' hp' hs' hz => ?_⟩
      · rw [mI_Un (by omega), mI_Un (by omega), c9]
        by_cases e : p' = p ∧ s' = s
        · rw [e.1, e.2, n189]
          refine ⟨Int.le_refl _, fun _ => ⟨fun c c0 c1 => ?_, fun _ => mI_Us _ _ _ _⟩⟩
          rw [mI_Un (by show ¬ (185 + (p * 2 + s).toNat = 190 ∧ _); omega)]
          exact hd c c0 c1
        · rw [o189 _ (by omega)]
          obtain ⟨w1, w2⟩ := W p' s' hp' hs'
          refine ⟨w1, fun z => ⟨fun c c0 c1 => ?_, fun z0 => ?_⟩⟩
          · rw [mI_Un (by show ¬ (185 + (p' * 2 + s').toNat = 190 ∧ _); omega), oK _ _ (by show 185 ≤ 185 + (p' * 2 + s').toNat; omega) (by show 185 + (p' * 2 + s').toNat < 189; omega) (by show ¬ (185 + (p' * 2 + s').toNat = 185 + (p * 2 + s).toNat); omega)]
            exact (w2 z).1 c c0 c1
          · rw [mI_Un (by omega), o190]
            exact (w2 z).2 z0
      · rw [mI_Un (by omega), mI_Un (by omega), c9, n189]
      · rw [mI_Un (by omega), mI_Un (by omega), c9]
        by_cases e : p' = p ∧ s' = s
        · rw [e.1, e.2, n189]
        · rw [o189 _ (by omega)]; exact hz
    · rw [if_neg hs0]
      refine ⟨_, rfl, fun p' s' hp' hs' => ?_, F3, ?_, fun p' s' hp' hs' hz => ?_⟩
      · rw [c9]
        by_cases e : p' = p ∧ s' = s
        · rw [e.1, e.2, n189]
          exact ⟨Int.le_refl _, fun _ => ⟨hd, fun z => absurd z hs0⟩⟩
        · rw [o189 _ (by omega)]
          obtain ⟨w1, w2⟩ := W p' s' hp' hs'
          refine ⟨w1, fun z => ⟨fun c c0 c1 => ?_, fun z0 => ?_⟩⟩
          · rw [oK _ _ (by show 185 ≤ 185 + (p' * 2 + s').toNat; omega) (by show 185 + (p' * 2 + s').toNat < 189; omega) (by show ¬ (185 + (p' * 2 + s').toNat = 185 + (p * 2 + s).toNat); omega)]
            exact (w2 z).1 c c0 c1
          · rw [o190]
            exact (w2 z).2 z0
      · rw [c9, n189]
      · rw [c9]
        by_cases e : p' = p ∧ s' = s
        · rw [e.1, e.2, n189]
        · rw [o189 _ (by omega)]; exact hz
theorem C_ways (P : Pd M w h o) (W : gWays M w h o) : ∃ M', fX11_look M = some M' ∧ gWays M' w h o ∧ Fr sU M M' ∧ gAll M' w h o := by
  obtain ⟨A, a1, a2, a3, a4, a5⟩ := C_measure (p := 0) (s := 0) P W (Or.inl rfl) (Or.inl rfl)
  obtain ⟨B, b1, b2, b3, b4, b5⟩ := C_measure (p := 1) (s := 0) (P.fr a3 sU_pond) a2 (Or.inr rfl) (Or.inl rfl)
  have F2 := a3.trans b3
  obtain ⟨C, c1, c2, c3, c4, c5⟩ := C_measure (p := 0) (s := 1) (P.fr F2 sU_pond) b2 (Or.inl rfl) (Or.inr rfl)
  have F3 := F2.trans c3
  obtain ⟨D, d1, d2, d3, d4, d5⟩ := C_measure (p := 1) (s := 1) (P.fr F3 sU_pond) c2 (Or.inr rfl) (Or.inr rfl)
  have b5' := b5 0 0 (Or.inl rfl) (Or.inl rfl) a4
  have c5' := c5 0 0 (Or.inl rfl) (Or.inl rfl) b5'
  have c6' := c5 1 0 (Or.inr rfl) (Or.inl rfl) b4
  have d5' := d5 0 0 (Or.inl rfl) (Or.inl rfl) c5'
  have d6' := d5 1 0 (Or.inr rfl) (Or.inl rfl) c6'
  have d7' := d5 0 1 (Or.inl rfl) (Or.inr rfl) c4
  refine ⟨D, ?_, d2, F3.trans d3, fun p s hp hs => ?_⟩
  · have s0 : (fun q : Int × ax_M => fX11_look_b2 q.2 q.1) (0, M) = some (.inl (1, B)) := by
      show fX11_look_b2 M 0 = _
      unfold fX11_look_b2
      rw [if_pos (by omega), a1, bd1_s, b1, bd1_s]
      rfl
    have s1 : (fun q : Int × ax_M => fX11_look_b2 q.2 q.1) (1, B) = some (.inl (2, D)) := by
      show fX11_look_b2 B 1 = _
      unfold fX11_look_b2
      rw [if_pos (by omega), c1, bd1_s, d1, bd1_s]
      rfl
    have s2 : (fun q : Int × ax_M => fX11_look_b2 q.2 q.1) (2, D) = some (.inr D) := by
      show fX11_look_b2 D 2 = _
      unfold fX11_look_b2
      rw [if_neg (by omega)]
    unfold fX11_look
    have e : lpN = 999997 + 3 := rfl
    rw [e]
    generalize 999997 = L
    show bd1 (lp (fun q : Int × ax_M => fX11_look_b2 q.2 q.1) (L + 3) (0, M)) _ = _
    rw [lp_s s0, lp_s s1, lp_r s2]
    rfl
  · have hfr : mI D 189 (p * 2 + s).toNat = mI D 169 9 := by
      rcases hp with rfl | rfl <;> rcases hs with rfl | rfl
      · exact d5'
      · exact d7'
      · exact d6'
      · exact d4
    exact (d2 p s hp hs).2 hfr
theorem C_waysF (P : Pd M w h o) (W : gWays M w h o) : ∃ M', fX11_lookFromFirstShores M = some M' ∧ gWays M' w h o ∧ Fr sU M M' ∧ ∀ p : Int, (p = 0 ∨ p = 1) → mI M' 190 p.toNat = gneed w h o p := by
  obtain ⟨A, a1, a2, a3, a4, a5⟩ := C_measure (p := 0) (s := 0) P W (Or.inl rfl) (Or.inl rfl)
  obtain ⟨B, b1, b2, b3, b4, b5⟩ := C_measure (p := 1) (s := 0) (P.fr a3 sU_pond) a2 (Or.inr rfl) (Or.inl rfl)
  have b5' := b5 0 0 (Or.inl rfl) (Or.inl rfl) a4
  refine ⟨B, ?_, b2, a3.trans b3, fun p hp => ?_⟩
  · unfold fX11_lookFromFirstShores
    rw [a1, bd1_s, b1, bd1_s]
  · rcases hp with rfl | rfl
    · exact ((b2 0 0 (Or.inl rfl) (Or.inl rfl)).2 b5').2 rfl
    · exact ((b2 1 0 (Or.inr rfl) (Or.inl rfl)).2 b4).2 rfl
end CWA
