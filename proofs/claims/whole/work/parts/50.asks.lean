/-! part C: the class's ways, asked -/
noncomputable def gthr (w h : Int) (o : Int → Int) (p c : Int) : Int := if gd w h o p 0 c = 1000 then -1 else if gd w h o p 1 c = 1000 then -1 else gd w h o p 0 c + gd w h o p 1 c - gcost o c
def gwinc (w h : Int) (o : Int → Int) (p c : Int) : Prop := 0 ≤ c ∧ c < w * h ∧ o c = 0 ∧ gwon w h (gput o c (p + 1)) p
noncomputable def gwr (w h : Int) (o : Int → Int) : Int := if gneed w h o 0 = 0 then 0 else if gneed w h o 1 = 0 then 1 else -1
/-- the first one below n, or -1 -/
noncomputable def gfs (P : Int → Prop) : Nat → Int
  | 0 => -1
  | n + 1 => if gfs P n = -1 then @ite Int (P (n : Int)) (Classical.propDecidable _) (n : Int) (-1) else gfs P n
theorem gfs_no {P : Int → Prop} : ∀ n : Nat, (∀ c : Int, 0 ≤ c → c < n → ¬ P c) → gfs P n = -1
  | 0, _ => rfl
  | n + 1, h => by
    show (if gfs P n = -1 then @ite Int (P (n : Int)) (Classical.propDecidable _) (n : Int) (-1) else gfs P n) = -1
    rw [if_pos (gfs_no n (fun c a b => h c a (by omega))), if_neg (h n (by omega) (by omega))]
theorem gfs_at {P : Int → Prop} {i : Nat} (hi : P i) (hn : ∀ c : Int, 0 ≤ c → c < i → ¬ P c) : ∀ d : Nat, gfs P (i + 1 + d) = (i : Int)
  | 0 => by
    show (if gfs P i = -1 then @ite Int (P (i : Int)) (Classical.propDecidable _) (i : Int) (-1) else gfs P i) = i
    rw [if_pos (gfs_no i hn), if_pos hi]
  | d + 1 => by
    have ih := gfs_at hi hn d
    show (if gfs P (i + 1 + d) = -1 then @ite Int (P ((i + 1 + d : Nat) : Int)) (Classical.propDecidable _) ((i + 1 + d : Nat) : Int) (-1) else gfs P (i + 1 + d)) = i
    rw [ih, if_neg (by omega)]
theorem gfs_b {P : Int → Prop} : ∀ n : Nat, gfs P n = -1 ∨ (0 ≤ gfs P n ∧ gfs P n < n ∧ P (gfs P n))
  | 0 => Or.inl rfl
  | n + 1 => by
    have ih := gfs_b (P := P) n
    by_cases e : gfs P n = -1
    · by_cases z : P (n : Int)
      · have : gfs P (n + 1) = n := by
          show (if gfs P n = -1 then @ite Int (P (n : Int)) (Classical.propDecidable _) (n : Int) (-1) else gfs P n) = n
          rw [if_pos e, if_pos z]
        rw [this]
        exact Or.inr ⟨by omega, by omega, z⟩
      · left
        show (if gfs P n = -1 then @ite Int (P (n : Int)) (Classical.propDecidable _) (n : Int) (-1) else gfs P n) = -1
        rw [if_pos e, if_neg z]
    · have : gfs P (n + 1) = gfs P n := by
        show (if gfs P n = -1 then @ite Int (P (n : Int)) (Classical.propDecidable _) (n : Int) (-1) else gfs P n) = gfs P n
        rw [if_neg e]
      rw [this]
      rcases ih with z | ⟨z1, z2, z3⟩
      · exact absurd z e
      · exact Or.inr ⟨z1, by omega, z3⟩
noncomputable def gnr (w h : Int) (o : Int → Int) (p : Int) : Nat → Int × Int
  | 0 => (-1, 1000)
  | n + 1 => if o (n : Int) = 0 ∧ gthr w h o p (n : Int) ≠ -1 ∧ gthr w h o p (n : Int) < (gnr w h o p n).2 then ((n : Int), gthr w h o p (n : Int)) else gnr w h o p n
section CAS
variable {M : ax_M} {w h : Int} {o : Int → Int} {p : Int}
theorem gAll.fr {S : Nat → Nat → Prop} {M' : ax_M} (A : gAll M w h o) (f : Fr S M M') (hS : ∀ k j, 185 ≤ k ∧ k ≤ 190 → ¬ S k j) : gAll M' w h o := by
  intro p s hp hs
  obtain ⟨a, b⟩ := A p s hp hs
  refine ⟨fun c c0 c1 => ?_, fun z => ?_⟩
  · rw [f.2 _ _ (hS _ _ ⟨by show 185 ≤ 185 + (p * 2 + s).toNat; omega, by show 185 + (p * 2 + s).toNat ≤ 190; omega⟩)]; exact a c c0 c1
  · rw [f.2 _ _ (hS _ _ (by omega))]; exact b z
theorem C_needed (A : gAll M w h o) (hp : p = 0 ∨ p = 1) : fX11_needed M p = gneed w h o p := by
  unfold fX11_needed
  rw [if_neg (by omega), if_pos (by omega)]
  exact (A p 0 hp (Or.inl rfl)).2 rfl
theorem C_winner (P : Pd M w h o) (W : gWays M w h o) : ∃ M', fX12_winner M = some (gwr w h o, M') ∧ gWays M' w h o ∧ Fr sU M M' ∧ gAll M' w h o := by
  obtain ⟨M', e, a, b, c⟩ := C_ways P W
  refine ⟨M', ?_, a, b, c⟩
  unfold fX12_winner gwr
  rw [e, bd1_s, C_needed c (Or.inl rfl), C_needed c (Or.inr rfl)]
  by_cases z : gneed w h o 0 = 0
  · rw [if_pos z, if_pos z]
  · rw [if_neg z, if_neg z]
    by_cases y : gneed w h o 1 = 0
    · rw [if_pos y, if_pos y]
    · rw [if_neg y, if_neg y]
theorem C_through (P : Pd M w h o) (A : gAll M w h o) (hp : p = 0 ∨ p = 1) {c : Int} (c0 : 0 ≤ c) (c1 : c < w * h) : fX11_through M p c = gthr w h o p c := by
  have hN := P.n
  obtain ⟨l1, l2⟩ := gd_lo (s := 0) P (show 0 ≤ p ∧ p ≤ 1 by omega) c0 c1
  obtain ⟨m1, m2⟩ := gd_lo (s := 1) P (show 0 ≤ p ∧ p ≤ 1 by omega) c0 c1
  have l0 : (gcost o c = 1 ∧ o c = 0) ∨ (gcost o c = 0 ∧ o c ≠ 0) := gcost_b o c
  unfold fX11_through gthr
  rw [C_dist hp (Or.inl rfl) c0 (by omega), C_dist hp (Or.inr rfl) c0 (by omega), (A p 0 hp (Or.inl rfl)).1 c c0 c1, (A p 1 hp (Or.inr rfl)).1 c c0 c1, P_own P]
  by_cases e0 : gd w h o p 0 c = 1000
  · rw [if_pos e0, if_pos e0]
  · rw [if_neg e0, if_neg e0]
    by_cases e1 : gd w h o p 1 c = 1000
    · rw [if_pos e1, if_pos e1]
    · rw [if_neg e1, if_neg e1, wr_eq (x := gd w h o p 0 c + gd w h o p 1 c) (by omega) (by omega)]
      rcases l0 with ⟨y1, y2⟩ | ⟨y1, y2⟩
      · rw [if_pos y2, y1, wr_eq (by omega) (by omega)]
      · rw [if_neg y2, y1, wr_eq (by omega) (by omega)]
theorem gthr_1 (P : Pd M w h o) (hp : p = 0 ∨ p = 1) {c : Int} (c0 : 0 ≤ c) (c1 : c < w * h) (ho : o c = 0) : gthr w h o p c = 1 ↔ (gW w h o p 0 c 1 ∧ gW w h o p 1 c 1) := by
  have hp' : 0 ≤ p ∧ p ≤ 1 := by omega
  have hc1 : gcost o c = 1 := by rcases gcost_b o c with y | y <;> omega
  unfold gthr
  rw [hc1]
  rcases gd_cases (s := 0) P hp' c0 c1 with ⟨z1, z2⟩ | ⟨z1, z2, z3⟩
  · rw [if_pos z1]
    exact ⟨fun e => by omega, fun e => absurd e.1 (z2 _)⟩
  · have q1 := (gW_al z1).2.2
    rw [if_neg (by omega)]
    rcases gd_cases (s := 1) P hp' c0 c1 with ⟨y1, y2⟩ | ⟨y1, y2, y3⟩
    · rw [if_pos y1]
      exact ⟨fun e => by omega, fun e => absurd e.2 (y2 _)⟩
    · have q2 := (gW_al y1).2.2
      rw [if_neg (by omega)]
      constructor
      · intro e
        have e1 : gd w h o p 0 c = 1 := by omega
        have e2 : gd w h o p 1 c = 1 := by omega
        rw [e1] at z1
        rw [e2] at y1
        exact ⟨z1, y1⟩
      · rintro ⟨e1, e2⟩
        have := z2 1 e1
        have := y2 1 e2
        omega
theorem gwinc_iff (P : Pd M w h o) (hp : p = 0 ∨ p = 1) {c : Int} (c0 : 0 ≤ c) (c1 : c < w * h) (ho : o c = 0) : gwinc w h o p c ↔ (gthr w h o p c = 1 ∨ gneed w h o p = 0) := by
  have hp' : 0 ≤ p ∧ p ≤ 1 := by omega
  have g := gwin (o := o) (c0 := c) P.k hp'.1 c0 c1 ho
  rw [gthr_1 P hp c0 c1 ho, gneed_0 P hp']
  constructor
  · rintro ⟨_, _, _, z⟩
    exact (g.mp z).symm
  · intro z
    exact ⟨c0, c1, ho, g.mpr z.symm⟩
theorem C_wins (P : Pd M w h o) (A : gAll M w h o) (hp : p = 0 ∨ p = 1) (c : Int) : fX11_wins M p c = gat (gwinc w h o p c) := by
  unfold fX11_wins
  rw [P_has P.1, P_own P]
  by_cases hc : 0 ≤ c ∧ c < w * h
  · rw [if_pos hc, if_neg (by omega)]
    by_cases ho : o c = 0
    · rw [if_pos ho, C_through P A hp hc.1 hc.2, C_needed A hp]
      have g := gwinc_iff P hp hc.1 hc.2 ho
      by_cases e1 : gthr w h o p c = 1
      · rw [if_pos e1, gat_t (g.mpr (Or.inl e1))]
      · rw [if_neg e1]
        by_cases e2 : gneed w h o p = 0
        · rw [if_pos e2, gat_t (g.mpr (Or.inr e2))]
        · rw [if_neg e2, gat_f (fun z => (g.mp z).elim e1 e2)]
    · rw [if_neg ho, gat_f (fun z => ho z.2.2.1)]
  · rw [if_neg hc, if_pos rfl, gat_f (fun z => hc ⟨z.1, z.2.1⟩)]
theorem C_winningCells (P : Pd M w h o) (A : gAll M w h o) (hp : p = 0 ∨ p = 1) : fX11_winningCells M p = some (gcn (gwinc w h o p) (w * h).toNat) := by
  have hN := P.n
  have key : ∃ r, lp (fun q => fX11_winningCells_b4 M p q.1 q.2) lpN (0, 0) = some r ∧ r = gcn (gwinc w h o p) (w * h).toNat := by
    refine lpn (w * h).toNat (by omega) (fun i q => q.2 = (i : Int) ∧ q.1 = gcn (gwinc w h o p) i) _ _ ⟨rfl, rfl⟩ ?_ ?_
    · rintro i ⟨x, y⟩ hi ⟨hx, hy⟩
      right
      have hx : y = (i : Int) := hx
      subst hx
      have hy : x = gcn (gwinc w h o p) i := hy
      have hb := gcn_b (gwinc w h o p) i
      show ∃ s', fX11_winningCells_b4 M p x (i : Int) = some (.inl s') ∧ _
      unfold fX11_winningCells_b4
      rw [P_cells P.1, if_pos (by omega), C_wins P A hp]
      by_cases z : gwinc w h o p (i : Int)
      · rw [gat_t z, if_neg (by omega), wr_eq (by omega) (by omega)]
        exact ⟨(_, _), rfl, rfl, by rw [gcn_s z, ← hy]⟩
      · rw [gat_f z, if_pos rfl]
        exact ⟨(_, _), rfl, rfl, by rw [gcn_n z, ← hy]⟩
    · rintro ⟨x, y⟩ ⟨hx, hy⟩
      have hx : y = ((w * h).toNat : Int) := hx
      subst hx
      refine ⟨x, ?_, hy⟩
      show fX11_winningCells_b4 M p x ((w * h).toNat : Int) = _
      unfold fX11_winningCells_b4
      rw [P_cells P.1, if_neg (by omega)]
  obtain ⟨r, e, rfl⟩ := key
  unfold fX11_winningCells
  rw [e]
  rfl
theorem C_firstWinning (P : Pd M w h o) (A : gAll M w h o) (hp : p = 0 ∨ p = 1) : fX11_firstWinning M p = some (gfs (gwinc w h o p) (w * h).toNat) := by
  have hN := P.n
  have key : ∃ r, lp (fun q => fX11_firstWinning_b2 M p q) lpN 0 = some r ∧ ((∃ i : Nat, r = .inl (i : Int) ∧ gfs (gwinc w h o p) (w * h).toNat = (i : Int)) ∨ (r = .inr () ∧ gfs (gwinc w h o p) (w * h).toNat = -1)) := by
    refine lpn (w * h).toNat (by omega) (fun i q => q = (i : Int) ∧ ∀ c : Int, 0 ≤ c → c < (i : Int) → ¬ gwinc w h o p c) _ _ ⟨rfl, fun c a b => by omega⟩ ?_ ?_
    · rintro i x hi ⟨hx, hy⟩
      subst hx
      show (∃ r, fX11_firstWinning_b2 M p (i : Int) = some (.inr r) ∧ _) ∨ (∃ s', fX11_firstWinning_b2 M p (i : Int) = some (.inl s') ∧ _)
      unfold fX11_firstWinning_b2
      rw [P_cells P.1, if_pos (by omega), C_wins P A hp]
      by_cases z : gwinc w h o p (i : Int)
      · left
        rw [gat_t z, if_neg (by omega)]
        have e := gfs_at z hy ((w * h).toNat - (i + 1))
        rw [show i + 1 + ((w * h).toNat - (i + 1)) = (w * h).toNat by omega] at e
        exact ⟨_, rfl, Or.inl ⟨i, rfl, e⟩⟩
      · right
        rw [gat_f z, if_pos rfl]
        refine ⟨_, rfl, by show (i : Int) + 1 = ((i + 1 : Nat) : Int); omega, fun c a b => ?_⟩
        by_cases e : c = (i : Int)
        · rw [e]; exact z
        · exact hy c a (by omega)
    · rintro x ⟨hx, hy⟩
      subst hx
      refine ⟨.inr (), ?_, Or.inr ⟨rfl, gfs_no _ hy⟩⟩
      show fX11_firstWinning_b2 M p ((w * h).toNat : Int) = _
      unfold fX11_firstWinning_b2
      rw [P_cells P.1, if_neg (by omega)]
  obtain ⟨r, e, q⟩ := key
  unfold fX11_firstWinning
  rw [e]
  rcases q with ⟨i, rfl, q⟩ | ⟨rfl, q⟩
  · rw [q]; rfl
  · rw [q]; rfl
theorem C_nearest (P : Pd M w h o) (A : gAll M w h o) (hp : p = 0 ∨ p = 1) : fX11_nearest M p = some (gnr w h o p (w * h).toNat).1 := by
  have hN := P.n
  have key : ∃ r, lp (fun q => fX11_nearest_b9 M p q.1 q.2.1 q.2.2) lpN (-1, 1000, 0) = some r ∧ r = (gnr w h o p (w * h).toNat).1 := by
    refine lpn (w * h).toNat (by omega) (fun i q => q.2.2 = (i : Int) ∧ (q.1, q.2.1) = gnr w h o p i) _ _ ⟨rfl, rfl⟩ ?_ ?_
    · rintro i ⟨x, y, z⟩ hi ⟨hx, hy⟩
      right
      have hx : z = (i : Int) := hx
      subst hx
      have hy : (x, y) = gnr w h o p i := hy
      have h2 : (gnr w h o p i).2 = y := by rw [← hy]
      have gn : gnr w h o p (i + 1) = if o (i : Int) = 0 ∧ gthr w h o p (i : Int) ≠ -1 ∧ gthr w h o p (i : Int) < y then ((i : Int), gthr w h o p (i : Int)) else gnr w h o p i := by rw [← h2]; rfl
      show ∃ s', fX11_nearest_b9 M p x y (i : Int) = some (.inl s') ∧ _
      unfold fX11_nearest_b9
      rw [P_cells P.1, if_pos (by omega), P_own P]
      by_cases e1 : o (i : Int) = 0
      · rw [if_pos e1, C_through P A hp (by omega) (by omega)]
        by_cases e2 : gthr w h o p (i : Int) = -1
        · rw [if_pos e2]
          refine ⟨(_, _, _), rfl, rfl, ?_⟩
          rw [gn, if_neg (fun z => z.2.1 e2)]; exact hy
        · rw [if_neg e2]
          by_cases e3 : gthr w h o p (i : Int) < y
          · rw [if_pos e3]
            refine ⟨(_, _, _), rfl, rfl, ?_⟩
            rw [gn, if_pos ⟨e1, e2, e3⟩]
          · rw [if_neg e3]
            refine ⟨(_, _, _), rfl, rfl, ?_⟩
            rw [gn, if_neg (fun z => e3 z.2.2)]; exact hy
      · rw [if_neg e1]
        refine ⟨(_, _, _), rfl, rfl, ?_⟩
        rw [gn, if_neg (fun z => e1 z.1)]; exact hy
    · rintro ⟨x, y, z⟩ ⟨hx, hy⟩
      have hx : z = ((w * h).toNat : Int) := hx
      subst hx
      have hy : (x, y) = gnr w h o p (w * h).toNat := hy
      refine ⟨x, ?_, by rw [← hy]⟩
      show fX11_nearest_b9 M p x y ((w * h).toNat : Int) = _
      unfold fX11_nearest_b9
      rw [P_cells P.1, if_neg (by omega)]
  obtain ⟨r, e, rfl⟩ := key
  unfold fX11_nearest
  rw [e]
  rfl
end CAS
