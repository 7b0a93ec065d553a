/-! part C: the model's ways, asked -/
theorem sR_M {K : Nat} (hK : K = 236 ∨ K = 237) : ∀ k j, sR K k j → sM k j := by
  intro k j h
  unfold sR at h
  unfold sM
  omega
noncomputable def gthrm (w h : Int) (o : Int → Int) (p c : Int) : Int := if gthr w h o p c = -1 then 9999 else gthr w h o p c
theorem gput_own {w h : Int} {o : Int → Int} (g : gOwn w h o) {c v : Int} (c0 : 0 ≤ c) (c1 : c < w * h) (hv : v = 0 ∨ v = 1 ∨ v = 2) : gOwn w h (gput o c v) := by
  refine ⟨fun x hx => ?_, fun x => ?_⟩
  · rw [gput_n (by omega)]; exact g.1 x hx
  · by_cases e : x = c
    · rw [e, gput_s]; exact hv
    · rw [gput_n e]; exact g.2 x
section MAS
variable {M : ax_M} {w h : Int} {o : Int → Int} {p s : Int}
theorem gthr_b (k : gOk w h) (g : gOwn w h o) (hp : p = 0 ∨ p = 1) {c : Int} (c0 : 0 ≤ c) (c1 : c < w * h) : gthr w h o p c = -1 ∨ (0 ≤ gthr w h o p c ∧ gthr w h o p c ≤ 164) := by
  obtain ⟨M0, P0⟩ := Pd_ex k g
  have hp' : 0 ≤ p ∧ p ≤ 1 := by omega
  obtain ⟨a1, a2⟩ := gd_lo (s := 0) P0 hp' c0 c1
  obtain ⟨b1, b2⟩ := gd_lo (s := 1) P0 hp' c0 c1
  have l0 := gcost_b o c
  unfold gthr
  by_cases e0 : gd w h o p 0 c = 1000
  · rw [if_pos e0]; exact Or.inl rfl
  · rw [if_neg e0]
    by_cases e1 : gd w h o p 1 c = 1000
    · rw [if_pos e1]; exact Or.inl rfl
    · rw [if_neg e1]; omega
theorem Q_needs (P : Md M w h o) (hp : p = 0 ∨ p = 1) : ∃ M', fX14_needs M p = some (gneed w h o p, M') ∧ Fr sM M M' := by
  have hN := gOk_le P.1
  obtain ⟨M1, e1, f1, h1⟩ := Q_reach (s := 0) P (Or.inl rfl) hp
  have P1 := P.fr f1 (sR_pond (Or.inl rfl))
  obtain ⟨M0, P0⟩ := Pd_ex P.1 P.2.1
  have hp' : 0 ≤ p ∧ p ≤ 1 := by omega
  have key : ∃ r, lp (fun q => fX14_needs_b16 M1 p q.1 q.2) lpN (9999, 0) = some r ∧ r = if gnf w h o p (w * h).toNat = 1000 then 9999 else gnf w h o p (w * h).toNat := by
    refine lpn (w * h).toNat (by omega) (fun i q => q.2 = (i : Int) ∧ q.1 = if gnf w h o p i = 1000 then 9999 else gnf w h o p i) _ _ ⟨rfl, rfl⟩ ?_ ?_
    · rintro i ⟨x, y⟩ hi ⟨hx, hy⟩
      right
      have hx : y = (i : Int) := hx
      subst hx
      have hy : x = if gnf w h o p i = 1000 then 9999 else gnf w h o p i := hy
      have i0 : 0 ≤ (i : Int) := by omega
      have i1 : (i : Int) < w * h := by omega
      have i2 : 0 ≤ (i : Int) ∧ (i : Int) < 81 := by omega
      obtain ⟨g1, g2, g3⟩ := gnf_f P0 hp' i (by omega)
      have g4 : gnf w h o p i = 1000 ∨ gnf w h o p i ≤ 82 := g3.imp id (fun z => z.1)
      have g5 := (gd_lo (s := 0) P0 hp' i0 i1).2
      clear g2 g3
      show ∃ s', fX14_needs_b16 M1 p x (i : Int) = some (.inl s') ∧ _
      unfold fX14_needs_b16
      rw [Q_cells P1, if_pos i1, Q_sh P1 p 1 i0 i1, bd1_s]
      by_cases hz : gsh w h p 1 (i : Int)
      · rw [if_pos hz, if_neg (by omega), if_pos i2, h1 _ i0 i1]
        refine ⟨(_, _), rfl, rfl, ?_⟩
        show (if gdm w h o p 0 (i : Int) < x then gdm w h o p 0 (i : Int) else x) = if (if gsh w h p 1 (i : Int) then (if gd w h o p 0 (i : Int) < gnf w h o p i then gd w h o p 0 (i : Int) else gnf w h o p i) else gnf w h o p i) = 1000 then 9999 else (if gsh w h p 1 (i : Int) then (if gd w h o p 0 (i : Int) < gnf w h o p i then gd w h o p 0 (i : Int) else gnf w h o p i) else gnf w h o p i)
        rw [if_pos hz, hy]
        unfold gdm
        omega
      · rw [if_neg hz, if_pos rfl]
        refine ⟨(_, _), rfl, rfl, ?_⟩
        show x = if (if gsh w h p 1 (i : Int) then (if gd w h o p 0 (i : Int) < gnf w h o p i then gd w h o p 0 (i : Int) else gnf w h o p i) else gnf w h o p i) = 1000 then 9999 else (if gsh w h p 1 (i : Int) then (if gd w h o p 0 (i : Int) < gnf w h o p i then gd w h o p 0 (i : Int) else gnf w h o p i) else gnf w h o p i)
        rw [if_neg hz, hy]
    · rintro ⟨x, y⟩ ⟨hx, hy⟩
      have hx : y = ((w * h).toNat : Int) := hx
      subst hx
      refine ⟨x, ?_, hy⟩
      show fX14_needs_b16 M1 p x ((w * h).toNat : Int) = _
      unfold fX14_needs_b16
      rw [Q_cells P1, if_neg (by omega)]
  obtain ⟨r, e2, hr⟩ := key
  obtain ⟨g1, g2, g3⟩ := gnf_f P0 hp' (w * h).toNat (Nat.le_refl _)
  have g4 : gnf w h o p (w * h).toNat = 1000 ∨ gnf w h o p (w * h).toNat ≤ 82 := g3.imp id (fun z => z.1)
  clear g2 g3
  refine ⟨M1, ?_, f1.mono (sR_M (Or.inl rfl))⟩
  unfold fX14_needs
  rw [e1, bd1_s, e2, bd1_s]
  have : fJ9_min_7cf53 M1 99 r = gneed w h o p := by
    show (if r < 99 then r else 99) = _
    unfold gneed
    omega
  rw [this]
theorem Q_throughThen (P : Md M w h o) (hp : p = 0 ∨ p = 1) (h0 : ∀ c : Int, 0 ≤ c → c < w * h → mI M 236 c.toNat = gdm w h o p 0 c) (h1 : ∀ c : Int, 0 ≤ c → c < w * h → mI M 237 c.toNat = gdm w h o p 1 c) {c : Int} (c0 : 0 ≤ c) (c1 : c < w * h) : fX14_throughThen M c = some (gthrm w h o p c) := by
  have hN := gOk_le P.1
  obtain ⟨M0, P0⟩ := Pd_ex P.1 P.2.1
  have hp' : 0 ≤ p ∧ p ≤ 1 := by omega
  obtain ⟨a1, a2⟩ := gd_lo (s := 0) P0 hp' c0 c1
  obtain ⟨b1, b2⟩ := gd_lo (s := 1) P0 hp' c0 c1
  have l0 := gcost_b o c
  have c2 : 0 ≤ c ∧ c < 81 := by omega
  unfold fX14_throughThen
  rw [if_pos c2, h0 c c0 c1, h1 c c0 c1, Q_cost P c0 c2.2, bd1_s]
  unfold gthrm gthr gdm
  by_cases e0 : gd w h o p 0 c = 1000
  · rw [if_pos e0, if_pos e0, if_neg (by omega), if_pos rfl]
  · rw [if_neg e0, if_neg e0, if_pos (by omega)]
    by_cases e1 : gd w h o p 1 c = 1000
    · rw [if_pos e1, if_pos e1, if_neg (by omega), if_pos rfl]
    · rw [if_neg e1, if_neg e1, if_pos (by omega), wr_eq (x := gd w h o p 0 c + gd w h o p 1 c) (by omega) (by omega), wr_eq (by omega) (by omega), if_neg (by omega)]
theorem Q_both (P : Md M w h o) (hp : p = 0 ∨ p = 1) : ∃ M', fX14_reachBoth M p = some M' ∧ Fr sM M M' ∧ (∀ c : Int, 0 ≤ c → c < w * h → mI M' 236 c.toNat = gdm w h o p 0 c) ∧ (∀ c : Int, 0 ≤ c → c < w * h → mI M' 237 c.toNat = gdm w h o p 1 c) := by
  obtain ⟨M1, e1, f1, h1⟩ := Q_reach (s := 0) P (Or.inl rfl) hp
  obtain ⟨M2, e2, f2, h2⟩ := Q_reach (s := 1) (P.fr f1 (sR_pond (Or.inl rfl))) (Or.inr rfl) hp
  refine ⟨M2, ?_, (f1.mono (sR_M (Or.inl rfl))).trans (f2.mono (sR_M (Or.inr rfl))), fun c c0 c1 => ?_, h2⟩
  · unfold fX14_reachBoth
    rw [e1, bd1_s, e2, bd1_s]
  · rw [f2.2 236 _ (by unfold sR; omega)]; exact h1 c c0 c1
theorem Q_through (P : Md M w h o) (hp : p = 0 ∨ p = 1) {c : Int} (c0 : 0 ≤ c) (c1 : c < w * h) : ∃ M', fX14_through M p c = some (gthrm w h o p c, M') ∧ Fr sM M M' := by
  obtain ⟨M1, e1, f1, h1, h2⟩ := Q_both P hp
  refine ⟨M1, ?_, f1⟩
  unfold fX14_through
  rw [e1, bd1_s, Q_throughThen (P.fr f1 sM_pond) hp h1 h2 c0 c1, bd1_s]
theorem Q_nearest (P : Md M w h o) (hp : p = 0 ∨ p = 1) : ∃ M', fX14_nearest M p = some ((gnr w h o p (w * h).toNat).1, M') ∧ Fr sM M M' := by
  have hN := gOk_le P.1
  obtain ⟨M1, e1, f1, h1, h2⟩ := Q_both P hp
  have P1 := P.fr f1 sM_pond
  have key : ∃ r, lp (fun q => fX14_nearest_b14 M1 q.1 q.2.1 q.2.2) lpN (-1, 9999, 0) = some r ∧ r = (gnr w h o p (w * h).toNat).1 := by
    refine lpn (w * h).toNat (by omega) (fun i q => q.2.2 = (i : Int) ∧ q.1 = (gnr w h o p i).1 ∧ q.2.1 = (if (gnr w h o p i).2 = 1000 then 9999 else (gnr w h o p i).2) ∧ ((gnr w h o p i).2 = 1000 ∨ (gnr w h o p i).2 ≤ 164)) _ _ ⟨rfl, rfl, rfl, Or.inl rfl⟩ ?_ ?_
    · rintro i ⟨x, y, z⟩ hi ⟨hx, hy1, hy2, hy3⟩
      right
      have hx : z = (i : Int) := hx
      subst hx
      have hy1 : x = (gnr w h o p i).1 := hy1
      have hy2 : y = (if (gnr w h o p i).2 = 1000 then 9999 else (gnr w h o p i).2) := hy2
      have i0 : 0 ≤ (i : Int) := by omega
      have i1 : (i : Int) < w * h := by omega
      have i2 : 0 ≤ (i : Int) ∧ (i : Int) < 81 := by omega
      have gb := gthr_b P.1 P.2.1 hp i0 i1
      have gn : gnr w h o p (i + 1) = if o (i : Int) = 0 ∧ gthr w h o p (i : Int) ≠ -1 ∧ gthr w h o p (i : Int) < (gnr w h o p i).2 then ((i : Int), gthr w h o p (i : Int)) else gnr w h o p i := rfl
      show ∃ s', fX14_nearest_b14 M1 x y (i : Int) = some (.inl s') ∧ _
      unfold fX14_nearest_b14
      rw [Q_cells P1, if_pos i1, if_pos i2, P1.2.2.2.2 _ i0 i2.2, Q_throughThen P1 hp h1 h2 i0 i1, bd1_s, bd1_s]
      by_cases e1 : o (i : Int) = 0
      · rw [if_pos (by omega)]
        by_cases e3 : gthrm w h o p (i : Int) < y
        · have e4 : o (i : Int) = 0 ∧ gthr w h o p (i : Int) ≠ -1 ∧ gthr w h o p (i : Int) < (gnr w h o p i).2 := by
            unfold gthrm at e3
            omega
          rw [if_pos e3]
          refine ⟨(_, _, _), rfl, rfl, ?_⟩
          rw [gn, if_pos e4]
          refine ⟨rfl, ?_, ?_⟩
          · show gthrm w h o p (i : Int) = if gthr w h o p (i : Int) = 1000 then 9999 else gthr w h o p (i : Int)
            unfold gthrm
            omega
          · show gthr w h o p (i : Int) = 1000 ∨ gthr w h o p (i : Int) ≤ 164
            omega
        · have e4 : ¬ (o (i : Int) = 0 ∧ gthr w h o p (i : Int) ≠ -1 ∧ gthr w h o p (i : Int) < (gnr w h o p i).2) := by
            unfold gthrm at e3
            omega
          rw [if_neg e3]
          refine ⟨(_, _, _), rfl, rfl, ?_⟩
          rw [gn, if_neg e4]
          exact ⟨hy1, hy2, hy3⟩
      · rw [if_neg (by omega)]
        refine ⟨(_, _, _), rfl, rfl, ?_⟩
        rw [gn, if_neg (fun z => e1 z.1)]
        exact ⟨hy1, hy2, hy3⟩
    · rintro ⟨x, y, z⟩ ⟨hx, hy1, hy2, hy3⟩
      have hx : z = ((w * h).toNat : Int) := hx
      subst hx
      refine ⟨x, ?_, hy1⟩
      show fX14_nearest_b14 M1 x y ((w * h).toNat : Int) = _
      unfold fX14_nearest_b14
      rw [Q_cells P1, if_neg (by omega)]
  obtain ⟨r, e2, rfl⟩ := key
  refine ⟨M1, ?_, f1⟩
  unfold fX14_nearest
  rw [e1, bd1_s, e2, bd1_s]
/-- a stone is put on the model's pond -/
theorem Md_put (P : Md M w h o) {c v : Int} (c0 : 0 ≤ c) (c1 : c < w * h) (hv : v = -1 ∨ v = 0 ∨ v = 1) : Md (mUI M 233 c.toNat v) w h (gput o c (v + 1)) := by
  obtain ⟨k, g, a, b, d⟩ := P
  refine ⟨k, gput_own g c0 c1 (by omega), ?_, ?_, fun x x0 x1 => ?_⟩
  · rw [mI_Un (by omega)]; exact a
  · rw [mI_Un (by omega)]; exact b
  · rw [mI_Z _ _ _ c0 x0]
    by_cases e : x = c
    · rw [if_pos e, e, gput_s]; omega
    · rw [if_neg e, gput_n e]; exact d x x0 x1
theorem Q_wins (P : Md M w h o) (hp : p = 0 ∨ p = 1) {c : Int} (c0 : 0 ≤ c) (c1 : c < w * h) : ∃ M', fX14_wins M p c = some (gat (gwinc w h o p c), M') ∧ Fr sM M M' := by
  have hN := gOk_le P.1
  have c2 : 0 ≤ c ∧ c < 81 := by omega
  have hs := P.2.2.2.2 c c0 c2.2
  unfold fX14_wins
  rw [if_pos c2, hs]
  by_cases ho : o c = 0
  · have ho' : o c - 1 = -1 := by omega
    obtain ⟨M1, e1, f1⟩ := Q_won (p := p) (Md_put P c0 c1 (v := p) (by omega)) (by omega)
    rw [if_pos ho', e1, bd2_s]
    refine ⟨mUI M1 233 c.toNat (-1), by rw [gat_c (show gwinc w h o p c ↔ gwon w h (gput o c (p + 1)) p from ⟨fun z => z.2.2.2, fun z => ⟨c0, c1, ho, z⟩⟩)], f1.1, fun k j hkj => ?_⟩
    by_cases e : k = 233 ∧ j = c.toNat
    · obtain ⟨rfl, rfl⟩ := e
      rw [mI_Us, hs, ho']
    · rw [mI_Un e, f1.2 k j (fun z => hkj (sV_M k j z)), mI_Un e]
  · rw [if_neg (by omega)]
    exact ⟨M, by rw [gat_f (fun z => ho z.2.2.1)], Fr.refl _ _⟩
theorem Q_winning0 (P : Md M w h o) (hp : p = 0 ∨ p = 1) : ∃ M', fX14_winning M p 0 = some (gcn (gwinc w h o p) (w * h).toNat, M') ∧ Fr sM M M' := by
  have hN := gOk_le P.1
  have key : ∃ r, lp (fun q => fX14_winning_b5 q.2.2 p 0 q.1 q.2.1) lpN (0, 0, M) = some r ∧ ∃ M', r = .inr (gcn (gwinc w h o p) (w * h).toNat, M') ∧ Fr sM M M' := by
    refine lpn (w * h).toNat (by omega) (fun i q => q.2.1 = (i : Int) ∧ q.1 = gcn (gwinc w h o p) i ∧ Fr sM M q.2.2) _ _ ⟨rfl, rfl, Fr.refl _ _⟩ ?_ ?_
    · rintro i ⟨x, y, M1⟩ hi ⟨hx, hy, f1⟩
      right
      have hx : y = (i : Int) := hx
      subst hx
      have hy : x = gcn (gwinc w h o p) i := hy
      have f1 : Fr sM M M1 := f1
      have hb := gcn_b (gwinc w h o p) i
      have P1 := P.fr f1 sM_pond
      obtain ⟨M2, e2, f2⟩ := Q_wins P1 hp (c := (i : Int)) (by omega) (by omega)
      show ∃ s', fX14_winning_b5 M1 p 0 x (i : Int) = some (.inl s') ∧ _
      unfold fX14_winning_b5
      rw [Q_cells P1, if_pos (by omega), e2, bd2_s]
      by_cases z : gwinc w h o p (i : Int)
      · rw [gat_t z, if_neg (by omega), if_pos rfl, wr_eq (by omega) (by omega)]
        exact ⟨(_, _, _), rfl, rfl, by rw [gcn_s z, ← hy], f1.trans f2⟩
      · rw [gat_f z, if_pos rfl]
        exact ⟨(_, _, _), rfl, rfl, by rw [gcn_n z, ← hy], f1.trans f2⟩
    · rintro ⟨x, y, M1⟩ ⟨hx, hy, f1⟩
      have hx : y = ((w * h).toNat : Int) := hx
      subst hx
      have hy : x = gcn (gwinc w h o p) (w * h).toNat := hy
      refine ⟨.inr (x, M1), ?_, M1, by rw [hy], f1⟩
      show fX14_winning_b5 M1 p 0 x ((w * h).toNat : Int) = _
      unfold fX14_winning_b5
      rw [Q_cells (P.fr (show Fr sM M M1 from f1) sM_pond), if_neg (by omega)]
  obtain ⟨r, e, M', rfl, f⟩ := key
  refine ⟨M', ?_, f⟩
  unfold fX14_winning
  rw [e]
  rfl
theorem Q_winning1 (P : Md M w h o) (hp : p = 0 ∨ p = 1) : ∃ M', fX14_winning M p 1 = some (gfs (gwinc w h o p) (w * h).toNat, M') ∧ Fr sM M M' := by
  have hN := gOk_le P.1
  have key : ∃ r, lp (fun q => fX14_winning_b5 q.2.2 p 1 q.1 q.2.1) lpN (0, 0, M) = some r ∧ ∃ M', Fr sM M M' ∧ ((∃ i : Nat, r = .inl ((i : Int), M') ∧ gfs (gwinc w h o p) (w * h).toNat = (i : Int)) ∨ (∃ x, r = .inr (x, M') ∧ gfs (gwinc w h o p) (w * h).toNat = -1)) := by
    refine lpn (w * h).toNat (by omega) (fun i q => q.2.1 = (i : Int) ∧ (∀ c : Int, 0 ≤ c → c < (i : Int) → ¬ gwinc w h o p c) ∧ Fr sM M q.2.2) _ _ ⟨rfl, fun c a b => by omega, Fr.refl _ _⟩ ?_ ?_
    · rintro i ⟨x, y, M1⟩ hi ⟨hx, hy, f1⟩
      have hx : y = (i : Int) := hx
      subst hx
      have f1 : Fr sM M M1 := f1
      have P1 := P.fr f1 sM_pond
      obtain ⟨M2, e2, f2⟩ := Q_wins P1 hp (c := (i : Int)) (by omega) (by omega)
      show (∃ r, fX14_winning_b5 M1 p 1 x (i : Int) = some (.inr r) ∧ _) ∨ (∃ s', fX14_winning_b5 M1 p 1 x (i : Int) = some (.inl s') ∧ _)
      unfold fX14_winning_b5
      rw [Q_cells P1, if_pos (by omega), e2, bd2_s]
      by_cases z : gwinc w h o p (i : Int)
      · left
        rw [gat_t z, if_neg (by omega), if_neg (by omega)]
        have e := gfs_at z hy ((w * h).toNat - (i + 1))
        rw [show i + 1 + ((w * h).toNat - (i + 1)) = (w * h).toNat by omega] at e
        exact ⟨_, rfl, M2, f1.trans f2, Or.inl ⟨i, rfl, e⟩⟩
      · right
        rw [gat_f z, if_pos rfl]
        refine ⟨(_, _, _), rfl, rfl, fun c a b => ?_, f1.trans f2⟩
        by_cases e : c = (i : Int)
        · rw [e]; exact z
        · exact hy c a (by omega)
    · rintro ⟨x, y, M1⟩ ⟨hx, hy, f1⟩
      have hx : y = ((w * h).toNat : Int) := hx
      subst hx
      refine ⟨.inr (x, M1), ?_, M1, f1, Or.inr ⟨x, rfl, gfs_no _ hy⟩⟩
      show fX14_winning_b5 M1 p 1 x ((w * h).toNat : Int) = _
      unfold fX14_winning_b5
      rw [Q_cells (P.fr (show Fr sM M M1 from f1) sM_pond), if_neg (by omega)]
  obtain ⟨r, e, M', f, q⟩ := key
  refine ⟨M', ?_, f⟩
  unfold fX14_winning
  rw [e]
  rcases q with ⟨i, rfl, q⟩ | ⟨x, rfl, q⟩
  · rw [q]; rfl
  · rw [q]; rfl
end MAS
