/-! part C: the class's ways: a shore measured -/
section CME
variable {M : ax_M} {w h : Int} {o : Int → Int} {p s : Int} {K : Nat}
theorem C_me1 (P : Pd M w h o) (hK : 185 ≤ K ∧ K < 189) (hp : 0 ≤ p ∧ p ≤ 1) (hf : ∀ c : Int, 0 ≤ c → c < 81 → mI M K c.toNat = 1000) (h5 : mI M 183 5 = 81) (h6 : mI M 183 6 = 81) :
    ∃ M', lp (fun q => fX11_measure_b80 q.2 p s K q.1) lpN (0, M) = some M' ∧ gJ M' w h o p s K 0 0 (-1) ∧ Fr (sW K) M M' ∧ ∀ c : Int, gal w h o p c → gsh w h p s c → mI M' K c.toNat ≠ 1000 ∧ mI M' K c.toNat ≤ gcost o c := by
  have hN := P.n
  have H0 : gJ M w h o p s K 0 0 (-1) := by
    have e : gcn (fun c => mI M K c.toNat ≠ 1000) 81 = 0 := gcn_0 81 (fun c c0 c1 z => z (hf c c0 c1))
    refine ⟨fun c c0 c1 => Or.inl (hf c c0 c1), fun j a b => by omega, fun j j' a b d => by omega, ?_, fun c c0 c1 z => absurd (hf c c0 (by omega)) z⟩
    rw [e, h5, h6]
    omega
  refine lpn (w * h).toNat (by omega) (fun i x => x.1 = (i : Int) ∧ gJ x.2 w h o p s K 0 0 (-1) ∧ Fr (sW K) M x.2 ∧ ∀ c : Int, c < (i : Int) → gal w h o p c → gsh w h p s c → mI x.2 K c.toNat ≠ 1000 ∧ mI x.2 K c.toNat ≤ gcost o c) _ _ ⟨rfl, H0, Fr.refl _ _, fun c c1 c2 => by have := c2.1; omega⟩ ?_ ?_
  · rintro i ⟨x, M1⟩ hi ⟨hx, h1, h2, h3⟩
    right
    have hx : x = (i : Int) := hx
    subst hx
    have h1 : gJ M1 w h o p s K 0 0 (-1) := h1
    have h2 : Fr (sW K) M M1 := h2
    have h3 : ∀ c : Int, c < (i : Int) → gal w h o p c → gsh w h p s c → mI M1 K c.toNat ≠ 1000 ∧ mI M1 K c.toNat ≤ gcost o c := h3
    have P1 := P.fr h2 (sW_pond hK.1)
    have i0 : 0 ≤ (i : Int) := by omega
    have i1 : (i : Int) < w * h := by omega
    show ∃ s', fX11_measure_b80 M1 p s K (i : Int) = some (.inl s') ∧ _
    unfold fX11_measure_b80
    rw [P_cells P1.1, if_pos i1, P_sh P1.1 p s i0 i1]
    by_cases hz : gsh w h p s (i : Int)
    · rw [if_pos hz, if_neg (by omega)]
      obtain ⟨M2, e, g1, g2, g3, g4⟩ := gJ_reach (c := (i : Int)) P1 hK hp (Int.le_refl 0) (by omega) (Int.le_refl 0) h1 i1 (fun ha => by rw [Int.zero_add]; exact gW_base ha hz)
      rw [e, bd1_s]
      refine ⟨((i : Int) + 1, M2), rfl, rfl, g1, h2.trans g2, fun c c1 ca cs => ?_⟩
      show mI M2 K c.toNat ≠ 1000 ∧ mI M2 K c.toNat ≤ gcost o c
      by_cases e : c = (i : Int)
      · subst e
        have := g4 ca
        omega
      · obtain ⟨u1, u2⟩ := h3 c (by omega) ca cs
        rw [g3 c ca.1 u1]
        exact ⟨u1, u2⟩
    · rw [if_neg hz, if_pos rfl]
      refine ⟨((i : Int) + 1, M1), rfl, rfl, h1, h2, fun c c1 ca cs => ?_⟩
      by_cases e : c = (i : Int)
      · subst e; exact absurd cs hz
      · exact h3 c (by omega) ca cs
  · rintro ⟨x, M1⟩ ⟨hx, h1, h2, h3⟩
    have hx : x = ((w * h).toNat : Int) := hx
    subst hx
    have P1 := P.fr (show Fr (sW K) M M1 from h2) (sW_pond hK.1)
    refine ⟨M1, ?_, h1, h2, fun c ca cs => h3 c (by have := ca.2.1; omega) ca cs⟩
    show fX11_measure_b80 M1 p s K ((w * h).toNat : Int) = _
    unfold fX11_measure_b80
    rw [P_cells P1.1, if_neg (by omega)]
theorem C_me2 {x n b : Int} (P : Pd M w h o) (hK : 185 ≤ K ∧ K < 189) (hp : 0 ≤ p ∧ p ≤ 1) (x0 : 0 ≤ x) (x1 : x ≤ 82) (n0 : 0 ≤ n) (b0 : 0 ≤ b) (b1 : b < w * h) (hx : mI M K b.toNat = x) (H : gJ M w h o p s K x n b) (v5 : Int) :
    ∃ M', lp (fun q => fX11_measure_b190 q.2 p s K v5 b q.1) lpN (0, M) = some M' ∧ gJ M' w h o p s K x n (-1) ∧ Fr (sW K) M M' ∧ ∀ c : Int, 0 ≤ c → mI M K c.toNat ≠ 1000 → mI M' K c.toNat = mI M K c.toNat := by
  have hN := P.n
  have hx1000 : mI M K b.toNat ≠ 1000 := by omega
  have hwb : gW w h o p s b x := by
    rcases H.1 b b0 (by omega) with z | z
    · exact absurd z hx1000
    · rw [← hx]; exact z.2.1
  refine lpn 6 (by omega) (fun i q => q.1 = (i : Int) ∧ gJ q.2 w h o p s K x n b ∧ Fr (sW K) M q.2 ∧ (∀ c : Int, 0 ≤ c → mI M K c.toNat ≠ 1000 → mI q.2 K c.toNat = mI M K c.toNat) ∧ ∀ t : Int, 0 ≤ t → t < (i : Int) → gal w h o p (gbs w h b t) → mI q.2 K (gbs w h b t).toNat ≠ 1000 ∧ mI q.2 K (gbs w h b t).toNat ≤ x + gcost o (gbs w h b t)) _ _ ⟨rfl, H, Fr.refl _ _, fun _ _ _ => rfl, fun t t0 t1 => by omega⟩ ?_ ?_
  · rintro i ⟨q, M1⟩ hi ⟨hq, h1, h2, h3, h4⟩
    right
    have hq : q = (i : Int) := hq
    subst hq
    have h1 : gJ M1 w h o p s K x n b := h1
    have h2 : Fr (sW K) M M1 := h2
    have h3 : ∀ c : Int, 0 ≤ c → mI M K c.toNat ≠ 1000 → mI M1 K c.toNat = mI M K c.toNat := h3
    have h4 : ∀ t : Int, 0 ≤ t → t < (i : Int) → gal w h o p (gbs w h b t) → mI M1 K (gbs w h b t).toNat ≠ 1000 ∧ mI M1 K (gbs w h b t).toNat ≤ x + gcost o (gbs w h b t) := h4
    have P1 := P.fr h2 (sW_pond hK.1)
    have hr := gbs_range P.k b (i : Int)
    show ∃ s', fX11_measure_b190 M1 p s K v5 b (i : Int) = some (.inl s') ∧ _
    unfold fX11_measure_b190
    rw [if_pos (by omega), if_neg (by omega), if_pos (by omega), P_bs P1.1, h3 b b0 hx1000, hx]
    obtain ⟨M2, e, g1, g2, g3, g4⟩ := gJ_reach (c := gbs w h b (i : Int)) P1 hK hp x0 x1 n0 h1 (by omega) (fun ha => gW_step hwb (by omega) (by omega) rfl ha)
    rw [e, bd1_s]
    refine ⟨((i : Int) + 1, M2), rfl, rfl, g1, h2.trans g2, fun c c0 cz => ?_, fun t t0 t1 ta => ?_⟩
    · show mI M2 K c.toNat = _
      rw [g3 c c0 (by rw [h3 c c0 cz]; exact cz), h3 c c0 cz]
    · show mI M2 K (gbs w h b t).toNat ≠ 1000 ∧ mI M2 K (gbs w h b t).toNat ≤ x + gcost o (gbs w h b t)
      by_cases e : t = (i : Int)
      · subst e; exact g4 ta
      · obtain ⟨u1, u2⟩ := h4 t t0 (by omega) ta
        rw [g3 _ ta.1 u1]
        exact ⟨u1, u2⟩
  · rintro ⟨q, M1⟩ ⟨hq, h1, h2, h3, h4⟩
    have hq : q = ((6 : Nat) : Int) := hq
    subst hq
    have h1 : gJ M1 w h o p s K x n b := h1
    have h3 : ∀ c : Int, 0 ≤ c → mI M K c.toNat ≠ 1000 → mI M1 K c.toNat = mI M K c.toNat := h3
    have h4 : ∀ t : Int, 0 ≤ t → t < ((6 : Nat) : Int) → gal w h o p (gbs w h b t) → mI M1 K (gbs w h b t).toNat ≠ 1000 ∧ mI M1 K (gbs w h b t).toNat ≤ x + gcost o (gbs w h b t) := h4
    refine ⟨M1, ?_, ⟨h1.1, h1.2.1, h1.2.2.1, h1.2.2.2.1, fun c c0 c1 cz => ?_⟩, h2, h3⟩
    · show fX11_measure_b190 M1 p s K v5 b ((6 : Nat) : Int) = _
      unfold fX11_measure_b190
      rw [if_neg (by omega)]
    · rcases h1.2.2.2.2 c c0 c1 cz with z | z | z
      · exact Or.inl z
      · exact Or.inr (Or.inl z)
      · subst z
        refine Or.inr (Or.inl (fun t t0 t1 ta => ?_))
        rw [h3 c c0 hx1000, hx]
        exact h4 t t0 (by omega) ta
theorem C_me3 (P : Pd M w h o) (hK : 185 ≤ K ∧ K < 189) (hp : 0 ≤ p ∧ p ≤ 1) (H : gJ M w h o p s K 0 0 (-1)) :
    ∃ M', lp (fun q => fX11_measure_b125 q.2 p s K q.1) lpN (0, M) = some M' ∧ Fr (sW K) M M' ∧ (∀ c : Int, 0 ≤ c → mI M K c.toNat ≠ 1000 → mI M' K c.toNat = mI M K c.toNat) ∧ (∀ c : Int, 0 ≤ c → c < w * h → mI M' K c.toNat = 1000 ∨ (gW w h o p s c (mI M' K c.toNat) ∧ mI M' K c.toNat ≤ 82 ∧ gdn M' w h o p K c)) := by
  have hN := P.n
  have fin : ∀ (M2 : ax_M) (x n : Int), x ≤ n → n ≤ 81 → gJ M2 w h o p s K x n (-1) → mI M2 183 6 ≤ mI M2 183 5 → ∀ c : Int, 0 ≤ c → c < w * h → mI M2 K c.toNat = 1000 ∨ (gW w h o p s c (mI M2 K c.toNat) ∧ mI M2 K c.toNat ≤ 82 ∧ gdn M2 w h o p K c) := by
    intro M2 x n h1 h2 h3 h4 c c0 c1
    rcases h3.1 c c0 (by omega) with z | z
    · exact Or.inl z
    · by_cases cz : mI M2 K c.toNat = 1000
      · exact Or.inl cz
      · refine Or.inr ⟨z.2.1, by have := z.2.2.1; omega, ?_⟩
        rcases h3.2.2.2.2 c c0 c1 cz with y | y | y
        · obtain ⟨j, a, b, _⟩ := y; omega
        · exact y
        · omega
  refine lpn 81 (by omega) (fun i q => q.1 = (i : Int) ∧ Fr (sW K) M q.2 ∧ (∀ c : Int, 0 ≤ c → mI M K c.toNat ≠ 1000 → mI q.2 K c.toNat = mI M K c.toNat) ∧ ∃ x, 0 ≤ x ∧ x ≤ (i : Int) ∧ gJ q.2 w h o p s K x (i : Int) (-1)) _ _ ⟨rfl, Fr.refl _ _, fun _ _ _ => rfl, 0, Int.le_refl _, Int.le_refl _, H⟩ ?_ ?_
  · rintro i ⟨q, M1⟩ hi ⟨hq, h1, h2, x, x0, x1, h3⟩
    have hq : q = (i : Int) := hq
    subst hq
    have h1 : Fr (sW K) M M1 := h1
    have h2 : ∀ c : Int, 0 ≤ c → mI M K c.toNat ≠ 1000 → mI M1 K c.toNat = mI M K c.toNat := h2
    have h3 : gJ M1 w h o p s K x (i : Int) (-1) := h3
    have P1 := P.fr h1 (sW_pond hK.1)
    show (∃ r, fX11_measure_b125 M1 p s K (i : Int) = some (.inr r) ∧ _) ∨ (∃ s', fX11_measure_b125 M1 p s K (i : Int) = some (.inl s') ∧ _)
    by_cases hlt : mI M1 183 5 < mI M1 183 6
    · right
      have h3' := h3
      obtain ⟨j1, j2, j3, ⟨j4, j5, j6, j7⟩, j8⟩ := h3
      have hcb := gcn_b (fun c => mI M1 K c.toNat ≠ 1000) 81
      generalize hcnt : gcn (fun c => mI M1 K c.toNat ≠ 1000) 81 = cnt at *
      generalize hqf : mI M1 183 5 = qf at *
      generalize hqe : mI M1 183 6 = qe at *
      obtain ⟨b0, b1, b2, b3⟩ := j2 qf (Int.le_refl _) hlt
      generalize hb : mI M1 191 qf.toNat = b at *
      have bx := j1 b b0 (by omega)
      have bx : mI M1 K b.toNat ≤ x + 1 := by
        rcases bx with z | z
        · exact absurd z b2
        · exact z.2.2.1
      have F2 : Fr (sW K) M1 (mUI M1 183 5 (qf + 1)) := (Fr.refl _ _).up (Or.inr (Or.inr ⟨rfl, Or.inl rfl⟩))
      have rK : ∀ j, mI (mUI M1 183 5 (qf + 1)) K j = mI M1 K j := fun j => mI_Un (by omega)
      have rq : ∀ j, mI (mUI M1 183 5 (qf + 1)) 191 j = mI M1 191 j := fun j => mI_Un (by omega)
      have r6 : mI (mUI M1 183 5 (qf + 1)) 183 6 = qe := by rw [mI_Un (by omega)]; exact hqe
      have r5 : mI (mUI M1 183 5 (qf + 1)) 183 5 = qf + 1 := mI_Us _ _ _ _
      have J2 : gJ (mUI M1 183 5 (qf + 1)) w h o p s K (mI M1 K b.toNat) ((i : Int) + 1) b := by
        refine ⟨fun c c0 c1 => ?_, fun j a d => ?_, fun j j' a d e => ?_, ?_, fun c c0 c1 cz => ?_⟩
        · rw [rK]
          rcases j1 c c0 c1 with z | ⟨z1, z2, z3, z4⟩
          · exact Or.inl z
          · exact Or.inr ⟨z1, z2, by omega, fun z => by have := z4 z; omega⟩
        · rw [r5] at a; rw [r6] at d
          rw [rq, rK]
          obtain ⟨y1, y2, y3, y4⟩ := j2 j (by omega) d
          refine ⟨y1, y2, y3, ?_⟩
          have := j3 qf j (Int.le_refl _) (by omega) d
          rw [hb] at this
          exact this
        · rw [r5] at a; rw [r6] at e
          rw [rq, rq, rK, rK]
          exact j3 j j' (by omega) d e
        · rw [gcn_c (Q := fun c => mI M1 K c.toNat ≠ 1000) 81 (fun c _ _ => by rw [rK]), hcnt, r5, r6]
          omega
        · rw [rK] at cz
          rw [r5, r6]
          rcases j8 c c0 c1 cz with ⟨j, a, d, z⟩ | z | z
          · by_cases e : j = qf
            · refine Or.inr (Or.inr ?_)
              rw [← z, e, hb]
            · exact Or.inl ⟨j, by omega, d, by rw [rq]; exact z⟩
          · refine Or.inr (Or.inl (fun t t0 t1 ta => ?_))
            rw [rK, rK]
            exact z t t0 t1 ta
          · omega
      have bn : 0 ≤ mI M1 K b.toNat := by omega
      obtain ⟨M2, e, g1, g2, g3⟩ := C_me2 (P1.fr F2 (sW_pond hK.1)) hK hp bn (by omega) (by omega) b0 b1 (rK _) J2 (i : Int)
      have e2 : fX11_measure_b125 M1 p s K (i : Int) = some (.inl ((i : Int) + 1, M2)) := by
        unfold fX11_measure_b125
        rw [hqf, hqe, if_pos (by omega), if_pos hlt, if_neg (by omega), if_pos (by omega), hb]
        show bd1 (lp (fun q => fX11_measure_b190 q.2 p s K (i : Int) b q.1) lpN (0, mUI M1 183 5 (qf + 1))) _ = _
        rw [e]
        rfl
      rw [e2]
      refine ⟨((i : Int) + 1, M2), rfl, rfl, (h1.trans F2).trans g2, fun c c0 cz => ?_, mI M1 K b.toNat, bn, by show mI M1 K b.toNat ≤ ((i + 1 : Nat) : Int); omega, g1⟩
      show mI M2 K c.toNat = _
      rw [g3 c c0 (by rw [rK, h2 c c0 cz]; exact cz), rK, h2 c c0 cz]
    · left
      have e2 : fX11_measure_b125 M1 p s K (i : Int) = some (.inr M1) := by
        unfold fX11_measure_b125
        rw [if_pos (by omega), if_neg hlt]
      exact ⟨M1, e2, h1, h2, fin M1 x (i : Int) x1 (by omega) h3 (by omega)⟩
  · rintro ⟨q, M1⟩ ⟨hq, h1, h2, x, x0, x1, h3⟩
    have hq : q = ((81 : Nat) : Int) := hq
    subst hq
    have h3 : gJ M1 w h o p s K x ((81 : Nat) : Int) (-1) := h3
    refine ⟨M1, ?_, h1, h2, fin M1 x ((81 : Nat) : Int) x1 (by omega) h3 ?_⟩
    · show fX11_measure_b125 M1 p s K ((81 : Nat) : Int) = _
      unfold fX11_measure_b125
      rw [if_neg (by omega)]
    · have := h3.2.2.2.1
      have hcb := gcn_b (fun c => mI M1 K c.toNat ≠ 1000) 81
      omega
/-- the two loops together: every cell's distance -/
theorem C_me4 (P : Pd M w h o) (hK : 185 ≤ K ∧ K < 189) (hp : 0 ≤ p ∧ p ≤ 1) (hf : ∀ c : Int, 0 ≤ c → c < 81 → mI M K c.toNat = 1000) (h5 : mI M 183 5 = 81) (h6 : mI M 183 6 = 81) :
    ∃ M1 M2, lp (fun q => fX11_measure_b80 q.2 p s K q.1) lpN (0, M) = some M1 ∧ lp (fun q => fX11_measure_b125 q.2 p s K q.1) lpN (0, M1) = some M2 ∧ Fr (sW K) M M2 ∧ ∀ c : Int, 0 ≤ c → c < w * h → mI M2 K c.toNat = gd w h o p s c ∧ ((gd w h o p s c = 1000 ∧ ∀ n, ¬ gW w h o p s c n) ∨ (gW w h o p s c (gd w h o p s c) ∧ (∀ n, gW w h o p s c n → gd w h o p s c ≤ n) ∧ gd w h o p s c ≤ 82)) := by
  obtain ⟨M1, e1, g1, g2, g3⟩ := C_me1 (s := s) P hK hp hf h5 h6
  obtain ⟨M2, e2, k1, k2, k3⟩ := C_me3 (P.fr g2 (sW_pond hK.1)) hK hp g1
  refine ⟨M1, M2, e1, e2, g2.trans k1, fun c c0 c1 => ?_⟩
  have low : ∀ c n, gW w h o p s c n → mI M2 K c.toNat ≠ 1000 ∧ mI M2 K c.toNat ≤ n := by
    intro c n hc
    refine gW_ind (Q := fun c n => mI M2 K c.toNat ≠ 1000 ∧ mI M2 K c.toNat ≤ n) (fun c a b => ?_) (fun b m t c hb ih t0 t1 e a => ?_) hc
    · obtain ⟨u1, u2⟩ := g3 c a b
      rw [k2 c a.1 u1]
      exact ⟨u1, u2⟩
    · have hb := (gW_al hb).1
      rcases k3 b hb.1 hb.2.1 with z | ⟨_, _, z⟩
      · exact absurd z ih.1
      · have z := z t t0 t1
        rw [e] at z
        obtain ⟨z1, z2⟩ := z a
        exact ⟨z1, by have := ih.2; omega⟩
  rcases k3 c c0 c1 with z | ⟨z1, z2, z3⟩
  · have no : ∀ n, ¬ gW w h o p s c n := fun n hn => (low c n hn).1 z
    exact ⟨by rw [z, gd_no no], Or.inl ⟨gd_no no, no⟩⟩
  · have e : gd w h o p s c = mI M2 K c.toNat := gd_is z1 (fun n hn => (low c n hn).2)
    exact ⟨e.symm, Or.inr ⟨by rw [e]; exact z1, fun n hn => by rw [e]; exact (low c n hn).2, by rw [e]; exact z2⟩⟩
theorem gd_cases (P : Pd M w h o) (hp : 0 ≤ p ∧ p ≤ 1) {c : Int} (c0 : 0 ≤ c) (c1 : c < w * h) : (gd w h o p s c = 1000 ∧ ∀ n, ¬ gW w h o p s c n) ∨ (gW w h o p s c (gd w h o p s c) ∧ (∀ n, gW w h o p s c n → gd w h o p s c ≤ n) ∧ gd w h o p s c ≤ 82) := by
  have F : Fr (sW 185) M (mUI (mUI (mFi M 185 81 1000) 183 5 81) 183 6 81) := (((Fr.refl _ _).fi (fun _ => Or.inl rfl)).up (Or.inr (Or.inr ⟨rfl, Or.inl rfl⟩))).up (Or.inr (Or.inr ⟨rfl, Or.inr rfl⟩))
  obtain ⟨_, _, _, _, _, z⟩ := C_me4 (s := s) (P.fr F (sW_pond (by omega))) (K := 185) (by omega) hp (fun c a b => by rw [mI_Un (by omega), mI_Un (by omega), mI_F, if_pos ⟨rfl, by omega⟩]) (by rw [mI_Un (by omega), mI_Us]) (mI_Us _ _ _ _)
  exact (z c c0 c1).2
end CME
