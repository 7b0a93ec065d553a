/-! part C: the class's groups -/
def sQ : Nat → Nat → Prop := fun k j => (k = 176 ∧ j = 3) ∨ k = 177 ∨ k = 178
def sG : Nat → Nat → Prop := fun k _ => 176 ≤ k ∧ k ≤ 178
/-- the stones that hang together with one -/
abbrev gG (w h : Int) (o : Int → Int) (v a b : Int) : Prop := gC w h (fun c => o c = v) a b
noncomputable def gsz (w h : Int) (o : Int → Int) (v a : Int) : Int := gcn (gG w h o v a) 81
/-- while a group is gathered: n are queued -/
def gQ (M : ax_M) (w h : Int) (o : Int → Int) (v : Int) (m0 : Int → Prop) (st n : Int) : Prop :=
  mI M 176 3 = n ∧ 0 ≤ n ∧ (∀ j : Int, 0 ≤ j → j < n → gG w h o v st (mI M 178 j.toNat) ∧ mI M 177 (mI M 178 j.toNat).toNat ≠ 0) ∧
  (∀ c : Int, 0 ≤ c → c < 81 → mI M 177 c.toNat ≠ 0 → m0 c ∨ ∃ j : Int, 0 ≤ j ∧ j < n ∧ mI M 178 j.toNat = c) ∧
  (∀ c : Int, 0 ≤ c → c < 81 → m0 c → mI M 177 c.toNat ≠ 0) ∧
  gcn (fun c => mI M 177 c.toNat ≠ 0) 81 = gcn m0 81 + n
section CGR
variable {M : ax_M} {w h : Int} {o : Int → Int} {v : Int} {m0 : Int → Prop} {st n : Int}
theorem C_join_new {a : Int} (hn : mI M 176 3 = n) (n0 : 0 ≤ n) (n1 : n < 81) (a0 : 0 ≤ a) (a1 : a < 81) (hm : mI M 177 a.toNat = 0) : fX4_join M a = some (mUI (mUI (mUI M 177 a.toNat 1) 178 n.toNat a) 176 3 (n + 1)) := by
  have e1 : mI (mUI M 177 a.toNat 1) 176 3 = n := by rw [mI_Un (by omega)]; exact hn
  have e2 : mI (mUI (mUI M 177 a.toNat 1) 178 n.toNat a) 176 3 = n := by rw [mI_Un (by omega)]; exact e1
  unfold fX4_join
  rw [if_neg (by omega), if_pos a1, if_pos hm, hn, if_neg (by omega), if_pos n1, e1, if_pos ⟨n0, n1⟩, e2, wr_eq (by omega) (by omega)]
theorem C_join_old {a : Int} (a0 : 0 ≤ a) (a1 : a < 81) (hm : mI M 177 a.toNat ≠ 0) : fX4_join M a = some M := by
  unfold fX4_join
  rw [if_neg (by omega), if_pos a1, if_neg hm]
theorem gQ_le (H : gQ M w h o v m0 st n) : n ≤ 81 := by
  obtain ⟨_, _, _, _, _, e⟩ := H
  have h1 := gcn_b (fun c => mI M 177 c.toNat ≠ 0) 81
  have h2 := gcn_b m0 81
  omega
theorem gQ_join {a : Int} (H : gQ M w h o v m0 st n) (a0 : 0 ≤ a) (a1 : a < 81) (ha : gG w h o v st a) : ∃ M' n', fX4_join M a = some M' ∧ gQ M' w h o v m0 st n' ∧ Fr sQ M M' ∧ n ≤ n' ∧ (∀ j : Int, 0 ≤ j → j < n → mI M' 178 j.toNat = mI M 178 j.toNat) ∧ mI M' 177 a.toNat ≠ 0 ∧ (∀ c : Int, 0 ≤ c → mI M 177 c.toNat ≠ 0 → mI M' 177 c.toNat ≠ 0) := by
  by_cases hm : mI M 177 a.toNat = 0
  · obtain ⟨q1, q2, q3, q4, q5, q6⟩ := H
    have hz := gcn_lt (P := fun c => mI M 177 c.toNat ≠ 0) 81 a0 a1 (fun z => z hm)
    have h2 := gcn_b m0 81
    have n1 : n < 81 := by omega
    refine ⟨_, n + 1, C_join_new q1 q2 n1 a0 a1 hm, ?_⟩
    generalize eM : mUI (mUI (mUI M 177 a.toNat 1) 178 n.toNat a) 176 3 (n + 1) = M'
    have r177 : ∀ c : Int, 0 ≤ c → mI M' 177 c.toNat = if c = a then 1 else mI M 177 c.toNat := fun c hc => by
      rw [← eM, mI_Un (by omega), mI_Un (by omega), mI_U]
      by_cases e : c = a
      · rw [if_pos ⟨rfl, by rw [e]⟩, if_pos e]
      · rw [if_neg (by omega), if_neg e]
    have r178 : ∀ j : Int, 0 ≤ j → mI M' 178 j.toNat = if j = n then a else mI M 178 j.toNat := fun c hc => by
      rw [← eM, mI_Un (by omega), mI_U]
      by_cases e : c = n
      · rw [if_pos ⟨rfl, by rw [e]⟩, if_pos e]
      · rw [if_neg (by omega), if_neg e, mI_Un (by omega)]
    have mono : ∀ c : Int, 0 ≤ c → mI M 177 c.toNat ≠ 0 → mI M' 177 c.toNat ≠ 0 := fun c hc hz => by
      rw [r177 c hc]
      split
      · decide
      · exact hz
    have ma : mI M' 177 a.toNat ≠ 0 := by rw [r177 a a0, if_pos rfl]; decide
    refine ⟨⟨?_, by omega, fun j j0 j1 => ?_, fun c c0 c1 hc => ?_, fun c c0 c1 hc => mono c c0 (q5 c c0 c1 hc), ?_⟩, ?_, by omega, fun j j0 j1 => ?_, ma, mono⟩
    · rw [← eM, mI_Us]
    · rw [r178 j j0]
      by_cases e : j = n
      · rw [if_pos e]; exact ⟨ha, ma⟩
      · rw [if_neg e]
        obtain ⟨u1, u2⟩ := q3 j j0 (by omega)
        exact ⟨u1, mono _ (by have := gC_ind (Q := fun b => 0 ≤ b) (fun _ z _ => z) (fun _ _ _ _ _ _ _ _ z _ => z) u1; exact this) u2⟩
    · by_cases e : c = a
      · exact Or.inr ⟨n, q2, by omega, by rw [r178 n q2, if_pos rfl, e]⟩
      · rw [r177 c c0, if_neg e] at hc
        rcases q4 c c0 c1 hc with z | ⟨j, j0, j1, z⟩
        · exact Or.inl z
        · exact Or.inr ⟨j, j0, by omega, by rw [r178 j j0, if_neg (by omega)]; exact z⟩
    · rw [gcn_add (P := fun c => mI M 177 c.toNat ≠ 0) (c0 := a) 81 a0 a1 (fun z => z hm) ma (fun c c0 c1 e => by rw [r177 c c0, if_neg e]), q6]
      omega
    · subst eM
      exact ((Fr.refl _ _).up (Or.inr (Or.inl rfl))).up (Or.inr (Or.inr rfl)) |>.up (Or.inl ⟨rfl, rfl⟩)
    · rw [r178 j j0, if_neg (by omega)]
  · exact ⟨M, n, C_join_old a0 a1 hm, H, Fr.refl _ _, Int.le_refl _, fun _ _ _ => rfl, hm, fun _ _ z => z⟩
theorem sQ_pond : ∀ k j, (k = 169 ∧ j < 2) ∨ 170 ≤ k ∧ k ≤ 174 → ¬ sQ k j := by
  intro k j h1 h2
  unfold sQ at h2
  omega
theorem sG_pond : ∀ k j, (k = 169 ∧ j < 2) ∨ 170 ≤ k ∧ k ≤ 174 → ¬ sG k j := by
  intro k j h1 h2
  unfold sG at h2
  omega
theorem gC_nn {U : Int → Prop} {a b : Int} (u : gC w h U a b) : 0 ≤ b := gC_ind (Q := fun b => 0 ≤ b) (fun _ z _ => z) (fun _ _ _ _ _ _ _ _ z _ => z) u
/-- the six sides of a cell of the queue -/
theorem gQ_sides {i : Int} (P : Pd M w h o) (v1 : 1 ≤ v) (H : gQ M w h o v m0 st n) (i0 : 0 ≤ i) (i1 : i < n) : ∃ M' n', lp (fun s => fX4_gather_b41 s.2 v i s.1) lpN (0, M) = some M' ∧ gQ M' w h o v m0 st n' ∧ Fr sQ M M' ∧ n ≤ n' ∧ (∀ j : Int, 0 ≤ j → j < n → mI M' 178 j.toNat = mI M 178 j.toNat) ∧ (∀ c : Int, 0 ≤ c → mI M 177 c.toNat ≠ 0 → mI M' 177 c.toNat ≠ 0) ∧ (∀ t : Int, 0 ≤ t → t < 6 → 0 ≤ gbs w h (mI M 178 i.toNat) t → o (gbs w h (mI M 178 i.toNat) t) = v → mI M' 177 (gbs w h (mI M 178 i.toNat) t).toNat ≠ 0) := by
  have hn := gQ_le H
  have key : ∃ r, lp (fun s => fX4_gather_b41 s.2 v i s.1) lpN (0, M) = some r ∧ ∃ n', gQ r w h o v m0 st n' ∧ Fr sQ M r ∧ n ≤ n' ∧ (∀ j : Int, 0 ≤ j → j < n → mI r 178 j.toNat = mI M 178 j.toNat) ∧ (∀ c : Int, 0 ≤ c → mI M 177 c.toNat ≠ 0 → mI r 177 c.toNat ≠ 0) ∧ (∀ t : Int, 0 ≤ t → t < 6 → 0 ≤ gbs w h (mI M 178 i.toNat) t → o (gbs w h (mI M 178 i.toNat) t) = v → mI r 177 (gbs w h (mI M 178 i.toNat) t).toNat ≠ 0) := by
    refine lpn 6 (by omega) (fun s x => x.1 = (s : Int) ∧ ∃ n', gQ x.2 w h o v m0 st n' ∧ Fr sQ M x.2 ∧ n ≤ n' ∧ (∀ j : Int, 0 ≤ j → j < n → mI x.2 178 j.toNat = mI M 178 j.toNat) ∧ (∀ c : Int, 0 ≤ c → mI M 177 c.toNat ≠ 0 → mI x.2 177 c.toNat ≠ 0) ∧ (∀ t : Int, 0 ≤ t → t < (s : Int) → 0 ≤ gbs w h (mI M 178 i.toNat) t → o (gbs w h (mI M 178 i.toNat) t) = v → mI x.2 177 (gbs w h (mI M 178 i.toNat) t).toNat ≠ 0)) _ _ ⟨rfl, n, H, Fr.refl _ _, Int.le_refl _, fun _ _ _ => rfl, fun _ _ z => z, fun t t0 t1 => by omega⟩ ?_ ?_
    · rintro s ⟨x, M1⟩ hs ⟨hx, n', h1, h2, h3, h4, h5, h6⟩
      right
      have hx : x = (s : Int) := hx
      subst hx
      have P1 := P.fr h2 sQ_pond
      show ∃ s', fX4_gather_b41 M1 v i (s : Int) = some (.inl s') ∧ _
      unfold fX4_gather_b41
      rw [if_pos (by omega), if_pos (by omega), P_bs P1.1, P_own P1, h4 i i0 i1]
      generalize hb : gbs w h (mI M 178 i.toNat) (s : Int) = b
      by_cases ho : o b = v
      · have b0 : 0 ≤ b := by
          rcases gbs_range P.k (mI M 178 i.toNat) (s : Int) with z | z
          · have := P.2.1.1 b (by omega)
            omega
          · omega
        have b1 : b < 81 := by
          have := (gbs_xy P.k (c := mI M 178 i.toNat) (s := (s : Int)) (by omega)).1
          have := P.n
          omega
        obtain ⟨_, _, q3, _⟩ := H
        obtain ⟨M2, n2, g1, g2, g3, g4, g5, g6, g7⟩ := gQ_join h1 b0 b1 (gC_step (q3 i i0 i1).1 (by omega) (by omega) hb b0 ho)
        rw [if_pos ho, g1]
        refine ⟨((s : Int) + 1, M2), rfl, rfl, n2, g2, h2.trans g3, by omega, fun j j0 j1 => (g5 j j0 (by omega)).trans (h4 j j0 j1), fun c c0 z => g7 c c0 (h5 c c0 z), fun t t0 t1 z0 zo => ?_⟩
        by_cases e : t = (s : Int)
        · rw [e, hb]; exact g6
        · exact g7 _ z0 (h6 t t0 (by omega) z0 zo)
      · rw [if_neg ho]
        refine ⟨((s : Int) + 1, M1), rfl, rfl, n', h1, h2, h3, h4, h5, fun t t0 t1 z0 zo => ?_⟩
        by_cases e : t = (s : Int)
        · rw [e, hb] at zo; exact absurd zo ho
        · exact h6 t t0 (by omega) z0 zo
    · rintro ⟨x, M1⟩ ⟨hx, n', h1⟩
      have hx : x = ((6 : Nat) : Int) := hx
      subst hx
      refine ⟨M1, ?_, n', h1⟩
      show fX4_gather_b41 M1 v i ((6 : Nat) : Int) = _
      unfold fX4_gather_b41
      rw [if_neg (by omega)]
  obtain ⟨r, e, n', k⟩ := key
  exact ⟨r, n', e, k⟩
theorem C_gather (P : Pd M w h o) (s0 : 0 ≤ st) (s1 : st < w * h) (hv : o st = v) (v1 : 1 ≤ v) (hm : mI M 177 st.toNat = 0) (hd : ∀ c : Int, gG w h o v st c → mI M 177 c.toNat = 0) :
    ∃ M', fX4_gather M st = some M' ∧ Fr sQ M M' ∧ mI M' 176 3 = gsz w h o v st ∧ (∀ c : Int, 0 ≤ c → c < 81 → (mI M' 177 c.toNat ≠ 0 ↔ mI M 177 c.toNat ≠ 0 ∨ gG w h o v st c)) ∧ (∀ j : Int, 0 ≤ j → j < gsz w h o v st → gG w h o v st (mI M' 178 j.toNat)) ∧ (∀ c : Int, gG w h o v st c → ∃ j : Int, 0 ≤ j ∧ j < gsz w h o v st ∧ mI M' 178 j.toNat = c) := by
  have hN := P.n
  have c0 : gG w h o v st st := gC_refl hv s0 s1
  generalize em : (fun c : Int => mI M 177 c.toNat ≠ 0) = m0
  have hm0 : ∀ c : Int, m0 c ↔ mI M 177 c.toNat ≠ 0 := fun c => by rw [← em]
  have F0 : Fr sQ M (mUI M 176 3 0) := (Fr.refl _ _).up (Or.inl ⟨rfl, rfl⟩)
  have e177 : ∀ j : Nat, mI (mUI M 176 3 0) 177 j = mI M 177 j := fun j => mI_Un (by omega)
  have H0 : gQ (mUI M 176 3 0) w h o v m0 st 0 := by
    refine ⟨mI_Us _ _ _ _, Int.le_refl _, fun j j0 j1 => by omega, fun c _ _ z => Or.inl ((hm0 c).mpr (by rw [← e177]; exact z)), fun c _ _ z => by rw [e177]; exact (hm0 c).mp z, ?_⟩
    rw [gcn_c (Q := m0) 81 (fun c _ _ => by rw [e177]; exact (hm0 c).symm)]
    omega
  obtain ⟨M1, n1, g1, g2, g3, g4, g5, g6, g7⟩ := gQ_join H0 s0 (by omega) c0
  have F1 := F0.trans g3
  have key : ∃ r, lp (fun s => fX4_gather_b21 s.2 v s.1) lpN (0, M1) = some r ∧ ∃ n', gQ r w h o v m0 st n' ∧ Fr sQ M r ∧ mI r 177 st.toNat ≠ 0 ∧ ∀ j t : Int, 0 ≤ j → j < n' → 0 ≤ t → t < 6 → 0 ≤ gbs w h (mI r 178 j.toNat) t → o (gbs w h (mI r 178 j.toNat) t) = v → mI r 177 (gbs w h (mI r 178 j.toNat) t).toNat ≠ 0 := by
    refine lpn 81 (by omega) (fun i x => x.1 = (i : Int) ∧ ∃ n', (i : Int) ≤ n' ∧ gQ x.2 w h o v m0 st n' ∧ Fr sQ M x.2 ∧ mI x.2 177 st.toNat ≠ 0 ∧ ∀ j t : Int, 0 ≤ j → j < (i : Int) → 0 ≤ t → t < 6 → 0 ≤ gbs w h (mI x.2 178 j.toNat) t → o (gbs w h (mI x.2 178 j.toNat) t) = v → mI x.2 177 (gbs w h (mI x.2 178 j.toNat) t).toNat ≠ 0) _ _ ⟨rfl, n1, g4, g2, F1, g6, fun j t j0 j1 => by omega⟩ ?_ ?_
    · rintro i ⟨x, M2⟩ hi ⟨hx, n', h0, h1, h2, h3, h4⟩
      have hx : x = (i : Int) := hx
      subst hx
      have hn := gQ_le h1
      have hq := h1.1
      show (∃ r, fX4_gather_b21 M2 v (i : Int) = some (.inr r) ∧ _) ∨ (∃ s', fX4_gather_b21 M2 v (i : Int) = some (.inl s') ∧ _)
      unfold fX4_gather_b21
      rw [hq]
      by_cases hlt : (i : Int) < n'
      · right
        obtain ⟨M3, n3, f1, f2, f3, f4, f5, f6, f7⟩ := gQ_sides (i := (i : Int)) (P.fr h2 sQ_pond) v1 h1 (by omega) hlt
        rw [if_pos hlt, if_pos (by omega), f1]
        refine ⟨((i : Int) + 1, M3), rfl, by show (i : Int) + 1 = ((i + 1 : Nat) : Int); omega, n3, by omega, f2, h2.trans f3, f6 _ s0 h3, fun j t j0 j1 t0 t1 z0 zo => ?_⟩
        show mI M3 177 (gbs w h (mI M3 178 j.toNat) t).toNat ≠ 0
        have z0 : 0 ≤ gbs w h (mI M3 178 j.toNat) t := z0
        have zo : o (gbs w h (mI M3 178 j.toNat) t) = v := zo
        rw [f5 j j0 (by omega)] at z0 zo ⊢
        by_cases e : j = (i : Int)
        · subst e; exact f7 t t0 t1 z0 zo
        · exact f6 _ z0 (h4 j t j0 (by omega) t0 t1 z0 zo)
      · left
        rw [if_neg hlt]
        refine ⟨M2, rfl, n', h1, h2, h3, fun j t j0 j1 => h4 j t j0 (by omega)⟩
    · rintro ⟨x, M2⟩ ⟨hx, n', h0, h1, h2, h3, h4⟩
      have hx : x = ((81 : Nat) : Int) := hx
      subst hx
      have hn := gQ_le h1
      have hq := h1.1
      refine ⟨M2, ?_, n', h1, h2, h3, fun j t j0 j1 => h4 j t j0 (by omega)⟩
      show fX4_gather_b21 M2 v ((81 : Nat) : Int) = _
      unfold fX4_gather_b21
      rw [hq, if_neg (by omega)]
  obtain ⟨r, e, n', h1, h2, h3, h4⟩ := key
  have all : ∀ c : Int, gG w h o v st c → mI r 177 c.toNat ≠ 0 ∧ ∃ j : Int, 0 ≤ j ∧ j < n' ∧ mI r 178 j.toNat = c := by
    intro c hc
    obtain ⟨q1, q2, q3, q4, q5, q6⟩ := h1
    have fin : ∀ c : Int, gG w h o v st c → mI r 177 c.toNat ≠ 0 → ∃ j : Int, 0 ≤ j ∧ j < n' ∧ mI r 178 j.toNat = c := fun c hc z => by
      have hcm := gC_mem P.k hc
      rcases q4 c hcm.2.1 (by omega) z with y | y
      · exact absurd (hd c hc) ((hm0 c).mp y)
      · exact y
    have m : mI r 177 c.toNat ≠ 0 := by
      refine gC_ind (Q := fun c => mI r 177 c.toNat ≠ 0) (fun _ _ _ => h3) (fun d t b hd' ih t0 t1 e b0 u => ?_) hc
      obtain ⟨j, j0, j1, ej⟩ := fin d hd' ih
      have := h4 j t j0 j1 t0 t1
      rw [ej, e] at this
      exact this b0 u
    exact ⟨m, fin c hc m⟩
  have hsz : n' = gsz w h o v st := by
    obtain ⟨q1, q2, q3, q4, q5, q6⟩ := h1
    unfold gsz
    have : ∀ N : Nat, N ≤ 81 → gcn (fun c => mI r 177 c.toNat ≠ 0) N = gcn m0 N + gcn (gG w h o v st) N := by
      intro N
      induction N with
      | zero => intro _; rfl
      | succ N ih =>
        intro hN
        have ih := ih (by omega)
        by_cases a : m0 (N : Int)
        · have b : ¬ gG w h o v st (N : Int) := fun z => (hm0 _).mp a (hd _ z)
          have c : mI r 177 (N : Int).toNat ≠ 0 := q5 _ (by omega) (by omega) a
          rw [gcn_s (P := fun c => mI r 177 c.toNat ≠ 0) c, gcn_s a, gcn_n b, ih]
          omega
        · by_cases b : gG w h o v st (N : Int)
          · rw [gcn_s (P := fun c => mI r 177 c.toNat ≠ 0) (all _ b).1, gcn_n a, gcn_s b, ih]
            omega
          · have c : ¬ mI r 177 (N : Int).toNat ≠ 0 := fun z => by
              rcases q4 _ (by omega) (by omega) z with y | ⟨j, j0, j1, y⟩
              · exact a y
              · exact b (y ▸ (q3 j j0 j1).1)
            rw [gcn_n (P := fun c => mI r 177 c.toNat ≠ 0) c, gcn_n a, gcn_n b, ih]
    have := this 81 (Nat.le_refl _)
    omega
  refine ⟨r, ?_, h2, ?_, fun c c0 c1 => ⟨fun z => ?_, fun z => ?_⟩, fun j j0 j1 => ?_, fun c hc => ?_⟩
  · unfold fX4_gather
    rw [g1, P_own P, hv]
    show bd1 (lp (fun s => fX4_gather_b21 s.2 v s.1) lpN (0, M1)) _ = _
    rw [e]
    rfl
  · rw [← hsz]; exact h1.1
  · rcases h1.2.2.2.1 c c0 c1 z with y | ⟨j, j0, j1, y⟩
    · exact Or.inl ((hm0 c).mp y)
    · exact Or.inr (y ▸ (h1.2.2.1 j j0 j1).1)
  · rcases z with y | y
    · exact h1.2.2.2.2.1 c c0 c1 ((hm0 c).mpr y)
    · exact (all c y).1
  · exact (h1.2.2.1 j j0 (by omega)).1
  · rw [← hsz]; exact (all c hc).2
end CGR
