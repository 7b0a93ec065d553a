/-! part C: the meaning of the tokens, token by token -/
/-- one token: which fault (0: none), columns, rows, plans, whose stone lies where -/
def gMo (ow : Int → Int) (i : Int) : Int := if i < 0 then 0 else if i < 81 then ow i else 0
def gM1 (kd : Int → Nat) (vl : Int → Int) (t : Int) (s : Int × Int × Int × (Int → Int)) : Int × Int × Int × Int × (Int → Int) :=
  if kd t = 13 then ((if 16 < wr (s.2.2.1 + 1) then 4 else 0), s.1, s.2.1, wr (s.2.2.1 + 1), s.2.2.2)
  else if kd t = 48 then
    (if kd (t - 1) = 10 then ((if vl t < 3 then 5 else if 9 < vl t then 5 else 0), vl t, s.2)
    else if kd (t - 1) = 11 then ((if vl t < 3 then 5 else if 9 < vl t then 5 else 0), s.1, vl t, s.2.2)
    else if kd (t - 2) = 12 then ((if vl t < s.1 then 0 else 5), s)
    else if kd (t - 4) = 12 then
      (if vl t < s.2.1 then
        (if gMo s.2.2.2 (wr (wr (s.1 * vl t) + vl (t - 2))) = 0 then (0, s.1, s.2.1, s.2.2.1, fun j => if j = wr (wr (s.1 * vl t) + vl (t - 2)) ∧ 0 ≤ j ∧ j < 81 then (if kd (t - 3) = 14 then 1 else 2) else s.2.2.2 j) else (2, s))
      else (5, s))
    else (0, s))
  else (0, s)
def gMR (kd : Int → Nat) (vl : Int → Int) : Nat → Int × Int × Int × Int × Int × (Int → Int)
  | 0 => (0, -1, 7, 7, 0, fun _ => 0)
  | k + 1 => if (gMR kd vl k).1 = 0 then ((gM1 kd vl k (gMR kd vl k).2.2).1, (if (gM1 kd vl k (gMR kd vl k).2.2).1 = 0 then -1 else (k : Int)), (gM1 kd vl k (gMR kd vl k).2.2).2) else gMR kd vl k
def gMl (N : ax_M) (s : Int × Int × Int × (Int → Int)) : Prop := mI N 167 2 = s.1 ∧ mI N 167 3 = s.2.1 ∧ mI N 167 4 = s.2.2.1 ∧ ∀ j : Int, 0 ≤ j → j < 81 → mI N 168 j.toNat = s.2.2.2 j
def sMe : Nat → Nat → Prop := fun k _ => k = 167 ∨ k = 168
def gTk (kd : Int → Nat) (vl : Int → Int) (n : Int) (M : ax_M) : Prop := (∀ t, fX10_kindOf M t = kd t) ∧ (∀ t, fX10_valueOf M t = vl t) ∧ mI M 153 3 = n
section MEA
variable {kd : Int → Nat} {vl : Int → Int} {n : Int} {M N : ax_M} {t : Int} {s : Int × Int × Int × (Int → Int)}
theorem gTk.fr {S : Nat → Nat → Prop} (H : gTk kd vl n M) (f : Fr2 S M N) (hS : ∀ k j, (153 ≤ k ∧ k ≤ 156) → ¬ S k j) : gTk kd vl n N := by
  obtain ⟨h1, h2, h3⟩ := H
  have e3 : mI N 153 3 = mI M 153 3 := (f.1 _ _ (hS _ _ (by omega))).1
  have e4 : mR N 154 = mR M 154 := funext (fun j => (f.1 _ j (hS _ _ (by omega))).2)
  have e6 : mI N 156 = mI M 156 := funext (fun j => (f.1 _ j (hS _ _ (by omega))).1)
  refine ⟨fun t => ?_, fun t => ?_, e3.trans h3⟩
  · have := h1 t
    unfold fX10_kindOf at this ⊢
    rw [e3, e4]; exact this
  · have := h2 t
    unfold fX10_valueOf at this ⊢
    rw [e6]; exact this
theorem C_owner (L : gMl N s) (i : Int) : fX6_ownerAt N i = gMo s.2.2.2 i := by
  unfold fX6_ownerAt gMo
  by_cases h : i < 0
  · rw [if_pos h, if_pos h]
  · rw [if_neg h, if_neg h]
    by_cases h2 : i < 81
    · rw [if_pos h2, if_pos h2, L.2.2.2 i (by omega) h2]
    · rw [if_neg h2, if_neg h2]
theorem C_stone (L : gMl N s) (p a b : Int) (hp : p = 0 ∨ p = 1) : ∃ N', fX6_errorOfStone N p a b = some ((if b < s.2.1 then (if gMo s.2.2.2 (wr (wr (s.1 * b) + a)) = 0 then 0 else 2) else 5), N') ∧ Fr2 sMe N N' ∧ gMl N' (if b < s.2.1 ∧ gMo s.2.2.2 (wr (wr (s.1 * b) + a)) = 0 then (s.1, s.2.1, s.2.2.1, fun j => if j = wr (wr (s.1 * b) + a) ∧ 0 ≤ j ∧ j < 81 then p + 1 else s.2.2.2 j) else s) := by
  have ew : wr (p + 1) = p + 1 := wr_eq (by omega) (by omega)
  unfold fX6_errorOfStone
  rw [C_owner L, L.1, L.2.1, ew]
  generalize wr (wr (s.1 * b) + a) = i
  by_cases h : b < s.2.1
  · rw [if_pos h, if_pos h]
    by_cases h2 : gMo s.2.2.2 i = 0
    · rw [if_pos h2, if_pos h2, if_pos (show b < s.2.1 ∧ gMo s.2.2.2 i = 0 from ⟨h, h2⟩)]
      by_cases h3 : i < 0
      · rw [if_pos h3]
        refine ⟨N, rfl, Fr2.refl _ _, L.1, L.2.1, L.2.2.1, fun j j0 j1 => ?_⟩
        show _ = if j = i ∧ 0 ≤ j ∧ j < 81 then p + 1 else s.2.2.2 j
        rw [if_neg (by omega)]
        exact L.2.2.2 j j0 j1
      · rw [if_neg h3]
        by_cases h4 : i < 81
        · rw [if_pos h4]
          refine ⟨mUI N 168 i.toNat (p + 1), rfl, (Fr2.refl _ _).up (Or.inr rfl), by rw [mI_Un (by omega)]; exact L.1, by rw [mI_Un (by omega)]; exact L.2.1, by rw [mI_Un (by omega)]; exact L.2.2.1, fun j j0 j1 => ?_⟩
          show _ = if j = i ∧ 0 ≤ j ∧ j < 81 then p + 1 else s.2.2.2 j
          rw [mI_Z _ _ _ (show 0 ≤ i by omega) j0]
          by_cases e : j = i
          · rw [if_pos e, if_pos ⟨e, j0, j1⟩]
          · rw [if_neg e, if_neg (fun z => e z.1)]
            exact L.2.2.2 j j0 j1
        · rw [if_neg h4]
          refine ⟨N, rfl, Fr2.refl _ _, L.1, L.2.1, L.2.2.1, fun j j0 j1 => ?_⟩
          show _ = if j = i ∧ 0 ≤ j ∧ j < 81 then p + 1 else s.2.2.2 j
          rw [if_neg (by omega)]
          exact L.2.2.2 j j0 j1
    · rw [if_neg h2, if_neg h2, if_neg (fun z => h2 z.2)]
      exact ⟨N, rfl, Fr2.refl _ _, L⟩
  · rw [if_neg h, if_neg h, if_neg (fun z => h z.1)]
    exact ⟨N, rfl, Fr2.refl _ _, L⟩
theorem C_len (M : ax_M) (v : Int) : fX6_isLength M v = if v < 3 then 0 else if 9 < v then 0 else 1 := rfl
theorem C_numAt (H : gTk kd vl n N) (L : gMl N s) (t0 : 0 ≤ t) (t1 : t < 401) (k : kd t = 48) : ∃ N', fX6_errorAtNumber N t = some ((gM1 kd vl t s).1, N') ∧ Fr2 sMe N N' ∧ gMl N' (gM1 kd vl t s).2 := by
  have w1 : wr (t - 1) = t - 1 := wr_eq (by omega) (by omega)
  have w2 : wr (t - 2) = t - 2 := wr_eq (by omega) (by omega)
  have w3 : wr (t - 3) = t - 3 := wr_eq (by omega) (by omega)
  have w4 : wr (t - 4) = t - 4 := wr_eq (by omega) (by omega)
  unfold fX6_errorAtNumber gM1
  rw [w1, w2, w3, w4, H.1, H.1, H.1, H.1, H.2.1, H.2.1, L.1, if_neg (show ¬ kd t = 13 by omega), if_pos k]
  by_cases e1 : kd (t - 1) = 10
  · rw [if_pos e1, if_pos e1, C_len]
    refine ⟨mUI N 167 2 (vl t), ?_, (Fr2.refl _ _).up (Or.inl rfl), mI_Us _ _ _ _, by rw [mI_Un (by omega)]; exact L.2.1, by rw [mI_Un (by omega)]; exact L.2.2.1, fun j j0 j1 => by rw [mI_Un (by omega)]; exact L.2.2.2 j j0 j1⟩
    show _ = some ((if vl t < 3 then 5 else if 9 < vl t then 5 else 0), _)
    by_cases z1 : vl t < 3
    · rw [if_pos z1, if_pos z1, if_pos rfl]
    · rw [if_neg z1, if_neg z1]
      by_cases z2 : 9 < vl t
      · rw [if_pos z2, if_pos z2, if_pos rfl]
      · rw [if_neg z2, if_neg z2, if_neg (by decide)]
  · rw [if_neg e1, if_neg e1]
    by_cases e2 : kd (t - 1) = 11
    · rw [if_pos e2, if_pos e2, C_len]
      refine ⟨mUI N 167 3 (vl t), ?_, (Fr2.refl _ _).up (Or.inl rfl), by rw [mI_Un (by omega)]; exact L.1, mI_Us _ _ _ _, by rw [mI_Un (by omega)]; exact L.2.2.1, fun j j0 j1 => by rw [mI_Un (by omega)]; exact L.2.2.2 j j0 j1⟩
      show _ = some ((if vl t < 3 then 5 else if 9 < vl t then 5 else 0), _)
      by_cases z1 : vl t < 3
      · rw [if_pos z1, if_pos z1, if_pos rfl]
      · rw [if_neg z1, if_neg z1]
        by_cases z2 : 9 < vl t
        · rw [if_pos z2, if_pos z2, if_pos rfl]
        · rw [if_neg z2, if_neg z2, if_neg (by decide)]
    · rw [if_neg e2, if_neg e2]
      by_cases e3 : kd (t - 2) = 12
      · rw [if_pos e3, if_pos e3]
        refine ⟨N, ?_, Fr2.refl _ _, L⟩
        show _ = some ((if vl t < s.1 then 0 else 5), _)
        by_cases z : vl t < s.1
        · rw [if_pos z, if_pos z]
        · rw [if_neg z, if_neg z]
      · rw [if_neg e3, if_neg e3]
        by_cases e4 : kd (t - 4) = 12
        · rw [if_pos e4, if_pos e4]
          by_cases e5 : kd (t - 3) = 14
          · obtain ⟨N', r, f, L'⟩ := C_stone L 0 (vl (t - 2)) (vl t) (Or.inl rfl)
            rw [if_pos e5, r, bd2_s]
            refine ⟨N', ?_, f, ?_⟩
            · by_cases z : vl t < s.2.1
              · rw [if_pos z, if_pos z]
                by_cases y : gMo s.2.2.2 (wr (wr (s.1 * vl t) + vl (t - 2))) = 0
                · rw [if_pos y, if_pos y]
                · rw [if_neg y, if_neg y]
              · rw [if_neg z, if_neg z]
            · by_cases z : vl t < s.2.1
              · rw [if_pos z]
                by_cases y : gMo s.2.2.2 (wr (wr (s.1 * vl t) + vl (t - 2))) = 0
                · rw [if_pos y]
                  rw [if_pos ⟨z, y⟩] at L'
                  simp only [if_pos e5]
                  exact L'
                · rw [if_neg y]
                  rw [if_neg (fun q => y q.2)] at L'
                  exact L'
              · rw [if_neg z]
                rw [if_neg (fun q => z q.1)] at L'
                exact L'
          · obtain ⟨N', r, f, L'⟩ := C_stone L 1 (vl (t - 2)) (vl t) (Or.inr rfl)
            rw [if_neg e5, r, bd2_s]
            refine ⟨N', ?_, f, ?_⟩
            · by_cases z : vl t < s.2.1
              · rw [if_pos z, if_pos z]
                by_cases y : gMo s.2.2.2 (wr (wr (s.1 * vl t) + vl (t - 2))) = 0
                · rw [if_pos y, if_pos y]
                · rw [if_neg y, if_neg y]
              · rw [if_neg z, if_neg z]
            · by_cases z : vl t < s.2.1
              · rw [if_pos z]
                by_cases y : gMo s.2.2.2 (wr (wr (s.1 * vl t) + vl (t - 2))) = 0
                · rw [if_pos y]
                  rw [if_pos ⟨z, y⟩] at L'
                  simp only [if_neg e5]
                  exact L'
                · rw [if_neg y]
                  rw [if_neg (fun q => y q.2)] at L'
                  exact L'
              · rw [if_neg z]
                rw [if_neg (fun q => z q.1)] at L'
                exact L'
        · rw [if_neg e4, if_neg e4]
          exact ⟨N, rfl, Fr2.refl _ _, L⟩
theorem C_token (H : gTk kd vl n N) (L : gMl N s) (t0 : 0 ≤ t) (t1 : t < 401) : ∃ N', fX6_errorAtToken N t = some ((gM1 kd vl t s).1, N') ∧ Fr2 sMe N N' ∧ gMl N' (gM1 kd vl t s).2 := by
  unfold fX6_errorAtToken
  rw [H.1]
  by_cases e1 : kd t = 13
  · unfold gM1
    rw [if_pos e1, if_pos e1, L.2.2.1, mI_Us]
    refine ⟨mUI N 167 4 (wr (s.2.2.1 + 1)), ?_, (Fr2.refl _ _).up (Or.inl rfl), by rw [mI_Un (by omega)]; exact L.1, by rw [mI_Un (by omega)]; exact L.2.1, mI_Us _ _ _ _, fun j j0 j1 => by rw [mI_Un (by omega)]; exact L.2.2.2 j j0 j1⟩
    show _ = some ((if 16 < wr (s.2.2.1 + 1) then 4 else 0), _)
    by_cases z : 16 < wr (s.2.2.1 + 1)
    · rw [if_pos z, if_pos z]
    · rw [if_neg z, if_neg z]
  · rw [if_neg e1]
    by_cases e2 : kd t = 48
    · obtain ⟨N', r, f, L'⟩ := C_numAt H L t0 t1 e2
      rw [if_pos e2, r, bd2_s]
      exact ⟨N', rfl, f, L'⟩
    · unfold gM1
      rw [if_neg e2, if_neg e1, if_neg e2]
      exact ⟨N, rfl, Fr2.refl _ _, L⟩
theorem gMR_end {k : Nat} (h : (gMR kd vl k).1 ≠ 0) : ∀ e : Nat, gMR kd vl (k + e) = gMR kd vl k
  | 0 => rfl
  | e + 1 => by
    have i := gMR_end h e
    show (if (gMR kd vl (k + e)).1 = 0 then _ else gMR kd vl (k + e)) = _
    rw [i, if_neg h]
theorem C_firstL : ∀ (m k L : Nat) (N : ax_M), (k : Int) + m = n → n ≤ 401 → m < L → gTk kd vl n N → gMl N (gMR kd vl k).2.2 → (gMR kd vl k).1 = 0 → (gMR kd vl k).2.1 = -1 → ∃ N', Fr2 sMe N N' ∧ gMl N' (gMR kd vl (k + m)).2.2 ∧ (((gMR kd vl (k + m)).1 = 0 ∧ (gMR kd vl (k + m)).2.1 = -1 ∧ lp (fun s => fX6_firstError_b27 s.2 s.1) L ((k : Int), N) = some (.inr N')) ∨ ((gMR kd vl (k + m)).1 ≠ 0 ∧ lp (fun s => fX6_firstError_b27 s.2 s.1) L ((k : Int), N) = some (.inl ((gMR kd vl (k + m)).2.1, (gMR kd vl (k + m)).1, N'))))
  | _, _, 0, _, _, _, h, _, _, _, _ => absurd h (Nat.not_lt_zero _)
  | 0, k, L + 1, N, hk, hn, hl, H, R, z, z2 => by
    refine ⟨N, Fr2.refl _ _, R, Or.inl ⟨z, z2, ?_⟩⟩
    have b : (fun s : Int × ax_M => fX6_firstError_b27 s.2 s.1) ((k : Int), N) = some (.inr (.inr N)) := by
      show fX6_firstError_b27 N k = _
      unfold fX6_firstError_b27 fX10_count
      rw [H.2.2, if_neg (by omega)]
    rw [lp_r b]
  | m + 1, k, L + 1, N, hk, hn, hl, H, R, z, z2 => by
    obtain ⟨N1, r, f, R1⟩ := C_token H R (show (0 : Int) ≤ k by omega) (by omega)
    have H1 := H.fr f (fun k j h => by unfold sMe; omega)
    have es : gMR kd vl (k + 1) = ((gM1 kd vl k (gMR kd vl k).2.2).1, (if (gM1 kd vl k (gMR kd vl k).2.2).1 = 0 then -1 else (k : Int)), (gM1 kd vl k (gMR kd vl k).2.2).2) := by
      show (if (gMR kd vl k).1 = 0 then _ else _) = _
      rw [if_pos z]
    by_cases y : (gM1 kd vl k (gMR kd vl k).2.2).1 = 0
    · have b : (fun s : Int × ax_M => fX6_firstError_b27 s.2 s.1) ((k : Int), N) = some (.inl ((k : Int) + 1, N1)) := by
        show fX6_firstError_b27 N k = _
        unfold fX6_firstError_b27 fX10_count
        rw [H.2.2, if_pos (by omega), r, bd2_s, if_pos y]
      obtain ⟨N', f', R', o⟩ := C_firstL m (k + 1) L N1 (by omega) hn (by omega) H1 (by rw [es]; exact R1) (by rw [es]; exact y) (by rw [es]; exact if_pos y)
      rw [lp_s b, show (k : Int) + 1 = ((k + 1 : Nat) : Int) by omega, show k + (m + 1) = k + 1 + m by omega]
      exact ⟨N', f.trans f', R', o⟩
    · have b : (fun s : Int × ax_M => fX6_firstError_b27 s.2 s.1) ((k : Int), N) = some (.inr (.inl ((k : Int), (gM1 kd vl k (gMR kd vl k).2.2).1, N1))) := by
        show fX6_firstError_b27 N k = _
        unfold fX6_firstError_b27 fX10_count
        rw [H.2.2, if_pos (by omega), r, bd2_s, if_neg y]
      have ee : gMR kd vl (k + (m + 1)) = gMR kd vl (k + 1) := by
        rw [show k + (m + 1) = k + 1 + m by omega]
        exact gMR_end (by rw [es]; exact y) m
      rw [ee, es, lp_r b]
      exact ⟨N1, f, R1, Or.inr ⟨y, by rw [if_neg y]⟩⟩
theorem C_first (H : gTk kd vl n M) (n0 : 0 ≤ n) (n1 : n ≤ 401) : ∃ M', fX6_firstError M = some ((gMR kd vl n.toNat).1, M') ∧ mI M' 167 5 = (gMR kd vl n.toNat).2.1 ∧ Fr2 sMe M M' ∧ gMl M' (gMR kd vl n.toNat).2.2 := by
  have f0 : Fr2 sMe M (mFi (mUI (mUI (mUI M 167 2 7) 167 3 7) 167 4 0) 168 81 0) := by
    have f : Fr sMe M (mFi (mUI (mUI (mUI M 167 2 7) 167 3 7) 167 4 0) 168 81 0) := ((((Fr.refl _ _).up (Or.inl rfl)).up (Or.inl rfl)).up (Or.inl rfl)).fi (fun _ => Or.inr rfl)
    exact f.two
  obtain ⟨N', f, R, o⟩ := C_firstL n.toNat 0 lpN _ (by omega) n1 (by show n.toNat < 1000000; omega) (H.fr f0 (fun k j h => by unfold sMe; omega)) (by
    refine ⟨?_, ?_, ?_, fun j j0 j1 => ?_⟩
    · rw [mI_F, if_neg (by omega), mI_Un (by omega), mI_Un (by omega), mI_Us]; rfl
    · rw [mI_F, if_neg (by omega), mI_Un (by omega), mI_Us]; rfl
    · rw [mI_F, if_neg (by omega), mI_Us]; rfl
    · rw [mI_F, if_pos ⟨rfl, by omega⟩]; rfl) rfl rfl
  rw [Nat.zero_add] at R o
  unfold fX6_firstError
  rcases o with ⟨z, z2, r⟩ | ⟨z, r⟩
  · refine ⟨mUI N' 167 5 (-1), ?_, ?_, (f0.trans f).up (Or.inl rfl), ?_⟩
    · have r : lp (fun s => fX6_firstError_b27 s.2 s.1) lpN (0, _) = _ := r
      rw [r, bdS_r, z]
    · rw [mI_Us, z2]
    · exact ⟨by rw [mI_Un (by omega)]; exact R.1, by rw [mI_Un (by omega)]; exact R.2.1, by rw [mI_Un (by omega)]; exact R.2.2.1, fun j j0 j1 => by rw [mI_Un (by omega)]; exact R.2.2.2 j j0 j1⟩
  · refine ⟨mUI N' 167 5 (gMR kd vl n.toNat).2.1, ?_, ?_, (f0.trans f).up (Or.inl rfl), ?_⟩
    · have r : lp (fun s => fX6_firstError_b27 s.2 s.1) lpN (0, _) = _ := r
      rw [r, bdS_l]
    · rw [mI_Us]
    · exact ⟨by rw [mI_Un (by omega)]; exact R.1, by rw [mI_Un (by omega)]; exact R.2.1, by rw [mI_Un (by omega)]; exact R.2.2.1, fun j j0 j1 => by rw [mI_Un (by omega)]; exact R.2.2.2 j j0 j1⟩
end MEA
