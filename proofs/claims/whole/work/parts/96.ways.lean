/-! part C: the calls, one by one: ways, plans -/
section CL3
variable {M M1 M2 N : ax_M} {q q' : Nat} {w h : Int} {o : Int → Int} {k T e : Int} {b : Int → Int} {p x y : Int}
/-- a call that answers, where the answer hangs on the memory -/
theorem K_ok2 {F : Option (Int × ax_M)} {G : ax_M → Option (Int × ax_M)} {cv : Int → Int64} {V : Int64} (I : gI N q q' w h o k b T e) (hN : N.2.2 = M.2.2) (h9 : mI M 169 9 ≤ mI N 169 9 ∧ mI N 169 9 ≤ mI M 169 9 + 400) (hF : F = some (0, mUJ N 243 0 V)) (hG : ∀ M1, gI M1 q q' w h o k b T e → Fx (fun _ _ => False) N M1 → ∃ v M2, G M1 = some (v, M2) ∧ V = cv v ∧ mI M2 203 0 = 0 ∧ Fr sMm M1 M2) : gCx M F G cv := by
  obtain ⟨v, M2, r, ev, e0, f⟩ := hG _ (I.jl V) ((Fx.refl _ N).uj 243 0 V)
  have z : M2.2 = (mUJ N 243 0 V).2 := f.1
  have zs : M2.2.2.2 = M.2.2.2 := by rw [z]; show N.2.2.2 = M.2.2.2; rw [hN]
  have n9 := mo_9 f
  have n9' : mI (mUJ N 243 0 V) 169 9 = mI N 169 9 := rfl
  refine ⟨0, _, v, M2, hF, r, e0, fun _ => ?_, ⟨q, q', w, h, o, k, b, T, e, (I.jl V).mo f⟩, ?_, ?_, ?_, ?_, ?_⟩
  · show M2.2.2.1 243 0 = cv v
    rw [z, ← ev]
    show ax_up (mJ N) 243 0 V 243 0 = V
    exact ax_up_s
  · show M.2.2.2.1 ≤ M2.2.2.2.1; rw [zs]; exact Nat.le_refl _
  · show M2.2.2.2.1 ≤ M.2.2.2.1 + 2; rw [zs]; omega
  · show M2.2.2.2.2.1 ≤ M.2.2.2.2.1 + 20; rw [zs]; omega
  · omega
  · omega
theorem K_stonesNeeded (I : gI M q q' w h o k b T e) (hz : 94 ≤ mSz M) (p : Int) : gCx M (fL_stonesNeeded M p) (fun M1 => fX14_stonesNeeded M1 p) il := by
  by_cases hp : p = 0 ∨ p = 1
  · obtain ⟨N, r, W, f, A⟩ := C_ways I.2.1 I.2.2.2.1
    have nb := gneed_b I.2.1 (p := p) (by omega)
    by_cases z : gneed w h o p = 99
    · refine K_no (I.cw f W) hz (f22 f) (f9 f sU9) (c := 2) (t := 13) ?_ (by decide) (fun M1 I1 => ?_)
      · unfold fL_stonesNeeded fX12_stonesNeeded
        rw [C_rp1 M hp, bdT_l, r, bd1_s, C_needed A hp, if_pos z, bdC_r, if_neg (by decide), if_pos rfl]
      · obtain ⟨M2, r2, f2⟩ := Q_needs (I1.z 0).2.2.1 hp
        refine ⟨0, mUI M2 203 0 2, ?_, mI_Us _ _ _ _, ((sMm_z M1 0).trans (sM_mm f2)).trans (sMm_z M2 2)⟩
        show fX14_stonesNeeded M1 p = _
        unfold fX14_stonesNeeded fX14_orNone
        rw [Q_ip1 _ hp, if_neg (by decide), r2, bd2_s, if_neg (by omega)]
        rfl
    · refine K_ok (I.cw f W) (f22 f) (f9 f sU9) (V := il (gneed w h o p)) ?_ (fun M1 I1 => ?_)
      · unfold fL_stonesNeeded fX12_stonesNeeded
        rw [C_rp1 M hp, bdT_l, r, bd1_s, C_needed A hp, if_neg z, bdC_l]
      · obtain ⟨M2, r2, f2⟩ := Q_needs (I1.z 0).2.2.1 hp
        refine ⟨_, M2, ?_, rfl, sM0 f2 (z0 M1), (sMm_z M1 0).trans (sM_mm f2)⟩
        show fX14_stonesNeeded M1 p = _
        unfold fX14_stonesNeeded fX14_orNone
        rw [Q_ip1 _ hp, if_neg (by decide), r2, bd2_s, if_pos (by omega), bd2_s]
  · refine K_no I hz rfl (nn9 M) (c := 1) (t := 15) ?_ (by decide) (fun M1 I1 => ⟨0, _, ?_, (no_z M1 1).1, (no_z M1 1).2⟩)
    · unfold fL_stonesNeeded fX12_stonesNeeded
      rw [C_rp0 M hp, bdT_r, bdC_r, if_pos rfl]
    · show fX14_stonesNeeded M1 p = _
      unfold fX14_stonesNeeded
      rw [Q_ip0 _ hp, if_pos rfl, Q_no1]
theorem K_stonesNeededThrough (I : gI M q q' w h o k b T e) (hz : 94 ≤ mSz M) (p x y : Int) : gCx M (fL_stonesNeededThrough M p x y) (fun M1 => fX14_stonesNeededThrough M1 p x y) il := by
  by_cases hp : p = 0 ∨ p = 1
  · by_cases z : 0 ≤ x ∧ x < w ∧ 0 ≤ y ∧ y < h
    · have c := gcell_b I.2.1.k z
      obtain ⟨N, r, W, f, A⟩ := C_ways I.2.1 I.2.2.2.1
      have IN := I.cw f W
      have tb := gthr_b I.2.1.k I.2.1.2.1 hp c.1 c.2.1
      by_cases t : gthr w h o p (gCell w h x y) = -1
      · refine K_no IN hz (f22 f) (f9 f sU9) (c := 2) (t := 13) ?_ (by decide) (fun M1 I1 => ?_)
        · unfold fL_stonesNeededThrough fX12_stonesNeededThrough
          rw [C_rp1 M hp, bdT_l, C_rc1 I.2.1 z, bdT_l, r, bd1_s, C_through IN.2.1 A hp c.1 c.2.1, if_pos t, bdC_r, if_neg (by decide), if_pos rfl]
        · have P := (I1.z 0).2.2.1
          obtain ⟨M2, r2, f2⟩ := Q_through P hp c.1 c.2.1
          refine ⟨0, mUI M2 203 0 2, ?_, mI_Us _ _ _ _, ((sMm_z M1 0).trans (sM_mm f2)).trans (sMm_z M2 2)⟩
          show fX14_stonesNeededThrough M1 p x y = _
          unfold fX14_stonesNeededThrough
          rw [Q_ip1 _ hp, if_neg (by decide), Q_on1 P z, if_neg (by decide), Q_at P z, r2, bd2_s]
          unfold gthrm
          rw [if_pos t, if_pos rfl]
          rfl
      · refine K_ok IN (f22 f) (f9 f sU9) (V := il (gthr w h o p (gCell w h x y))) ?_ (fun M1 I1 => ?_)
        · unfold fL_stonesNeededThrough fX12_stonesNeededThrough
          rw [C_rp1 M hp, bdT_l, C_rc1 I.2.1 z, bdT_l, r, bd1_s, C_through IN.2.1 A hp c.1 c.2.1, if_neg t, bdC_l]
        · have P := (I1.z 0).2.2.1
          obtain ⟨M2, r2, f2⟩ := Q_through P hp c.1 c.2.1
          refine ⟨_, M2, ?_, rfl, sM0 f2 (z0 M1), (sMm_z M1 0).trans (sM_mm f2)⟩
          show fX14_stonesNeededThrough M1 p x y = _
          unfold fX14_stonesNeededThrough
          rw [Q_ip1 _ hp, if_neg (by decide), Q_on1 P z, if_neg (by decide), Q_at P z, r2, bd2_s]
          unfold gthrm
          rw [if_neg t, if_neg (by omega)]
    · refine K_no I hz rfl (nn9 M) (c := 1) (t := 15) ?_ (by decide) (fun M1 I1 => ⟨0, _, ?_, (no_z M1 1).1, (no_z M1 1).2⟩)
      · unfold fL_stonesNeededThrough fX12_stonesNeededThrough
        rw [C_rp1 M hp, bdT_l, C_rc0 I.2.1 z, bdT_r, bdC_r, if_pos rfl]
      · show fX14_stonesNeededThrough M1 p x y = _
        unfold fX14_stonesNeededThrough
        rw [Q_ip1 _ hp, if_neg (by decide), Q_on0 (I1.z 0).2.2.1 z, if_pos rfl, Q_no1]
  · refine K_no I hz rfl (nn9 M) (c := 1) (t := 15) ?_ (by decide) (fun M1 I1 => ⟨0, _, ?_, (no_z M1 1).1, (no_z M1 1).2⟩)
    · unfold fL_stonesNeededThrough fX12_stonesNeededThrough
      rw [C_rp0 M hp, bdT_r, bdC_r, if_pos rfl]
    · show fX14_stonesNeededThrough M1 p x y = _
      unfold fX14_stonesNeededThrough
      rw [Q_ip0 _ hp, if_pos rfl, Q_no1]
theorem K_isWinningCell (I : gI M q q' w h o k b T e) (hz : 94 ≤ mSz M) (p x y : Int) : gCx M (fL_isWinningCell M p x y) (fun M1 => fX14_isWinningCell M1 p x y) cvB := by
  by_cases hp : p = 0 ∨ p = 1
  · by_cases z : 0 ≤ x ∧ x < w ∧ 0 ≤ y ∧ y < h
    · have c := gcell_b I.2.1.k z
      obtain ⟨N, r, W, f, A⟩ := C_ways I.2.1 I.2.2.2.1
      have IN := I.cw f W
      refine K_ok IN (f22 f) (f9 f sU9) (V := cvB (gat (gwinc w h o p (gCell w h x y)))) ?_ (fun M1 I1 => ?_)
      · unfold fL_isWinningCell fX12_isWinningCell
        rw [C_rp1 M hp, bdT_l, C_rc1 I.2.1 z, bdT_l, r, bd1_s, C_wins IN.2.1 A hp, bdC_l, cvB_eq]
      · have P := (I1.z 0).2.2.1
        obtain ⟨M2, r2, f2⟩ := Q_wins P hp c.1 c.2.1
        refine ⟨_, M2, ?_, rfl, sM0 f2 (z0 M1), (sMm_z M1 0).trans (sM_mm f2)⟩
        show fX14_isWinningCell M1 p x y = _
        unfold fX14_isWinningCell
        rw [Q_ip1 _ hp, if_neg (by decide), Q_on1 P z, if_neg (by decide), Q_at P z, r2, bd2_s]
    · refine K_no I hz rfl (nn9 M) (c := 1) (t := 15) ?_ (by decide) (fun M1 I1 => ⟨0, _, ?_, (no_z M1 1).1, (no_z M1 1).2⟩)
      · unfold fL_isWinningCell fX12_isWinningCell
        rw [C_rp1 M hp, bdT_l, C_rc0 I.2.1 z, bdT_r, bdC_r, if_pos rfl]
      · show fX14_isWinningCell M1 p x y = _
        unfold fX14_isWinningCell
        rw [Q_ip1 _ hp, if_neg (by decide), Q_on0 (I1.z 0).2.2.1 z, if_pos rfl, Q_not1]
  · refine K_no I hz rfl (nn9 M) (c := 1) (t := 15) ?_ (by decide) (fun M1 I1 => ⟨0, _, ?_, (no_z M1 1).1, (no_z M1 1).2⟩)
    · unfold fL_isWinningCell fX12_isWinningCell
      rw [C_rp0 M hp, bdT_r, bdC_r, if_pos rfl]
    · show fX14_isWinningCell M1 p x y = _
      unfold fX14_isWinningCell
      rw [Q_ip0 _ hp, if_pos rfl, Q_not1]
theorem K_winningCells (I : gI M q q' w h o k b T e) (hz : 94 ≤ mSz M) (p : Int) : gCx M (fL_winningCells M p) (fun M1 => fX14_winningCells M1 p) il := by
  by_cases hp : p = 0 ∨ p = 1
  · obtain ⟨N, r, W, f, A⟩ := C_ways I.2.1 I.2.2.2.1
    have IN := I.cw f W
    refine K_ok IN (f22 f) (f9 f sU9) (V := il (gcn (gwinc w h o p) (w * h).toNat)) ?_ (fun M1 I1 => ?_)
    · unfold fL_winningCells fX12_winningCells
      rw [C_rp1 M hp, bdT_l, r, bd1_s, C_winningCells IN.2.1 A hp, bd1_s, bdC_l]
    · obtain ⟨M2, r2, f2⟩ := Q_winning0 (I1.z 0).2.2.1 hp
      refine ⟨_, M2, ?_, rfl, sM0 f2 (z0 M1), (sMm_z M1 0).trans (sM_mm f2)⟩
      show fX14_winningCells M1 p = _
      unfold fX14_winningCells
      rw [Q_ip1 _ hp, if_neg (by decide), r2, bd2_s]
  · refine K_no I hz rfl (nn9 M) (c := 1) (t := 15) ?_ (by decide) (fun M1 I1 => ⟨0, _, ?_, (no_z M1 1).1, (no_z M1 1).2⟩)
    · unfold fL_winningCells fX12_winningCells
      rw [C_rp0 M hp, bdT_r, bdC_r, if_pos rfl]
    · show fX14_winningCells M1 p = _
      unfold fX14_winningCells
      rw [Q_ip0 _ hp, if_pos rfl, Q_no1]
theorem K_plannedCell (I : gI M q q' w h o k b T e) (hz : 94 ≤ mSz M) : gCx M (fL_plannedCell M) fX14_plannedCell il := by
  refine K_on I hz 1 (by decide) (fun N r => ?_) (fun M1 M2 _ r => ?_) (fun N IN f A r hO y => ?_)
  · unfold fL_plannedCell fX12_plannedCell
    rw [r, bdT_r, bdC_r, if_pos rfl]
  · unfold fX14_plannedCell
    rw [r, bd2_s, if_neg (by decide)]
    rfl
  · have G := IN.2.2.2.2.2.1
    obtain ⟨N2, r2, W2, B2, f2⟩ := C_choose IN.2.1 IN.2.2.2.1 IN.2.2.2.2.1 G (gturn o)
    have IN2 := IN.cc f2 W2 B2
    have g2 := (G.x f2.x (fun k j z => by have := G.1; unfold sC; omega)).2 w h o (gturn o) (mI N 208 3).toNat
    have e3 : mI N2 208 3 = mI N 208 3 := f2.2 208 3 (by unfold sC; omega)
    have n9 := f.2 169 9 sU9
    have n9' := f2.2 169 9 sC9
    refine K_ok2 IN2 ((f22 f2).trans (f22 f)) ⟨by omega, by omega⟩ (V := il (gchs N w h o (gturn o) (mI N 208 3).toNat)) ?_ (fun M1 I1 F1 => ?_)
    · unfold fL_plannedCell fX12_plannedCell
      rw [r, bdT_l, IN.1.2.1, C_turn IN.2.1]
      show bdC (if (q = 157 ∨ q = 194) then (bd2 (fX2_choose N q (gturn o)) fun v110 M109 => (some (.inl v110, M109))) else none) _ _ = _
      rw [if_pos G.1, r2, bd2_s, bdC_l]
    · obtain ⟨M2, r3, f3, e0⟩ := hO M1 I1
      have I2 := I1.mo f3
      obtain ⟨M3, r4, f4⟩ := Q_planned I2.2.2.1 I2.2.2.2.2.2.1 (gturn o)
      have g3 := (IN2.2.2.2.2.2.1.x F1 (fun _ _ _ z => z)).2 w h o (gturn o) (mI N 208 3).toNat
      have g4 := (I1.2.2.2.2.2.1.x f3.x (fun k j z => by have := G.1; unfold sMm; omega)).2 w h o (gturn o) (mI N 208 3).toNat
      have e4 : mI M2 208 3 = mI N 208 3 := by rw [f3.2 208 3 (by unfold sMm; omega), (F1 208 3 (by omega) (fun z => z)).1, e3]
      rw [e4, g4, g3, g2] at r4
      refine ⟨_, M3, ?_, rfl, sMv0 f4 e0, f3.trans (sMv_mm f4)⟩
      unfold fX14_plannedCell
      rw [r3, bd2_s, if_pos rfl, Q_turn I2.2.2.1, bd1_s, r4, bd2_s]
theorem K_mustPlay (I : gI M q q' w h o k b T e) (hz : 94 ≤ mSz M) : gCx M (fL_mustPlay M) fX14_mustPlay il := by
  refine K_on I hz 1 (by decide) (fun N r => ?_) (fun M1 M2 _ r => ?_) (fun N IN f A r hO y => ?_)
  · unfold fL_mustPlay fX12_mustPlay
    rw [r, bdT_r, bdC_r, if_pos rfl]
  · unfold fX14_mustPlay
    rw [r, bd2_s, if_neg (by decide)]
    rfl
  · obtain ⟨N2, r2, W2, f2, A2⟩ := C_ways IN.2.1 IN.2.2.2.1
    have IN2 := IN.cw f2 W2
    have ff := f.trans f2
    have tb := gturn_b o
    obtain ⟨t, ht⟩ : ∃ t, gturn o = t := ⟨_, rfl⟩
    rw [ht] at tb
    have wr1 : wr (1 - t) = 1 - t := wr_eq (by omega) (by omega)
    have a1 := C_winningCells IN2.2.1 A2 tb
    have a2 := C_winningCells IN2.2.1 A2 (p := 1 - t) (by omega)
    have a3 := C_firstWinning IN2.2.1 A2 (p := 1 - t) (by omega)
    have gb := gcn_b (gwinc w h o t) (w * h).toNat
    have red : fX12_mustPlay M = (if 0 < gcn (gwinc w h o t) (w * h).toNat then (some (.inr "java/lang/IllegalStateException", (mAl N2 13 0 6))) else (if gcn (gwinc w h o (1 - t)) (w * h).toNat = 1 then some (.inl (gfs (gwinc w h o (1 - t)) (w * h).toNat), N2) else (some (.inr "java/lang/IllegalStateException", (mAl N2 13 0 6))))) := by
      unfold fX12_mustPlay
      rw [r, bdT_l, r2, bd1_s, C_turn IN.2.1, ht, a1, bd1_s, wr1, a2, bd1_s, a3, bd1_s]
    have mod : ∀ M1, gI M1 q q' w h o k b T e → ∃ M2, Fr sMm M1 M2 ∧ mI M2 203 0 = 0 ∧ ((0 < gcn (gwinc w h o t) (w * h).toNat ∧ fX14_mustPlay M1 = some (0, mUI M2 203 0 1)) ∨ (¬ 0 < gcn (gwinc w h o t) (w * h).toNat ∧ ((¬ gcn (gwinc w h o (1 - t)) (w * h).toNat = 1 ∧ fX14_mustPlay M1 = some (0, mUI M2 203 0 1)) ∨ (gcn (gwinc w h o (1 - t)) (w * h).toNat = 1 ∧ fX14_mustPlay M1 = some (gfs (gwinc w h o (1 - t)) (w * h).toNat, M2))))) := by
      intro M1 I1
      obtain ⟨M2, r3, f3, e0⟩ := hO M1 I1
      have I2 := I1.mo f3
      obtain ⟨M3, r4, f4⟩ := Q_winning0 I2.2.2.1 tb
      have I3 := I2.mo (sM_mm f4)
      obtain ⟨M4, r5, f5⟩ := Q_winning0 I3.2.2.1 (p := 1 - t) (by omega)
      have I4 := I3.mo (sM_mm f5)
      obtain ⟨M5, r6, f6⟩ := Q_winning1 I4.2.2.1 (p := 1 - t) (by omega)
      have F3 : Fr sMm M1 M3 := f3.trans (sM_mm f4)
      have red2 : fX14_mustPlay M1 = (if 0 < gcn (gwinc w h o t) (w * h).toNat then (some (0, mUI M3 203 0 1)) else (if gcn (gwinc w h o (1 - t)) (w * h).toNat = 1 then some (gfs (gwinc w h o (1 - t)) (w * h).toNat, M5) else (some (0, mUI M4 203 0 1)))) := by
        unfold fX14_mustPlay
        rw [r3, bd2_s, if_pos rfl, Q_turn I2.2.2.1, bd1_s, ht, r4, bd2_s, wr1, r5, bd2_s, r6, bd2_s]
        rfl
      by_cases u : 0 < gcn (gwinc w h o t) (w * h).toNat
      · rw [if_pos u] at red2
        exact ⟨M3, F3, sM0 f4 e0, Or.inl ⟨u, red2⟩⟩
      · rw [if_neg u] at red2
        by_cases v : gcn (gwinc w h o (1 - t)) (w * h).toNat = 1
        · rw [if_pos v] at red2
          exact ⟨M5, (F3.trans (sM_mm f5)).trans (sM_mm f6), sM0 f6 (sM0 f5 (sM0 f4 e0)), Or.inr ⟨u, Or.inr ⟨v, red2⟩⟩⟩
        · rw [if_neg v] at red2
          exact ⟨M4, F3.trans (sM_mm f5), sM0 f5 (sM0 f4 e0), Or.inr ⟨u, Or.inl ⟨v, red2⟩⟩⟩
    have thr : (0 < gcn (gwinc w h o t) (w * h).toNat ∨ ¬ gcn (gwinc w h o (1 - t)) (w * h).toNat = 1) → gCx M (fL_mustPlay M) fX14_mustPlay il := fun u => by
      refine K_no IN2 hz (f22 ff) (f9 ff sU9) (c := 1) (t := 13) ?_ (by decide) (fun M1 I1 => ?_)
      · unfold fL_mustPlay
        rw [red]
        by_cases v : 0 < gcn (gwinc w h o t) (w * h).toNat
        · rw [if_pos v, bdC_r, if_pos rfl]
        · rw [if_neg v, if_neg (u.resolve_left v), bdC_r, if_pos rfl]
      · obtain ⟨M2, f2, e0, ⟨_, z⟩ | ⟨v, ⟨_, z⟩ | ⟨v2, z⟩⟩⟩ := mod M1 I1
        · exact ⟨0, _, z, mI_Us _ _ _ _, f2.trans (sMm_z M2 1)⟩
        · exact ⟨0, _, z, mI_Us _ _ _ _, f2.trans (sMm_z M2 1)⟩
        · exact absurd v2 (u.resolve_left v)
    by_cases u : 0 < gcn (gwinc w h o t) (w * h).toNat
    · exact thr (Or.inl u)
    · by_cases v : gcn (gwinc w h o (1 - t)) (w * h).toNat = 1
      · refine K_ok IN2 (f22 ff) (f9 ff sU9) (V := il (gfs (gwinc w h o (1 - t)) (w * h).toNat)) ?_ (fun M1 I1 => ?_)
        · unfold fL_mustPlay
          rw [red, if_neg u, if_pos v, bdC_l]
        · obtain ⟨M2, f2, e0, ⟨u2, z⟩ | ⟨_, ⟨v2, z⟩ | ⟨v2, z⟩⟩⟩ := mod M1 I1
          · exact absurd u2 u
          · exact absurd v v2
          · exact ⟨_, M2, z, rfl, e0, f2⟩
      · exact thr (Or.inr v)
end CL3
