/-! part C: the law's loop -/
theorem ilc_self (x : Int64) : ilc x x = 0 := by
  unfold ilc
  rw [(lg_cmp_eq x x).mpr rfl]
  rfl
theorem ite_c {α : Type} {P : α → Prop} {c : Prop} [Decidable c] {a b : α} (h1 : c → P a) (h2 : ¬ c → P b) : P (if c then a else b) := by
  by_cases z : c
  · rw [if_pos z]; exact h1 z
  · rw [if_neg z]; exact h2 z
abbrev gLw (M : ax_M) (z : Int) (r : Option ((Int × ax_M) ⊕ ax_M)) : Prop := ∃ M2, r = some (.inl (z, M2)) ∧ gNx M M2
theorem fin_x {M2 : ax_M} {c v z : Int} (e0 : mI M2 203 0 = c) (ej : c = 0 → mJ M2 243 0 = il v) : (if fX14_thrown M2 = c then (if c = 0 then (if (ilc (mJ M2 243 0) (il v)) = 0 then (some (.inl (z, M2)) : Option ((Int × ax_M) ⊕ ax_M)) else none) else (some (.inl (z, M2)))) else none) = some (.inl (z, M2)) := by
  unfold fX14_thrown
  rw [if_pos e0]
  by_cases h : c = 0
  · rw [if_pos h, ej h, ilc_self, if_pos rfl]
  · rw [if_neg h]
theorem fin_b {M2 : ax_M} {c v z : Int} (e0 : mI M2 203 0 = c) (ej : c = 0 → mJ M2 243 0 = cvB v) : (if fX14_thrown M2 = c then (if c = 0 then (if v = 0 then (if (ilc (mJ M2 243 0) (Int64.ofNat 0)) = 0 then (some (.inl (z, M2)) : Option ((Int × ax_M) ⊕ ax_M)) else none) else (if (ilc (mJ M2 243 0) (Int64.ofNat 1)) = 0 then (some (.inl (z, M2))) else none)) else (some (.inl (z, M2)))) else none) = some (.inl (z, M2)) := by
  unfold fX14_thrown
  rw [if_pos e0]
  by_cases h : c = 0
  · rw [if_pos h, ej h]
    unfold cvB
    by_cases y : v = 0
    · rw [if_pos y, if_pos y, ilc_self, if_pos rfl]
    · rw [if_neg y, if_neg y, ilc_self, if_pos rfl]
  · rw [if_neg h]
section LWL
variable {M : ax_M} {X : Nat → Int} {N : Nat}
set_option maxHeartbeats 4000000 in
theorem law_step (I : gIx M) (hz : 94 ≤ mSz M) (hch : 0 ≤ mI M 169 9 ∧ mI M 169 9 < 1000000000) {v4 z6 : Int} (hl : ¬ (((N : Nat) : Int) - 6) < v4) (h0 : 0 ≤ v4 ∧ v4 < N) (h1 : 0 ≤ (v4 + 1) ∧ (v4 + 1) < N) (h2 : 0 ≤ (wr (v4 + 2)) ∧ (wr (v4 + 2)) < N) (h3 : 0 ≤ (wr (v4 + 3)) ∧ (wr (v4 + 3)) < N) (h4 : 0 ≤ (wr (v4 + 4)) ∧ (wr (v4 + 4)) < N) (h5 : 0 ≤ (wr (v4 + 5)) ∧ (wr (v4 + 5)) < N) (hw : wr (v4 + 6) = z6) : gLw M z6 (fL_law_b23 X N M v4) := by
  obtain ⟨q, q', w, h, o, k, b, T, e, I⟩ := I
  unfold fL_law_b23
  refine ite_c (P := gLw M z6) (fun hh => absurd hh hl) (fun _ => ?_)
  refine ite_c (P := gLw M z6) (fun _ => ?_) (fun hh => absurd h0 hh)
  refine ite_c (P := gLw M z6) (fun _ => ?_) (fun _ => ?_)
  · obtain ⟨c, M1, v, M2, r1, r2, e0, ej, nx⟩ := K_feed I hz (X (Int.toNat (v4 + 1))) (X (Int.toNat (wr (v4 + 2)))) (X (Int.toNat (wr (v4 + 3)))) (X (Int.toNat (wr (v4 + 4)))) (X (Int.toNat (wr (v4 + 5))))
    have r2 : fX14_feed M1 (X (Int.toNat (v4 + 1))) (X (Int.toNat (wr (v4 + 2)))) (X (Int.toNat (wr (v4 + 3)))) (X (Int.toNat (wr (v4 + 4)))) (X (Int.toNat (wr (v4 + 5)))) = some (v, M2) := r2
    rw [if_pos h1, if_pos h2, if_pos h3, if_pos h4, if_pos h5, r1, bd2_s, if_pos h1, if_pos h2, if_pos h3, if_pos h4, if_pos h5, r2, bd2_s, hw]
    exact ⟨M2, fin_x e0 ej, nx⟩
  refine ite_c (P := gLw M z6) (fun _ => ?_) (fun _ => ?_)
  · obtain ⟨c, M1, v, M2, r1, r2, e0, ej, nx⟩ := K_trim I hz (X (Int.toNat (v4 + 1)))
    have r2 : fX14_trim M1 (X (Int.toNat (v4 + 1))) = some (v, M2) := r2
    rw [if_pos h1, r1, bd2_s, if_pos h1, r2, bd2_s, hw]
    exact ⟨M2, fin_x e0 ej, nx⟩
  refine ite_c (P := gLw M z6) (fun _ => ?_) (fun _ => ?_)
  · obtain ⟨v, M1, M2, r1, r2, nx⟩ := K_teach I hch
    rw [r1, bd2_s, r2, bd2_s, if_pos rfl, hw]
    exact ⟨M2, rfl, nx⟩
  refine ite_c (P := gLw M z6) (fun _ => ?_) (fun _ => ?_)
  · obtain ⟨M2, r2, nx⟩ := K_errorAt I
    rw [r2, bd2_s, if_pos rfl, hw]
    exact ⟨M2, rfl, nx⟩
  refine ite_c (P := gLw M z6) (fun _ => ?_) (fun _ => ?_)
  · obtain ⟨M2, r2, nx⟩ := K_columns I
    rw [r2, bd2_s, if_pos rfl, hw]
    exact ⟨M2, rfl, nx⟩
  refine ite_c (P := gLw M z6) (fun _ => ?_) (fun _ => ?_)
  · obtain ⟨M2, r2, nx⟩ := K_rows I
    rw [r2, bd2_s, if_pos rfl, hw]
    exact ⟨M2, rfl, nx⟩
  refine ite_c (P := gLw M z6) (fun _ => ?_) (fun _ => ?_)
  · obtain ⟨v, r1, M2, r2, nx⟩ := K_plans I
    rw [r1, bd1_s, r2, bd2_s, if_pos rfl, hw]
    exact ⟨M2, rfl, nx⟩
  refine ite_c (P := gLw M z6) (fun _ => ?_) (fun _ => ?_)
  · obtain ⟨M2, r2, nx⟩ := K_stonesToTakeBack I
    rw [r2, bd2_s, if_pos rfl, hw]
    exact ⟨M2, rfl, nx⟩
  refine ite_c (P := gLw M z6) (fun _ => ?_) (fun _ => ?_)
  · obtain ⟨M2, r2, nx⟩ := K_tapeBytes I
    rw [r2, bd2_s, if_pos rfl, hw]
    exact ⟨M2, rfl, nx⟩
  refine ite_c (P := gLw M z6) (fun _ => ?_) (fun _ => ?_)
  · obtain ⟨M2, r2, nx⟩ := K_emptyCells I
    rw [r2, bd2_s, if_pos rfl, hw]
    exact ⟨M2, rfl, nx⟩
  refine ite_c (P := gLw M z6) (fun _ => ?_) (fun _ => ?_)
  · obtain ⟨c, M1, v, M2, r1, r2, e0, ej, nx⟩ := K_stonesOf I hz (X (Int.toNat (v4 + 1)))
    have r2 : fX14_stonesOf M1 (X (Int.toNat (v4 + 1))) = some (v, M2) := r2
    rw [if_pos h1, r1, bd2_s, if_pos h1, r2, bd2_s, hw]
    exact ⟨M2, fin_x e0 ej, nx⟩
  refine ite_c (P := gLw M z6) (fun _ => ?_) (fun _ => ?_)
  · obtain ⟨c, M1, v, M2, r1, r2, e0, ej, nx⟩ := K_isEmpty I hz (X (Int.toNat (v4 + 1))) (X (Int.toNat (wr (v4 + 2))))
    have r2 : fX14_isEmpty M1 (X (Int.toNat (v4 + 1))) (X (Int.toNat (wr (v4 + 2)))) = some (v, M2) := r2
    rw [if_pos h1, if_pos h2, r1, bd2_s, if_pos h1, if_pos h2, r2, bd2_s, hw]
    exact ⟨M2, fin_b e0 ej, nx⟩
  refine ite_c (P := gLw M z6) (fun _ => ?_) (fun _ => ?_)
  · obtain ⟨c, M1, v, M2, r1, r2, e0, ej, nx⟩ := K_ownerOf I hz (X (Int.toNat (v4 + 1))) (X (Int.toNat (wr (v4 + 2))))
    have r2 : fX14_ownerOf M1 (X (Int.toNat (v4 + 1))) (X (Int.toNat (wr (v4 + 2)))) = some (v, M2) := r2
    rw [if_pos h1, if_pos h2, r1, bd2_s, if_pos h1, if_pos h2, r2, bd2_s, hw]
    exact ⟨M2, fin_x e0 ej, nx⟩
  refine ite_c (P := gLw M z6) (fun _ => ?_) (fun _ => ?_)
  · obtain ⟨c, M1, v, M2, r1, r2, e0, ej, nx⟩ := K_hasWon I hz (X (Int.toNat (v4 + 1)))
    have r2 : fX14_hasWon M1 (X (Int.toNat (v4 + 1))) = some (v, M2) := r2
    rw [if_pos h1, r1, bd2_s, if_pos h1, r2, bd2_s, hw]
    exact ⟨M2, fin_b e0 ej, nx⟩
  refine ite_c (P := gLw M z6) (fun _ => ?_) (fun _ => ?_)
  · obtain ⟨v, M1, M2, r1, r2, nx⟩ := K_isOver I
    rw [r1, bd2_s, r2, bd2_s, if_pos rfl, hw]
    exact ⟨M2, rfl, nx⟩
  refine ite_c (P := gLw M z6) (fun _ => ?_) (fun _ => ?_)
  · obtain ⟨c, M1, v, M2, r1, r2, e0, ej, nx⟩ := K_playerInTurn I hz 
    have r2 : fX14_playerInTurn M1  = some (v, M2) := r2
    rw [r1, bd2_s, r2, bd2_s, hw]
    exact ⟨M2, fin_x e0 ej, nx⟩
  refine ite_c (P := gLw M z6) (fun _ => ?_) (fun _ => ?_)
  · obtain ⟨c, M1, v, M2, r1, r2, e0, ej, nx⟩ := K_stonesBeside I hz (X (Int.toNat (v4 + 1))) (X (Int.toNat (wr (v4 + 2)))) (X (Int.toNat (wr (v4 + 3))))
    have r2 : fX14_stonesBeside M1 (X (Int.toNat (v4 + 1))) (X (Int.toNat (wr (v4 + 2)))) (X (Int.toNat (wr (v4 + 3)))) = some (v, M2) := r2
    rw [if_pos h1, if_pos h2, if_pos h3, r1, bd2_s, if_pos h1, if_pos h2, if_pos h3, r2, bd2_s, hw]
    exact ⟨M2, fin_x e0 ej, nx⟩
  refine ite_c (P := gLw M z6) (fun _ => ?_) (fun _ => ?_)
  · obtain ⟨c, M1, v, M2, r1, r2, e0, ej, nx⟩ := K_groupSize I hz (X (Int.toNat (v4 + 1))) (X (Int.toNat (wr (v4 + 2))))
    have r2 : fX14_groupSize M1 (X (Int.toNat (v4 + 1))) (X (Int.toNat (wr (v4 + 2)))) = some (v, M2) := r2
    rw [if_pos h1, if_pos h2, r1, bd2_s, if_pos h1, if_pos h2, r2, bd2_s, hw]
    exact ⟨M2, fin_x e0 ej, nx⟩
  refine ite_c (P := gLw M z6) (fun _ => ?_) (fun _ => ?_)
  · obtain ⟨c, M1, v, M2, r1, r2, e0, ej, nx⟩ := K_shoresOf I hz (X (Int.toNat (v4 + 1))) (X (Int.toNat (wr (v4 + 2))))
    have r2 : fX14_shoresOf M1 (X (Int.toNat (v4 + 1))) (X (Int.toNat (wr (v4 + 2)))) = some (v, M2) := r2
    rw [if_pos h1, if_pos h2, r1, bd2_s, if_pos h1, if_pos h2, r2, bd2_s, hw]
    exact ⟨M2, fin_x e0 ej, nx⟩
  refine ite_c (P := gLw M z6) (fun _ => ?_) (fun _ => ?_)
  · obtain ⟨c, M1, v, M2, r1, r2, e0, ej, nx⟩ := K_groupsOf I hz (X (Int.toNat (v4 + 1)))
    have r2 : fX14_groupsOf M1 (X (Int.toNat (v4 + 1))) = some (v, M2) := r2
    rw [if_pos h1, r1, bd2_s, if_pos h1, r2, bd2_s, hw]
    exact ⟨M2, fin_x e0 ej, nx⟩
  refine ite_c (P := gLw M z6) (fun _ => ?_) (fun _ => ?_)
  · obtain ⟨c, M1, v, M2, r1, r2, e0, ej, nx⟩ := K_greatestGroup I hz (X (Int.toNat (v4 + 1)))
    have r2 : fX14_greatestGroup M1 (X (Int.toNat (v4 + 1))) = some (v, M2) := r2
    rw [if_pos h1, r1, bd2_s, if_pos h1, r2, bd2_s, hw]
    exact ⟨M2, fin_x e0 ej, nx⟩
  refine ite_c (P := gLw M z6) (fun _ => ?_) (fun _ => ?_)
  · obtain ⟨c, M1, v, M2, r1, r2, e0, ej, nx⟩ := K_isBridge I hz (X (Int.toNat (v4 + 1))) (X (Int.toNat (wr (v4 + 2))))
    have r2 : fX14_isBridge M1 (X (Int.toNat (v4 + 1))) (X (Int.toNat (wr (v4 + 2)))) = some (v, M2) := r2
    rw [if_pos h1, if_pos h2, r1, bd2_s, if_pos h1, if_pos h2, r2, bd2_s, hw]
    exact ⟨M2, fin_b e0 ej, nx⟩
  refine ite_c (P := gLw M z6) (fun _ => ?_) (fun _ => ?_)
  · obtain ⟨c, M1, v, M2, r1, r2, e0, ej, nx⟩ := K_bridgesOf I hz (X (Int.toNat (v4 + 1)))
    have r2 : fX14_bridgesOf M1 (X (Int.toNat (v4 + 1))) = some (v, M2) := r2
    rw [if_pos h1, r1, bd2_s, if_pos h1, r2, bd2_s, hw]
    exact ⟨M2, fin_x e0 ej, nx⟩
  refine ite_c (P := gLw M z6) (fun _ => ?_) (fun _ => ?_)
  · obtain ⟨c, M1, v, M2, r1, r2, e0, ej, nx⟩ := K_brokenBridgesOf I hz (X (Int.toNat (v4 + 1)))
    have r2 : fX14_brokenBridgesOf M1 (X (Int.toNat (v4 + 1))) = some (v, M2) := r2
    rw [if_pos h1, r1, bd2_s, if_pos h1, r2, bd2_s, hw]
    exact ⟨M2, fin_x e0 ej, nx⟩
  refine ite_c (P := gLw M z6) (fun _ => ?_) (fun _ => ?_)
  · obtain ⟨c, M1, v, M2, r1, r2, e0, ej, nx⟩ := K_isFrozen I hz (X (Int.toNat (v4 + 1))) (X (Int.toNat (wr (v4 + 2))))
    have r2 : fX14_isFrozen M1 (X (Int.toNat (v4 + 1))) (X (Int.toNat (wr (v4 + 2)))) = some (v, M2) := r2
    rw [if_pos h1, if_pos h2, r1, bd2_s, if_pos h1, if_pos h2, r2, bd2_s, hw]
    exact ⟨M2, fin_b e0 ej, nx⟩
  refine ite_c (P := gLw M z6) (fun _ => ?_) (fun _ => ?_)
  · obtain ⟨v, r1, M2, r2, nx⟩ := K_frozenCells I
    rw [r1, bd1_s, r2, bd2_s, if_pos rfl, hw]
    exact ⟨M2, rfl, nx⟩
  refine ite_c (P := gLw M z6) (fun _ => ?_) (fun _ => ?_)
  · obtain ⟨c, M1, v, M2, r1, r2, e0, ej, nx⟩ := K_stonesNeeded I hz (X (Int.toNat (v4 + 1)))
    have r2 : fX14_stonesNeeded M1 (X (Int.toNat (v4 + 1))) = some (v, M2) := r2
    rw [if_pos h1, r1, bd2_s, if_pos h1, r2, bd2_s, hw]
    exact ⟨M2, fin_x e0 ej, nx⟩
  refine ite_c (P := gLw M z6) (fun _ => ?_) (fun _ => ?_)
  · obtain ⟨c, M1, v, M2, r1, r2, e0, ej, nx⟩ := K_stonesNeededThrough I hz (X (Int.toNat (v4 + 1))) (X (Int.toNat (wr (v4 + 2)))) (X (Int.toNat (wr (v4 + 3))))
    have r2 : fX14_stonesNeededThrough M1 (X (Int.toNat (v4 + 1))) (X (Int.toNat (wr (v4 + 2)))) (X (Int.toNat (wr (v4 + 3)))) = some (v, M2) := r2
    rw [if_pos h1, if_pos h2, if_pos h3, r1, bd2_s, if_pos h1, if_pos h2, if_pos h3, r2, bd2_s, hw]
    exact ⟨M2, fin_x e0 ej, nx⟩
  refine ite_c (P := gLw M z6) (fun _ => ?_) (fun _ => ?_)
  · obtain ⟨c, M1, v, M2, r1, r2, e0, ej, nx⟩ := K_isWinningCell I hz (X (Int.toNat (v4 + 1))) (X (Int.toNat (wr (v4 + 2)))) (X (Int.toNat (wr (v4 + 3))))
    have r2 : fX14_isWinningCell M1 (X (Int.toNat (v4 + 1))) (X (Int.toNat (wr (v4 + 2)))) (X (Int.toNat (wr (v4 + 3)))) = some (v, M2) := r2
    rw [if_pos h1, if_pos h2, if_pos h3, r1, bd2_s, if_pos h1, if_pos h2, if_pos h3, r2, bd2_s, hw]
    exact ⟨M2, fin_b e0 ej, nx⟩
  refine ite_c (P := gLw M z6) (fun _ => ?_) (fun _ => ?_)
  · obtain ⟨c, M1, v, M2, r1, r2, e0, ej, nx⟩ := K_winningCells I hz (X (Int.toNat (v4 + 1)))
    have r2 : fX14_winningCells M1 (X (Int.toNat (v4 + 1))) = some (v, M2) := r2
    rw [if_pos h1, r1, bd2_s, if_pos h1, r2, bd2_s, hw]
    exact ⟨M2, fin_x e0 ej, nx⟩
  refine ite_c (P := gLw M z6) (fun _ => ?_) (fun _ => ?_)
  · obtain ⟨c, M1, v, M2, r1, r2, e0, ej, nx⟩ := K_layStone I hz hch (X (Int.toNat (v4 + 1))) (X (Int.toNat (wr (v4 + 2))))
    have r2 : fX14_layStone M1 (X (Int.toNat (v4 + 1))) (X (Int.toNat (wr (v4 + 2)))) = some (v, M2) := r2
    rw [if_pos h1, if_pos h2, r1, bd2_s, if_pos h1, if_pos h2, r2, bd2_s, hw]
    exact ⟨M2, fin_x e0 ej, nx⟩
  refine ite_c (P := gLw M z6) (fun _ => ?_) (fun _ => ?_)
  · obtain ⟨c, M1, v, M2, r1, r2, e0, ej, nx⟩ := K_takeBack I hz hch 
    have r2 : fX14_takeBack M1  = some (v, M2) := r2
    rw [r1, bd2_s, r2, bd2_s, hw]
    exact ⟨M2, fin_x e0 ej, nx⟩
  refine ite_c (P := gLw M z6) (fun _ => ?_) (fun _ => ?_)
  · obtain ⟨c, M1, v, M2, r1, r2, e0, ej, nx⟩ := K_plannedCell I hz 
    have r2 : fX14_plannedCell M1  = some (v, M2) := r2
    rw [r1, bd2_s, r2, bd2_s, hw]
    exact ⟨M2, fin_x e0 ej, nx⟩
  refine ite_c (P := gLw M z6) (fun _ => ?_) (fun _ => ?_)
  · obtain ⟨c, M1, v, M2, r1, r2, e0, ej, nx⟩ := K_playByPlans I hz hch (X (Int.toNat (v4 + 1)))
    have r2 : fX14_playByPlans M1 (X (Int.toNat (v4 + 1))) = some (v, M2) := r2
    rw [if_pos h1, r1, bd2_s, if_pos h1, r2, bd2_s, hw]
    exact ⟨M2, fin_x e0 ej, nx⟩
  refine ite_c (P := gLw M z6) (fun _ => ?_) (fun _ => ?_)
  · obtain ⟨v, M1, M2, r1, r2, nx⟩ := K_stonesByPlans I hch
    rw [r1, bd2_s, r2, bd2_s, if_pos rfl, hw]
    exact ⟨M2, rfl, nx⟩
  refine ite_c (P := gLw M z6) (fun _ => ?_) (fun _ => ?_)
  · obtain ⟨v, M1, M2, r1, r2, nx⟩ := K_winnerByPlans I hch
    rw [r1, bd2_s, r2, bd2_s, if_pos rfl, hw]
    exact ⟨M2, rfl, nx⟩
  refine ite_c (P := gLw M z6) (fun _ => ?_) (fun _ => ?_)
  · obtain ⟨c, M1, v, M2, r1, r2, e0, ej, nx⟩ := K_mustPlay I hz 
    have r2 : fX14_mustPlay M1  = some (v, M2) := r2
    rw [r1, bd2_s, r2, bd2_s, hw]
    exact ⟨M2, fin_x e0 ej, nx⟩
  refine ite_c (P := gLw M z6) (fun _ => ?_) (fun _ => ?_)
  · obtain ⟨c, M1, v, M2, r1, r2, e0, ej, nx⟩ := K_bestCell I hz hch 
    have r2 : fX14_bestCell M1  = some (v, M2) := r2
    rw [r1, bd2_s, r2, bd2_s, hw]
    exact ⟨M2, fin_x e0 ej, nx⟩
  refine ite_c (P := gLw M z6) (fun _ => ?_) (fun _ => ?_)
  · obtain ⟨v, M1, M2, r1, r2, nx⟩ := K_meanGroup I
    rw [r1, bd2_s, r2, bd2_s, hw]
    refine ⟨M2, ?_, nx⟩
    by_cases y : idc v v .l = 0
    · rw [if_pos y]
    · rw [if_neg y, if_neg y, if_neg y]
  refine ite_c (P := gLw M z6) (fun _ => ?_) (fun _ => ?_)
  · obtain ⟨v, M1, M2, r1, r2, nx⟩ := K_digest I hz
    rw [r1, bd2_s, r2, bd2_s, if_pos (ilc_self v), hw]
    exact ⟨M2, rfl, nx⟩
  rw [hw]
  exact ⟨M, rfl, nx_mo I (Fr.refl _ _)⟩
theorem law_loop (hN : N ≤ 3072) (I : gIx M) (hz : mSz M = 94) (hs : mSl M ≤ 60000) (hc : 0 ≤ mI M 169 9 ∧ mI M 169 9 ≤ 10) : ∃ M1, lp (fun s => fL_law_b23 X N s.2 s.1) lpN (0, M) = some M1 ∧ mSz M1 ≤ 100000 ∧ mSl M1 ≤ 100000 := by
  refine lpn (N / 6) (by omega) (fun i s => s.1 = 6 * (i : Int) ∧ gIx s.2 ∧ (94 ≤ mSz s.2 ∧ mSz s.2 ≤ 94 + 2 * i) ∧ mSl s.2 ≤ 60000 + 20 * i ∧ 0 ≤ mI s.2 169 9 ∧ mI s.2 169 9 ≤ 10 + 400 * (i : Int)) _ _ ?_ ?_ ?_
  · refine ⟨rfl, I, ⟨by show 94 ≤ mSz M; omega, by show mSz M ≤ 94 + 2 * 0; omega⟩, by show mSl M ≤ 60000 + 20 * 0; omega, hc.1, by show mI M 169 9 ≤ 10 + 400 * ((0 : Nat) : Int); omega⟩
  · rintro i ⟨v, R⟩ hi ⟨hv, IR, ⟨z0', z1⟩, s1, c0, c1⟩
    have hv : v = 6 * (i : Int) := hv
    subst hv
    have IR : gIx R := IR
    have z0' : 94 ≤ mSz R := z0'
    have z1 : mSz R ≤ 94 + 2 * i := z1
    have s1 : mSl R ≤ 60000 + 20 * i := s1
    have c0 : 0 ≤ mI R 169 9 := c0
    have c1 : mI R 169 9 ≤ 10 + 400 * (i : Int) := c1
    have w2 : wr (6 * (i : Int) + 2) = 6 * (i : Int) + 2 := wr_eq (by omega) (by omega)
    have w3 : wr (6 * (i : Int) + 3) = 6 * (i : Int) + 3 := wr_eq (by omega) (by omega)
    have w4 : wr (6 * (i : Int) + 4) = 6 * (i : Int) + 4 := wr_eq (by omega) (by omega)
    have w5 : wr (6 * (i : Int) + 5) = 6 * (i : Int) + 5 := wr_eq (by omega) (by omega)
    have w6 : wr (6 * (i : Int) + 6) = 6 * ((i + 1 : Nat) : Int) := by rw [wr_eq (by omega) (by omega)]; omega
    obtain ⟨M2, r, nx⟩ := law_step (X := X) (N := N) IR z0' ⟨c0, by omega⟩ (v4 := 6 * (i : Int)) (by omega) ⟨by omega, by omega⟩ ⟨by omega, by omega⟩ (by rw [w2]; omega) (by rw [w3]; omega) (by rw [w4]; omega) (by rw [w5]; omega) w6
    obtain ⟨n1, n2, n3, n4, n5, n6⟩ := nx
    right
    exact ⟨_, r, rfl, n1, ⟨by show 94 ≤ mSz M2; omega, by show mSz M2 ≤ 94 + 2 * (i + 1); omega⟩, by show mSl M2 ≤ 60000 + 20 * (i + 1); omega, by show 0 ≤ mI M2 169 9; omega, by show mI M2 169 9 ≤ 10 + 400 * ((i + 1 : Nat) : Int); omega⟩
  · rintro ⟨v, R⟩ ⟨hv, IR, ⟨z0', z1⟩, s1, c0, c1⟩
    have hv : v = 6 * ((N / 6 : Nat) : Int) := hv
    subst hv
    have z1 : mSz R ≤ 94 + 2 * (N / 6) := z1
    have s1 : mSl R ≤ 60000 + 20 * (N / 6) := s1
    refine ⟨R, ?_, by omega, by omega⟩
    show fL_law_b23 X N R (6 * ((N / 6 : Nat) : Int)) = _
    unfold fL_law_b23
    rw [if_pos (by omega)]
end LWL
