/-! part C: the calls, one by one: what plans would do -/
section CL6
variable {M M1 M2 N A A3 B B' B0 : ax_M} {q q' : Nat} {w h : Int} {o o' : Int → Int} {k T e : Int} {b : Int → Int} {p x y c v u kp n : Int}
theorem Pd_inj {o1 o2 : Int → Int} (P1 : Pd A w h o1) (P2 : Pd A w h o2) : o1 = o2 := by
  have hk := gOk_le P1.k
  funext c
  by_cases z : 0 ≤ c ∧ c < 81
  · rw [← P1.2.2.1 c z.1 z.2, ← P2.2.2.1 c z.1 z.2]
  · rw [P1.2.1.1 c (by omega), P2.2.1.1 c (by omega)]
theorem K_playByPlans (I : gI M q q' w h o k b T e) (hz : 94 ≤ mSz M) (hch : 0 ≤ mI M 169 9 ∧ mI M 169 9 < 1000000000) (n : Int) : gCx M (fL_playByPlans M n) (fun M1 => fX14_playByPlans M1 n) il := by
  by_cases hn : 1 ≤ n ∧ n ≤ 81
  · have hq : q = 157 ∨ q = 194 := by have := I.1.1; omega
    obtain ⟨v, A, B1, rA, _, hy0, v0, v1⟩ := L_play I hch (Fx.refl (sBB q) M) (n := n) (kp := 1) (by omega) (by omega) (Or.inr rfl)
    obtain ⟨o1, HA1, _⟩ := hy0
    obtain ⟨M1, e1⟩ : ∃ M1, M1 = mUJ A 243 0 (il v) := ⟨_, rfl⟩
    have F01 : Fx (fun _ _ => False) A M1 := by rw [e1]; exact (Fx.refl _ A).uj 243 0 _
    have fA : Fr sPy M A := HA1.1.2.2.2
    have FB : Fx (sBB q) M (mUI M1 203 0 0) := by
      have a1 : Fx (sBB q) M A := fA.x.mono (fun k j hk z => by unfold sPy at z; unfold sBB; omega)
      have a2 : Fx (sBB q) A M1 := F01.mono (fun _ _ _ z => z.elim)
      exact (a1.trans a2).up (by unfold sBB; omega)
    obtain ⟨v2, A2, B, rA2, rB, hy, _, _⟩ := L_play I hch FB (n := n) (kp := 1) (by omega) (by omega) (Or.inr rfl)
    rw [rA] at rA2
    cases rA2
    obtain ⟨o', HA, ⟨HM, HF⟩, _, HK⟩ := hy
    obtain ⟨g17, g234⟩ := HK (by decide)
    obtain ⟨i1, i2, i3, i4, i5, i6, ⟨k0, k8, k17, kc, kl, kd⟩, ⟨i8, i9⟩, i10, i11⟩ := I
    obtain ⟨⟨a1, a2, a3, a4⟩, ⟨b1, b2, b3⟩, d1, d2, d3, d4⟩ := HA
    have sz2 : B.2 = M1.2 := HF.1
    have FAB : Fx (fun k _ => 203 ≤ k) A B := by
      have x1 : Fx (fun k _ => 203 ≤ k) A M1 := F01.mono (fun _ _ _ z => z.elim)
      have x2 : Fx (fun k _ => 203 ≤ k) M1 (mUI M1 203 0 0) := (Fx.refl _ M1).up (by omega)
      have x3 : Fx (fun k _ => 203 ≤ k) (mUI M1 203 0 0) B := HF.x.mono (fun k j _ z => by unfold sPz at z; omega)
      exact (x1.trans x2).trans x3
    have FX : Fx (fun k j => sPy k j ∨ sPz k j ∨ (k = 203 ∧ j = 0)) M B := by
      have x0 : Fx (fun k j => sPy k j ∨ sPz k j ∨ (k = 203 ∧ j = 0)) M A := fA.x.mono (fun k j _ z => Or.inl z)
      have x1 : Fx (fun k j => sPy k j ∨ sPz k j ∨ (k = 203 ∧ j = 0)) A M1 := F01.mono (fun _ _ _ z => z.elim)
      have x2 : Fx (fun k j => sPy k j ∨ sPz k j ∨ (k = 203 ∧ j = 0)) M1 (mUI M1 203 0 0) := (Fx.refl _ M1).up (Or.inr (Or.inr ⟨rfl, rfl⟩))
      have x3 : Fx (fun k j => sPy k j ∨ sPz k j ∨ (k = 203 ∧ j = 0)) (mUI M1 203 0 0) B := HF.x.mono (fun k j _ z => Or.inr (Or.inl z))
      exact ((x0.trans x1).trans x2).trans x3
    have l5 : ∀ j, mI B 175 j = mI A 175 j := fun j => (FAB 175 j (by omega) (by omega)).1
    have n9 : mI B 169 9 = mI A 169 9 := (FAB 169 9 (by omega) (by omega)).1
    have old : ∀ j : Int, 0 ≤ j → j < k → ∀ i : Int, k ≤ i → i < k + v → mI A 175 i.toNat ≠ mI A 175 j.toNat := fun j j0 j1 i i0 i1 z => by
      have y1 := (d2 i i0 i1).2.2.1
      rw [z, d1 j j0 j1] at y1
      exact (kl j j0 j1).2.2.2 y1
    have IB : gI B q q' w h o' (k + v) b T e := by
      refine ⟨i1.x FX (fun k j z => by unfold sPy sPz; omega), a1.x FAB (fun k j z => by omega), HM, a2.x FAB (fun k j z => by omega), a3.x FAB (fun k j z => by omega), (i6.x FX (fun k j z => by unfold sPy sPz; omega)).1, ⟨by omega, ?_, g17, b3, fun j j0 j1 => ?_, fun i j i0 ij j1 => ?_⟩, ⟨i8.x FX (fun k j z => by unfold sPy sPz; omega), i9.x FX (fun k j z => by unfold sPy sPz; omega)⟩, ?_, ?_⟩
      · rw [(FAB 169 8 (by omega) (by omega)).1]; exact b1
      · rw [g234 j j0 j1, l5]
        by_cases jk : j < k
        · obtain ⟨y1, y2, y3, y4⟩ := kl j j0 jk
          rw [d1 j j0 jk]
          refine ⟨rfl, y2, y3, ?_⟩
          rw [d3 _ (fun i i0 i1 => by rw [← d1 j j0 jk]; exact old j j0 jk i i0 i1)]
          exact y4
        · obtain ⟨y1, y2, y3, y4⟩ := d2 j (by omega) j1
          exact ⟨rfl, y1, y2, y4⟩
      · rw [l5, l5]
        by_cases jk : j < k
        · rw [d1 i i0 (by omega), d1 j (by omega) jk]
          exact kd i j i0 ij jk
        · by_cases ik : i < k
          · exact fun z => old i i0 ik j (by omega) j1 z.symm
          · exact d4 i j (by omega) ij j1
      · rw [(FX 150 11 (by omega) (by unfold sPy sPz; omega)).1]; exact i10
      · rw [(FX 203 3 (by omega) (by unfold sPy sPz; omega)).1]; exact i11
    have zs : B.2.2.2 = M.2.2.2 := by
      rw [sz2, e1]
      show A.2.2.2 = M.2.2.2
      rw [fA.1]
    refine ⟨0, M1, v, B, ?_, ?_, ?_, fun _ => ?_, ⟨q, q', w, h, _, _, b, T, e, IB⟩, ?_, ?_, ?_, by omega, by omega⟩
    · unfold fL_playByPlans fX12_playByPlans
      rw [if_neg (by omega), if_neg (by omega), rA, bd2_s, bdC_l, e1]
    · show fX14_playByPlans M1 n = _
      unfold fX14_playByPlans
      rw [Q_in, if_pos hn, if_neg (by decide), rB, bd2_s]
    · rw [HF.2 203 0 (by unfold sPz; omega)]
      exact z0 M1
    · show B.2.2.1 243 0 = _
      rw [sz2, e1]
      show ax_up (mJ A) 243 0 (il v) 243 0 = _
      exact ax_up_s
    · show M.2.2.2.1 ≤ B.2.2.2.1; rw [zs]; exact Nat.le_refl _
    · show B.2.2.2.1 ≤ M.2.2.2.1 + 2; rw [zs]; omega
    · show B.2.2.2.2.1 ≤ M.2.2.2.2.1 + 20; rw [zs]; omega
  · refine K_no I hz rfl (nn9 M) (c := 1) (t := 14) ?_ (by decide) (fun M1 I1 => ⟨0, _, ?_, (no_z M1 1).1, (no_z M1 1).2⟩)
    · unfold fL_playByPlans fX12_playByPlans
      by_cases n1 : n < 1
      · rw [if_pos n1, bdC_r, if_pos rfl]
      · rw [if_neg n1, if_pos (by omega), bdC_r, if_pos rfl]
    · show fX14_playByPlans M1 n = _
      unfold fX14_playByPlans
      rw [Q_in, if_neg hn, if_pos rfl, Q_no1]
/-- what was kept is brought back -/
theorem gI.back (I : gI M q q' w h o k b T e) (HA : gPa M w h o o k 0 u A3) (eB0 : B0 = mCp (mUI A3 203 0 0) 233 235 81) (F : Fr sPz B0 B') (h17 : mI B' 203 17 = mI B0 203 17) (h234 : ∀ j, mI B' 234 j = mI B0 234 j) : gI (mCp B' 235 233 81) q q' w h o k b T e ∧ mI (mCp B' 235 233 81) 169 9 = mI M 169 9 + u ∧ (mCp B' 235 233 81).2 = M.2 := by
  have hq : q = 157 ∨ q = 194 := by have := I.1.1; omega
  obtain ⟨i1, i2, i3, i4, i5, i6, ⟨k0, k8, k17, kc, kl, kd⟩, ⟨i8, i9⟩, i10, i11⟩ := I
  obtain ⟨⟨a1, a2, a3, a4⟩, ⟨b1, b2, b3⟩, d1, d2, d3, d4⟩ := HA
  obtain ⟨M2, e2⟩ : ∃ M2, M2 = mCp B' 235 233 81 := ⟨_, rfl⟩
  have f0 : Fr (fun k j => (k = 203 ∧ j = 0) ∨ k = 235) A3 B0 := by
    rw [eB0]
    have x1 : Fr (fun k j => (k = 203 ∧ j = 0) ∨ k = 235) A3 (mUI A3 203 0 0) := (Fr.refl _ _).up (by omega)
    exact x1.cp (fun j => Or.inr rfl)
  have f2 : Fr (fun k _ => k = 233) B' M2 := by
    rw [e2]
    exact (Fr.refl _ _).cp (fun j => rfl)
  have FA : Fx (fun k _ => 203 ≤ k) A3 M2 := by
    have x1 : Fx (fun k _ => 203 ≤ k) A3 B0 := f0.x.mono (fun k j _ z => by omega)
    have x2 : Fx (fun k _ => 203 ≤ k) B0 B' := F.x.mono (fun k j _ z => by unfold sPz at z; omega)
    have x3 : Fx (fun k _ => 203 ≤ k) B' M2 := f2.x.mono (fun k j _ z => by omega)
    exact (x1.trans x2).trans x3
  have FX : Fx (fun k j => sPy k j ∨ sPz k j ∨ (k = 203 ∧ j = 0) ∨ k = 235) M M2 := by
    have x0 : Fx (fun k j => sPy k j ∨ sPz k j ∨ (k = 203 ∧ j = 0) ∨ k = 235) M A3 := a4.x.mono (fun k j _ z => Or.inl z)
    have x1 : Fx (fun k j => sPy k j ∨ sPz k j ∨ (k = 203 ∧ j = 0) ∨ k = 235) A3 B0 := f0.x.mono (fun k j _ z => Or.inr (Or.inr z))
    have x2 : Fx (fun k j => sPy k j ∨ sPz k j ∨ (k = 203 ∧ j = 0) ∨ k = 235) B0 B' := F.x.mono (fun k j _ z => Or.inr (Or.inl z))
    have x3 : Fx (fun k j => sPy k j ∨ sPz k j ∨ (k = 203 ∧ j = 0) ∨ k = 235) B' M2 := f2.x.mono (fun k j _ z => by unfold sPz; omega)
    exact ((x0.trans x1).trans x2).trans x3
  have b00 : ∀ k j, ¬ (k = 203 ∧ j = 0) → k ≠ 235 → mI B0 k j = mI A3 k j := fun k j z y => f0.2 k j (by omega)
  have m2 : ∀ k j, k ≠ 233 → mI M2 k j = mI B' k j := fun k j z => f2.2 k j z
  have a34 : ∀ k j, 203 ≤ k → mI A3 k j = mI M k j := fun k j z => a4.2 k j (by unfold sPy; omega)
  have g175 : ∀ j : Int, 0 ≤ j → j < k → mI M2 175 j.toNat = mI M 175 j.toNat := fun j j0 j1 => by rw [(FA 175 _ (by omega) (by omega)).1]; exact d1 j j0 j1
  rw [← e2]
  refine ⟨⟨i1.x FX (fun k j z => by unfold sPy sPz; omega), a1.x FA (fun k j z => by omega), ⟨i3.1, i3.2.1, ?_, ?_, fun j j0 j1 => ?_⟩, a2.x FA (fun k j z => by omega), a3.x FA (fun k j z => by omega), (i6.x FX (fun k j z => by unfold sPy sPz; omega)).1, ⟨k0, ?_, ?_, kc, fun j j0 j1 => ?_, fun i j i0 ij j1 => ?_⟩, ⟨i8.x FX (fun k j z => by unfold sPy sPz; omega), i9.x FX (fun k j z => by unfold sPy sPz; omega)⟩, ?_, ?_⟩, ?_, ?_⟩
  · rw [(FX 208 0 (by omega) (by unfold sPy sPz; omega)).1]; exact i3.2.2.1
  · rw [(FX 208 1 (by omega) (by unfold sPy sPz; omega)).1]; exact i3.2.2.2.1
  · rw [e2, mI_C, if_pos ⟨rfl, by omega⟩, F.2 235 _ (by unfold sPz; omega), eB0, mI_C, if_pos ⟨rfl, by omega⟩, mI_Un (by omega), a34 233 _ (by omega)]
    exact i3.2.2.2.2 j j0 j1
  · rw [(FA 169 8 (by omega) (by omega)).1]; omega
  · rw [m2 203 17 (by omega), h17, b00 203 17 (by omega) (by omega), a34 203 17 (by omega)]; exact k17
  · rw [m2 234 _ (by omega), h234, b00 234 _ (by omega) (by omega), a34 234 _ (by omega), g175 j j0 j1]
    exact kl j j0 j1
  · rw [g175 i i0 (by omega), g175 j (by omega) j1]
    exact kd i j i0 ij j1
  · rw [(FX 150 11 (by omega) (by unfold sPy sPz; omega)).1]; exact i10
  · rw [(FX 203 3 (by omega) (by unfold sPy sPz; omega)).1]; exact i11
  · rw [(FA 169 9 (by omega) (by omega)).1]; exact b2
  · rw [f2.1, F.1, f0.1, a4.1]
theorem nx_eq (I : gI M2 q q' w h o k b T e) (hz : M2.2 = M.2) (h9 : mI M2 169 9 = mI M 169 9 + u) (u0 : 0 ≤ u) (u1 : u ≤ 400) : gNx M M2 := by
  refine ⟨⟨q, q', w, h, o, k, b, T, e, I⟩, ?_, ?_, ?_, by omega, by omega⟩
  · show M.2.2.2.1 ≤ M2.2.2.2.1; rw [hz]; exact Nat.le_refl _
  · show M2.2.2.2.1 ≤ M.2.2.2.1 + 2; rw [hz]; omega
  · show M2.2.2.2.2.1 ≤ M.2.2.2.2.1 + 20; rw [hz]; omega
theorem K_stonesByPlans (I : gI M q q' w h o k b T e) (hch : 0 ≤ mI M 169 9 ∧ mI M 169 9 < 1000000000) : gCy M (fX12_stonesByPlans M) fX14_stonesByPlans := by
  have k0 := I.2.2.2.2.2.2.1.1
  obtain ⟨v, A, B1, rA, _, hy0, v0, v1⟩ := L_play I hch (Fx.refl (sBB q) M) (n := 81) (kp := 0) (by omega) (by omega) (Or.inl rfl)
  obtain ⟨o1, HA1, _⟩ := hy0
  obtain ⟨A3, rL, HA3⟩ := C_liftN HA1 k0 v0 v1 v0 v1 hch
  obtain ⟨B0, eB0⟩ : ∃ B0, B0 = mCp (mUI A3 203 0 0) 233 235 81 := ⟨_, rfl⟩
  have hq : q = 157 ∨ q = 194 := by have := I.1.1; omega
  have FB : Fx (sBB q) M B0 := by
    have a1 : Fx (sBB q) M A3 := HA3.1.2.2.2.x.mono (fun k j hk z => by unfold sPy at z; unfold sBB; omega)
    have a2 : Fx (sBB q) A3 (mUI A3 203 0 0) := (Fx.refl _ A3).up (by unfold sBB; omega)
    have a3 : Fx (sBB q) (mUI A3 203 0 0) B0 := by
      rw [eB0]
      exact ((Fr.refl (fun k _ => k = 235) (mUI A3 203 0 0)).cp (a0 := 233) (a := 235) (n := 81) (fun j => rfl)).x.mono (fun k j _ z => by unfold sBB; omega)
    exact (a1.trans a2).trans a3
  obtain ⟨v2, A2, B, rA2, rB, hy, _, _⟩ := L_play I hch FB (n := 81) (kp := 0) (by omega) (by omega) (Or.inl rfl)
  rw [rA] at rA2
  cases rA2
  obtain ⟨o', HA, ⟨HM, HF⟩, HK, _⟩ := hy
  obtain ⟨g17, g234⟩ := HK rfl
  obtain ⟨I2, n9, z2⟩ := I.back HA3 eB0 HF g17 g234
  refine ⟨v, A3, mCp B 235 233 81, ?_, ?_, nx_eq I2 z2 n9 (by omega) (by omega)⟩
  · unfold fX12_stonesByPlans
    rw [rA, bd2_s, rL, bd1_s]
  · unfold fX14_stonesByPlans fX14_keep fX14_bringBack
    rw [bd1_s, ← eB0, rB, bd2_s, bd1_s]
theorem K_winnerByPlans (I : gI M q q' w h o k b T e) (hch : 0 ≤ mI M 169 9 ∧ mI M 169 9 < 1000000000) : gCy M (fX12_winnerByPlans M) fX14_winnerByPlans := by
  have k0 := I.2.2.2.2.2.2.1.1
  obtain ⟨v, A, B1, rA, _, hy0, v0, v1⟩ := L_play I hch (Fx.refl (sBB q) M) (n := 81) (kp := 0) (by omega) (by omega) (Or.inl rfl)
  obtain ⟨o1, HA1, _⟩ := hy0
  obtain ⟨N, rw1, W1, f1, A1⟩ := C_winner HA1.1.1 HA1.1.2.1
  have HN : gPa M w h o o1 k v v N := HA1.fr f1 (fun k j z => by unfold sU at z; omega) W1 (gBr_fr HA1.1.2.2.1 f1 (fun k j z => by unfold sU; omega))
  obtain ⟨A3, rL, HA3⟩ := C_liftN HN k0 v0 v1 v0 v1 hch
  obtain ⟨B0, eB0⟩ : ∃ B0, B0 = mCp (mUI A3 203 0 0) 233 235 81 := ⟨_, rfl⟩
  have hq : q = 157 ∨ q = 194 := by have := I.1.1; omega
  have FB : Fx (sBB q) M B0 := by
    have a1 : Fx (sBB q) M A3 := HA3.1.2.2.2.x.mono (fun k j hk z => by unfold sPy at z; unfold sBB; omega)
    have a2 : Fx (sBB q) A3 (mUI A3 203 0 0) := (Fx.refl _ A3).up (by unfold sBB; omega)
    have a3 : Fx (sBB q) (mUI A3 203 0 0) B0 := by
      rw [eB0]
      exact ((Fr.refl (fun k _ => k = 235) (mUI A3 203 0 0)).cp (a0 := 233) (a := 235) (n := 81) (fun j => rfl)).x.mono (fun k j _ z => by unfold sBB; omega)
    exact (a1.trans a2).trans a3
  obtain ⟨v2, A2, B, rA2, rB, hy, _, _⟩ := L_play I hch FB (n := 81) (kp := 0) (by omega) (by omega) (Or.inl rfl)
  rw [rA] at rA2
  cases rA2
  obtain ⟨o', HA, ⟨HM, HF⟩, HK, _⟩ := hy
  obtain ⟨g17, g234⟩ := HK rfl
  have eo : o1 = o' := Pd_inj HA1.1.1 HA.1.1
  subst eo
  have sVz : ∀ k j, sV k j → sPz k j := fun k j z => by unfold sV at z; unfold sPz; omega
  obtain ⟨B2, r2, f2⟩ := Q_won HM (p := 0) (by omega)
  have HM2 := HM.fr f2 sV_pond
  obtain ⟨B3, r3, f3⟩ := Q_won HM2 (p := 1) (by omega)
  have b2 := I.back HA3 eB0 (HF.trans (f2.mono sVz)) (by rw [f2.2 203 17 (by unfold sV; omega)]; exact g17) (fun j => by rw [f2.2 234 j (by unfold sV; omega)]; exact g234 j)
  have b3 := I.back HA3 eB0 ((HF.trans (f2.mono sVz)).trans (f3.mono sVz)) (by rw [f3.2 203 17 (by unfold sV; omega), f2.2 203 17 (by unfold sV; omega)]; exact g17) (fun j => by rw [f3.2 234 j (by unfold sV; omega), f2.2 234 j (by unfold sV; omega)]; exact g234 j)
  have cl : fX12_winnerByPlans M = some (gwr w h o1, A3) := by
    unfold fX12_winnerByPlans
    rw [rA, bd2_s, rw1, bd2_s, rL, bd1_s]
  have ml : fX14_winnerByPlans A3 = (if gat (gwon w h o1 0) = 0 then (if gat (gwon w h o1 1) = 0 then some (-1, mCp B3 235 233 81) else some (1, mCp B3 235 233 81)) else some (0, mCp B2 235 233 81)) := by
    unfold fX14_winnerByPlans fX14_keep fX14_bringBack
    rw [bd1_s, ← eB0, rB, bd2_s, r2, bd2_s, r3, bd2_s]
    rfl
  rcases gwr_is HA1.1.1.k HA1.1.1.2.1 with ⟨ew, a, c⟩ | ⟨ew, a, c⟩ | ⟨ew, a, c⟩
  · rw [gat_t a, if_neg (by decide)] at ml
    rw [ew] at cl
    exact ⟨0, A3, _, cl, ml, nx_eq b2.1 b2.2.2 b2.2.1 (by omega) (by omega)⟩
  · rw [gat_f a, if_pos rfl, gat_t c, if_neg (by decide)] at ml
    rw [ew] at cl
    exact ⟨1, A3, _, cl, ml, nx_eq b3.1 b3.2.2 b3.2.1 (by omega) (by omega)⟩
  · rw [gat_f a, if_pos rfl, gat_f c, if_pos rfl] at ml
    rw [ew] at cl
    exact ⟨-1, A3, _, cl, ml, nx_eq b3.1 b3.2.2 b3.2.1 (by omega) (by omega)⟩
end CL6
