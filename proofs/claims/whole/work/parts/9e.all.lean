/-! part C: every script comes to its end -/
section ALL
set_option maxRecDepth 20000 in
theorem law_all (X : Nat → Int) {N : Nat} (hN : N ≤ 3072) : ∃ M1, fL_law X N ax_M0 = some (1, M1) ∧ mSz M1 ≤ 100000 ∧ mSl M1 ≤ 100000 := by
  have hz9 : mI kzQ 169 9 = 0 := fz_zQ 169 9
  obtain ⟨B, rB, PB, fB, g8, g9⟩ := C_begin (M := kzQ) (w := 7) (h := 7) ⟨by omega, by omega, by omega, by omega⟩ (by omega)
  rw [hz9] at g9
  have h2 : B.2 = kzQ.2 := fB.1
  have bz : ∀ k j, ¬ sPb k j → mI B k j = 0 := fun k j z => (fB.2 k j z).trans (fz_zQ k j)
  obtain ⟨r12, hC⟩ := init_12 rB h2
  obtain ⟨C, eC⟩ : ∃ C, C = ky12 B := ⟨_, rfl⟩
  rw [← eC] at r12 hC
  obtain ⟨D, r14, hD, fD, ⟨d0, d1, d3⟩, d233⟩ := init_14 hC (by decide +kernel) (by decide +kernel) (by decide +kernel) (by decide +kernel)
  obtain ⟨F, eF⟩ : ∃ F, F = mAl D 35 1 1 := ⟨_, rfl⟩
  have hF : F.2 = sAl (sx14 (sy12 kzQ.2)) 35 1 1 := by rw [eF, ← hD]; rfl
  have szB : mSz B = 26 := by rw [S_sz h2]; decide +kernel
  have szy1 : mSz (ky1 B) = 33 := by rw [S_sz (show (ky1 B).2 = sy1 kzQ.2 by rw [← h2]; rfl)]; decide +kernel
  have szy11 : mSz (ky11 B) = 42 := by rw [S_sz (show (ky11 B).2 = sy11 kzQ.2 by rw [← h2]; rfl)]; decide +kernel
  have szy2 : mSz (ky2 B) = 44 := by rw [S_sz (show (ky2 B).2 = sy2 kzQ.2 by rw [← h2]; rfl)]; decide +kernel
  have szC : mSz C = 53 := by rw [S_sz hC]; decide +kernel
  have szD : mSz D = 93 := by rw [S_sz hD]; decide +kernel
  have szF : mSz F = 94 := by rw [S_sz hF]; decide +kernel
  have slF : mSl F ≤ 60000 := by rw [S_sl hF]; decide +kernel
  have frz : ax_frz F 150 244 = true := by rw [S_frz hF]; decide +kernel
  have R9 : mR F 150 9 = some 194 := by rw [S_mR hF]; decide +kernel
  have R10 : mR F 150 10 = some 157 := by rw [S_mR hF]; decide +kernel
  have gF : ∀ k j, k < 243 → mI F k j = mI D k j := fun k j hk => by rw [eF]; exact if_neg (by show ¬ k = 150 + mSz D; omega)
  have gX : ∀ k j, k < 203 → mI D k j = mI C k j := fun k j hk => by
    have p : Fi 53 (fun _ _ => False) C (kx14 C) := fi_x14 (fi_e13a ((Fi.self (by omega)).al 12 27 27) (Or.inr (by omega))) (Or.inr (by omega)) (Or.inr (by omega)) (Or.inr (by omega)) (Or.inr (by omega))
    rw [fD.2 k j (by omega)]
    exact p.2 k j (by omega) (fun z => z)
  have gC : ∀ k j, k < 176 → ¬ (k = 150 ∧ j = 11) → mI C k j = mI B k j := fun k j hk z => by
    have p : Fi 26 (fun k j => k = 150 ∧ j = 11) B (ky12 B) := fi_y1 (fi_j1 (((fi_j4 (((Fi.self (by omega)).ur 150 4 _).al 3 6 6)).ur 150 5 _).al 0 5 5) (Or.inr (by omega))) (Or.inl ⟨rfl, rfl⟩) (by omega)
    rw [eC]
    exact p.2 k j (by omega) z
  have a150 : mI C 150 11 = -1 := by rw [eC]; exact mI_Us _ _ _ _
  have a179 : mI C 179 4 = -1 := by
    have p : Fi 33 (fun k j => k = 150 ∧ j = 11) (ky1 B) (ky12 B) := fi_y1 (Fi.self (by omega)) (Or.inl ⟨rfl, rfl⟩) (by omega)
    rw [eC, p.2 179 4 (by omega) (by omega)]
    show ax_up (mI (mUR (mAl (mUR (mAl (mUR (mAl (ky1' B) 32 2 2) 179 1 (some 180)) 32 2 2) 179 2 (some 181)) 32 2 2) 179 3 (some 182))) 179 4 (-1) 179 4 = -1
    exact ax_up_s
  have a189 : ∀ j, j < 4 → mI C 189 j = -1 := fun j hj => by
    have p : Fi 42 (fun k j => k = 150 ∧ j = 11) (ky11 B) (ky12 B) := fi_y7 (Fi.self (by omega)) (Or.inl ⟨rfl, rfl⟩)
    rw [eC, p.2 189 j (by omega) (by omega)]
    exact if_pos ⟨rfl, hj⟩
  have a194 : mI C 194 9 = 0 := by
    have s7 : mSz (ky7' B) = 45 := by show mSz (ky2 B) + 1 = 45; omega
    have p : Fi 45 (fun k j => k = 150 ∧ j = 11) (ky7' B) (ky12 B) := ((fi_j7b (Fi.self (by omega))).ur 150 9 _).ui 150 11 (-1) (Or.inl ⟨rfl, rfl⟩)
    rw [eC, p.2 194 9 (by omega) (by omega)]
    exact al_new _ 5 10 10 (by show 194 = 150 + mSz (ky2 B); omega) 9
  have s0 : mSz (kx0 C) = 54 := by show mSz C + 1 = 54; omega
  have b203 : ∀ j, j ≠ 3 → mI D 203 j = 0 := fun j hj => by
    have p : Fi 54 (fun k j => (k = 203 ∧ j = 3) ∨ k = 208 ∨ k = 220) (kx0 C) (kx14 C) := fi_x14 (fi_e13a (Fi.self (by omega)) (Or.inl (Or.inl ⟨rfl, rfl⟩))) (Or.inl (Or.inr (Or.inl rfl))) (Or.inl (Or.inr (Or.inl rfl))) (Or.inl (Or.inr (Or.inr rfl))) (Or.inl (Or.inr (Or.inr rfl)))
    rw [fD.2 203 j (by omega), p.2 203 j (by omega) (by omega)]
    exact al_new _ 12 27 27 (by omega) j
  have b203' : mI D 203 3 = -1 := by
    obtain ⟨W, eW⟩ : ∃ W, W = mUI (mUR (mAl (kx0 C) 32 2000 2000) 203 1 (some 204)) 203 3 (-1) := ⟨_, rfl⟩
    have sW : mSz W = 55 := by rw [eW]; show mSz C + 1 + 1 = 55; omega
    have pe : Fi 55 (fun k j => k = 208 ∨ k = 220) W (ke13a (kx0 C)) := by
      show Fi 55 _ W (mAl (mUR (mAl (mUR (mAl (mUR (mAl (mUI (mUR (mAl (kx0 C) 32 2000 2000) 203 1 (some 204)) 203 3 (-1)) 32 402 402) 203 4 (some 205)) 32 402 402) 203 5 (some 206)) 32 402 402) 203 6 (some 207)) 11 15 15)
      rw [← eW]
      exact (((((((Fi.self (by omega)).al 32 402 402).ur 203 4 _).al 32 402 402).ur 203 5 _).al 32 402 402).ur 203 6 _).al 11 15 15
    have p : Fi 55 (fun k j => k = 208 ∨ k = 220) W (kx14 C) := fi_x14 pe (Or.inl (Or.inl rfl)) (Or.inl (Or.inl rfl)) (Or.inl (Or.inr rfl)) (Or.inl (Or.inr rfl))
    rw [fD.2 203 3 (by omega), p.2 203 3 (by omega) (by omega), eW]
    exact mI_Us _ _ _ _
  have cB : ∀ k j, 151 ≤ k → k < 176 → mI F k j = mI B k j := fun k j k0 k1 => by rw [gF k j (by omega), gX k j (by omega), gC k j (by omega) (by omega)]
  have PF : Pd F 7 7 (fun _ => 0) := by
    have f : Fr (fun k _ => k < 151 ∨ 176 ≤ k) B (F.1, B.2) := ⟨rfl, fun k j z => cB k j (by omega) (by omega)⟩
    have r : Pd (F.1, B.2) 7 7 (fun _ => 0) := PB.fr f (fun k j z => by omega)
    exact r
  have f9 : mI F 169 9 = 1 := by rw [cB 169 9 (by omega) (by omega)]; exact g9
  have f208 : mI F 208 3 = 0 := by rw [gF 208 3 (by omega)]; exact d3
  have I : gI F 194 157 7 7 (fun _ => 0) 0 (fun _ => -1) 0 (-1) := by
    refine ⟨⟨Or.inr ⟨rfl, rfl⟩, R9, R10⟩, PF, ⟨PF.k, PF.2.1, ?_, ?_, fun j j0 kj1 => ?_⟩, fun p s hp hs => ?_, ⟨?_, fun z => ?_⟩, ⟨Or.inr rfl, ?_, by omega, by omega, fun i i0 i1 => by omega⟩, ⟨Int.le_refl _, ?_, ?_, (gcn_b _ 81).1, fun j j0 kj1 => by omega, fun i j i0 ij kj1 => by omega⟩, ⟨gTA_0 ?_, gTB_0 ?_⟩, ?_, ?_⟩
    · rw [gF 208 0 (by omega)]; exact d0
    · rw [gF 208 1 (by omega)]; exact d1
    · rw [gF 233 _ (by omega), d233 j j0 kj1]; rfl
    · have e189 : mI F 189 (p * 2 + s).toNat = -1 := by rw [gF 189 _ (by omega), gX 189 _ (by omega)]; exact a189 _ (by omega)
      rw [e189, f9]
      exact ⟨by decide, fun z => absurd z (by decide)⟩
    · rw [gF 179 4 (by omega), gX 179 4 (by omega), a179, f9]; decide
    · rw [gF 179 4 (by omega), gX 179 4 (by omega), a179, f9] at z
      exact absurd z (by decide)
    · rw [gF 194 9 (by omega), gX 194 9 (by omega), a194, f208]
    · rw [cB 169 8 (by omega) (by omega)]; exact g8
    · rw [gF 203 17 (by omega)]; exact b203 17 (by omega)
    · rw [cB 151 1 (by omega) (by omega)]; exact bz 151 1 (by unfold sPb; omega)
    · rw [gF 203 2 (by omega)]; exact b203 2 (by omega)
    · rw [gF 150 11 (by omega), gX 150 11 (by omega)]; exact a150
    · rw [gF 203 3 (by omega)]; exact b203'
  obtain ⟨M1, r, m1, m2⟩ := law_loop (X := X) hN ⟨_, _, _, _, _, _, _, _, _, I⟩ szF slF ⟨by omega, by omega⟩
  refine ⟨M1, ?_, m1, m2⟩
  unfold fL_law
  rw [r12, bd1_s, if_pos szC, r14, bd1_s, if_pos szD, ← eF, if_pos frz, r, bd1_s]
end ALL
