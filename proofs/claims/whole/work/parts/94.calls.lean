/-! part C: the calls, one by one: the tape, what only reads -/
def gCy {α : Type} (M : ax_M) (F : Option (α × ax_M)) (G : ax_M → Option (α × ax_M)) : Prop := ∃ v M1 M2, F = some (v, M1) ∧ G M1 = some (v, M2) ∧ gNx M M2
def gCz (M : ax_M) (v : Int) (G : Option (Int × ax_M)) : Prop := ∃ M2, G = some (v, M2) ∧ gNx M M2
theorem bdT_l {α β : Type} (a : α) (M : ax_M) (f : α → ax_M → Option ((β ⊕ String) × ax_M)) : bdT (some (.inl a, M)) f = f a M := rfl
theorem bdT_r {α β : Type} (E : String) (M : ax_M) (f : α → ax_M → Option ((β ⊕ String) × ax_M)) : bdT (some (.inr E, M)) f = some (.inr E, M) := rfl
theorem bdC_l {α γ : Type} (a : α) (M : ax_M) (f : α → ax_M → Option γ) (g : String → ax_M → Option γ) : bdC (some (.inl a, M)) f g = f a M := rfl
theorem bdC_r {α γ : Type} (E : String) (M : ax_M) (f : α → ax_M → Option γ) (g : String → ax_M → Option γ) : bdC (some (.inr E, M)) f g = g E M := rfl
section CLL
variable {M M1 M2 N : ax_M} {q q' : Nat} {w h : Int} {o : Int → Int} {k T e : Int} {b : Int → Int}
theorem gI.z (I : gI M q q' w h o k b T e) (v : Int) : gI (mUI M 203 0 v) q q' w h o k b T e := I.mo ((Fr.refl sMm M).up (by unfold sMm; omega))
theorem sMm_z (M : ax_M) (v : Int) : Fr sMm M (mUI M 203 0 v) := (Fr.refl sMm M).up (by unfold sMm; omega)
theorem sM_mm {A B : ax_M} (f : Fr sM A B) : Fr sMm A B := f.mono (fun k j z => by unfold sM at z; unfold sMm; omega)
theorem sMv_mm {A B : ax_M} (f : Fr sMv A B) : Fr sMm A B := f.mono (fun k j z => by unfold sMv at z; unfold sMm; omega)
theorem sV_mm {A B : ax_M} (f : Fr sV A B) : Fr sMm A B := sM_mm (f.mono sV_M)
theorem nx_mo (I : gI M q q' w h o k b T e) (f : Fr sMm M M2) : gNx M M2 := by
  have z : M2.2.2.2 = M.2.2.2 := by rw [f.1]
  have n9 := mo_9 f
  refine ⟨⟨q, q', w, h, o, k, b, T, e, I.mo f⟩, ?_, ?_, ?_, by omega, by omega⟩
  · show M.2.2.2.1 ≤ M2.2.2.2.1; rw [z]; exact Nat.le_refl _
  · show M2.2.2.2.1 ≤ M.2.2.2.1 + 2; rw [z]; omega
  · show M2.2.2.2.2.1 ≤ M.2.2.2.2.1 + 20; rw [z]; omega
theorem nn9 (M : ax_M) : mI M 169 9 ≤ mI M 169 9 ∧ mI M 169 9 ≤ mI M 169 9 + 400 := ⟨Int.le_refl _, by omega⟩
theorem K_errorAt (I : gI M q q' w h o k b T e) : gCz M (fX12_errorAt M) (fX14_errorAt M) := by
  refine ⟨mUI M 203 0 0, ?_, nx_mo I (sMm_z M 0)⟩
  unfold fX14_errorAt fX14_ok fX12_errorAt
  rw [bd2_s, I.2.2.2.2.2.2.2.2.1, I.2.2.2.2.2.2.2.2.2]
theorem K_columns (I : gI M q q' w h o k b T e) : gCz M (fX12_columns M) (fX14_columns M) := by
  refine ⟨mUI M 203 0 0, ?_, nx_mo I (sMm_z M 0)⟩
  unfold fX14_columns fX14_ok fX12_columns fX8_columns
  rw [bd2_s, I.2.1.1.2.1, I.2.2.1.2.2.1]
theorem K_rows (I : gI M q q' w h o k b T e) : gCz M (fX12_rows M) (fX14_rows M) := by
  refine ⟨mUI M 203 0 0, ?_, nx_mo I (sMm_z M 0)⟩
  unfold fX14_rows fX14_ok fX12_rows fX8_rows
  rw [bd2_s, I.2.1.1.2.2.1, I.2.2.1.2.2.2.1]
theorem C_plansN (I : gI M q q' w h o k b T e) : fX12_plans M = some (mI M 208 3) := by
  obtain ⟨⟨hqq, R9, R10⟩, _, _, _, _, G, _⟩ := I
  unfold fX12_plans
  rw [R9]
  show (if (q = 157 ∨ q = 194) then some (fX7_count M q) else none) = _
  rw [if_pos G.1]
  unfold fX7_count
  rw [G.2.1]
theorem K_plans (I : gI M q q' w h o k b T e) : ∃ v, fX12_plans M = some v ∧ gCz M v (fX14_plans M) := by
  refine ⟨_, C_plansN I, mUI M 203 0 0, ?_, nx_mo I (sMm_z M 0)⟩
  unfold fX14_plans fX14_ok
  rw [bd2_s]
theorem K_stonesToTakeBack (I : gI M q q' w h o k b T e) : gCz M (fX12_stonesToTakeBack M) (fX14_stonesToTakeBack M) := by
  refine ⟨mUI M 203 0 0, ?_, nx_mo I (sMm_z M 0)⟩
  have L := I.2.2.2.2.2.2.1
  unfold fX14_stonesToTakeBack fX14_ok fX12_stonesToTakeBack fX8_laidStones
  rw [bd2_s, L.2.1, L.2.2.1]
theorem K_tapeBytes (I : gI M q q' w h o k b T e) : gCz M (fX12_tapeBytes M) (fX14_tapeBytes M) := by
  refine ⟨mUI M 203 0 0, ?_, nx_mo I (sMm_z M 0)⟩
  have L := I.2.2.2.2.2.2.2.1
  unfold fX14_tapeBytes fX14_ok fX12_tapeBytes fX9_length
  rw [bd2_s, L.1.2.1, L.2.2.1]
theorem K_emptyCells (I : gI M q q' w h o k b T e) : gCz M (fX12_emptyCells M) (fX14_emptyCells M) := by
  refine ⟨mUI M 203 0 0, ?_, nx_mo I (sMm_z M 0)⟩
  unfold fX14_emptyCells fX14_ok fX12_emptyCells
  rw [Q_free I.2.2.1, bd1_s, bd2_s, C_free I.2.1]
theorem K_frozenCells (I : gI M q q' w h o k b T e) : ∃ v, fX12_frozenCells M = some v ∧ gCz M v (fX14_frozenCells M) := by
  obtain ⟨M', r, f⟩ := Q_frozenN I.2.2.1
  refine ⟨_, C_frozenN I.2.1, mUI M' 203 0 0, ?_, nx_mo I ((sM_mm f).trans (sMm_z M' 0))⟩
  unfold fX14_frozenCells fX14_ok
  rw [r, bd2_s, bd2_s]
theorem K_teach (I : gI M q q' w h o k b T e) (hch : 0 ≤ mI M 169 9 ∧ mI M 169 9 < 1000000000) : gCy M (fX12_teach M) fX14_teach := by
  obtain ⟨r, M1, M2, r1, r2, z, ⟨c1, c2⟩, I2⟩ := C_teach I hch
  have z' : M2.2.2.2 = M.2.2.2 := by rw [z]
  refine ⟨r, M1, M2, r1, r2, I2, ?_, ?_, ?_, by omega, by omega⟩
  · show M.2.2.2.1 ≤ M2.2.2.2.1; rw [z']; exact Nat.le_refl _
  · show M2.2.2.2.1 ≤ M.2.2.2.1 + 2; rw [z']; omega
  · show M2.2.2.2.2.1 ≤ M.2.2.2.2.1 + 20; rw [z']; omega
/-- all but the tape keeps -/
theorem gI.tape {S : Nat → Nat → Prop} {b' : Int → Int} {T' : Int} (I : gI M q q' w h o k b T e) (f : Fx S M M2) (hS : ∀ k j, k < 244 → S k j → (k = 151 ∧ j = 1) ∨ k = 152 ∨ (k = 203 ∧ (j = 0 ∨ j = 2)) ∨ k = 204) (A : gTA M2 b' T') (B : gTB M2 b' T') : gI M2 q q' w h o k b' T' e := by
  obtain ⟨i1, i2, i3, i4, i5, i6, i7, ⟨i8, i9⟩, i10, i11⟩ := I
  have hq : q = 157 ∨ q = 194 := by have := i1.1; omega
  have f := f.mono hS
  refine ⟨i1.x f (fun k j z => ?_), i2.x f (fun k j z => ?_), i3.x f (fun k j z => ?_), i4.x f (fun k j z => ?_), i5.x f (fun k j z => ?_), (i6.x f (fun k j z => ?_)).1, i7.x f (fun k j z => ?_), ⟨A, B⟩, ?_, ?_⟩
  · omega
  · omega
  · omega
  · omega
  · omega
  · omega
  · omega
  · rw [(f 150 11 (by omega) (by omega)).1]; exact i10
  · rw [(f 203 3 (by omega) (by omega)).1]; exact i11
theorem K_feed (I : gI M q q' w h o k b T e) (hz : 94 ≤ mSz M) (a1 a2 a3 a4 a5 : Int) : gCx M (fL_feed M a1 a2 a3 a4 a5) (fun M1 => fX14_feed M1 a1 a2 a3 a4 a5) il := by
  have A := I.2.2.2.2.2.2.2.1.1
  have B := I.2.2.2.2.2.2.2.1.2
  have T0 := A.1.1
  have T1 := A.1.2.1
  by_cases hT : T + 20 ≤ 2000
  · obtain ⟨M1, r1, A1, f1⟩ := C_feed A hT a1 a2 a3 a4 a5
    have F1 : Fx sTp M (mUJ M1 243 0 (il (T + 20))) := f1.x.uj 243 0 _
    have z1 : mSz (mUJ M1 243 0 (il (T + 20))) = mSz M := by show M1.2.2.2.1 = M.2.2.2.1; rw [f1.1]
    have z2 : mSl (mUJ M1 243 0 (il (T + 20))) = mSl M := by show M1.2.2.2.2.1 = M.2.2.2.2.1; rw [f1.1]
    obtain ⟨M2, r2, B2, f2, e0, s1, s2, ej⟩ := Q_feed (M := mUJ M1 243 0 (il (T + 20))) (B.x F1 (fun k j z => by unfold sTp; omega)) (by omega) hT a1 a2 a3 a4 a5
    have FX : Fx (fun k j => sTp k j ∨ sQf k j) M M2 := (F1.mono (fun k j _ z => Or.inl z)).trans (f2.mono (fun k j _ z => Or.inr z))
    have n9 : mI M2 169 9 = mI M 169 9 := (FX 169 9 (by omega) (by unfold sTp sQf; omega)).1
    have A2 : gTA M2 (gbf b (ga5 a1 a2 a3 a4 a5) T) (T + 20) := by
      have A1' : gTA (mUJ M1 243 0 (il (T + 20))) (gbf b (ga5 a1 a2 a3 a4 a5) T) (T + 20) := A1.x ((Fx.refl (fun _ _ => False) M1).uj 243 0 _) (fun _ _ _ z => z)
      exact A1'.x f2 (fun k j z => by unfold sQf; omega)
    refine ⟨0, mUJ M1 243 0 (il (T + 20)), T + 20, M2, ?_, r2, e0, fun _ => ?_, ⟨q, q', w, h, o, k, _, T + 20, e, I.tape FX (fun k j hk z => by unfold sTp sQf at z; omega) A2 B2⟩, by omega, by omega, by omega, by omega, by omega⟩
    · unfold fL_feed
      rw [r1, bdC_l]
    · rw [ej]
      show ax_up (mJ M1) 243 0 (il (T + 20)) 243 0 = _
      exact ax_up_s
  · refine K_no I hz rfl (nn9 M) (c := 1) (t := 13) ?_ (by decide) (fun M1 I1 => ?_)
    · unfold fL_feed fX12_feed fX9_length
      rw [A.2.1, wr_eq (by omega) (by omega), if_pos (by omega), bdC_r, if_pos rfl]
    · have B1 := I1.2.2.2.2.2.2.2.1.2
      refine ⟨0, mUI (mUI M1 203 0 0) 203 0 1, ?_, mI_Us _ _ _ _, (sMm_z M1 0).trans (sMm_z _ 1)⟩
      show fX14_feed M1 a1 a2 a3 a4 a5 = _
      unfold fX14_feed fX14_no
      rw [mI_Un (M := M1) (k := 203) (j := 0) (a := 203) (b := 2) (by omega), B1.2.1, wr_eq (by omega) (by omega), if_pos (by omega), bd2_s]
theorem K_trim (I : gI M q q' w h o k b T e) (hz : 94 ≤ mSz M) (a : Int) : gCx M (fL_trim M a) (fun M1 => fX14_trim M1 a) il := by
  have A := I.2.2.2.2.2.2.2.1.1
  have B := I.2.2.2.2.2.2.2.1.2
  have T0 := A.1.1
  have T1 := A.1.2.1
  by_cases hT : 0 ≤ a ∧ a ≤ T
  · obtain ⟨a0, a1⟩ := hT
    obtain ⟨b', eb⟩ : ∃ b' : Int → Int, b' = fun j => if j < a then b j else -1 := ⟨_, rfl⟩
    have b0 : gT0 b' a := ⟨a0, by omega, fun j hj => by rw [eb]; exact if_neg (by omega)⟩
    refine ⟨0, mUJ (mUI M 151 1 a) 243 0 (il a), a, mUI (mUI (mUJ (mUI M 151 1 a) 243 0 (il a)) 203 0 0) 203 2 a, ?_, ?_, ?_, fun _ => (show ax_up (mJ M) 243 0 (il a) 243 0 = il a from ax_up_s), ⟨q, q', w, h, o, k, b', a, e, I.tape (S := fun k j => (k = 151 ∧ j = 1) ∨ (k = 203 ∧ (j = 0 ∨ j = 2))) (((((Fx.refl _ M).up (Or.inl ⟨rfl, rfl⟩)).uj 243 0 (il a)).up (Or.inr ⟨rfl, Or.inl rfl⟩)).up (Or.inr ⟨rfl, Or.inr rfl⟩)) (fun k j _ z => by omega) ⟨b0, ?_, fun j => ?_⟩ ⟨b0, ?_, fun j j0 j1 => ?_⟩⟩, Nat.le_refl _, Nat.le_add_right _ _, Nat.le_add_right _ _, ?_, ?_⟩
    · unfold fL_trim fX12_trim fX9_length fX9_shorten
      rw [A.2.1, if_neg (by omega), if_neg (by omega), bd1_s, bdC_l]
    · show fX14_trim _ a = _
      unfold fX14_trim
      rw [Q_in, mI_Un (k := 203) (j := 0) (a := 203) (b := 2) (by omega)]
      rw [show mI (mUJ (mUI M 151 1 a) 243 0 (il a)) 203 2 = T from by
        show mI (mUI M 151 1 a) 203 2 = T
        rw [mI_Un (by omega)]; exact B.2.1]
      rw [if_pos (show 0 ≤ a ∧ a ≤ T by omega), if_neg (show ¬ (1 : Int) = 0 by decide)]
    · rw [mI_Un (by omega), mI_Us]
    · rw [mI_Un (by omega), mI_Un (by omega)]
      exact mI_Us M 151 1 a
    · have n1 : mI (mUI (mUI (mUJ (mUI M 151 1 a) 243 0 (il a)) 203 0 0) 203 2 a) 151 1 = a := by
        rw [mI_Un (by omega), mI_Un (by omega)]
        exact mI_Us M 151 1 a
      have n2 : ∀ j, mI (mUI (mUI (mUJ (mUI M 151 1 a) 243 0 (il a)) 203 0 0) 203 2 a) 152 j = mI M 152 j := fun j => by
        rw [mI_Un (by omega), mI_Un (by omega)]
        exact mI_Un (M := M) (k := 151) (j := 1) (a := 152) (b := j) (v := a) (by omega)
      unfold fX9_byteAt
      rw [n1, n2, eb]
      have hb := A.2.2 j
      unfold fX9_byteAt at hb
      rw [A.2.1] at hb
      show _ = if j < a then b j else -1
      by_cases z : j < 0
      · rw [if_pos z] at hb ⊢
        rw [if_pos (by omega)]; exact hb
      · rw [if_neg z] at hb ⊢
        by_cases y : j < a
        · rw [if_pos (show j < T by omega)] at hb
          rw [if_pos y, if_pos y]; exact hb
        · rw [if_neg y, if_neg y]
    · rw [mI_Us]
    · rw [mI_Un (by omega), mI_Un (by omega)]
      show mI (mUI M 151 1 a) 204 j.toNat = b' j
      rw [mI_Un (by omega), eb]
      show _ = if j < a then b j else -1
      rw [if_pos j1]
      exact B.2.2 j j0 (by omega)
    · show mI M 169 9 ≤ mI (mUI (mUI (mUJ (mUI M 151 1 a) 243 0 (il a)) 203 0 0) 203 2 a) 169 9
      rw [mI_Un (by omega), mI_Un (by omega)]
      show mI M 169 9 ≤ mI (mUI M 151 1 a) 169 9
      rw [mI_Un (by omega)]; exact Int.le_refl _
    · rw [mI_Un (by omega), mI_Un (by omega)]
      show mI (mUI M 151 1 a) 169 9 ≤ mI M 169 9 + 400
      rw [mI_Un (by omega)]; omega
  · refine K_no I hz rfl (nn9 M) (c := 1) (t := 14) ?_ (by decide) (fun M1 I1 => ?_)
    · unfold fL_trim fX12_trim fX9_length
      rw [A.2.1]
      by_cases z : a < 0
      · rw [if_pos z, bdC_r, if_pos rfl]
      · rw [if_neg z, if_pos (by omega), bdC_r, if_pos rfl]
    · have B1 := I1.2.2.2.2.2.2.2.1.2
      refine ⟨0, mUI (mUI M1 203 0 0) 203 0 1, ?_, mI_Us _ _ _ _, (sMm_z M1 0).trans (sMm_z _ 1)⟩
      show fX14_trim M1 a = _
      unfold fX14_trim fX14_no
      rw [Q_in, mI_Un (M := M1) (k := 203) (j := 0) (a := 203) (b := 2) (by omega), B1.2.1, if_neg hT, if_pos rfl, bd2_s]
end CLL
