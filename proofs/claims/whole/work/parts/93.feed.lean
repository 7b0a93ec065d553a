/-! part C: from one call to the next; the tape is fed and trimmed -/
theorem b255 : ∀ i : Fin 32, 8 ≤ i.val → (255#32)[i.val] = false := by decide
theorem bvk (X : BitVec 32) (k : Nat) (hk : k ≤ 24) : ((X >>> k).signExtend 8).signExtend 32 &&& 255#32 = (X.sshiftRight k) &&& 255#32 := by
  ext i hi
  by_cases h8 : i < 8
  · have h9 : k + i < 32 := by omega
    simp [BitVec.getElem_signExtend, BitVec.getElem_sshiftRight, h8, h9, hi]
  · have := b255 ⟨i, hi⟩ (by show 8 ≤ i; omega)
    have this : (255#32)[i] = false := this
    simp [this]
theorem ib0 (X : Int32) (k : Nat) (hk : k ≤ 24) (y : Int32) (u : UInt32) (ey : (y &&& 31).toBitVec.smod 32 = BitVec.ofNat 32 k) (eu : u.toBitVec % 32#32 = BitVec.ofNat 32 k) : (X.toUInt32 >>> u).toInt32.toInt8.toInt32 &&& 255 = X >>> (y &&& 31) &&& 255 := by
  apply Int32.toBitVec_inj.mp
  have b := bvk X.toBitVec k hk
  have hk3 : k % 4294967296 = k := by omega
  rw [Int32.toBitVec_and, Int32.toBitVec_and, Int32.toBitVec_shiftRight, ey, Int8.toBitVec_toInt32, Int32.toBitVec_toInt8]
  rw [show (X.toUInt32 >>> u).toInt32.toBitVec = X.toBitVec >>> k from by
    show (X.toUInt32 >>> u).toBitVec = _
    rw [UInt32.toBitVec_shiftRight]
    show X.toBitVec >>> (u.toBitVec % 32#32) = _
    rw [eu, BitVec.ushiftRight_eq']
    simp [hk3]]
  show _ &&& 255#32 = BitVec.sshiftRight' X.toBitVec _ &&& 255#32
  rw [b, BitVec.sshiftRight_eq']
  simp [hk3]
/-- a byte, as the class cuts it out and as the model does -/
theorem ib (x : Int) {v : Int} (hv : v = 24 ∨ v = 16 ∨ v = 8 ∨ v = 0) : iand (ibyte (iushr x v)) 255 = iand (ishr x v) 255 := by
  unfold iand ibyte iushr ishr
  rw [Int32.ofInt_toInt, Int32.ofInt_toInt, Int32.ofInt_toInt]
  generalize Int32.ofInt x = X
  rcases hv with rfl | rfl | rfl | rfl
  · exact congrArg Int32.toInt (ib0 X 24 (by decide) _ _ (by decide) (by decide))
  · exact congrArg Int32.toInt (ib0 X 16 (by decide) _ _ (by decide) (by decide))
  · exact congrArg Int32.toInt (ib0 X 8 (by decide) _ _ (by decide) (by decide))
  · exact congrArg Int32.toInt (ib0 X 0 (by decide) _ _ (by decide) (by decide))
def gIx (M : ax_M) : Prop := ∃ q q' w h o k b T e, gI M q q' w h o k b T e
/-- what a call may do to the counts, and that all holds behind it -/
def gNx (M M2 : ax_M) : Prop := gIx M2 ∧ mSz M ≤ mSz M2 ∧ mSz M2 ≤ mSz M + 2 ∧ mSl M2 ≤ mSl M + 20 ∧ mI M 169 9 ≤ mI M2 169 9 ∧ mI M2 169 9 ≤ mI M 169 9 + 400
/-- a call through the law's helper, and the model's call -/
def gCx (M : ax_M) (F : Option (Int × ax_M)) (G : ax_M → Option (Int × ax_M)) (cv : Int → Int64) : Prop := ∃ c M1 v M2, F = some (c, M1) ∧ G M1 = some (v, M2) ∧ mI M2 203 0 = c ∧ (c = 0 → mJ M2 243 0 = cv v) ∧ gNx M M2
def sMm : Nat → Nat → Prop := fun k j => (k = 203 ∧ (j = 0 ∨ j = 25)) ∨ k = 232 ∨ (235 ≤ k ∧ k ≤ 242)
section NXT
variable {M M1 M2 N : ax_M} {q q' : Nat} {w h : Int} {o : Int → Int} {k T e : Int} {b : Int → Int}
theorem gI.mo (I : gI M1 q q' w h o k b T e) (f : Fr sMm M1 M2) : gI M2 q q' w h o k b T e := by
  have hq : q = 157 ∨ q = 194 := by have := I.1.1; omega
  exact I.keep (f.x.mono (fun k j _ z => by unfold sMm at z; unfold sFr; omega)) (I.2.2.2.1.x f.x (fun k j z => by unfold sMm; omega)) (I.2.2.2.2.1.x f.x (fun k j z => by unfold sMm; omega))
theorem gI.jl (I : gI M1 q q' w h o k b T e) (V : Int64) : gI (mUJ M1 243 0 V) q q' w h o k b T e := by
  have f : Fx (sFr q) M1 (mUJ M1 243 0 V) := (Fx.refl (sFr q) M1).uj 243 0 V
  have f0 : Fx (fun _ _ => False) M1 (mUJ M1 243 0 V) := (Fx.refl _ M1).uj 243 0 V
  exact I.keep f (I.2.2.2.1.x f0 (fun _ _ _ z => z)) (I.2.2.2.2.1.x f0 (fun _ _ _ z => z))
theorem gI.al (I : gI M1 q q' w h o k b T e) (hz : 94 ≤ mSz M1) (t n s : Nat) : gI (mAl M1 t n s) q q' w h o k b T e := by
  have f : Fx (sFr q) M1 (mAl M1 t n s) := (Fx.refl (sFr q) M1).al hz t n s
  have f0 : Fx (fun _ _ => False) M1 (mAl M1 t n s) := (Fx.refl _ M1).al hz t n s
  exact I.keep f (I.2.2.2.1.x f0 (fun _ _ _ z => z)) (I.2.2.2.2.1.x f0 (fun _ _ _ z => z))
theorem gI.al9 (hz : 94 ≤ mSz M1) (t n s : Nat) : mI (mAl M1 t n s) 169 9 = mI M1 169 9 := if_neg (by show ¬ 169 = 150 + mSz M1; omega)
theorem mo_9 (f : Fr sMm M1 M2) : mI M2 169 9 = mI M1 169 9 := f.2 169 9 (by unfold sMm; omega)
/-- a call that answers -/
theorem K_ok {F : Option (Int × ax_M)} {G : ax_M → Option (Int × ax_M)} {cv : Int → Int64} {V : Int64} (I : gI N q q' w h o k b T e) (hN : N.2.2 = M.2.2) (h9 : mI M 169 9 ≤ mI N 169 9 ∧ mI N 169 9 ≤ mI M 169 9 + 400) (hF : F = some (0, mUJ N 243 0 V)) (hG : ∀ M1, gI M1 q q' w h o k b T e → ∃ v M2, G M1 = some (v, M2) ∧ V = cv v ∧ mI M2 203 0 = 0 ∧ Fr sMm M1 M2) : gCx M F G cv := by
  obtain ⟨v, M2, r, ev, e0, f⟩ := hG _ (I.jl V)
  have z : M2.2 = (mUJ N 243 0 V).2 := f.1
  have zs : M2.2.2.2 = M.2.2.2 := by rw [z]; show N.2.2.2 = M.2.2.2; rw [hN]
  have n9 := mo_9 f
  have n9' : mI (mUJ N 243 0 V) 169 9 = mI N 169 9 := rfl
  refine ⟨0, _, v, M2, hF, r, e0, fun _ => ?_, ⟨q, q', w, h, o, k, b, T, e, (I.jl V).mo f⟩, ?_, ?_, ?_, ?_, ?_⟩
  · show M2.2.2.1 243 0 = cv v
    rw [z, ← ev]
    show ax_up (mJ N) 243 0 V 243 0 = V
    exact ax_up_s
  · show M.2.2.2.1 ≤ M2.2.2.2.1; rw [zs]; exact Nat.le_refl _
  · show M2.2.2.2.1 ≤ M.2.2.2.1 + 2; rw [zs]; omega
  · show M2.2.2.2.2.1 ≤ M.2.2.2.2.1 + 20; rw [zs]; omega
  · omega
  · omega
/-- a call that throws -/
theorem K_no {F : Option (Int × ax_M)} {G : ax_M → Option (Int × ax_M)} {cv : Int → Int64} {c : Int} {t : Nat} (I : gI N q q' w h o k b T e) (hz : 94 ≤ mSz M) (hN : N.2.2 = M.2.2) (h9 : mI M 169 9 ≤ mI N 169 9 ∧ mI N 169 9 ≤ mI M 169 9 + 400) (hF : F = some (c, mAl N t 0 6)) (hc : c ≠ 0) (hG : ∀ M1, gI M1 q q' w h o k b T e → ∃ v M2, G M1 = some (v, M2) ∧ mI M2 203 0 = c ∧ Fr sMm M1 M2) : gCx M F G cv := by
  have hzN : 94 ≤ mSz N := by show 94 ≤ N.2.2.2.1; rw [hN]; exact hz
  obtain ⟨v, M2, r, e0, f⟩ := hG _ (I.al hzN t 0 6)
  have z : M2.2 = (mAl N t 0 6).2 := f.1
  have z1 : mSz M2 = mSz M + 1 := by show M2.2.2.2.1 = M.2.2.2.1 + 1; rw [z, ← hN]; rfl
  have z2 : mSl M2 = mSl M + 6 := by show M2.2.2.2.2.1 = M.2.2.2.2.1 + 6; rw [z, ← hN]; rfl
  have n9 := mo_9 f
  have n9' : mI (mAl N t 0 6) 169 9 = mI N 169 9 := gI.al9 hzN t 0 6
  exact ⟨c, _, v, M2, hF, r, e0, fun y => absurd y hc, ⟨q, q', w, h, o, k, b, T, e, (I.al hzN t 0 6).mo f⟩, by omega, by omega, by omega, by omega, by omega⟩
end NXT
/-! feed -/
def gfb (a : Int → Int) (j : Int) : Int := iand (ishr (a (j / 4)) (24 - 8 * (j % 4))) 255
def sTp : Nat → Nat → Prop := fun k j => (k = 151 ∧ j = 1) ∨ k = 152
def sTq : Nat → Nat → Prop := fun k j => (k = 203 ∧ j = 2) ∨ k = 204
def gApp (M : ax_M) (b a : Int → Int) (T n : Int) : Prop := mI M 151 1 = T + n ∧ (∀ j : Int, 0 ≤ j → j < T → iand (mI M 152 j.toNat) 255 = b j) ∧ ∀ j : Int, 0 ≤ j → j < n → iand (mI M 152 (T + j).toNat) 255 = gfb a j
def gApq (M : ax_M) (b a : Int → Int) (T n : Int) : Prop := mI M 203 2 = T + n ∧ (∀ j : Int, 0 ≤ j → j < T → mI M 204 j.toNat = b j) ∧ ∀ j : Int, 0 ≤ j → j < n → mI M 204 (T + j).toNat = gfb a j
section FED
variable {M : ax_M} {b a : Int → Int} {T : Int}
theorem gfb_4 (a : Int → Int) {m i : Nat} (hi : i < 4) : gfb a (4 * (m : Int) + i) = iand (ishr (a m) (24 - 8 * (i : Int))) 255 := by
  unfold gfb
  rw [show (4 * (m : Int) + i) / 4 = m by omega, show (4 * (m : Int) + i) % 4 = i by omega]
theorem C_append {m : Nat} (H : gApp M b a T (4 * (m : Int))) (T0 : 0 ≤ T) (hT : T + 4 * (m : Int) + 4 ≤ 2000) : ∃ M', fX9_append M (a m) = some M' ∧ gApp M' b a T (4 * ((m + 1 : Nat) : Int)) ∧ Fr sTp M M' := by
  have key : ∃ r, lp (fun s => fX9_append_b3 s.2 (a m) s.1) lpN (24, M) = some r ∧ (gApp r b a T (4 * ((m + 1 : Nat) : Int)) ∧ Fr sTp M r) := by
    refine lpn 4 (by omega) (fun i s => s.1 = 24 - 8 * (i : Int) ∧ gApp s.2 b a T (4 * (m : Int) + i) ∧ Fr sTp M s.2) _ _ ?_ ?_ ?_
    · exact ⟨rfl, by show gApp M b a T (4 * (m : Int) + ((0 : Nat) : Int)); rw [show 4 * (m : Int) + ((0 : Nat) : Int) = 4 * (m : Int) by omega]; exact H, Fr.refl _ _⟩
    · rintro i ⟨v, N⟩ hi ⟨hv, ⟨h1, h2, h3⟩, f⟩
      have hv : v = 24 - 8 * (i : Int) := hv
      subst hv
      have h1 : mI N 151 1 = T + (4 * (m : Int) + i) := h1
      have h2 : ∀ j : Int, 0 ≤ j → j < T → iand (mI N 152 j.toNat) 255 = b j := h2
      have h3 : ∀ j : Int, 0 ≤ j → j < 4 * (m : Int) + i → iand (mI N 152 (T + j).toNat) 255 = gfb a j := h3
      have f : Fr sTp M N := f
      right
      refine ⟨(24 - 8 * (i : Int) + (-8), mUI (mUI N 152 (T + (4 * (m : Int) + i)).toNat (ibyte (iushr (a m) (24 - 8 * (i : Int))))) 151 1 (T + (4 * (m : Int) + i) + 1)), ?_, ?_, ⟨?_, fun j j0 j1 => ?_, fun j j0 j1 => ?_⟩, ?_⟩
      · show fX9_append_b3 N (a m) (24 - 8 * (i : Int)) = _
        unfold fX9_append_b3
        rw [if_neg (by omega), h1, if_neg (by omega), if_pos (by omega), mI_Un (by omega), h1, wr_eq (by omega) (by omega)]
      · show 24 - 8 * (i : Int) + -8 = 24 - 8 * ((i + 1 : Nat) : Int)
        omega
      · show mI (mUI _ 151 1 _) 151 1 = T + (4 * (m : Int) + ((i + 1 : Nat) : Int))
        rw [mI_Us]; omega
      · show iand (mI (mUI _ 151 1 _) 152 j.toNat) 255 = b j
        rw [mI_Un (by omega), mI_Z _ _ _ (by omega) j0, if_neg (by omega)]
        exact h2 j j0 j1
      · have j1 : j < 4 * (m : Int) + ((i + 1 : Nat) : Int) := j1
        show iand (mI (mUI _ 151 1 _) 152 (T + j).toNat) 255 = gfb a j
        rw [mI_Un (by omega), mI_Z _ _ _ (by omega) (by omega)]
        by_cases ej : j = 4 * (m : Int) + i
        · rw [if_pos (by omega), ej, gfb_4 a hi, ib (a m) (by omega)]
        · rw [if_neg (by omega)]
          exact h3 j j0 (by omega)
      · exact (f.up (by unfold sTp; omega)).up (by unfold sTp; omega)
    · rintro ⟨v, N⟩ ⟨hv, H', f⟩
      have hv : v = 24 - 8 * ((4 : Nat) : Int) := hv
      subst hv
      refine ⟨N, ?_, ?_, f⟩
      · show fX9_append_b3 N (a m) (24 - 8 * ((4 : Nat) : Int)) = _
        unfold fX9_append_b3
        rw [if_pos (by omega)]
      · rw [show 4 * ((m + 1 : Nat) : Int) = 4 * (m : Int) + ((4 : Nat) : Int) by omega]
        exact H'
  obtain ⟨r, e, h1, h2⟩ := key
  refine ⟨r, ?_, h1, h2⟩
  unfold fX9_append
  rw [e, bd1_s]
theorem Q_append {m x8 : Nat} {K : Nat} {x8' : Int} (H : gApq M b a T (4 * (m : Int))) (T0 : 0 ≤ T) (hT : T + 4 * (m : Int) + 4 ≤ 2000) : ∃ M', lp (fun s => fX14_feed_b81 s.2 K x8' m (a m) s.1) lpN (24, M) = some M' ∧ gApq M' b a T (4 * ((m + 1 : Nat) : Int)) ∧ Fr sTq M M' := by
  refine lpn 4 (by omega) (fun i s => s.1 = 24 - 8 * (i : Int) ∧ gApq s.2 b a T (4 * (m : Int) + i) ∧ Fr sTq M s.2) _ _ ?_ ?_ ?_
  · exact ⟨rfl, by show gApq M b a T (4 * (m : Int) + ((0 : Nat) : Int)); rw [show 4 * (m : Int) + ((0 : Nat) : Int) = 4 * (m : Int) by omega]; exact H, Fr.refl _ _⟩
  · rintro i ⟨v, N⟩ hi ⟨hv, ⟨h1, h2, h3⟩, f⟩
    have hv : v = 24 - 8 * (i : Int) := hv
    subst hv
    have h1 : mI N 203 2 = T + (4 * (m : Int) + i) := h1
    have h2 : ∀ j : Int, 0 ≤ j → j < T → mI N 204 j.toNat = b j := h2
    have h3 : ∀ j : Int, 0 ≤ j → j < 4 * (m : Int) + i → mI N 204 (T + j).toNat = gfb a j := h3
    have f : Fr sTq M N := f
    right
    refine ⟨(24 - 8 * (i : Int) + (-8), mUI (mUI N 204 (T + (4 * (m : Int) + i)).toNat (iand (ishr (a m) (24 - 8 * (i : Int))) 255)) 203 2 (T + (4 * (m : Int) + i) + 1)), ?_, ?_, ⟨?_, fun j j0 j1 => ?_, fun j j0 j1 => ?_⟩, ?_⟩
    · show fX14_feed_b81 N K x8' m (a m) (24 - 8 * (i : Int)) = _
      unfold fX14_feed_b81
      rw [if_neg (by omega), h1, if_pos (by omega), mI_Un (by omega), h1, wr_eq (by omega) (by omega)]
    · show 24 - 8 * (i : Int) + -8 = 24 - 8 * ((i + 1 : Nat) : Int)
      omega
    · show mI (mUI _ 203 2 _) 203 2 = T + (4 * (m : Int) + ((i + 1 : Nat) : Int))
      rw [mI_Us]; omega
    · show mI (mUI _ 203 2 _) 204 j.toNat = b j
      rw [mI_Un (by omega), mI_Z _ _ _ (by omega) j0, if_neg (by omega)]
      exact h2 j j0 j1
    · have j1 : j < 4 * (m : Int) + ((i + 1 : Nat) : Int) := j1
      show mI (mUI _ 203 2 _) 204 (T + j).toNat = gfb a j
      rw [mI_Un (by omega), mI_Z _ _ _ (by omega) (by omega)]
      by_cases ej : j = 4 * (m : Int) + i
      · rw [if_pos (by omega), ej, gfb_4 a hi]
      · rw [if_neg (by omega)]
        exact h3 j j0 (by omega)
    · exact (f.up (by unfold sTq; omega)).up (by unfold sTq; omega)
  · rintro ⟨v, N⟩ ⟨hv, H', f⟩
    have hv : v = 24 - 8 * ((4 : Nat) : Int) := hv
    subst hv
    refine ⟨N, ?_, ?_, f⟩
    · show fX14_feed_b81 N K x8' m (a m) (24 - 8 * ((4 : Nat) : Int)) = _
      unfold fX14_feed_b81
      rw [if_pos (by omega)]
    · rw [show 4 * ((m + 1 : Nat) : Int) = 4 * (m : Int) + ((4 : Nat) : Int) by omega]
      exact H'
/-- five numbers -/
def ga5 (a1 a2 a3 a4 a5 : Int) : Int → Int := fun i => if i = 0 then a1 else if i = 1 then a2 else if i = 2 then a3 else if i = 3 then a4 else a5
def gbf (b a : Int → Int) (T : Int) : Int → Int := fun j => if T ≤ j ∧ j < T + 20 then gfb a (j - T) else b j
theorem C_feed (H : gTA M b T) (hT : T + 20 ≤ 2000) (a1 a2 a3 a4 a5 : Int) : ∃ M', fX12_feed M a1 a2 a3 a4 a5 = some (.inl (T + 20), M') ∧ gTA M' (gbf b (ga5 a1 a2 a3 a4 a5) T) (T + 20) ∧ Fr sTp M M' := by
  obtain ⟨⟨T0, T1, hb⟩, h1, h2⟩ := H
  obtain ⟨a, ea⟩ : ∃ a, a = ga5 a1 a2 a3 a4 a5 := ⟨_, rfl⟩
  have e0 : a ((0 : Nat) : Int) = a1 := by rw [ea]; rfl
  have e1 : a ((1 : Nat) : Int) = a2 := by rw [ea]; rfl
  have e2 : a ((2 : Nat) : Int) = a3 := by rw [ea]; rfl
  have e3 : a ((3 : Nat) : Int) = a4 := by rw [ea]; rfl
  have e4 : a ((4 : Nat) : Int) = a5 := by rw [ea]; rfl
  have H0 : gApp M b a T (4 * ((0 : Nat) : Int)) := ⟨by rw [h1]; omega, fun j j0 j1 => by
    have := h2 j
    unfold fX9_byteAt at this
    rw [if_neg (by omega), h1, if_pos j1, if_pos (by omega)] at this
    exact this, fun j j0 j1 => by omega⟩
  obtain ⟨M1, r1, H1, f1⟩ := C_append H0 T0 (by omega)
  obtain ⟨M2, r2, H2, f2⟩ := C_append H1 T0 (by omega)
  obtain ⟨M3, r3, H3, f3⟩ := C_append H2 T0 (by omega)
  obtain ⟨M4, r4, H4, f4⟩ := C_append H3 T0 (by omega)
  obtain ⟨M5, r5, ⟨g1, g2, g3⟩, f5⟩ := C_append H4 T0 (by omega)
  rw [e0] at r1
  have r2 : fX9_append M1 a2 = some M2 := by rw [← e1]; exact r2
  have r3 : fX9_append M2 a3 = some M3 := by rw [← e2]; exact r3
  have r4 : fX9_append M3 a4 = some M4 := by rw [← e3]; exact r4
  have r5 : fX9_append M4 a5 = some M5 := by rw [← e4]; exact r5
  have g1 : mI M5 151 1 = T + 20 := by rw [g1]; omega
  refine ⟨M5, ?_, ⟨⟨by omega, by omega, fun j hj => ?_⟩, g1, fun j => ?_⟩, (((f1.trans f2).trans f3).trans f4).trans f5⟩
  · unfold fX12_feed fX9_length
    rw [h1, wr_eq (by omega) (by omega), if_neg (by omega), r1, bd1_s, r2, bd1_s, r3, bd1_s, r4, bd1_s, r5, bd1_s, g1]
  · unfold gbf
    rw [if_neg (by omega)]
    exact hb j (by omega)
  · rw [← ea]
    unfold fX9_byteAt gbf
    by_cases z : j < 0
    · rw [if_pos z, if_neg (by omega), ← h2 j]
      unfold fX9_byteAt
      rw [if_pos z]
    · rw [if_neg z, g1]
      by_cases y : j < T + 20
      · rw [if_pos y, if_pos (by omega)]
        by_cases x : T ≤ j
        · rw [if_pos ⟨x, y⟩]
          have := g3 (j - T) (by omega) (by omega)
          rw [show T + (j - T) = j by omega] at this
          exact this
        · rw [if_neg (by omega)]
          exact g2 j (by omega) (by omega)
      · rw [if_neg y, if_neg (by omega)]
        exact (hb j (by omega)).symm
def sQf : Nat → Nat → Prop := fun k j => (k = 203 ∧ (j = 0 ∨ j = 2)) ∨ k = 204 ∨ 244 ≤ k
theorem Q_feed (H : gTB M b T) (hz : 94 ≤ mSz M) (hT : T + 20 ≤ 2000) (a1 a2 a3 a4 a5 : Int) : ∃ M', fX14_feed M a1 a2 a3 a4 a5 = some (T + 20, M') ∧ gTB M' (gbf b (ga5 a1 a2 a3 a4 a5) T) (T + 20) ∧ Fx sQf M M' ∧ mI M' 203 0 = 0 ∧ mSz M' = mSz M + 1 ∧ mSl M' = mSl M + 5 ∧ mJ M' 243 0 = mJ M 243 0 := by
  obtain ⟨⟨T0, T1, hb⟩, h1, h2⟩ := H
  obtain ⟨a, ea⟩ : ∃ a, a = ga5 a1 a2 a3 a4 a5 := ⟨_, rfl⟩
  obtain ⟨N, eN⟩ : ∃ N, N = mUI M 203 0 0 := ⟨_, rfl⟩
  have zN : mSz N = mSz M := by rw [eN]
  obtain ⟨K, eK⟩ : ∃ K, K = 150 + mSz N := ⟨_, rfl⟩
  obtain ⟨L, eL⟩ : ∃ L, L = mAl N 32 5 5 := ⟨_, rfl⟩
  have hd : axDy L K 5 := by
    rw [eL, eK]
    refine ⟨by omega, by show 150 + mSz N < 150 + (mSz N + 1); omega, ?_⟩
    show (if 150 + mSz N = axC + mSz N then (32, 5) else mSh N (150 + mSz N)) = (32, 5)
    exact if_pos rfl
  have hd1 : axDy (mUI L K 0 a1) K 5 := hd
  have hd2 : axDy (mUI (mUI L K 0 a1) K 1 a2) K 5 := hd
  have hd3 : axDy (mUI (mUI (mUI L K 0 a1) K 1 a2) K 2 a3) K 5 := hd
  have hd4 : axDy (mUI (mUI (mUI (mUI L K 0 a1) K 1 a2) K 2 a3) K 3 a4) K 5 := hd
  obtain ⟨P, eP⟩ : ∃ P, P = mUI (mUI (mUI (mUI (mUI L K 0 a1) K 1 a2) K 2 a3) K 3 a4) K 4 a5 := ⟨_, rfl⟩
  have hd5 : axDy P K 5 := by rw [eP]; exact hd
  have k244 : 244 ≤ K := by omega
  have gL : ∀ x j, x < 244 → mI L x j = mI N x j := fun x j hx => by
    rw [eL]
    exact if_neg (by show ¬ x = 150 + mSz N; omega)
  have gP : ∀ x j, x < 244 → mI P x j = mI N x j := fun x j hx => by
    rw [eP, mI_Un (by omega), mI_Un (by omega), mI_Un (by omega), mI_Un (by omega), mI_Un (by omega)]
    exact gL x j hx
  have gPR : ∀ x j, x < 244 → mR P x j = mR M x j := fun x j hx => by
    rw [eP]
    show mR L x j = mR M x j
    rw [eL]
    show (if x = axC + mSz N then none else mR N x j) = mR M x j
    rw [if_neg (by show ¬ x = 150 + mSz N; omega), eN]
  have pa : ∀ i : Nat, i < 5 → mI P K i = a i := fun i hi => by
    rw [ea, eP]
    have hi5 : i = 0 ∨ i = 1 ∨ i = 2 ∨ i = 3 ∨ i = 4 := by omega
    rcases hi5 with rfl | rfl | rfl | rfl | rfl
    · rw [mI_Un (by omega), mI_Un (by omega), mI_Un (by omega), mI_Un (by omega), mI_Us]; rfl
    · rw [mI_Un (by omega), mI_Un (by omega), mI_Un (by omega), mI_Us]; rfl
    · rw [mI_Un (by omega), mI_Un (by omega), mI_Us]; rfl
    · rw [mI_Un (by omega), mI_Us]; rfl
    · rw [mI_Us]; rfl
  have n2 : ∀ k j, ¬ (k = 203 ∧ j = 0) → mI N k j = mI M k j := fun k j z => by rw [eN]; exact mI_Un z
  have H0 : gApq P b a T 0 := ⟨by rw [gP 203 2 (by omega), n2 203 2 (by omega), h1]; omega, fun j j0 j1 => by rw [gP 204 _ (by omega), n2 204 _ (by omega)]; exact h2 j j0 j1, fun j j0 j1 => by omega⟩
  have key : ∃ r, lp (fun s => fX14_feed_b63 s.2 K 5 s.1) lpN (0, P) = some r ∧ (gApq r b a T 20 ∧ Fr sTq P r) := by
    refine lpn 5 (by omega) (fun i s => s.1 = (i : Int) ∧ gApq s.2 b a T (4 * (i : Int)) ∧ Fr sTq P s.2) _ _ ?_ ?_ ?_
    · exact ⟨rfl, H0, Fr.refl _ _⟩
    · rintro i ⟨v, R⟩ hi ⟨hv, HR, f⟩
      have hv : v = (i : Int) := hv
      subst hv
      have HR : gApq R b a T (4 * (i : Int)) := HR
      have f : Fr sTq P R := f
      have hdR : axDy R K 5 := by
        unfold axDy
        show 244 ≤ K ∧ K < 150 + R.2.2.2.1 ∧ R.2.2.2.2.2 K = (32, 5)
        rw [f.1]
        exact hd5
      have ev : mI R K (i : Int).toNat = a i := by
        rw [f.2 K _ (by unfold sTq; omega), show (i : Int).toNat = i from rfl]
        exact pa i hi
      obtain ⟨R', r, HR', f'⟩ := Q_append (x8 := 0) (K := K) (x8' := 5) HR T0 (by omega)
      right
      refine ⟨((i : Int) + 1, R'), ?_, rfl, HR', f.trans f'⟩
      show fX14_feed_b63 R K 5 (i : Int) = _
      unfold fX14_feed_b63
      rw [if_pos (by omega), if_pos hdR, if_pos (by omega), ev, r, bd1_s]
    · rintro ⟨v, R⟩ ⟨hv, HR, f⟩
      have hv : v = ((5 : Nat) : Int) := hv
      subst hv
      refine ⟨R, ?_, HR, f⟩
      show fX14_feed_b63 R K 5 ((5 : Nat) : Int) = _
      unfold fX14_feed_b63
      rw [if_neg (by omega)]
  obtain ⟨R, r, ⟨g1, g2, g3⟩, f⟩ := key
  have zR : R.2 = L.2 := by rw [f.1, eP]
  refine ⟨R, ?_, ⟨⟨by omega, by omega, fun j hj => ?_⟩, by rw [g1], fun j j0 j1 => ?_⟩, fun k j hk z => ⟨?_, ?_⟩, ?_, ?_, ?_, ?_⟩
  · unfold fX14_feed
    rw [← eN, n2 203 2 (by omega), h1, wr_eq (by omega) (by omega), if_neg (by omega), if_pos (show 94 ≤ mSz N by omega), ← eK, ← eL, if_pos hd, if_pos hd1, if_pos hd2, if_pos hd3, if_pos hd4, if_pos (show axDy (mUI (mUI (mUI (mUI (mUI L K 0 a1) K 1 a2) K 2 a3) K 3 a4) K 4 a5) K 5 from hd), ← eP, r, bd1_s, g1]
  · unfold gbf
    rw [if_neg (by omega)]
    exact hb j (by omega)
  · rw [← ea]
    unfold gbf
    by_cases x : T ≤ j
    · rw [if_pos ⟨x, j1⟩]
      have := g3 (j - T) (by omega) (by omega)
      rw [show T + (j - T) = j by omega] at this
      exact this
    · rw [if_neg (by omega)]
      exact g2 j (by omega) (by omega)
  · have n : ¬ sTq k j := by unfold sQf at z; unfold sTq; omega
    rw [f.2 k j n, gP k j hk, n2 k j (by unfold sQf at z; omega)]
  · show R.2.1 k j = M.2.1 k j
    rw [f.1]
    exact gPR k j hk
  · rw [f.2 203 0 (by unfold sTq; omega), gP 203 0 (by omega), eN, mI_Us]
  · show R.2.2.2.1 = mSz M + 1
    rw [zR, eL, ← zN]
    rfl
  · show R.2.2.2.2.1 = mSl M + 5
    rw [zR, eL, eN]
    rfl
  · show R.2.2.1 243 0 = M.2.2.1 243 0
    rw [zR, eL]
    show (if 243 = axC + mSz N then 0 else mJ N 243 0) = mJ M 243 0
    rw [if_neg (by show ¬ 243 = 150 + mSz N; omega), eN]
end FED
