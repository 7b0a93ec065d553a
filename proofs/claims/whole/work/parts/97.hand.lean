/-! part C: the calls, one by one: stones by hand -/
def sM3 : Nat → Nat → Prop := fun k j => sMm k j ∨ k = 233 ∨ k = 234 ∨ (k = 203 ∧ j = 17)
section CL4
variable {M M1 M2 M3 N N' : ax_M} {q q' : Nat} {w h : Int} {o : Int → Int} {k T e : Int} {b : Int → Int} {p x y c : Int}
theorem gI.lay (I : gI N q q' w h o k b T e) (c0 : 0 ≤ c) (c1 : c < w * h) (hp : p = 0 ∨ p = 1) (ho : o c = 0) (P' : Pd N' w h (gput o c (p + 1))) (f : Fr sL N N') (h9 : mI N' 169 9 = mI N 169 9 + 1) (h8 : mI N' 169 8 = k + 1) (hc : mI N' 175 k.toNat = c) (hk : ∀ j : Int, 0 ≤ j → j ≠ k → mI N' 175 j.toNat = mI N 175 j.toNat) (F : Fx sM3 N' M3) (g17 : mI M3 203 17 = k + 1) (g233 : ∀ j : Int, 0 ≤ j → mI M3 233 j.toNat = if j = c then p else mI N 233 j.toNat) (g234 : ∀ j : Int, 0 ≤ j → mI M3 234 j.toNat = if j = k then c else mI N 234 j.toNat) : gI M3 q q' w h (gput o c (p + 1)) (k + 1) b T e := by
  obtain ⟨i1, i2, i3, i4, i5, i6, ⟨k0, k8, k17, kc, kl, kd⟩, ⟨i8, i9⟩, i10, i11⟩ := I
  have hq : q = 157 ∨ q = 194 := by have := i1.1; omega
  have hn := gOk_le i3.1
  have FX : Fx (fun k j => sL k j ∨ sM3 k j) N M3 := (f.x.mono (fun k j _ z => Or.inl z)).trans (F.mono (fun k j _ z => Or.inr z))
  have n9 : mI M3 169 9 = mI N' 169 9 := (F 169 9 (by omega) (by unfold sM3 sMm; omega)).1
  have l5 : ∀ j, mI M3 175 j = mI N' 175 j := fun j => (F 175 j (by omega) (by unfold sM3 sMm; omega)).1
  refine ⟨i1.x FX (fun k j z => by unfold sL sM3 sMm; omega), P'.x F (fun k j z => by unfold sM3 sMm; omega), ⟨i3.1, P'.2.1, ?_, ?_, fun j j0 j1 => ?_⟩, i4.n FX (fun k j z => by unfold sL sM3 sMm; omega) (by omega), i5.n FX (fun k j z => by unfold sL sM3 sMm; omega) (by omega), (i6.x FX (fun k j z => by unfold sL sM3 sMm; omega)).1, ⟨by omega, ?_, g17, ?_, fun j j0 j1 => ?_, fun i j ii ij j1 => ?_⟩, ⟨i8.x FX (fun k j z => by unfold sL sM3 sMm; omega), i9.x FX (fun k j z => by unfold sL sM3 sMm; omega)⟩, ?_, ?_⟩
  · rw [(FX 208 0 (by omega) (by unfold sL sM3 sMm; omega)).1]; exact i3.2.2.1
  · rw [(FX 208 1 (by omega) (by unfold sL sM3 sMm; omega)).1]; exact i3.2.2.2.1
  · rw [g233 j j0]
    by_cases ej : j = c
    · rw [if_pos ej, ej, gput_s]; omega
    · rw [if_neg ej, gput_n ej]; exact i3.2.2.2.2 j j0 j1
  · rw [(F 169 8 (by omega) (by unfold sM3 sMm; omega)).1]; exact h8
  · have g := gcn_add (P := fun c => o c ≠ 0) (Q := fun x => gput o c (p + 1) x ≠ 0) 81 c0 (by omega) (fun z => z ho) (by rw [gput_s]; omega) (fun x _ _ xe => by rw [gput_n xe])
    omega
  · rw [g234 j j0, l5]
    by_cases ej : j = k
    · rw [if_pos ej, ej, hc]
      exact ⟨rfl, c0, c1, by rw [gput_s]; omega⟩
    · rw [if_neg ej, hk j j0 ej]
      obtain ⟨y1, y2, y3, y4⟩ := kl j j0 (by omega)
      refine ⟨y1, y2, y3, ?_⟩
      rw [gput_n (fun z => y4 (by rw [z]; exact ho))]
      exact y4
  · rw [l5, l5, hk i ii (by omega)]
    obtain ⟨y1, y2, y3, y4⟩ := kl i ii (by omega)
    by_cases ej : j = k
    · rw [ej, hc]
      exact fun z => y4 (by rw [z]; exact ho)
    · rw [hk j (by omega) ej]
      exact kd i j ii ij (by omega)
  · rw [(FX 150 11 (by omega) (by unfold sL sM3 sMm; omega)).1]; exact i10
  · rw [(FX 203 3 (by omega) (by unfold sL sM3 sMm; omega)).1]; exact i11
theorem gI.lift (I : gI N q q' w h o k b T e) (k1 : 0 < k) (hc : mI N 175 (k - 1).toNat = c) (P' : Pd N' w h (gput o c 0)) (f : Fr sL N N') (h9 : mI N' 169 9 = mI N 169 9 + 1) (h8 : mI N' 169 8 = k - 1) (hk : ∀ j, mI N' 175 j = mI N 175 j) (F : Fx sM3 N' M3) (g17 : mI M3 203 17 = k - 1) (g233 : ∀ j : Int, 0 ≤ j → mI M3 233 j.toNat = if j = c then -1 else mI N 233 j.toNat) (g234 : ∀ j, mI M3 234 j = mI N 234 j) : gI M3 q q' w h (gput o c 0) (k - 1) b T e := by
  obtain ⟨i1, i2, i3, i4, i5, i6, ⟨k0, k8, k17, kc, kl, kd⟩, ⟨i8, i9⟩, i10, i11⟩ := I
  have hq : q = 157 ∨ q = 194 := by have := i1.1; omega
  have hn := gOk_le i3.1
  obtain ⟨y1, y2, y3, y4⟩ := kl (k - 1) (by omega) (by omega)
  rw [hc] at y1 y2 y3 y4
  have FX : Fx (fun k j => sL k j ∨ sM3 k j) N M3 := (f.x.mono (fun k j _ z => Or.inl z)).trans (F.mono (fun k j _ z => Or.inr z))
  have n9 : mI M3 169 9 = mI N' 169 9 := (F 169 9 (by omega) (by unfold sM3 sMm; omega)).1
  have l5 : ∀ j, mI M3 175 j = mI N 175 j := fun j => by rw [(F 175 j (by omega) (by unfold sM3 sMm; omega)).1, hk]
  have lc : ∀ j : Int, 0 ≤ j → j < k - 1 → mI N 175 j.toNat ≠ c := fun j j0 j1 => by
    have := kd j (k - 1) j0 j1 (by omega)
    rw [hc] at this
    exact this
  refine ⟨i1.x FX (fun k j z => by unfold sL sM3 sMm; omega), P'.x F (fun k j z => by unfold sM3 sMm; omega), ⟨i3.1, P'.2.1, ?_, ?_, fun j j0 j1 => ?_⟩, i4.n FX (fun k j z => by unfold sL sM3 sMm; omega) (by omega), i5.n FX (fun k j z => by unfold sL sM3 sMm; omega) (by omega), (i6.x FX (fun k j z => by unfold sL sM3 sMm; omega)).1, ⟨by omega, ?_, g17, ?_, fun j j0 j1 => ?_, fun i j ii ij j1 => ?_⟩, ⟨i8.x FX (fun k j z => by unfold sL sM3 sMm; omega), i9.x FX (fun k j z => by unfold sL sM3 sMm; omega)⟩, ?_, ?_⟩
  · rw [(FX 208 0 (by omega) (by unfold sL sM3 sMm; omega)).1]; exact i3.2.2.1
  · rw [(FX 208 1 (by omega) (by unfold sL sM3 sMm; omega)).1]; exact i3.2.2.2.1
  · rw [g233 j j0]
    by_cases ej : j = c
    · rw [if_pos ej, ej, gput_s]; rfl
    · rw [if_neg ej, gput_n ej]; exact i3.2.2.2.2 j j0 j1
  · rw [(F 169 8 (by omega) (by unfold sM3 sMm; omega)).1]; exact h8
  · have g := gcn_add (P := fun x => gput o c 0 x ≠ 0) (Q := fun c => o c ≠ 0) 81 y2 (by omega) (fun z => z gput_s) y4 (fun x _ _ xe => by rw [gput_n xe])
    omega
  · rw [g234, l5]
    obtain ⟨x1, x2, x3, x4⟩ := kl j j0 (by omega)
    exact ⟨x1, x2, x3, by rw [gput_n (lc j j0 j1)]; exact x4⟩
  · rw [l5, l5]
    exact kd i j ii ij (by omega)
  · rw [(FX 150 11 (by omega) (by unfold sL sM3 sMm; omega)).1]; exact i10
  · rw [(FX 203 3 (by omega) (by unfold sL sM3 sMm; omega)).1]; exact i11
theorem laid_81 (I : gI N q q' w h o k b T e) (c0 : 0 ≤ c) (c1 : c < w * h) (ho : o c = 0) : 0 ≤ k ∧ k < 81 := by
  have hn := gOk_le I.2.1.k
  have L := I.2.2.2.2.2.2.1
  have g := gcn_lt (P := fun c => o c ≠ 0) (c0 := c) 81 c0 (by omega) (fun z => z ho)
  have l1 := L.1
  have l2 := L.2.2.2.1
  omega
theorem Q_lay (P : Md M2 w h o) (c0 : 0 ≤ c) (c1 : c < 81) (h17 : mI M2 203 17 = k) (k0 : 0 ≤ k) (k1 : k < 81) : fX14_lay M2 c = some (gturn o, mUI (mUI (mUI M2 233 c.toNat (gturn o)) 234 k.toNat c) 203 17 (k + 1)) := by
  unfold fX14_lay
  rw [Q_turn P, bd1_s, if_pos ⟨c0, c1⟩, mI_Un (k := 233) (a := 203) (by omega), h17, if_pos ⟨k0, k1⟩, mI_Un (k := 234) (a := 203) (by omega), mI_Un (k := 233) (a := 203) (by omega), h17, wr_eq (by omega) (by omega)]
theorem K_layStone (I : gI M q q' w h o k b T e) (hz : 94 ≤ mSz M) (hch : 0 ≤ mI M 169 9 ∧ mI M 169 9 < 1000000000) (x y : Int) : gCx M (fL_layStone M x y) (fun M1 => fX14_layStone M1 x y) il := by
  by_cases z : 0 ≤ x ∧ x < w ∧ 0 ≤ y ∧ y < h
  · have c := gcell_b I.2.1.k z
    refine K_on I hz 2 (by decide) (fun N r => ?_) (fun M1 M2 I1 r => ?_) (fun N IN f A r hO yy => ?_)
    · unfold fL_layStone fX12_layStone
      rw [C_rc1 I.2.1 z, bdT_l, r, bdT_r, bdC_r, if_neg (by decide), if_pos rfl]
    · show fX14_layStone M1 x y = _
      unfold fX14_layStone
      rw [Q_on1 (I1.z 0).2.2.1 z, if_neg (by decide), r, bd2_s, if_neg (by decide)]
      rfl
    · have n9 := f.2 169 9 sU9
      by_cases ho : o (gCell w h x y) = 0
      · have kb := laid_81 IN c.1 c.2.1 ho
        have tb := gturn_b o
        have L := IN.2.2.2.2.2.2.1
        obtain ⟨N', r', P', f', h9', h8', hc', hk'⟩ := C_lay IN.2.1 c.1 c.2.1 tb (by omega) L.2.1 kb.1 kb.2
        obtain ⟨M1, e1⟩ : ∃ M1, M1 = mUJ N' 243 0 (il (gturn o)) := ⟨_, rfl⟩
        have F1 : Fx (fun _ _ => False) N' M1 := by rw [e1]; exact (Fx.refl _ N').uj 243 0 _
        have FN : Fx sL N M1 := f'.x.trans (F1.mono (fun _ _ _ z => z.elim))
        have PM : Md (mUI M1 203 0 0) w h o := Md_z (IN.2.2.1.x FN (fun k j z => by unfold sL; omega)) 0
        obtain ⟨M2, r2, f2⟩ := Q_over PM
        rw [if_pos yy] at r2
        have P2 : Md M2 w h o := PM.fr f2 sV_pond
        have f12 : Fr sMm M1 M2 := (sMm_z M1 0).trans (sV_mm f2)
        have g17 : mI M2 203 17 = k := by rw [f12.2 203 17 (by unfold sMm; omega), (FN 203 17 (by omega) (by unfold sL; omega)).1]; exact L.2.2.1
        have rl := Q_lay P2 c.1 (by omega) g17 kb.1 kb.2
        obtain ⟨M3, e3⟩ : ∃ M3, M3 = mUI (mUI (mUI M2 233 (gCell w h x y).toNat (gturn o)) 234 k.toNat (gCell w h x y)) 203 17 (k + 1) := ⟨_, rfl⟩
        have F3 : Fx sM3 M1 M3 := by
          rw [e3]
          have F12 : Fx sM3 M1 M2 := f12.x.mono (fun k j _ z => Or.inl z)
          refine Fx.up (Fx.up (Fx.up F12 ?_) ?_) ?_ <;> (unfold sM3; omega)
        have z3 : M3.2 = M1.2 := by rw [e3]; exact f12.1
        have zs : M3.2.2.2 = M.2.2.2 := by
          rw [z3, e1]
          show N'.2.2.2 = M.2.2.2
          rw [f'.1, f.1]
        have I3 := IN.lay c.1 c.2.1 tb ho P' f' h9' h8' hc' hk' ((F1.mono (fun _ _ _ z => z.elim)).trans F3) (M3 := M3) (by rw [e3, mI_Us]) (fun j j0 => by
          rw [e3, mI_Un (by omega), mI_Un (by omega), mI_Z _ _ _ c.1 j0]
          by_cases ej : j = gCell w h x y
          · rw [if_pos ej, if_pos ej]
          · rw [if_neg ej, if_neg ej, f12.2 233 _ (by unfold sMm; omega), (FN 233 _ (by omega) (by unfold sL; omega)).1]) (fun j j0 => by
          rw [e3, mI_Un (by omega), mI_Z _ _ _ kb.1 j0]
          by_cases ej : j = k
          · rw [if_pos ej, if_pos ej]
          · rw [if_neg ej, if_neg ej, mI_Un (by omega), f12.2 234 _ (by unfold sMm; omega), (FN 234 _ (by omega) (by unfold sL; omega)).1])
        have m9 : mI M3 169 9 = mI M 169 9 + 1 := by
          rw [(F3 169 9 (by omega) (by unfold sM3 sMm; omega)).1, (F1 169 9 (by omega) (fun z => z)).1]
          omega
        refine ⟨0, M1, gturn o, M3, ?_, ?_, ?_, fun _ => ?_, ⟨q, q', w, h, _, _, b, T, e, I3⟩, ?_, ?_, ?_, by omega, by omega⟩
        · unfold fL_layStone fX12_layStone
          rw [C_rc1 I.2.1 z, bdT_l, r, bdT_l, P_own IN.2.1, if_pos ho, C_turn IN.2.1, r', bd1_s, bdC_l, e1]
        · show fX14_layStone M1 x y = _
          unfold fX14_layStone
          rw [Q_on1 PM z, if_neg (by decide), r2, bd2_s, if_pos rfl, Q_at P2 z, if_pos ⟨c.1, by omega⟩, P2.2.2.2.2 _ c.1 (by omega), ho, if_pos (by decide), rl, bd2_s, ← e3]
        · rw [e3, mI_Un (by omega), mI_Un (by omega), mI_Un (by omega)]
          exact sV0 f2 (z0 M1)
        · show M3.2.2.1 243 0 = _
          rw [z3, e1]
          show ax_up (mJ N') 243 0 (il (gturn o)) 243 0 = _
          exact ax_up_s
        · show M.2.2.2.1 ≤ M3.2.2.2.1; rw [zs]; exact Nat.le_refl _
        · show M3.2.2.2.1 ≤ M.2.2.2.1 + 2; rw [zs]; omega
        · show M3.2.2.2.2.1 ≤ M.2.2.2.2.1 + 20; rw [zs]; omega
      · refine K_no IN hz (f22 f) (f9 f sU9) (c := 2) (t := 13) ?_ (by decide) (fun M1 I1 => ?_)
        · unfold fL_layStone fX12_layStone
          rw [C_rc1 I.2.1 z, bdT_l, r, bdT_l, P_own IN.2.1, if_neg ho, bdC_r, if_neg (by decide), if_pos rfl]
        · obtain ⟨M2, r2, f2, e0⟩ := hO M1 I1
          have P2 := (I1.mo f2).2.2.1
          refine ⟨0, mUI M2 203 0 2, ?_, mI_Us _ _ _ _, f2.trans (sMm_z M2 2)⟩
          show fX14_layStone M1 x y = _
          unfold fX14_layStone
          rw [Q_on1 (I1.z 0).2.2.1 z, if_neg (by decide), r2, bd2_s, if_pos rfl, Q_at P2 z, if_pos ⟨c.1, by omega⟩, P2.2.2.2.2 _ c.1 (by omega), if_neg (by omega)]
          rfl
  · refine K_no I hz rfl (nn9 M) (c := 1) (t := 15) ?_ (by decide) (fun M1 I1 => ⟨0, _, ?_, (no_z M1 1).1, (no_z M1 1).2⟩)
    · unfold fL_layStone fX12_layStone
      rw [C_rc0 I.2.1 z, bdT_r, bdC_r, if_pos rfl]
    · show fX14_layStone M1 x y = _
      unfold fX14_layStone
      rw [Q_on0 (I1.z 0).2.2.1 z, if_pos rfl, Q_no1]
theorem K_takeBack (I : gI M q q' w h o k b T e) (hz : 94 ≤ mSz M) (hch : 0 ≤ mI M 169 9 ∧ mI M 169 9 < 1000000000) : gCx M (fL_takeBack M) fX14_takeBack il := by
  have L := I.2.2.2.2.2.2.1
  have k0 := L.1
  by_cases kz : k = 0
  · refine K_no I hz rfl (nn9 M) (c := 1) (t := 13) ?_ (by decide) (fun M1 I1 => ⟨0, _, ?_, (no_z M1 1).1, (no_z M1 1).2⟩)
    · unfold fL_takeBack fX12_takeBack fX8_laidStones
      rw [L.2.1, if_pos kz, bdC_r, if_pos rfl]
    · unfold fX14_takeBack
      rw [mI_Un (M := M1) (k := 203) (j := 0) (a := 203) (b := 17) (by omega), I1.2.2.2.2.2.2.1.2.2.1, if_pos kz, Q_no1]
  · have hn := gOk_le I.2.1.k
    have gb := gcn_b (fun c => o c ≠ 0) 81
    have k81 := L.2.2.2.1
    obtain ⟨y1, y2, y3, y4⟩ := L.2.2.2.2.1 (k - 1) (by omega) (by omega)
    obtain ⟨c, hc⟩ : ∃ c, mI M 175 (k - 1).toNat = c := ⟨_, rfl⟩
    obtain ⟨N', r', P', f', h9', h8', hk'⟩ := C_lift I.2.1 (b := k - 1) (by omega) (by rw [L.2.1]; omega) (by omega) (by omega) y2 y3
    rw [hc] at y1 y2 y3 y4 r' P'
    obtain ⟨M1, e1⟩ : ∃ M1, M1 = mUJ N' 243 0 (il c) := ⟨_, rfl⟩
    have F1 : Fx (fun _ _ => False) M1 M1 := Fx.refl _ _
    have F0 : Fx (fun _ _ => False) N' M1 := by rw [e1]; exact (Fx.refl _ N').uj 243 0 _
    have FN : Fx sL M M1 := f'.x.trans (F0.mono (fun _ _ _ z => z.elim))
    obtain ⟨M3, e3⟩ : ∃ M3, M3 = mUI (mUI (mUI M1 203 0 0) 203 17 (k - 1)) 233 c.toNat (-1) := ⟨_, rfl⟩
    have F3 : Fx sM3 M1 M3 := by
      rw [e3]
      exact (((Fx.refl _ M1).up (Or.inl (by unfold sMm; omega))).up (Or.inr (Or.inr (Or.inr ⟨rfl, rfl⟩)))).up (Or.inr (Or.inl rfl))
    have z3 : M3.2 = M1.2 := by rw [e3]
    have zs : M3.2.2.2 = M.2.2.2 := by
      rw [z3, e1]
      show N'.2.2.2 = M.2.2.2
      rw [f'.1]
    have g17 : mI (mUI M1 203 0 0) 203 17 = k := by
      rw [mI_Un (by omega), (FN 203 17 (by omega) (by unfold sL; omega)).1]; exact L.2.2.1
    have g4 : ∀ j, mI M1 234 j = mI M 234 j := fun j => (FN 234 j (by omega) (by unfold sL; omega)).1
    have I3 := I.lift (by omega) hc P' f' h9' h8' hk' ((F0.mono (fun _ _ _ z => z.elim)).trans F3) (M3 := M3) (by rw [e3, mI_Un (by omega), mI_Us]) (fun j j0 => by
      rw [e3, mI_Z _ _ _ y2 j0]
      by_cases ej : j = c
      · rw [if_pos ej, if_pos ej]
      · rw [if_neg ej, if_neg ej, mI_Un (by omega), mI_Un (by omega), (FN 233 _ (by omega) (by unfold sL; omega)).1]) (fun j => by
      rw [e3, mI_Un (by omega), mI_Un (by omega), mI_Un (by omega), g4])
    have m9 : mI M3 169 9 = mI M 169 9 + 1 := by
      rw [(F3 169 9 (by omega) (by unfold sM3 sMm; omega)).1, (F0 169 9 (by omega) (fun z => z)).1]
      exact h9'
    have e17 : mI (mUI (mUI M1 203 0 0) 203 17 (k - 1)) 203 17 = k - 1 := mI_Us _ _ _ _
    have e234 : mI (mUI (mUI M1 203 0 0) 203 17 (k - 1)) 234 (k - 1).toNat = c := by rw [mI_Un (by omega), mI_Un (by omega), g4, y1]
    have e17' : mI M3 203 17 = k - 1 := by rw [e3, mI_Un (by omega), e17]
    have e234' : mI M3 234 (k - 1).toNat = c := by rw [e3, mI_Un (by omega), e234]
    refine ⟨0, M1, c, M3, ?_, ?_, ?_, fun _ => ?_, ⟨q, q', w, h, _, _, b, T, e, I3⟩, ?_, ?_, ?_, by omega, by omega⟩
    · unfold fL_takeBack fX12_takeBack fX8_laidStones
      rw [L.2.1, if_neg kz, r', bd2_s, bdC_l, e1]
    · unfold fX14_takeBack
      rw [g17, if_neg kz, wr_eq (by omega) (by omega), e17, if_pos (by omega), e234, if_pos ⟨y2, by omega⟩, ← e3, e17', if_pos (by omega), e234']
    · rw [e3, mI_Un (by omega), mI_Un (by omega)]
      exact z0 M1
    · show M3.2.2.1 243 0 = _
      rw [z3, e1]
      show ax_up (mJ N') 243 0 (il c) 243 0 = _
      exact ax_up_s
    · show M.2.2.2.1 ≤ M3.2.2.2.1; rw [zs]; exact Nat.le_refl _
    · show M3.2.2.2.1 ≤ M.2.2.2.1 + 2; rw [zs]; omega
    · show M3.2.2.2.2.1 ≤ M.2.2.2.2.1 + 20; rw [zs]; omega
end CL4
