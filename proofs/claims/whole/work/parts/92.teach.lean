/-! part C: a teaching, class and model -/
def gpre (ow : Int → Int) (n : Int) : Int → Int := fun c => if 0 ≤ c ∧ c < n then ow c else 0
theorem gpre_0 (ow : Int → Int) : gpre ow ((0 : Nat) : Int) = fun _ => 0 := funext (fun c => if_neg (by omega))
theorem gpre_s (ow : Int → Int) (i : Nat) : gput (gpre ow (i : Int)) (i : Int) (ow i) = gpre ow ((i + 1 : Nat) : Int) := by
  funext c
  unfold gpre
  by_cases e : c = (i : Int)
  · rw [e, gput_s, if_pos (by omega)]
  · rw [gput_n e]
    by_cases z : 0 ≤ c ∧ c < (i : Int)
    · rw [if_pos z, if_pos (by omega)]
    · rw [if_neg z, if_neg (by omega)]
def sTg : Nat → Nat → Prop := fun k j => (k = 150 ∧ (j = 9 ∨ j = 10)) ∨ (k = 169 ∧ (j = 0 ∨ j = 1 ∨ j = 8 ∨ j = 9)) ∨ (170 ≤ k ∧ k ≤ 174)
theorem gTA_0 {M : ax_M} (h : mI M 151 1 = 0) : gTA M (fun _ => -1) 0 := by
  refine ⟨⟨Int.le_refl _, by decide, fun _ _ => rfl⟩, h, fun j => ?_⟩
  unfold fX9_byteAt
  by_cases z : j < 0
  · rw [if_pos z]
  · rw [if_neg z, h, if_neg z]
theorem gTB_0 {M : ax_M} (h : mI M 203 2 = 0) : gTB M (fun _ => -1) 0 := ⟨⟨Int.le_refl _, by decide, fun _ _ => rfl⟩, h, fun j j0 j1 => by omega⟩
/-- how a game's reading ends -/
def gOd (r : Int) (q : Nat) (kd : Int → Nat) (vl : Int → Int) (n : Int) (A B : ax_M) : Prop := (r = -1 ∧ ∃ t c, gGm q kd vl n A B t c ∧ kd t = 49) ∨ (0 ≤ r ∧ r < n ∧ gDe q n A B r)
section TEA
variable {q q' : Nat} {M : ax_M} {w h : Int} {o : Int → Int} {k T e : Int} {b : Int → Int}
theorem C_taught {s : Int × Int × Int × (Int → Int)} (L : gMl M s) (ok : gOk s.1 s.2.1) (ow : ∀ j, s.2.2.2 j = 0 ∨ s.2.2.2 j = 1 ∨ s.2.2.2 j = 2) (hq : q = 157 ∨ q = 194) (hq' : q' = 157 ∨ q' = 194) (h9 : mR M 150 9 = some q) (h10 : mR M 150 10 = some q') (hch : 0 ≤ mI M 169 9 ∧ mI M 169 9 < 1000000000) : ∃ M', fX12_beginTaughtGame M = some M' ∧ Pd M' s.1 s.2.1 (gpre s.2.2.2 (s.1 * s.2.1)) ∧ Fr2 sTg M M' ∧ mR M' 150 9 = some q' ∧ mR M' 150 10 = some q ∧ mI M' 169 8 = 0 ∧ mI M 169 9 < mI M' 169 9 ∧ mI M' 169 9 ≤ mI M 169 9 + 82 := by
  have hk := gOk_le ok
  obtain ⟨l1, l2, l3, l4⟩ := L
  obtain ⟨w, hw⟩ : ∃ w, s.1 = w := ⟨_, rfl⟩
  obtain ⟨h, hh⟩ : ∃ h, s.2.1 = h := ⟨_, rfl⟩
  rw [hw, hh] at ok hk ⊢
  obtain ⟨M0, e0⟩ : ∃ M0, M0 = mUR (mUR M 150 10 (some q)) 150 9 (some q') := ⟨_, rfl⟩
  have f0 : Fr2 sTg M M0 := by
    rw [e0]
    exact Fr2.upR (Fr2.upR (Fr2.refl _ _) (Or.inl ⟨rfl, Or.inr rfl⟩)) (Or.inl ⟨rfl, Or.inl rfl⟩)
  have i0 : ∀ k j, mI M0 k j = mI M k j := fun k j => by rw [e0]
  obtain ⟨M1, r1, P1, f1, g8, g9⟩ := C_begin (M := M0) ok (by rw [i0]; omega)
  rw [i0] at g9
  have key : ∃ r, lp (fun s => fX12_beginTaughtGame_b41 s.2 s.1) lpN (0, M1) = some r ∧ (Pd r w h (gpre s.2.2.2 (w * h)) ∧ Fr sP M1 r ∧ mI r 169 9 = mI M1 169 9 + w * h) := by
    refine lpn (w * h).toNat (by omega) (fun i st => st.1 = (i : Int) ∧ Pd st.2 w h (gpre s.2.2.2 (i : Int)) ∧ Fr sP M1 st.2 ∧ mI st.2 169 9 = mI M1 169 9 + i) _ _ ?_ ?_ ?_
    · exact ⟨rfl, by rw [gpre_0]; exact P1, Fr.refl _ _, by show mI M1 169 9 = mI M1 169 9 + ((0 : Nat) : Int); omega⟩
    · rintro i ⟨v, N⟩ hi ⟨hv, P, f, z9⟩
      have hv : v = (i : Int) := hv
      subst hv
      have P : Pd N w h (gpre s.2.2.2 (i : Int)) := P
      have f : Fr sP M1 N := f
      have z9 : mI N 169 9 = mI M1 169 9 + i := z9
      right
      have gl : ∀ k j, k = 167 ∨ k = 168 → mI N k j = mI M k j := fun k j z => by
        rw [f.2 k j (by unfold sP; omega), f1.2 k j (by unfold sPb; omega), i0]
      have LN : gMl N s := ⟨by rw [gl _ _ (Or.inl rfl)]; exact l1, by rw [gl _ _ (Or.inl rfl)]; exact l2, by rw [gl _ _ (Or.inl rfl)]; exact l3, fun j j0 j1 => by rw [gl _ _ (Or.inr rfl)]; exact l4 j j0 j1⟩
      have eo : fX6_ownerAt N (i : Int) = s.2.2.2 (i : Int) := by
        rw [C_owner LN]
        unfold gMo
        rw [if_neg (by omega), if_pos (by omega)]
      obtain ⟨N', r, P', f', h9'⟩ := C_put P (c := (i : Int)) (v := s.2.2.2 (i : Int)) (by omega) (by omega) (ow _) (by omega)
      refine ⟨((i : Int) + 1, N'), ?_, rfl, by rw [← gpre_s]; exact P', f.trans f', ?_⟩
      · show fX12_beginTaughtGame_b41 N (i : Int) = _
        unfold fX12_beginTaughtGame_b41
        rw [P_cells P.1, if_pos (by omega), eo, r, bd1_s]
      · show mI N' 169 9 = mI M1 169 9 + ((i + 1 : Nat) : Int)
        omega
    · rintro ⟨v, N⟩ ⟨hv, P, f, z9⟩
      have hv : v = ((w * h).toNat : Int) := hv
      subst hv
      have P : Pd N w h (gpre s.2.2.2 ((w * h).toNat : Int)) := P
      have z9 : mI N 169 9 = mI M1 169 9 + ((w * h).toNat : Int) := z9
      refine ⟨N, ?_, by rw [show w * h = ((w * h).toNat : Int) by omega]; exact P, f, by omega⟩
      show fX12_beginTaughtGame_b41 N ((w * h).toNat : Int) = _
      unfold fX12_beginTaughtGame_b41
      rw [P_cells P.1, if_neg (by omega)]
  obtain ⟨M2, r2, P2, f2, z9⟩ := key
  have fr : Fr2 sTg M M2 := f0.trans ((f1.two.mono (fun k j z => by unfold sPb at z; unfold sTg; omega)).trans (f2.two.mono (fun k j z => by unfold sP at z; unfold sTg; omega)))
  have mr : ∀ k j, mR M2 k j = mR M0 k j := fun k j => by
    show M2.2.1 k j = M0.2.1 k j
    rw [f2.1, f1.1]
  refine ⟨M2, ?_, P2, fr, ?_, ?_, ?_, by omega, by omega⟩
  · unfold fX12_beginTaughtGame
    rw [h10]
    show (if (q' = 157 ∨ q' = 194) then (oq (mR M 150 9) none _) else none) = _
    rw [if_pos hq', h9]
    show (if (q = 157 ∨ q = 194) then _ else none) = _
    rw [if_pos hq]
    show bd1 (fX8_begin (mUR (mUR M 150 10 (some q)) 150 9 (some q')) (fX6_columns (mUR (mUR M 150 10 (some q)) 150 9 (some q'))) (fX6_rows (mUR (mUR M 150 10 (some q)) 150 9 (some q')))) _ = _
    rw [← e0]
    unfold fX6_columns fX6_rows
    rw [i0, i0, l1, l2, hw, hh, r1, bd1_s, r2, bd1_s]
  · rw [mr, e0]; exact mR_Us _ _ _ _
  · rw [mr, e0, mR_Un (by omega)]; exact mR_Us _ _ _ _
  · rw [f2.2 169 8 (by unfold sP; omega)]; exact g8
def sE (q' : Nat) : Nat → Nat → Prop := fun k j => (153 ≤ k ∧ k ≤ 156) ∨ (k = 151 ∧ j = 1) ∨ (k = 166 ∧ 1 ≤ j ∧ j ≤ 3) ∨ (q' ≤ k ∧ k ≤ q' + 8) ∨ k = 167 ∨ k = 168 ∨ (k = 150 ∧ j = 11)
def sMo : Nat → Nat → Prop := fun k j => (k = 203 ∧ (j = 0 ∨ (7 ≤ j ∧ j ≤ 11))) ∨ (205 ≤ k ∧ k ≤ 207) ∨ (220 ≤ k ∧ k ≤ 231)
def sEE (q' : Nat) : Nat → Nat → Prop := fun k j => sE q' k j ∨ sMo k j ∨ (k = 203 ∧ (j = 2 ∨ j = 3))
theorem C_teach (I : gI M q q' w h o k b T e) (hch : 0 ≤ mI M 169 9 ∧ mI M 169 9 < 1000000000) : ∃ r M1 M2, fX12_teach M = some (r, M1) ∧ fX14_teach M1 = some (r, M2) ∧ M2.2.2 = M.2.2 ∧ (mI M 169 9 ≤ mI M2 169 9 ∧ mI M2 169 9 ≤ mI M 169 9 + 100) ∧ ∃ q q' w h o k b T e, gI M2 q q' w h o k b T e := by
  obtain ⟨⟨hqq, R9, R10⟩, iP, iM, iW, iB, iPl, iL, ⟨iTA, iTB⟩, iE, iE'⟩ := I
  have hq : q = 157 ∨ q = 194 := by omega
  have hq' : q' = 157 ∨ q' = 194 := by omega
  have hT := iTA.1
  obtain ⟨Mr, n, r1, f1, tkA⟩ := C_read iTA
  have n1 := tkA.1.1
  have n4 := tkA.1.2.1
  have S := tk_st hT tkA
  have tmb := fun (B : ax_M) (hB : gTokB B b T n) => tk_mb tkA hB
  have hkm : fX10_kindOf Mr (-1) = 49 := tk_out tkA (Or.inl (by decide))
  obtain ⟨kd, hkd⟩ : ∃ kd, kd = fX10_kindOf Mr := ⟨_, rfl⟩
  obtain ⟨vl, hvl⟩ : ∃ vl, vl = fX10_valueOf Mr := ⟨_, rfl⟩
  rw [← hkd, ← hvl] at S tmb
  rw [← hkd] at hkm
  obtain ⟨A, eA⟩ : ∃ A, A = mUI Mr 151 1 0 := ⟨_, rfl⟩
  have gA : ∀ k j, ¬ (k = 151 ∧ j = 1) → mI A k j = mI Mr k j := fun k j z => by rw [eA]; exact mI_Un z
  have gAR : ∀ k j, mR A k j = mR Mr k j := fun k j => by rw [eA]
  have k1 : ∀ t, fX10_kindOf A t = kd t := fun t => by
    rw [hkd]
    unfold fX10_kindOf
    rw [gA 153 3 (by omega), gAR]
  have k2 : ∀ t, fX10_valueOf A t = vl t := fun t => by
    rw [hvl]
    unfold fX10_valueOf
    rw [gA 156 _ (by omega)]
  have fMr : Fr2 (sE q') M Mr := f1.mono (fun k j z => by unfold sT at z; unfold sE; omega)
  have fA0 : Fr2 (sE q') M A := by
    rw [eA]
    exact fMr.up (by unfold sE; omega)
  have game := fun (B : ax_M) (h1 : gMB kd vl n B) (h2 : gB0 B) => L_game (A := A) hq' S k1 k2 (by omega) h1 h2
  obtain ⟨_, B0, _, _, _, gb0, tkB0⟩ := Q_start iTB tkA.1
  obtain ⟨A', B0', r, rA, _, fA, _, _, o0⟩ := game B0 (tmb B0 tkB0) gb0
  replace o0 : gOd r q' kd vl n A' B0' := o0
  have fA' : Fr2 (sE q') M A' := fA0.trans (fA.mono (fun k j z => by unfold sGQ at z; unfold sE; omega))
  have model : ∀ M1 : ax_M, gTB M1 b T → ∃ Mx B B', fX13_begin (mUI (mUI (mUI (mUI (mUI M1 203 0 0) 203 7 0) 203 8 0) 203 9 0) 203 11 0) 220 = some Mx ∧ fX14_readAll Mx = some B ∧ fX14_game B = some B' ∧ Fr sMo M1 B' ∧ gQo B' ∧ (∀ t : Nat, t < n → mI B' 207 t = gS0 b t) ∧ gOd r q' kd vl n A' B' := by
    intro M1 hb
    obtain ⟨Mx, B, x1, x2, fB, gb, tkB⟩ := Q_start hb tkA.1
    obtain ⟨A2, B', r2, rA2, x3, fA2, fB2, qo, o2⟩ := game B (tmb B tkB) gb
    rw [rA] at rA2
    cases rA2
    replace o2 : gOd r q' kd vl n A' B' := o2
    exact ⟨Mx, B, B', x1, x2, x3, (fB.mono (fun k j z => by unfold sQs at z; unfold sMo; omega)).trans (fB2.mono (fun k j z => by unfold sGg at z; unfold sMo; omega)), qo, fun t ht => by rw [fB2.2 207 _ (by unfold sGg; omega)]; exact tk_pos tkB ht, o2⟩
  have cls : ∀ X, (if r = (-1) then (bd2 (fX6_firstError A') fun v115 M114 => (if v115 = 0 then (bd1 (fX12_beginTaughtGame (mUI M114 150 11 (-1))) fun M119 => (some (v115, M119))) else (some (v115, (mUI M114 150 11 (fX10_startOf M114 (fX6_wrongToken M114))))))) else (some (1, (mUI A' 150 11 (fX10_startOf A' r))))) = X → fX12_teach M = X := by
    intro X hX
    unfold fX12_teach
    rw [r1, bd1_s]
    unfold fX9_shorten
    rw [bd1_s, ← eA, gAR, (f1.1 150 10 (by unfold sT; omega)).2, R10]
    show (if (q' = 157 ∨ q' = 194) then (bd2 (fX3_firstWrong A q') _) else none) = _
    rw [if_pos hq', rA, bd2_s]
    exact hX
  have start : ∀ (N : ax_M) (x : Nat), x < n → (∀ j, mI N 155 j = mI Mr 155 j) → fX10_startOf N (x : Int) = gS0 b x := by
    intro N x hx hN
    rw [← tk_start tkA hx]
    unfold fX10_startOf
    rw [hN]
  have fin : ∀ (N : ax_M) (x : Nat) (r0 : Int), x < n → r0 ≠ 0 → Fr2 (sE q') M N → mI N 151 1 = 0 → (∀ B' : ax_M, gOd r q' kd vl n A' B' → mI B' 203 9 = r0 ∧ mI B' 203 10 = (x : Int)) → ∃ M2, fX14_teach (mUI N 150 11 (gS0 b x)) = some (r0, M2) ∧ M2.2.2 = M.2.2 ∧ (mI M 169 9 ≤ mI M2 169 9 ∧ mI M2 169 9 ≤ mI M 169 9 + 100) ∧ ∃ q q' w h o k b T e, gI M2 q q' w h o k b T e := by
    intro N x r0 hx hr0 fN t0 hB
    have fN1 : Fr2 (sE q') M (mUI N 150 11 (gS0 b x)) := fN.up (by unfold sE; omega)
    obtain ⟨Mx, B, B', x1, x2, x3, fB, qo, ps, od⟩ := model (mUI N 150 11 (gS0 b x)) (iTB.x fN1.x (fun k j z => by unfold sE; omega))
    obtain ⟨e9, e10⟩ := hB B' od
    have c9 : mI (mUI B' 203 2 0) 203 9 = r0 := by rw [mI_Un (by omega)]; exact e9
    have c10 : mI (mUI B' 203 2 0) 203 10 = (x : Int) := by rw [mI_Un (by omega)]; exact e10
    have c7 : mI (mUI B' 203 2 0) 207 (Int.toNat (x : Int)) = gS0 b x := by rw [mI_Un (by omega)]; exact ps x hx
    have c9' : mI (mUI (mUI B' 203 2 0) 203 3 (gS0 b x)) 203 9 = r0 := by rw [mI_Un (by omega)]; exact c9
    have FX : Fx (sEE q') M (mUI (mUI B' 203 2 0) 203 3 (gS0 b x)) := (((fN1.x.mono (fun k j _ z => Or.inl z)).trans (fB.x.mono (fun k j _ z => Or.inr (Or.inl z)))).up (Or.inr (Or.inr ⟨rfl, Or.inl rfl⟩))).up (Or.inr (Or.inr ⟨rfl, Or.inr rfl⟩))
    have n9 : mI (mUI (mUI B' 203 2 0) 203 3 (gS0 b x)) 169 9 = mI M 169 9 := (FX 169 9 (by omega) (by unfold sEE sE sMo; omega)).1
    refine ⟨mUI (mUI B' 203 2 0) 203 3 (gS0 b x), ?_, ?_, ⟨by omega, by omega⟩, q, q', w, h, o, k, (fun _ => -1), 0, gS0 b x, ?_⟩
    · unfold fX14_teach
      rw [x1, bd1_s, x2, bd1_s, x3, bd1_s, c9, if_neg hr0, c10, if_pos (show 0 ≤ (x : Int) ∧ (x : Int) < 402 by omega), c7, c9', if_neg hr0]
    · show B'.2.2 = M.2.2
      rw [fB.1]
      exact fN1.2
    · refine ⟨⟨hqq, ?_, ?_⟩, iP.x FX (fun k j z => ?_), iM.x FX (fun k j z => ?_), iW.x FX (fun k j z => ?_), iB.x FX (fun k j z => ?_), (iPl.x FX (fun k j z => ?_)).1, iL.x FX (fun k j z => ?_), ⟨gTA_0 ?_, gTB_0 ?_⟩, ?_, ?_⟩
      · rw [(FX 150 9 (by omega) (by unfold sEE sE sMo; omega)).2]; exact R9
      · rw [(FX 150 10 (by omega) (by unfold sEE sE sMo; omega)).2]; exact R10
      · unfold sEE sE sMo; omega
      · unfold sEE sE sMo; omega
      · unfold sEE sE sMo; omega
      · unfold sEE sE sMo; omega
      · unfold sEE sE sMo; omega
      · unfold sEE sE sMo; omega
      · rw [mI_Un (by omega), mI_Un (by omega), fB.2 151 1 (by unfold sMo; omega), mI_Un (by omega)]; exact t0
      · rw [mI_Un (by omega), mI_Us]
      · rw [mI_Un (by omega), mI_Un (by omega), fB.2 150 11 (by unfold sMo; omega), mI_Us]
      · rw [mI_Us]
  have a151 : mI A' 151 1 = 0 := by rw [(fA.1 151 1 (by unfold sGQ; omega)).1, eA, mI_Us]
  have a155 : ∀ j, mI A' 155 j = mI Mr 155 j := fun j => by rw [(fA.1 155 j (by unfold sGQ; omega)).1, gA 155 j (by omega)]
  rcases o0 with ⟨hr, t', c', G, k49⟩ | ⟨r0, rn, D⟩
  · have tk : gTk kd vl n A' := by
      refine ⟨G.1.1, G.1.2.1, ?_⟩
      rw [(fA.1 153 3 (by unfold sGQ; omega)).1, gA 153 3 (by omega)]
      exact tkA.2.1
    obtain ⟨N, rf, w5, ff, gl⟩ := C_first tk (by omega) (by omega)
    rw [show ((n : Nat) : Int).toNat = n from rfl] at rf w5 gl
    have fN : Fr2 (sE q') M N := fA'.trans (ff.mono (fun k j z => by unfold sMe at z; unfold sE; omega))
    have n155 : ∀ j, mI N 155 j = mI Mr 155 j := fun j => by rw [(ff.1 155 j (by unfold sMe; omega)).1]; exact a155 j
    have n151 : mI N 151 1 = 0 := by rw [(ff.1 151 1 (by unfold sMe; omega)).1]; exact a151
    have key : ∀ B' : ax_M, gOd r q' kd vl n A' B' → gMk kd vl n B' ∧ ∃ t' c', gGm q' kd vl n A' B' t' c' := by
      rintro B' (⟨_, t, c, G', k9⟩ | ⟨r0, _⟩)
      · have L := G'.2.2.1
        have t0 : 0 ≤ t := L.2.2.1
        have tn : t < n := L.2.2.2.1
        have et : t = (n : Int) - 1 := by
          by_cases z : t < (n : Int) - 1
          · have := S.2.2.1 t t0 z
            omega
          · omega
        have K := G'.2.2.2.1.skip t0 (by omega) (by omega)
        rw [et, show (n : Int) - 1 + 1 = n by omega] at K
        exact ⟨K, t, c, G'⟩
      · omega
    by_cases z : (gMR kd vl n).1 = 0
    · obtain ⟨s, hs⟩ : ∃ s, s = (gMR kd vl n).2.2 := ⟨_, rfl⟩
      rw [← hs] at gl
      have ow : ∀ j, s.2.2.2 j = 0 ∨ s.2.2.2 j = 1 ∨ s.2.2.2 j = 2 := fun j => by rw [hs]; exact gMR_ow n j
      obtain ⟨K0, _⟩ := key B0' (Or.inl ⟨hr, t', c', G, k49⟩)
      have Q0 := K0.2.2 z
      rw [show ((n : Nat) : Int).toNat = n from rfl, ← hs] at Q0
      have ok : gOk s.1 s.2.1 := ⟨Q0.2.2.2.2.1, Q0.2.2.2.2.2.1, Q0.2.2.2.2.2.2.1, Q0.2.2.2.2.2.2.2.1⟩
      have hk := gOk_le ok
      have fN1 : Fr2 (sE q') M (mUI N 150 11 (-1)) := fN.up (by unfold sE; omega)
      have i9 : mI (mUI N 150 11 (-1)) 169 9 = mI M 169 9 := (fN1.1 169 9 (by unfold sE; omega)).1
      obtain ⟨M1, rb, P1, fb, g9, g10, g8, c1, c2⟩ := C_taught (M := mUI N 150 11 (-1)) (q := q) (q' := q') (s := s) ⟨by rw [mI_Un (by omega)]; exact gl.1, by rw [mI_Un (by omega)]; exact gl.2.1, by rw [mI_Un (by omega)]; exact gl.2.2.1, fun j j0 j1 => by rw [mI_Un (by omega)]; exact gl.2.2.2 j j0 j1⟩ ok ow hq hq' (by rw [(fN1.1 150 9 (by unfold sE; omega)).2]; exact R9) (by rw [(fN1.1 150 10 (by unfold sE; omega)).2]; exact R10) (by omega)
      rw [i9] at c1 c2
      have fM1 : Fx (fun k j => sE q' k j ∨ sTg k j) M M1 := (fN1.x.mono (fun k j _ y => Or.inl y)).trans (fb.x.mono (fun k j _ y => Or.inr y))
      obtain ⟨Mx, B, B', x1, x2, x3, fB, qo, _, od⟩ := model M1 (iTB.x fM1 (fun k j y => by unfold sE sTg; omega))
      obtain ⟨K, t, c, G'⟩ := key B' od
      have Q := K.2.2 z
      rw [show ((n : Nat) : Int).toNat = n from rfl, ← hs] at Q
      have e9 : mI B' 203 9 = 0 := K.1.trans z
      obtain ⟨C, eC⟩ : ∃ C, C = mUI (mUI B' 203 2 0) 203 3 (-1) := ⟨_, rfl⟩
      have gC : ∀ k j, ¬ (k = 203 ∧ (j = 2 ∨ j = 3)) → mI C k j = mI B' k j := fun k j y => by rw [eC, mI_Un (by omega), mI_Un (by omega)]
      obtain ⟨D, rd, fD, ⟨d0, d1, d3⟩, d9, dr, dn⟩ := Q_become C
      obtain ⟨M2, e2⟩ : ∃ M2, M2 = mUI (mCp D 209 233 81) 203 17 0 := ⟨_, rfl⟩
      have g2 : ∀ k j, k ≠ 233 → ¬ (k = 203 ∧ j = 17) → mI M2 k j = mI D k j := fun k j y1 y2 => by rw [e2, mI_Un y2, mI_C, if_neg (by omega)]
      have g2B : ∀ k j, k < 208 → ¬ (k = 203 ∧ (j = 2 ∨ j = 3 ∨ j = 17)) → mI M2 k j = mI B' k j := fun k j y1 y2 => by rw [g2 k j (by omega) (by omega), fD.2 k j (by unfold sBc; omega), gC k j (by omega)]
      have g21 : ∀ k j, k < 203 → mI M2 k j = mI M1 k j := fun k j y => by rw [g2B k j (by omega) (by omega), fB.2 k j (by unfold sMo; omega)]
      have r2 : M2.2 = M1.2 := by
        rw [e2]
        show D.2 = M1.2
        rw [fD.1, eC]
        exact fB.1
      have r21 : ∀ k j, mR M2 k j = mR M1 k j := fun k j => by
        show M2.2.1 k j = M1.2.1 k j
        rw [r2]
      have F1 : Fx (fun k _ => 203 ≤ k) M1 M2 := fun k j _ y => ⟨g21 k j (by omega), r21 k j⟩
      have FM : Fx (fun k j => sE q' k j ∨ sTg k j ∨ 203 ≤ k) M M2 := (fM1.mono (fun k j _ y => y.elim Or.inl (fun x => Or.inr (Or.inl x)))).trans (F1.mono (fun k j _ y => Or.inr (Or.inr y)))
      have n9 : mI M2 169 9 = mI M1 169 9 := g21 169 9 (by omega)
      have rr : fX14_teach M1 = some (0, M2) := by
        unfold fX14_teach
        rw [x1, bd1_s, x2, bd1_s, x3, bd1_s, if_pos (show mI (mUI B' 203 2 0) 203 9 = 0 by rw [mI_Un (by omega)]; exact e9), if_pos (show mI (mUI (mUI B' 203 2 0) 203 3 (-1)) 203 9 = 0 by rw [mI_Un (by omega), mI_Un (by omega)]; exact e9), ← eC, rd, bd1_s, ← e2]
      have qA : ∀ k j, q' ≤ k → k ≤ q' + 8 → mI M2 k j = mI A' k j ∧ mR M2 k j = mR A' k j := fun k j y0 y1 => by
        rw [g21 k j (by omega), r21 k j, (fb.1 k j (by unfold sTg; omega)).1, (fb.1 k j (by unfold sTg; omega)).2, mI_Un (by omega)]
        exact ff.1 k j (by unfold sMe; omega)
      have p3 : mI M2 208 3 = mI B' 220 3 := by rw [g2 208 3 (by omega) (by omega), d3, gC 220 3 (by omega)]
      have L := G'.2.2.1
      obtain ⟨_, _, _, _, _, ⟨p0, p1⟩, h9, hp, h16⟩ := G'
      have pm : mI B' 220 3 ≤ 16 := by
        by_cases y : 16 < mI B' 220 3
        · exact absurd e9 (h16 y)
        · omega
      have q9 : mI M2 q' 9 = mI B' 220 3 := by
        rw [(qA q' 9 (by omega) (by omega)).1, h9]
        by_cases y : mI B' 220 3 < 16
        · rw [if_pos y]
        · rw [if_neg y]; omega
      have q2 : mI M2 q' 2 = c := (qA q' 2 (by omega) (by omega)).1.trans L.1.2.2
      have c4 : c ≤ 400 := by
        have y1 : c ≤ t := L.2.2.2.2.2.1
        have y2 : t < (n : Int) := L.2.2.2.1
        omega
      refine ⟨0, M1, M2, cls _ ?_, rr, ?_, ⟨by omega, by omega⟩, q', q, s.1, s.2.1, gpre s.2.2.2 (s.1 * s.2.1), 0, (fun _ => -1), 0, -1, ⟨by omega, ?_, ?_⟩, ?_, ?_, ?_, ?_, ?_, ?_, ⟨gTA_0 ?_, gTB_0 ?_⟩, ?_, ?_⟩
      · rw [if_pos hr, rf, bd2_s, z, if_pos rfl, rb, bd1_s]
      · rw [r2, fb.2]
        exact fN1.2
      · rw [r21]; exact g9
      · rw [r21]; exact g10
      · exact P1.x F1 (fun k j y => by omega)
      · refine ⟨ok, P1.2.1, ?_, ?_, fun j j0 j1 => ?_⟩
        · rw [g2 208 0 (by omega) (by omega), d0, gC 220 0 (by omega)]; exact Q.1
        · rw [g2 208 1 (by omega) (by omega), d1, gC 220 1 (by omega)]; exact Q.2.1
        · have e3 : mI M2 233 j.toNat = mI B' 221 j.toNat := by rw [e2, mI_Un (by omega), mI_C, if_pos ⟨rfl, by omega⟩, d9 _ (by omega), gC 221 _ (by omega)]
          rw [e3]
          unfold gpre
          by_cases y : 0 ≤ j ∧ j < s.1 * s.2.1
          · rw [if_pos y]; exact Q.2.2.2.1 j j0 j1
          · rw [if_neg y, qo j j0 (by rw [Q.1, Q.2.1]; omega) j1]; rfl
      · exact iW.n FM (fun k j y => by unfold sE sTg; omega) (by omega)
      · exact iB.n FM (fun k j y => by unfold sE sTg; omega) (by omega)
      · refine ⟨hq', by rw [q9, p3], by omega, by omega, fun i i0 i1 => ?_⟩
        obtain ⟨z1, z2⟩ := hp i.toNat (by omega) (by omega)
        have R := z1.to (M := M2) (c := c) hq' (by omega) z2 q2 c4 (fun j _ => ⟨(qA _ j (by omega) (by omega)).2, (qA _ j (by omega) (by omega)).1⟩) (fun k j y0 y1 => qA k j (by omega) y1) (fun k j y0 y1 hj => by rw [g2 k j (by omega) (by omega), dr k j y0 y1 hj, gC (k + 12) j (by omega)]) (fun k j y0 y1 hj => by rw [g2 k j (by omega) (by omega), dn k j y0 y1 hj, gC (k + 12) j (by omega)])
        rw [show ((i.toNat : Nat) : Int) = i by omega] at R
        exact R
      · refine ⟨Int.le_refl _, ?_, ?_, (gcn_b _ 81).1, fun j j0 j1 => by omega, fun i j i0 ij j1 => by omega⟩
        · rw [g21 169 8 (by omega)]; exact g8
        · rw [e2, mI_Us]
      · rw [g21 151 1 (by omega), (fb.1 151 1 (by unfold sTg; omega)).1, mI_Un (by omega)]; exact n151
      · rw [g2 203 2 (by omega) (by omega), fD.2 203 2 (by unfold sBc; omega), eC, mI_Un (by omega), mI_Us]
      · rw [g21 150 11 (by omega), (fb.1 150 11 (by unfold sTg; omega)).1, mI_Us]
      · rw [g2 203 3 (by omega) (by omega), fD.2 203 3 (by unfold sBc; omega), eC, mI_Us]
    · have tk := gMR_tok n z
      obtain ⟨M2, y1, y2⟩ := fin N (gMR kd vl n).2.1.toNat (gMR kd vl n).1 (by omega) z fN n151 (fun B' od => by
        obtain ⟨K, _⟩ := key B' od
        refine ⟨K.1, ?_⟩
        rw [K.2.1 z, show ((n : Nat) : Int).toNat = n from rfl]
        omega)
      refine ⟨(gMR kd vl n).1, _, M2, cls _ ?_, y1, y2⟩
      rw [if_pos hr, rf, bd2_s, if_neg z]
      unfold fX6_wrongToken
      rw [w5, show (gMR kd vl n).2.1 = ((gMR kd vl n).2.1.toNat : Int) by omega, start N _ (by omega) n155, show (((gMR kd vl n).2.1.toNat : Int)).toNat = (gMR kd vl n).2.1.toNat from rfl]
  · obtain ⟨M2, y1, y2⟩ := fin A' r.toNat 1 (by omega) (by decide) fA' a151 (fun B' od => by
      rcases od with ⟨z, _⟩ | ⟨_, _, D'⟩
      · omega
      · refine ⟨D'.2.1.2.1, ?_⟩
        rw [D'.2.1.2.2.1]
        omega)
    refine ⟨1, _, M2, cls _ ?_, y1, y2⟩
    rw [if_neg (by omega), show r = (r.toNat : Int) by omega, start A' _ (by omega) a155, show ((r.toNat : Int)).toNat = r.toNat from rfl]
end TEA
