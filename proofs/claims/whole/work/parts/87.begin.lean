/-! part C: a pond begins -/
def sPc : Nat → Nat → Prop := fun k _ => 171 ≤ k ∧ k ≤ 173
def sPb : Nat → Nat → Prop := fun k j => (k = 169 ∧ (j = 0 ∨ j = 1 ∨ j = 8 ∨ j = 9)) ∨ (170 ≤ k ∧ k ≤ 174)
def gPlc (M : ax_M) (w h c : Int) : Prop := mI M 172 c.toNat = c % w ∧ mI M 173 c.toNat = c / w ∧ ∀ s : Int, 0 ≤ s → s < 6 → mI M 171 (c * 6 + s).toNat = gbs w h c s
section BEG
variable {M : ax_M} {w h : Int}
theorem C_place (k : gOk w h) (hw : mI M 169 0 = w) (hh : mI M 169 1 = h) {x y : Int} (x0 : 0 ≤ x) (x1 : x < w) (y0 : 0 ≤ y) (y1 : y < h) : ∃ M', fX8_placeCell M x y = some M' ∧ Fr sPc M M' ∧ ∀ c : Int, 0 ≤ c → c < w * h → ((c / w = y ∧ c % w = x) ∨ gPlc M w h c) → gPlc M' w h c := by
  obtain ⟨e, c0, c1, ex, ey⟩ := gC_on k x0 x1 y0 y1
  have hk := gOk_le k
  have h1 : 0 ≤ w * y := Int.mul_nonneg (by omega) y0
  obtain ⟨c, hc⟩ : ∃ c, w * y + x = c := ⟨_, rfl⟩
  rw [e, hc] at c0 c1 ex ey
  obtain ⟨k1, k2, k3, k4⟩ := k
  have key : ∃ r, lp (fun s => fX8_placeCell_b37 s.2 x y c s.1) lpN (0, (mUI (mUI M 172 c.toNat x) 173 c.toNat y)) = some r ∧ (Fr sPc M r ∧ (mI r 172 c.toNat = x ∧ mI r 173 c.toNat = y) ∧ (∀ s : Int, 0 ≤ s → s < 6 → mI r 171 (c * 6 + s).toNat = gbs w h c s) ∧ ∀ (a j : Nat), ¬ (a = 171 ∧ c * 6 ≤ (j : Int) ∧ (j : Int) < c * 6 + 6) → ¬ ((a = 172 ∨ a = 173) ∧ (j : Int) = c) → mI r a j = mI M a j) := by
    refine lpn 6 (by omega) (fun i s => s.1 = (i : Int) ∧ Fr sPc M s.2 ∧ (mI s.2 172 c.toNat = x ∧ mI s.2 173 c.toNat = y) ∧ (∀ t : Int, 0 ≤ t → t < i → mI s.2 171 (c * 6 + t).toNat = gbs w h c t) ∧ ∀ (a j : Nat), ¬ (a = 171 ∧ c * 6 ≤ (j : Int) ∧ (j : Int) < c * 6 + 6) → ¬ ((a = 172 ∨ a = 173) ∧ (j : Int) = c) → mI s.2 a j = mI M a j) _ _ ?_ ?_ ?_
    · refine ⟨rfl, ((Fr.refl sPc M).up (by unfold sPc; omega)).up (by unfold sPc; omega), ⟨by rw [mI_Un (by omega), mI_Us], mI_Us _ _ _ _⟩, fun t t0 t1 => by omega, fun a j n1 n2 => ?_⟩
      rw [mI_Un (by omega), mI_Un (by omega)]
    · rintro i ⟨v, N⟩ hi ⟨hv, f, ⟨p1, p2⟩, p3, p4⟩
      have hv : v = (i : Int) := hv
      subst hv
      right
      have f : Fr sPc M N := f
      have hw' : mI N 169 0 = w := by rw [f.2 169 0 (by unfold sPc; omega)]; exact hw
      have hh' : mI N 169 1 = h := by rw [f.2 169 1 (by unfold sPc; omega)]; exact hh
      obtain ⟨d1, d2, d3, d4⟩ := gdb (i : Int)
      have g1 := gA1 (s := (i : Int)) (by omega) (by omega)
      refine ⟨((i : Int) + 1, mUI N 171 (c * 6 + i).toNat (gbs w h c i)), ?_, ?_⟩
      · show fX8_placeCell_b37 N x y c (i : Int) = _
        unfold fX8_placeCell_b37
        rw [if_pos (by omega), if_pos ⟨by omega, by omega⟩, wr_eq (x := c * 6) (by omega) (by omega), wr_eq (x := c * 6 + i) (by omega) (by omega), if_pos (by omega), g1.1, g1.2, wr_eq (x := x + gdx i) (by omega) (by omega), wr_eq (x := y + gdy i) (by omega) (by omega), C_cellAt hw' hh' k2 k4, gbs_on c0 c1 (by omega) (by omega), ex, ey]
      · refine ⟨rfl, f.up (by unfold sPc; omega), ⟨by rw [mI_Un (by omega)]; exact p1, by rw [mI_Un (by omega)]; exact p2⟩, fun t t0 t1 => ?_, fun a j n1 n2 => ?_⟩
        · have t1 : t < ((i + 1 : Nat) : Int) := t1
          rw [mI_Z _ _ _ (by omega) (by omega)]
          by_cases et : t = i
          · rw [if_pos (by omega), et]
          · rw [if_neg (by omega)]
            exact p3 t t0 (by omega)
        · rw [mI_Un (by omega)]
          exact p4 a j n1 n2
    · rintro ⟨v, N⟩ ⟨hv, f, p⟩
      have hv : v = ((6 : Nat) : Int) := hv
      subst hv
      refine ⟨N, ?_, f, p.1, fun s s0 s1 => p.2.1 s s0 s1, p.2.2⟩
      show fX8_placeCell_b37 N x y c ((6 : Nat) : Int) = _
      unfold fX8_placeCell_b37
      rw [if_neg (by omega)]
  obtain ⟨M', r, f, ⟨p1, p2⟩, p3, p4⟩ := key
  refine ⟨M', ?_, f, fun a a0 a1 o => ?_⟩
  · unfold fX8_placeCell
    rw [hw, wr_eq (x := w * y) (by omega) (by omega), wr_eq (x := w * y + x) (by omega) (by omega), hc, if_neg (by omega), if_pos (by omega), r, bd1_s]
  · by_cases ea : a = c
    · subst ea
      exact ⟨by rw [p1, ex], by rw [p2, ey], p3⟩
    · rcases o with ⟨o1, o2⟩ | ⟨o1, o2, o3⟩
      · exfalso
        have g := (gXY ⟨k1, k2, k3, k4⟩ a0 a1).2.2.2.2
        rw [o1, o2] at g
        omega
      · refine ⟨by rw [p4 172 a.toNat (by omega) (by omega)]; exact o1, by rw [p4 173 a.toNat (by omega) (by omega)]; exact o2, fun s s0 s1 => ?_⟩
        rw [p4 171 (a * 6 + s).toNat (by omega) (by omega)]
        exact o3 s s0 s1
theorem C_begin (k : gOk w h) (hch : 0 ≤ mI M 169 9 ∧ mI M 169 9 < 2000000000) : ∃ M', fX8_begin M w h = some M' ∧ Pd M' w h (fun _ => 0) ∧ Fr sPb M M' ∧ mI M' 169 8 = 0 ∧ mI M' 169 9 = mI M 169 9 + 1 := by
  have hk := gOk_le k
  have k0 := k
  obtain ⟨k1, k2, k3, k4⟩ := k
  have n9 : mI (mUI (mUI (mUI M 169 0 w) 169 1 h) 169 8 0) 169 9 = mI M 169 9 := by rw [mI_Un (by omega), mI_Un (by omega), mI_Un (by omega)]
  obtain ⟨M1, e1⟩ : ∃ M1, M1 = mFi (mFi (mUI (mUI (mUI (mUI M 169 0 w) 169 1 h) 169 8 0) 169 9 (mI M 169 9 + 1)) 170 81 0) 174 2 0 := ⟨_, rfl⟩
  have g0 : mI M1 169 0 = w := by rw [e1, mI_F, if_neg (by omega), mI_F, if_neg (by omega), mI_Un (by omega), mI_Un (by omega), mI_Un (by omega), mI_Us]
  have g1 : mI M1 169 1 = h := by rw [e1, mI_F, if_neg (by omega), mI_F, if_neg (by omega), mI_Un (by omega), mI_Un (by omega), mI_Us]
  have g8 : mI M1 169 8 = 0 := by rw [e1, mI_F, if_neg (by omega), mI_F, if_neg (by omega), mI_Un (by omega), mI_Us]
  have g9 : mI M1 169 9 = mI M 169 9 + 1 := by rw [e1, mI_F, if_neg (by omega), mI_F, if_neg (by omega), mI_Us]
  have gO : ∀ j : Nat, j < 81 → mI M1 170 j = 0 := fun j hj => by rw [e1, mI_F, if_neg (by omega), mI_F, if_pos ⟨rfl, hj⟩]
  have gS : ∀ j : Nat, j < 2 → mI M1 174 j = 0 := fun j hj => by rw [e1, mI_F, if_pos ⟨rfl, hj⟩]
  have f1 : Fr sPb M M1 := by
    rw [e1]
    refine Fr.fi (Fr.fi (Fr.up (Fr.up (Fr.up (Fr.up (Fr.refl sPb M) ?_) ?_) ?_) ?_) (fun j => ?_)) (fun j => ?_) <;> (unfold sPb; omega)
  have inner : ∀ (y : Int) (N : ax_M), 0 ≤ y → y < h → Fr sPc M1 N → (∀ c : Int, 0 ≤ c → c < w * h → c / w < y → gPlc N w h c) → ∃ N', lp (fun s => fX8_begin_b54 s.2 y s.1) lpN (0, N) = some N' ∧ Fr sPc M1 N' ∧ ∀ c : Int, 0 ≤ c → c < w * h → c / w < y + 1 → gPlc N' w h c := by
    intro y N y0 y1 fN hN
    refine lpn w.toNat (by omega) (fun i s => s.1 = (i : Int) ∧ Fr sPc M1 s.2 ∧ ∀ c : Int, 0 ≤ c → c < w * h → (c / w < y ∨ (c / w = y ∧ c % w < i)) → gPlc s.2 w h c) _ _ ?_ ?_ ?_
    · refine ⟨rfl, fN, fun c c0 c1 o => hN c c0 c1 ?_⟩
      have := gXY k0 c0 c1
      rcases o with o | ⟨o1, o2⟩
      · exact o
      · exfalso
        have o2 : c % w < ((0 : Nat) : Int) := o2
        omega
    · rintro i ⟨v, K⟩ hi ⟨hv, fK, p⟩
      have hv : v = (i : Int) := hv
      subst hv
      have fK : Fr sPc M1 K := fK
      right
      have hw' : mI K 169 0 = w := by rw [fK.2 169 0 (by unfold sPc; omega)]; exact g0
      have hh' : mI K 169 1 = h := by rw [fK.2 169 1 (by unfold sPc; omega)]; exact g1
      obtain ⟨K', r, f', q⟩ := C_place k0 hw' hh' (x := (i : Int)) (y := y) (by omega) (by omega) y0 y1
      refine ⟨((i : Int) + 1, K'), ?_, rfl, fK.trans f', fun c c0 c1 o => q c c0 c1 ?_⟩
      · show fX8_begin_b54 K y (i : Int) = _
        unfold fX8_begin_b54
        rw [hw', if_pos (by omega), r, bd1_s]
      · by_cases z : c / w = y ∧ c % w = (i : Int)
        · exact Or.inl z
        · refine Or.inr (p c c0 c1 ?_)
          rcases o with o | ⟨o1, o2⟩
          · exact Or.inl o
          · have o2 : c % w < ((i + 1 : Nat) : Int) := o2
            exact Or.inr ⟨o1, by omega⟩
    · rintro ⟨v, K⟩ ⟨hv, fK, p⟩
      have hv : v = (w.toNat : Int) := hv
      subst hv
      have fK : Fr sPc M1 K := fK
      have hw' : mI K 169 0 = w := by rw [fK.2 169 0 (by unfold sPc; omega)]; exact g0
      refine ⟨K, ?_, fK, fun c c0 c1 o => p c c0 c1 ?_⟩
      · show fX8_begin_b54 K y (w.toNat : Int) = _
        unfold fX8_begin_b54
        rw [hw', if_neg (by omega)]
      · have := gXY k0 c0 c1
        omega
  have key : ∃ r, lp (fun s => fX8_begin_b43 s.2 s.1) lpN (0, M1) = some r ∧ (Fr sPc M1 r ∧ ∀ c : Int, 0 ≤ c → c < w * h → gPlc r w h c) := by
    refine lpn h.toNat (by omega) (fun i s => s.1 = (i : Int) ∧ Fr sPc M1 s.2 ∧ ∀ c : Int, 0 ≤ c → c < w * h → c / w < i → gPlc s.2 w h c) _ _ ?_ ?_ ?_
    · refine ⟨rfl, Fr.refl _ _, fun c c0 c1 o => ?_⟩
      have := gXY k0 c0 c1
      have o : c / w < ((0 : Nat) : Int) := o
      omega
    · rintro i ⟨v, K⟩ hi ⟨hv, fK, p⟩
      have hv : v = (i : Int) := hv
      subst hv
      have fK : Fr sPc M1 K := fK
      right
      have hh' : mI K 169 1 = h := by rw [fK.2 169 1 (by unfold sPc; omega)]; exact g1
      obtain ⟨K', r, f', q⟩ := inner (i : Int) K (by omega) (by omega) fK p
      refine ⟨((i : Int) + 1, K'), ?_, rfl, f', fun c c0 c1 o => q c c0 c1 ?_⟩
      · show fX8_begin_b43 K (i : Int) = _
        unfold fX8_begin_b43
        rw [hh', if_pos (by omega), r, bd1_s]
      · have o : c / w < ((i + 1 : Nat) : Int) := o
        omega
    · rintro ⟨v, K⟩ ⟨hv, fK, p⟩
      have hv : v = (h.toNat : Int) := hv
      subst hv
      have fK : Fr sPc M1 K := fK
      have hh' : mI K 169 1 = h := by rw [fK.2 169 1 (by unfold sPc; omega)]; exact g1
      refine ⟨K, ?_, fK, fun c c0 c1 => p c c0 c1 ?_⟩
      · show fX8_begin_b43 K (h.toNat : Int) = _
        unfold fX8_begin_b43
        rw [hh', if_neg (by omega)]
      · have := gXY k0 c0 c1
        omega
  obtain ⟨M', r, f, p⟩ := key
  refine ⟨M', ?_, ⟨⟨k0, ?_, ?_, fun c s c0 c1 s0 s1 => (p c c0 c1).2.2 s s0 s1, fun c c0 c1 => ⟨(p c c0 c1).1, (p c c0 c1).2.1⟩⟩, ⟨fun _ _ => rfl, fun _ => Or.inl rfl⟩, fun c c0 c1 => ?_, ?_, ?_⟩, f1.trans (f.mono (fun k j z => by unfold sPc at z; unfold sPb; omega)), ?_, ?_⟩
  · unfold fX8_begin
    rw [n9, wr_eq (x := mI M 169 9 + 1) (by omega) (by omega), ← e1, r, bd1_s]
  · rw [f.2 169 0 (by unfold sPc; omega)]; exact g0
  · rw [f.2 169 1 (by unfold sPc; omega)]; exact g1
  · rw [f.2 170 _ (by unfold sPc; omega)]; exact gO _ (by omega)
  · rw [f.2 174 _ (by unfold sPc; omega), gS 0 (by omega), gcn_0 81 (fun c _ _ => by show ¬ ((0 : Int) = 1); decide)]
  · rw [f.2 174 _ (by unfold sPc; omega), gS 1 (by omega), gcn_0 81 (fun c _ _ => by show ¬ ((0 : Int) = 2); decide)]
  · rw [f.2 169 8 (by unfold sPc; omega)]; exact g8
  · rw [f.2 169 9 (by unfold sPc; omega)]; exact g9
end BEG
