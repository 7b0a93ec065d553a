/-! part C: lines that lay a stone -/
def gQl (B : ax_M) (s : Int × Int × Int × (Int → Int)) : Prop := mI B 220 0 = s.1 ∧ mI B 220 1 = s.2.1 ∧ mI B 220 3 = s.2.2.1 ∧ (∀ j : Int, 0 ≤ j → j < 81 → mI B 221 j.toNat = s.2.2.2 j - 1) ∧ 3 ≤ s.1 ∧ s.1 ≤ 9 ∧ 3 ≤ s.2.1 ∧ s.2.1 ≤ 9 ∧ 0 ≤ s.2.2.1 ∧ s.2.2.1 ≤ 16
def gMk (kd : Int → Nat) (vl : Int → Int) (t : Int) (B : ax_M) : Prop := mI B 203 9 = (gMR kd vl t.toNat).1 ∧ ((gMR kd vl t.toNat).1 ≠ 0 → mI B 203 10 = (gMR kd vl t.toNat).2.1) ∧ ((gMR kd vl t.toNat).1 = 0 → gQl B (gMR kd vl t.toNat).2.2)
def s166 : Nat → Nat → Prop := fun k j => k = 166 ∧ (j = 2 ∨ j = 3)
def s203 : Nat → Nat → Prop := fun k j => (k = 203 ∧ 7 ≤ j ∧ j ≤ 11) ∨ k = 221
def bMk (B : ax_M) (e t : Int) : ax_M := if mI B 203 9 = 0 then mUI (mUI B 203 9 e) 203 10 t else B
section STO
variable {q : Nat} {kd : Int → Nat} {vl : Int → Int} {n : Int} {A B A1 B1 B' : ax_M} {t c d x e : Int}
theorem gMR_s (t0 : 0 ≤ t) : gMR kd vl (t + 1).toNat = if (gMR kd vl t.toNat).1 = 0 then ((gM1 kd vl t (gMR kd vl t.toNat).2.2).1, (if (gM1 kd vl t (gMR kd vl t.toNat).2.2).1 = 0 then -1 else t), (gM1 kd vl t (gMR kd vl t.toNat).2.2).2) else gMR kd vl t.toNat := by
  have h : ((t.toNat : Nat) : Int) = t := Int.toNat_of_nonneg t0
  rw [show (t + 1).toNat = t.toNat + 1 by omega]
  show (if (gMR kd vl t.toNat).1 = 0 then ((gM1 kd vl ((t.toNat : Nat) : Int) (gMR kd vl t.toNat).2.2).1, (if (gM1 kd vl ((t.toNat : Nat) : Int) (gMR kd vl t.toNat).2.2).1 = 0 then -1 else ((t.toNat : Nat) : Int)), (gM1 kd vl ((t.toNat : Nat) : Int) (gMR kd vl t.toNat).2.2).2) else gMR kd vl t.toNat) = _
  rw [h]
theorem gMk_step (t0 : 0 ≤ t) (h : gMk kd vl t B) (h0 : (gMR kd vl t.toNat).1 ≠ 0 → mI B' 203 9 = mI B 203 9 ∧ mI B' 203 10 = mI B 203 10) (h1 : (gMR kd vl t.toNat).1 = 0 → mI B' 203 9 = (gM1 kd vl t (gMR kd vl t.toNat).2.2).1 ∧ ((gM1 kd vl t (gMR kd vl t.toNat).2.2).1 ≠ 0 → mI B' 203 10 = t) ∧ ((gM1 kd vl t (gMR kd vl t.toNat).2.2).1 = 0 → gQl B' (gM1 kd vl t (gMR kd vl t.toNat).2.2).2)) : gMk kd vl (t + 1) B' := by
  obtain ⟨a1, a2, a3⟩ := h
  unfold gMk
  rw [gMR_s t0]
  by_cases z : (gMR kd vl t.toNat).1 = 0
  · obtain ⟨b1, b2, b3⟩ := h1 z
    rw [if_pos z]
    refine ⟨b1, fun y => ?_, b3⟩
    rw [b2 y]
    show t = if (gM1 kd vl t (gMR kd vl t.toNat).2.2).1 = 0 then -1 else t
    rw [if_neg y]
  · obtain ⟨b1, b2⟩ := h0 z
    rw [if_neg z]
    exact ⟨b1.trans a1, fun y => b2.trans (a2 y), fun y => absurd y z⟩
theorem gQl.fr {s : Int × Int × Int × (Int → Int)} (h : gQl B s) (e0 : mI B' 220 0 = mI B 220 0) (e1 : mI B' 220 1 = mI B 220 1) (e3 : mI B' 220 3 = mI B 220 3) (e4 : ∀ j, mI B' 221 j = mI B 221 j) : gQl B' s := by
  obtain ⟨h1, h2, h3, h4, h5⟩ := h
  exact ⟨e0.trans h1, e1.trans h2, e3.trans h3, fun j a b => (e4 _).trans (h4 j a b), h5⟩
theorem gMk.fr (h : gMk kd vl t B) (e9 : mI B' 203 9 = mI B 203 9) (e10 : mI B' 203 10 = mI B 203 10) (e0 : mI B' 220 0 = mI B 220 0) (e1 : mI B' 220 1 = mI B 220 1) (e3 : mI B' 220 3 = mI B 220 3) (e4 : ∀ j, mI B' 221 j = mI B 221 j) : gMk kd vl t B' := ⟨e9.trans h.1, fun y => e10.trans (h.2.1 y), fun y => (h.2.2 y).fr e0 e1 e3 e4⟩
theorem gMk.bT (h : gMk kd vl t B) (v : Int) : gMk kd vl t (bT B v) := h.fr (mI_Un (by omega)) (mI_Un (by omega)) (mI_Un (by omega)) (mI_Un (by omega)) (mI_Un (by omega)) (fun j => mI_Un (by omega))
theorem gMk.skip (t0 : 0 ≤ t) (h : gMk kd vl t B) (k1 : kd t ≠ 13) (k2 : kd t ≠ 48) : gMk kd vl (t + 1) B := by
  have e : gM1 kd vl t (gMR kd vl t.toNat).2.2 = (0, (gMR kd vl t.toNat).2.2) := by
    unfold gM1
    rw [if_neg k1, if_neg k2]
  refine gMk_step t0 h (fun _ => ⟨rfl, rfl⟩) (fun z => ?_)
  rw [e]
  exact ⟨h.1.trans z, fun y => absurd rfl y, fun _ => h.2.2 z⟩
theorem Q_mark (h : mI B 203 8 = 0) (ht : mI B 203 7 = t) (e : Int) : fX14_mark B e = some (bMk B e t) := by
  have e7 : mI (mUI B 203 9 e) 203 7 = t := by rw [mI_Un (by omega)]; exact ht
  unfold fX14_mark bMk
  rw [if_pos h, e7]
  split <;> rfl
theorem bMk_get (B : ax_M) (e t : Int) {k j : Nat} (h : k ≠ 203 ∨ (j ≠ 9 ∧ j ≠ 10)) : mI (bMk B e t) k j = mI B k j := by
  unfold bMk
  split
  · rw [mI_Un (by omega), mI_Un (by omega)]
  · rfl
theorem bMk_fr (B : ax_M) (e t : Int) : Fr s203 B (bMk B e t) := by
  unfold bMk
  split
  · exact ((Fr.refl _ _).up (Or.inl ⟨rfl, by omega, by omega⟩)).up (Or.inl ⟨rfl, by omega, by omega⟩)
  · exact Fr.refl _ _
theorem bMk_0 (h : mI B 203 9 = 0) : mI (bMk B e t) 203 9 = e ∧ mI (bMk B e t) 203 10 = t := by
  unfold bMk
  rw [if_pos h]
  exact ⟨by rw [mI_Un (by omega), mI_Us], mI_Us _ _ _ _⟩
theorem bMk_1 (h : mI B 203 9 ≠ 0) : bMk B e t = B := by
  unfold bMk
  rw [if_neg h]
theorem L_mk (L : gLv q n A B t c d) (e x : Int) : gLv q n A (bMk B e x) t c d := by
  obtain ⟨a, ⟨b1, b2, b3, b4⟩, r⟩ := L
  exact ⟨a, ⟨(bMk_get B e x (by omega)).trans b1, (bMk_get B e x (by omega)).trans b2, (bMk_get B e x (by omega)).trans b3, (bMk_get B e x (by omega)).trans b4⟩, r⟩
/-- fault e at token t, none if e = 0 -/
theorem gMk.mark (t0 : 0 ≤ t) (h : gMk kd vl t B) (e : Int) (he : e ≠ 0) (h1 : (gMR kd vl t.toNat).1 = 0 → (gM1 kd vl t (gMR kd vl t.toNat).2.2).1 = e) : gMk kd vl (t + 1) (bMk B e t) := by
  refine gMk_step t0 h (fun z => ?_) (fun z => ?_)
  · rw [bMk_1 (by rw [h.1]; exact z)]
    exact ⟨rfl, rfl⟩
  · obtain ⟨y1, y2⟩ := bMk_0 (e := e) (t := t) (h.1.trans z)
    rw [h1 z]
    exact ⟨y1, fun _ => y2, fun y => absurd y he⟩
theorem gMk.pass (t0 : 0 ≤ t) (h : gMk kd vl t B) (h1 : (gMR kd vl t.toNat).1 = 0 → gM1 kd vl t (gMR kd vl t.toNat).2.2 = (0, (gMR kd vl t.toNat).2.2)) : gMk kd vl (t + 1) B := by
  refine gMk_step t0 h (fun _ => ⟨rfl, rfl⟩) (fun z => ?_)
  rw [h1 z]
  exact ⟨h.1.trans z, fun y => absurd rfl y, fun _ => h.2.2 z⟩
def sK2 (M102 : ax_M) (v103 : Int) (M : ax_M) : Option ax_M := (if 0 ≤ (mI M 203 7) ∧ (mI M 203 7) < 402 then (bd1 (fX14_is M 31) fun v114 => (if v114 = 0 then (bd1 (fX14_take M 31) fun M117 => (some M117)) else (if (mI M 203 9) = 0 then (if (mI M 206 (Int.toNat (mI M 203 7))) < (mI M 220 1) then (if 0 ≤ (wr ((wr ((mI M 220 0) * (mI M 206 (Int.toNat (mI M 203 7))))) + (mI M102 206 (Int.toNat (mI M102 203 7))))) ∧ (wr ((wr ((mI M 220 0) * (mI M 206 (Int.toNat (mI M 203 7))))) + (mI M102 206 (Int.toNat (mI M102 203 7))))) < 81 then (if (mI M 221 (Int.toNat (wr ((wr ((mI M 220 0) * (mI M 206 (Int.toNat (mI M 203 7))))) + (mI M102 206 (Int.toNat (mI M102 203 7))))))) = (-1) then (bd1 (fX14_take (mUI M 221 (Int.toNat (wr ((wr ((mI M 220 0) * (mI M 206 (Int.toNat (mI M 203 7))))) + (mI M102 206 (Int.toNat (mI M102 203 7)))))) v103) 31) fun M124 => (some M124)) else (bd1 (fX14_mark M 2) fun M126 => (bd1 (fX14_take M126 31) fun M128 => (some M128)))) else none) else (bd1 (fX14_mark M 5) fun M130 => (bd1 (fX14_take M130 31) fun M132 => (some M132)))) else (bd1 (fX14_take M 31) fun M134 => (some M134))))) else none)
def sK1 (M102 : ax_M) (v103 : Int) (M : ax_M) : Option ax_M := (bd1 (fX14_take M 31) fun M138 => (bd1 (fX14_take M138 54) fun M140 => sK2 M102 v103 M140))
theorem sK_eq (M : ax_M) : fX14_stone M = (bd2 (fX14_player M) fun v103 M102 => (if 0 ≤ (mI M102 203 7) ∧ (mI M102 203 7) < 402 then (bd1 (fX14_is M102 31) fun v106 => (if v106 = 0 then sK1 M102 v103 M102 else (if (mI M102 206 (Int.toNat (mI M102 203 7))) < (mI M102 220 0) then sK1 M102 v103 M102 else (bd1 (fX14_mark M102 5) fun M165 => sK1 M102 v103 M165)))) else none)) := rfl
theorem sK2_D (D : gDe q n A B x) (hn : n ≤ 401) (M102 : ax_M) (v : Int) : sK2 M102 v B = some B := by
  have x0 := D.2.2.1
  have x1 := D.2.2.2
  unfold sK2
  rw [D.2.1.2.2.2.1, if_pos ⟨x0, by omega⟩, B_isD D.2.1.1, bd1_s, if_pos rfl, B_takeD D.2.1.1, bd1_s]
theorem sK1_D (D : gDe q n A B x) (hn : n ≤ 401) (M102 : ax_M) (v : Int) : sK1 M102 v B = some B := by
  unfold sK1
  rw [B_takeD D.2.1.1, bd1_s, B_takeD D.2.1.1, bd1_s, sK2_D D hn]
theorem sK_D (D : gDe q n A B x) (hn : n ≤ 401) : fX14_stone B = some B := by
  have x0 := D.2.2.1
  have x1 := D.2.2.2
  rw [sK_eq, E_player D.2.1.1, bd2_s, D.2.1.2.2.2.1, if_pos ⟨x0, by omega⟩, B_isD D.2.1.1, bd1_s, if_pos rfl, sK1_D D hn]
end STO
