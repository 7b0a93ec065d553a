/-! part C: what holds between two calls, and what keeps it -/
/-- outside of S none of the first cells has changed -/
def Fx (S : Nat → Nat → Prop) (M M' : ax_M) : Prop := ∀ k j : Nat, k < 244 → ¬ S k j → mI M' k j = mI M k j ∧ mR M' k j = mR M k j
theorem Fr2.x {S : Nat → Nat → Prop} {M M' : ax_M} (f : Fr2 S M M') : Fx S M M' := fun k j _ h => f.1 k j h
theorem Fr.x {S : Nat → Nat → Prop} {M M' : ax_M} (f : Fr S M M') : Fx S M M' := f.two.x
theorem Fx.refl (S : Nat → Nat → Prop) (M : ax_M) : Fx S M M := fun _ _ _ _ => ⟨rfl, rfl⟩
theorem Fx.trans {S : Nat → Nat → Prop} {A B C : ax_M} (p : Fx S A B) (r : Fx S B C) : Fx S A C := fun k j h z => ⟨(r k j h z).1.trans (p k j h z).1, (r k j h z).2.trans (p k j h z).2⟩
theorem Fx.mono {S T : Nat → Nat → Prop} {A B : ax_M} (p : Fx S A B) (h : ∀ k j, k < 244 → S k j → T k j) : Fx T A B := fun k j h1 z => p k j h1 (fun y => z (h k j h1 y))
theorem Fx.fr {S : Nat → Nat → Prop} {M M' : ax_M} (f : Fx S M M') : Fr (fun k j => S k j ∨ 244 ≤ k) M (M'.1, M.2) := ⟨rfl, fun k j h => (f k j (Nat.lt_of_not_le (fun z => h (Or.inr z))) (fun z => h (Or.inl z))).1⟩
theorem Fx.up {S : Nat → Nat → Prop} {A B : ax_M} (p : Fx S A B) {k j : Nat} {v : Int} (h : S k j) : Fx S A (mUI B k j v) := p.trans ((Fr.refl S B).up h).x
theorem Fx.al {S : Nat → Nat → Prop} {A B : ax_M} (p : Fx S A B) (h : 94 ≤ mSz B) (t n s : Nat) : Fx S A (mAl B t n s) := p.trans (fun k j hk _ => by
  have ne : k ≠ axC + mSz B := by show k ≠ 150 + mSz B; omega
  exact ⟨if_neg ne, if_neg ne⟩)
theorem Fx.uj {S : Nat → Nat → Prop} {A B : ax_M} (p : Fx S A B) (k j : Nat) (v : Int64) : Fx S A (mUJ B k j v) := p
section FXS
variable {S : Nat → Nat → Prop} {M M' : ax_M} {w h : Int} {o : Int → Int} {b : Int → Int} {T : Int} {q q' : Nat}
theorem Pd.x (H : Pd M w h o) (f : Fx S M M') (hS : ∀ k j, (k = 169 ∧ j < 2) ∨ 170 ≤ k ∧ k ≤ 174 → ¬ S k j) : Pd M' w h o := by
  have r : Pd (M'.1, M.2) w h o := H.fr f.fr (fun k j z => by
    rintro (y | y)
    · exact hS k j z y
    · omega)
  exact r
theorem Md.x (H : Md M w h o) (f : Fx S M M') (hS : ∀ k j, (k = 208 ∧ j < 2) ∨ k = 233 → ¬ S k j) : Md M' w h o := by
  have r : Md (M'.1, M.2) w h o := H.fr f.fr (fun k j z => by
    rintro (y | y)
    · exact hS k j z y
    · omega)
  exact r
theorem gWays.x (H : gWays M w h o) (f : Fx S M M') (hS : ∀ k j, (185 ≤ k ∧ k ≤ 190) ∨ (k = 169 ∧ j = 9) → ¬ S k j) : gWays M' w h o := by
  have r : gWays (M'.1, M.2) w h o := gWays_fr H f.fr (fun k j z => by
    rintro (y | y)
    · exact hS k j z y
    · omega)
  exact r
theorem gBr.x (H : gBr M w h o) (f : Fx S M M') (hS : ∀ k j, (179 ≤ k ∧ k ≤ 182) ∨ (k = 169 ∧ j = 9) → ¬ S k j) : gBr M' w h o := by
  have r : gBr (M'.1, M.2) w h o := gBr_fr H f.fr (fun k j z => by
    rintro (y | y)
    · exact hS k j z y
    · omega)
  exact r
theorem gWays.n {w' h' : Int} {o' : Int → Int} (H : gWays M w h o) (f : Fx S M M') (hS : ∀ k j, k = 189 → ¬ S k j) (h9 : mI M 169 9 < mI M' 169 9) : gWays M' w' h' o' := by
  intro p s hp hs
  have := (H p s hp hs).1
  rw [(f 189 _ (by omega) (hS _ _ rfl)).1]
  exact ⟨by omega, fun z => by omega⟩
theorem gBr.n {w' h' : Int} {o' : Int → Int} (H : gBr M w h o) (f : Fx S M M') (hS : ∀ k j, k = 179 → ¬ S k j) (h9 : mI M 169 9 < mI M' 169 9) : gBr M' w' h' o' := by
  have := H.1
  unfold gBr
  rw [(f 179 _ (by omega) (hS _ _ rfl)).1]
  exact ⟨by omega, fun z => by omega⟩
theorem gTA.x (H : gTA M b T) (f : Fx S M M') (hS : ∀ k j, (k = 151 ∧ j = 1) ∨ k = 152 → ¬ S k j) : gTA M' b T := by
  obtain ⟨a, c, d⟩ := H
  refine ⟨a, by rw [(f 151 1 (by omega) (hS _ _ (by omega))).1]; exact c, fun j => ?_⟩
  rw [← d j]
  unfold fX9_byteAt
  rw [(f 151 1 (by omega) (hS _ _ (by omega))).1, (f 152 j.toNat (by omega) (hS _ _ (by omega))).1]
theorem gTB.x (H : gTB M b T) (f : Fx S M M') (hS : ∀ k j, (k = 203 ∧ j = 2) ∨ k = 204 → ¬ S k j) : gTB M' b T := by
  have r : gTB (M'.1, M.2) b T := H.fr f.fr (fun k j z => by
    rintro (y | y)
    · exact hS k j z y
    · omega)
  exact r
theorem gPl.x (G : gPl M q) (f : Fx S M M') (hS : ∀ k j, (q ≤ k ∧ k ≤ q + 8) ∨ (208 ≤ k ∧ k ≤ 219) → ¬ S k j) : gPl M' q ∧ (∀ w h o p n, gchs M' w h o p n = gchs M w h o p n) := by
  have hq : q = 157 ∨ q = 194 := G.1
  have e : ∀ k, (q ≤ k ∧ k ≤ q + 8) ∨ (208 ≤ k ∧ k ≤ 219) → mI M' k = mI M k := fun k hk => funext (fun j => (f k j (by omega) (hS k j hk)).1)
  have x0 := e 208 (by omega)
  have x1 := e 210 (by omega)
  have x2 := e 211 (by omega)
  have x3 := e 212 (by omega)
  have x4 := e 213 (by omega)
  have x5 := e 214 (by omega)
  have x6 := e 215 (by omega)
  have x7 := e 216 (by omega)
  have x8 := e 217 (by omega)
  have x9 := e 218 (by omega)
  have x10 := e 219 (by omega)
  have y0 := e q (by omega)
  have y2 := e (q + 2) (by omega)
  have y4 := e (q + 4) (by omega)
  have y5 := e (q + 5) (by omega)
  have y6 := e (q + 6) (by omega)
  have y7 := e (q + 7) (by omega)
  have y8 := e (q + 8) (by omega)
  have T1 : mR M' (q + 1) = mR M (q + 1) := funext (fun j => (f (q + 1) j (by omega) (hS _ _ (by omega))).2)
  have T3 : mR M' (q + 3) = mR M (q + 3) := funext (fun j => (f (q + 3) j (by omega) (hS _ _ (by omega))).2)
  have o1 : fX7_opAt M' q = fX7_opAt M q := by
    funext a
    unfold fX7_opAt
    rw [y0, T1]
  have o2 : fX7_operandAt M' q = fX7_operandAt M q := by
    funext a
    unfold fX7_operandAt
    rw [y2]
  constructor
  · unfold gPl gPi gPS gPL gPR at *
    rw [x0, x1, x2, x3, x4, x5, x6, x7, x8, x9, x10, y0, y4, y5, y6, y7, y8, o1, o2, T3]
    exact G
  · intro w h o p n
    have t1 : gtk M' w h o p = gtk M w h o p := by
      funext i
      unfold gtk gtst gcel gvl gPS gPL gPR
      rw [x1, x2, x5, x6, x7, x8, x9, x10]
    have t2 : gcel M' w h o = gcel M w h o := by
      funext i
      unfold gcel gvl gPS gPL gPR
      rw [x1, x2, x5, x6, x8, x9, x10]
    unfold gchs
    rw [t1, t2]
/-- the stones that can be taken back -/
def gLaid (M : ax_M) (w h : Int) (o : Int → Int) (k : Int) : Prop := 0 ≤ k ∧ mI M 169 8 = k ∧ mI M 203 17 = k ∧ k ≤ gcn (fun c => o c ≠ 0) 81 ∧ (∀ j : Int, 0 ≤ j → j < k → mI M 234 j.toNat = mI M 175 j.toNat ∧ 0 ≤ mI M 175 j.toNat ∧ mI M 175 j.toNat < w * h ∧ o (mI M 175 j.toNat) ≠ 0) ∧ ∀ i j : Int, 0 ≤ i → i < j → j < k → mI M 175 i.toNat ≠ mI M 175 j.toNat
theorem gLaid.x {k : Int} (H : gLaid M w h o k) (f : Fx S M M') (hS : ∀ k j, (k = 169 ∧ j = 8) ∨ k = 175 ∨ (k = 203 ∧ j = 17) ∨ k = 234 → ¬ S k j) : gLaid M' w h o k := by
  obtain ⟨a, c, d, e, g, i⟩ := H
  have g5 : ∀ j, mI M' 175 j = mI M 175 j := fun j => (f 175 j (by omega) (hS _ _ (by omega))).1
  have g4 : ∀ j, mI M' 234 j = mI M 234 j := fun j => (f 234 j (by omega) (hS _ _ (by omega))).1
  refine ⟨a, by rw [(f 169 8 (by omega) (hS _ _ (by omega))).1]; exact c, by rw [(f 203 17 (by omega) (hS _ _ (by omega))).1]; exact d, e, fun j j0 j1 => ?_, fun x y x0 xy y1 => ?_⟩
  · rw [g5, g4]; exact g j j0 j1
  · rw [g5, g5]; exact i x y x0 xy y1
def gRf (M : ax_M) (q q' : Nat) : Prop := ((q = 157 ∧ q' = 194) ∨ (q = 194 ∧ q' = 157)) ∧ mR M 150 9 = some q ∧ mR M 150 10 = some q'
theorem gRf.x (H : gRf M q q') (f : Fx S M M') (hS : ∀ k j, k = 150 ∧ (j = 9 ∨ j = 10) → ¬ S k j) : gRf M' q q' := ⟨H.1, by rw [(f 150 9 (by omega) (hS _ _ (by omega))).2]; exact H.2.1, by rw [(f 150 10 (by omega) (hS _ _ (by omega))).2]; exact H.2.2⟩
/-- what holds between two calls -/
def gI (M : ax_M) (q q' : Nat) (w h : Int) (o : Int → Int) (k : Int) (b : Int → Int) (T e : Int) : Prop :=
  gRf M q q' ∧ Pd M w h o ∧ Md M w h o ∧ gWays M w h o ∧ gBr M w h o ∧ gPl M q ∧ gLaid M w h o k ∧ (gTA M b T ∧ gTB M b T) ∧ (mI M 150 11 = e ∧ mI M 203 3 = e)
def sFr (q : Nat) : Nat → Nat → Prop := fun k j => ¬ (k = 150 ∨ k = 151 ∨ k = 152 ∨ (k = 169 ∧ j ≠ 9) ∨ (170 ≤ k ∧ k ≤ 175) ∨ (q ≤ k ∧ k ≤ q + 8) ∨ (208 ≤ k ∧ k ≤ 219) ∨ k = 233 ∨ k = 234 ∨ (k = 203 ∧ (j = 2 ∨ j = 3 ∨ j = 17)) ∨ k = 204)
theorem gI.keep {k T e : Int} (I : gI M q q' w h o k b T e) (f : Fx (sFr q) M M') (W : gWays M' w h o) (B : gBr M' w h o) : gI M' q q' w h o k b T e := by
  obtain ⟨i1, i2, i3, i4, i5, i6, i7, ⟨i8, i9⟩, i10, i11⟩ := I
  refine ⟨i1.x f (fun k j z => ?_), i2.x f (fun k j z => ?_), i3.x f (fun k j z => ?_), W, B, (i6.x f (fun k j z => ?_)).1, i7.x f (fun k j z => ?_), ⟨i8.x f (fun k j z => ?_), i9.x f (fun k j z => ?_)⟩, ?_, ?_⟩
  · unfold sFr; omega
  · unfold sFr; omega
  · unfold sFr; omega
  · unfold sFr; omega
  · unfold sFr; omega
  · unfold sFr; omega
  · unfold sFr; omega
  · rw [(f 150 11 (by omega) (by unfold sFr; omega)).1]; exact i10
  · rw [(f 203 3 (by omega) (by unfold sFr; omega)).1]; exact i11
end FXS
