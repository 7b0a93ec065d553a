/-! part C: plans: which cell a player takes -/
abbrev gPS (M : ax_M) : Int → Int := fun j => mI M 217 j.toNat
abbrev gPL (M : ax_M) : Int → Int := fun j => mI M 218 j.toNat
abbrev gPR (M : ax_M) : Int → Int := fun j => mI M 219 j.toNat
/-- plan i of the class (in q) is plan i of the model -/
def gPi (M : ax_M) (q : Nat) (i : Int) : Prop :=
  (∃ kd, mR M (q + 3) i.toNat = some kd ∧ 16 ≤ kd ∧ kd ≤ 20 ∧ mI M 211 i.toNat = gkm kd) ∧
  (mI M (q + 4) i.toNat = mI M 210 i.toNat ∧ (mI M 210 i.toNat = 0 ∨ mI M 210 i.toNat = 1)) ∧
  (mI M (q + 6) i.toNat ≤ 400 ∧ mI M (q + 7) i.toNat ≤ 400 ∧ mI M (q + 8) i.toNat ≤ 400) ∧
  (0 ≤ mI M 212 i.toNat ∧ mI M 212 i.toNat ≤ mI M 213 i.toNat ∧ mI M 213 i.toNat ≤ 800) ∧
  (∀ n, mI M 212 i.toNat ≤ n → n < mI M 213 i.toNat → gNd (gPS M) (gPL M) (gPR M) (mI M 212 i.toNat) n) ∧
  (mI M 211 i.toNat = 10 → (∃ f, gEx (fX7_opAt M q) (fX7_operandAt M q) (gPS M) (gPL M) (gPR M) (mI M 212 i.toNat) f (mI M (q + 5) i.toNat) (mI M (q + 6) i.toNat) (mI M 214 i.toNat)) ∧ mI M 214 i.toNat < mI M 213 i.toNat ∧ (∃ f, gEx (fX7_opAt M q) (fX7_operandAt M q) (gPS M) (gPL M) (gPR M) (mI M 212 i.toNat) f (mI M (q + 6) i.toNat) (mI M (q + 7) i.toNat) (mI M 215 i.toNat)) ∧ mI M 215 i.toNat < mI M 213 i.toNat) ∧
  ((mI M 216 i.toNat = -1 ∧ mI M (q + 7) i.toNat = mI M (q + 8) i.toNat) ∨ ((∃ f, gEx (fX7_opAt M q) (fX7_operandAt M q) (gPS M) (gPL M) (gPR M) (mI M 212 i.toNat) f (mI M (q + 7) i.toNat) (mI M (q + 8) i.toNat) (mI M 216 i.toNat)) ∧ mI M 216 i.toNat < mI M 213 i.toNat))
def gPl (M : ax_M) (q : Nat) : Prop := (q = 157 ∨ q = 194) ∧ mI M q 9 = mI M 208 3 ∧ 0 ≤ mI M 208 3 ∧ mI M 208 3 ≤ 16 ∧ ∀ i : Int, 0 ≤ i → i < mI M 208 3 → gPi M q i
theorem gEx_lt {op : Int → Nat} {od S L R : Int → Int} {lo : Int} : ∀ (f : Nat) (a b n : Int), gEx op od S L R lo f a b n → a < b ∧ lo ≤ n
  | 0, _, _, _, H => H.elim
  | f + 1, a, b, n, H => by
    obtain ⟨n0, a0, H⟩ := H
    rcases H with ⟨rfl, _⟩ | ⟨l, H1, _⟩ | ⟨m, l, r, H1, H2, _⟩
    · exact ⟨by omega, n0⟩
    · have := (gEx_lt f _ _ _ H1).1
      exact ⟨by omega, n0⟩
    · have := (gEx_lt f _ _ _ H1).1
      have := (gEx_lt f _ _ _ H2).1
      exact ⟨by omega, n0⟩
noncomputable def gsav (w h : Int) (o : Int → Int) (p : Int) : Int := @dite Int (∃ v, gmin (gSe w h o p (3 * (w * h))) v) (Classical.propDecidable _) (fun H => Classical.choose H) (fun _ => -1)
theorem gsav_is {w h : Int} {o : Int → Int} {p v : Int} (H : gmin (gSe w h o p (3 * (w * h))) v) : gsav w h o p = v := by
  have e : gsav w h o p = Classical.choose (⟨v, H⟩ : ∃ v, gmin (gSe w h o p (3 * (w * h))) v) := by unfold gsav; exact dif_pos ⟨v, H⟩
  rw [e]
  exact gmin_u (Classical.choose_spec (⟨v, H⟩ : ∃ v, gmin (gSe w h o p (3 * (w * h))) v)) H
noncomputable def gtold (w h : Int) (o : Int → Int) (a b : Int) : Int := if o (gCell w h (a % w) (b % h)) = 0 then gCell w h (a % w) (b % h) else -1
noncomputable def gvl (M : ax_M) (w h : Int) (o : Int → Int) (n : Int) : Int := gE w h o (gPS M) (gPL M) (gPR M) n
def gtst (M : ax_M) (w h : Int) (o : Int → Int) (i : Int) : Prop := mI M 216 i.toNat = -1 ∨ gvl M w h o (mI M 216 i.toNat) ≠ 0
noncomputable def gcel (M : ax_M) (w h : Int) (o : Int → Int) (i : Int) : Int :=
  if mI M 211 i.toNat = 6 then gfs (gwinc w h o (mI M 210 i.toNat)) (w * h).toNat
  else if mI M 211 i.toNat = 7 then gfs (gwinc w h o (1 - mI M 210 i.toNat)) (w * h).toNat
  else if mI M 211 i.toNat = 8 then gsav w h o (mI M 210 i.toNat)
  else if mI M 211 i.toNat = 9 then (gnr w h o (mI M 210 i.toNat) (w * h).toNat).1
  else gtold w h o (gvl M w h o (mI M 214 i.toNat)) (gvl M w h o (mI M 215 i.toNat))
def gtk (M : ax_M) (w h : Int) (o : Int → Int) (p i : Int) : Prop := mI M 210 i.toNat = p ∧ gtst M w h o i ∧ gcel M w h o i ≠ -1
noncomputable def gchs (M : ax_M) (w h : Int) (o : Int → Int) (p : Int) (n : Nat) : Int := if gfs (gtk M w h o p) n = -1 then -1 else gcel M w h o (gfs (gtk M w h o p) n)
theorem gchs_at {M : ax_M} {w h : Int} {o : Int → Int} {p : Int} {i n : Nat} (hi : gtk M w h o p i) (hn : ∀ c : Int, 0 ≤ c → c < i → ¬ gtk M w h o p c) (hin : i < n) : gchs M w h o p n = gcel M w h o i := by
  have e := gfs_at hi hn (n - (i + 1))
  rw [show i + 1 + (n - (i + 1)) = n by omega] at e
  unfold gchs
  rw [e, if_neg (by omega)]
theorem gchs_no {M : ax_M} {w h : Int} {o : Int → Int} {p : Int} {n : Nat} (hn : ∀ c : Int, 0 ≤ c → c < n → ¬ gtk M w h o p c) : gchs M w h o p n = -1 := by
  unfold gchs
  rw [gfs_no n hn, if_pos rfl]
section CHO
variable {M : ax_M} {w h : Int} {o : Int → Int} {q : Nat}
/-- the class's fields of plan i -/
theorem C_plan (hq : q = 157 ∨ q = 194) {M' : ax_M} (F : Fr sK M M') {i : Int} (i0 : 0 ≤ i) (i1 : i < mI M q 9) (i2 : i < 16) : fX7_playerOf M' q i = some (mI M (q + 4) i.toNat) ∧ fX7_columnStart M' q i = some (mI M (q + 5) i.toNat) ∧ fX7_rowStart M' q i = some (mI M (q + 6) i.toNat) ∧ fX7_testStart M' q i = some (mI M (q + 7) i.toNat) ∧ fX7_end M' q i = some (mI M (q + 8) i.toNat) ∧ (∀ kd, mR M (q + 3) i.toNat = some kd → fX7_moveOf M' q i = some kd) := by
  have f : ∀ k j, k ≠ 192 → k ≠ 193 → mI M' k j = mI M k j := fun k j a b => F.2 k j (by unfold sK; omega)
  have fr : mR M' = mR M := by show M'.2.1 = M.2.1; rw [F.1]
  have hs : fX7_has M' q i = 1 := by
    unfold fX7_has
    rw [f q 9 (by omega) (by omega), if_neg (by omega), if_pos i1, if_pos i2]
  refine ⟨?_, ?_, ?_, ?_, ?_, fun kd hk => ?_⟩
  · unfold fX7_playerOf
    rw [hs, if_neg (by omega), if_pos ⟨i0, i2⟩, f _ _ (by omega) (by omega)]
  · unfold fX7_columnStart
    rw [hs, if_neg (by omega), if_pos ⟨i0, i2⟩, f _ _ (by omega) (by omega)]
  · unfold fX7_rowStart
    rw [hs, if_neg (by omega), if_pos ⟨i0, i2⟩, f _ _ (by omega) (by omega)]
  · unfold fX7_testStart
    rw [hs, if_neg (by omega), if_pos ⟨i0, i2⟩, f _ _ (by omega) (by omega)]
  · unfold fX7_end
    rw [hs, if_neg (by omega), if_pos ⟨i0, i2⟩, f _ _ (by omega) (by omega)]
  · unfold fX7_moveOf
    rw [hs, if_neg (by omega), if_pos ⟨i0, i2⟩, fr, hk]
    rfl
theorem gEx_fr (hq : q = 157 ∨ q = 194) {M' : ax_M} (F : Fr sK M M') {S L R : Int → Int} {lo a b n : Int} {f : Nat} (H : gEx (fX7_opAt M q) (fX7_operandAt M q) S L R lo f a b n) : gEx (fX7_opAt M' q) (fX7_operandAt M' q) S L R lo f a b n := by
  rw [funext (fun a => (opAt_fr hq F a).1), funext (fun a => (opAt_fr hq F a).2)]
  exact H
theorem C_holds {M' : ax_M} (G : gPl M q) (F : Fr sK M M') (C : gCc M w h o) {i : Int} (i0 : 0 ≤ i) (i1 : i < mI M 208 3) : ∃ M2, fX2_holds M' q i = some (gat (gtst M w h o i), M2) ∧ Fr sK M M2 := by
  obtain ⟨hq, g1, g2, g3, g4⟩ := G
  obtain ⟨p1, p2, p3, p4, p5, p6, p7⟩ := g4 i i0 i1
  obtain ⟨c1, c2, c3, c4, c5, c6⟩ := C_plan hq F i0 (by omega) (by omega)
  unfold fX2_holds
  rw [c4, bd1_s, c5, bd1_s]
  rcases p7 with ⟨a, b⟩ | ⟨⟨f, a⟩, b⟩
  · rw [if_pos b, gat_t (P := gtst M w h o i) (Or.inl a)]
    exact ⟨M', rfl, F⟩
  · have hlt := gEx_lt f _ _ _ a
    obtain ⟨M2, e, F2⟩ := C_reckon (M := M') hq (C.fr F) p4.1 p5 (gEx_fr hq F a) b p3.2.2
    rw [if_neg (by omega), e, bd2_s]
    refine ⟨M2, ?_, F.trans F2⟩
    have hn : ¬ mI M 216 i.toNat = -1 := by omega
    by_cases z : gE w h o (gPS M) (gPL M) (gPR M) (mI M 216 i.toNat) = 0
    · rw [if_pos z, gat_f]
      rintro (y | y)
      · exact hn y
      · exact y z
    · rw [if_neg z, gat_t (P := gtst M w h o i) (Or.inr z)]
theorem gkm5 {kd : Nat} (a : 16 ≤ kd) (b : kd ≤ 20) : (kd = 16 ∧ gkm kd = 6) ∨ (kd = 17 ∧ gkm kd = 7) ∨ (kd = 18 ∧ gkm kd = 8) ∨ (kd = 19 ∧ gkm kd = 9) ∨ (kd = 20 ∧ gkm kd = 10) := by
  rcases (show kd = 16 ∨ kd = 17 ∨ kd = 18 ∨ kd = 19 ∨ kd = 20 by omega) with rfl | rfl | rfl | rfl | rfl
  · exact Or.inl ⟨rfl, rfl⟩
  · exact Or.inr (Or.inl ⟨rfl, rfl⟩)
  · exact Or.inr (Or.inr (Or.inl ⟨rfl, rfl⟩))
  · exact Or.inr (Or.inr (Or.inr (Or.inl ⟨rfl, rfl⟩)))
  · exact Or.inr (Or.inr (Or.inr (Or.inr ⟨rfl, rfl⟩)))
theorem C_rem (M : ax_M) {a w : Int} (ha : ax_in a) (w0 : 3 ≤ w) (w1 : w ≤ 9) : fX2_remainder M a w = some (a % w) := by
  unfold fX2_remainder
  rw [if_pos (by omega), fmod_eq M ha w0 w1, bd1_s]
theorem C_cellBy {M' : ax_M} (G : gPl M q) (F : Fr sK M M') (C : gCc M w h o) {i : Int} (i0 : 0 ≤ i) (i1 : i < mI M 208 3) : ∃ M2, fX2_cellBy M' q i = some (gcel M w h o i, M2) ∧ Fr sK M M2 := by
  have CM := C.fr F
  obtain ⟨hq, g1, g2, g3, g4⟩ := G
  obtain ⟨⟨kd, k1, k2, k3, k4⟩, ⟨p2, p2'⟩, p3, p4, p5, p6, p7⟩ := g4 i i0 i1
  obtain ⟨c1, c2, c3, c4, c5, c6⟩ := C_plan hq F i0 (by omega) (by omega)
  unfold fX2_cellBy gcel
  rw [c1, bd1_s, c6 kd k1, bd1_s, p2, k4]
  rcases gkm5 k2 k3 with ⟨rfl, e⟩ | ⟨rfl, e⟩ | ⟨rfl, e⟩ | ⟨rfl, e⟩ | ⟨rfl, e⟩
  · rw [e, if_pos (by decide), if_pos rfl, C_firstWinning CM.1 CM.2.1 p2', bd1_s]
    exact ⟨M', rfl, F⟩
  · rw [e, if_neg (by decide), if_pos (by decide), if_neg (by decide), if_pos rfl, wr_eq (x := 1 - mI M 210 i.toNat) (by omega) (by omega), C_firstWinning CM.1 CM.2.1 (show 1 - mI M 210 i.toNat = 0 ∨ 1 - mI M 210 i.toNat = 1 by omega), bd1_s]
    exact ⟨M', rfl, F⟩
  · rw [e, if_neg (by decide), if_neg (by decide), if_pos (by decide), if_neg (by decide), if_neg (by decide), if_pos rfl]
    refine ⟨M', ?_, F⟩
    have hN := C.1.n
    have sv := (CM.2.2 (mI M 210 i.toNat) p2').2.2
    rw [show (((3 * (w * h)).toNat : Nat) : Int) = 3 * (w * h) by omega] at sv
    rw [gsav_is sv]
    unfold fX1_saving
    rw [if_neg (by omega), if_pos (by omega)]
  · rw [e, if_neg (by decide), if_neg (by decide), if_neg (by decide), if_pos (by decide), if_neg (by decide), if_neg (by decide), if_neg (by decide), if_pos rfl, C_nearest CM.1 CM.2.1 p2', bd1_s]
    exact ⟨M', rfl, F⟩
  · rw [e, if_neg (by decide), if_neg (by decide), if_neg (by decide), if_neg (by decide), if_pos (by decide), if_neg (by decide), if_neg (by decide), if_neg (by decide), if_neg (by decide)]
    obtain ⟨⟨f1, x1⟩, x2, ⟨f2, x3⟩, x4⟩ := p6 (k4.trans e)
    obtain ⟨M2, e2, F2⟩ := C_reckon (M := M') hq CM p4.1 p5 (gEx_fr hq F x1) x2 p3.1
    have F12 := F.trans F2
    obtain ⟨d1, d2, d3, d4, d5, d6⟩ := C_plan hq F12 i0 (by omega) (by omega)
    obtain ⟨M3, e3, F3⟩ := C_reckon (M := M2) hq (C.fr F12) p4.1 p5 (gEx_fr hq F12 x3) x4 p3.2.1
    have F13 := F12.trans F3
    have C3 := C.fr F13
    obtain ⟨kk1, kk2, kk3, kk4⟩ := C.1.k
    have in1 : ax_in (gE w h o (gPS M) (gPL M) (gPR M) (mI M 214 i.toNat)) := gE_in C.1.k C.1.2.1 p4.1 p5 _ _ (Nat.lt_succ_self _) (gEx_lt f1 _ _ _ x1).2 x2
    have in2 : ax_in (gE w h o (gPS M) (gPL M) (gPR M) (mI M 215 i.toNat)) := gE_in C.1.k C.1.2.1 p4.1 p5 _ _ (Nat.lt_succ_self _) (gEx_lt f2 _ _ _ x3).2 x4
    have w3 : fX8_columns M3 = w := C3.1.1.2.1
    have h3 : fX8_rows M3 = h := C3.1.1.2.2.1
    refine ⟨M3, ?_, F13⟩
    unfold fX2_toldCell
    rw [c2, bd1_s, c3, bd1_s, e2, bd2_s, d3, bd1_s, d4, bd1_s, e3, bd2_s, w3, h3, C_rem M3 in1 kk1 kk2, bd1_s, C_rem M3 in2 kk3 kk4, bd1_s, P_cellAt C3.1.1, P_own C3.1]
    show bd2 (if o (gCell w h (gE w h o (gPS M) (gPL M) (gPR M) (mI M 214 i.toNat) % w) (gE w h o (gPS M) (gPL M) (gPR M) (mI M 215 i.toNat) % h)) = 0 then some (gCell w h (gE w h o (gPS M) (gPL M) (gPR M) (mI M 214 i.toNat) % w) (gE w h o (gPS M) (gPL M) (gPR M) (mI M 215 i.toNat) % h), M3) else some (-1, M3)) _ = some (gtold w h o (gE w h o (gPS M) (gPL M) (gPR M) (mI M 214 i.toNat)) (gE w h o (gPS M) (gPL M) (gPR M) (mI M 215 i.toNat)), M3)
    unfold gtold
    by_cases z : o (gCell w h (gE w h o (gPS M) (gPL M) (gPR M) (mI M 214 i.toNat) % w) (gE w h o (gPS M) (gPL M) (gPR M) (mI M 215 i.toNat) % h)) = 0
    · rw [if_pos z, if_pos z, bd2_s]
    · rw [if_neg z, if_neg z, bd2_s]
/-- the cells of the told game -/
def gTo (M M' : ax_M) (q : Nat) : Prop := mR M' = mR M ∧ (∀ k j, (q ≤ k ∧ k ≤ q + 8) ∨ (208 ≤ k ∧ k ≤ 219) → mI M' k j = mI M k j)
theorem gPl.to {M' : ax_M} (G : gPl M q) (T : gTo M M' q) : gPl M' q ∧ (∀ w h o p n, gchs M' w h o p n = gchs M w h o p n) := by
  obtain ⟨T1, T2⟩ := T
  have e : ∀ k, (q ≤ k ∧ k ≤ q + 8) ∨ (208 ≤ k ∧ k ≤ 219) → mI M' k = mI M k := fun k hk => funext (fun j => T2 k j hk)
  have x0 := e 208 (by omega)
  have x1 := e 210 (by omega)
  have x2 := e 211 (by omega)
  have x3 := e 212 (by omega)
  have x4 := e 213 (by omega)
  have x5 := e 214 (by omega)
  have x6 := e 215 (by omega)
  have x7 := e 216 (by omega)
  have x8 := e 217 (by omega)
  have x9 := e 218 (by omega)
  have x10 := e 219 (by omega)
  have y0 := e q (by omega)
  have y2 := e (q + 2) (by omega)
  have y4 := e (q + 4) (by omega)
  have y5 := e (q + 5) (by omega)
  have y6 := e (q + 6) (by omega)
  have y7 := e (q + 7) (by omega)
  have y8 := e (q + 8) (by omega)
  have o1 : fX7_opAt M' q = fX7_opAt M q := by
    funext a
    unfold fX7_opAt
    rw [y0, T1]
  have o2 : fX7_operandAt M' q = fX7_operandAt M q := by
    funext a
    unfold fX7_operandAt
    rw [y2]
  constructor
  · unfold gPl gPi gPS gPL gPR at *
    rw [x0, x1, x2, x3, x4, x5, x6, x7, x8, x9, x10, y0, y4, y5, y6, y7, y8, o1, o2, T1]
    exact G
  · intro w h o p n
    have t1 : gtk M' w h o p = gtk M w h o p := by
      funext i
      unfold gtk gtst gcel gvl gPS gPL gPR
      rw [x1, x2, x5, x6, x7, x8, x9, x10]
    have t2 : gcel M' w h o = gcel M w h o := by
      funext i
      unfold gcel gvl gPS gPL gPR
      rw [x1, x2, x5, x6, x8, x9, x10]
    unfold gchs
    rw [t1, t2]
theorem gTo.of {S : Nat → Nat → Prop} {M' : ax_M} (F : Fr S M M') (hS : ∀ k j, (q ≤ k ∧ k ≤ q + 8) ∨ (208 ≤ k ∧ k ≤ 219) → ¬ S k j) : gTo M M' q := ⟨by show M'.2.1 = M.2.1; rw [F.1], fun k j hk => F.2 k j (hS k j hk)⟩
def sC : Nat → Nat → Prop := fun k _ => 179 ≤ k ∧ k ≤ 193
theorem C_choose (P : Pd M w h o) (W : gWays M w h o) (B : gBr M w h o) (G : gPl M q) (p : Int) : ∃ M', fX2_choose M q p = some (gchs M w h o p (mI M 208 3).toNat, M') ∧ gWays M' w h o ∧ gBr M' w h o ∧ Fr sC M M' := by
  obtain ⟨M1, e1, b1, b2, f1⟩ := C_bridges P B
  have P1 := P.fr f1 sB_pond
  have W1 := gWays_fr W f1 (fun k j z => by unfold sB; omega)
  obtain ⟨M2, e2, w1, f2, a2⟩ := C_ways P1 W1
  have P2 := P1.fr f2 sU_pond
  have CC : gCc M2 w h o := ⟨P2, a2, b2.fr f2 (fun k j z => by unfold sU; omega)⟩
  have F2 : Fr sC M M2 := (f1.mono (fun k j z => by unfold sB at z; unfold sC; omega)).trans (f2.mono (fun k j z => by unfold sU at z; unfold sC; omega))
  have B2 : gBr M2 w h o := gBr_fr b1 f2 (fun k j z => by unfold sU; omega)
  have hq := G.1
  obtain ⟨G2, gc⟩ := G.to (M' := M2) (gTo.of F2 (fun k j z => by unfold sC; omega))
  have hn : mI M2 208 3 = mI M 208 3 := F2.2 208 3 (by unfold sC; omega)
  rw [← gc, ← hn]
  have cnt : ∀ M', Fr sK M2 M' → fX7_count M' q = mI M2 208 3 := fun M' F => by
    show mI M' q 9 = _
    rw [F.2 q 9 (by unfold sK; omega)]
    exact G2.2.1
  have g2 := G2.2.2.1
  have g3 := G2.2.2.2.1
  have key : ∃ r, lp (fun s => fX2_choose_b16 s.2 q p s.1) lpN (0, M2) = some r ∧ ∃ M', Fr sK M2 M' ∧ ((r = .inl (gchs M2 w h o p (mI M2 208 3).toNat, M')) ∨ (r = .inr M' ∧ gchs M2 w h o p (mI M2 208 3).toNat = -1)) := by
    refine lpn (mI M2 208 3).toNat (by omega) (fun i s => s.1 = (i : Int) ∧ Fr sK M2 s.2 ∧ ∀ c : Int, 0 ≤ c → c < (i : Int) → ¬ gtk M2 w h o p c) _ _ ⟨rfl, Fr.refl _ _, fun c a b => by omega⟩ ?_ ?_
    · rintro i ⟨x, M3⟩ hi ⟨hx, F3, h3⟩
      have hx : x = (i : Int) := hx
      subst hx
      have F3 : Fr sK M2 M3 := F3
      have i0 : 0 ≤ (i : Int) := by omega
      have i1 : (i : Int) < mI M2 208 3 := by omega
      obtain ⟨c1, _⟩ := C_plan hq F3 i0 (by rw [G2.2.1]; exact i1) (by omega)
      have pe := (G2.2.2.2.2 (i : Int) i0 i1).2.1.1
      have next : ¬ gtk M2 w h o p (i : Int) → ∀ c : Int, 0 ≤ c → c < ((i + 1 : Nat) : Int) → ¬ gtk M2 w h o p c := fun z c a b => by
        by_cases e : c = (i : Int)
        · rw [e]; exact z
        · exact h3 c a (by omega)
      show (∃ r, fX2_choose_b16 M3 q p (i : Int) = some (.inr r) ∧ _) ∨ (∃ s', fX2_choose_b16 M3 q p (i : Int) = some (.inl s') ∧ _)
      unfold fX2_choose_b16
      rw [cnt M3 F3, if_pos i1, c1, bd1_s, pe]
      by_cases z1 : mI M2 210 (i : Int).toNat = p
      · obtain ⟨M4, e4, F4⟩ := C_holds G2 F3 CC i0 i1
        rw [if_pos z1, e4, bd2_s]
        by_cases z2 : gtst M2 w h o (i : Int)
        · rw [gat_t z2, if_neg (by omega)]
          obtain ⟨M5, e5, F5⟩ := C_cellBy G2 F4 CC i0 i1
          rw [e5, bd2_s]
          by_cases z3 : gcel M2 w h o (i : Int) = -1
          · rw [if_pos z3]
            exact Or.inr ⟨(_, _), rfl, rfl, F5, next (fun z => z.2.2 z3)⟩
          · rw [if_neg z3]
            exact Or.inl ⟨_, rfl, M5, F5, Or.inl (by rw [gchs_at ⟨z1, z2, z3⟩ h3 (by omega)])⟩
        · rw [gat_f z2, if_pos rfl]
          exact Or.inr ⟨(_, _), rfl, rfl, F4, next (fun z => z2 z.2.1)⟩
      · rw [if_neg z1]
        exact Or.inr ⟨(_, _), rfl, rfl, F3, next (fun z => z1 z.1)⟩
    · rintro ⟨x, M3⟩ ⟨hx, F3, h3⟩
      have hx : x = ((mI M2 208 3).toNat : Int) := hx
      subst hx
      refine ⟨(Sum.inr M3 : (Int × ax_M) ⊕ ax_M), ?_, M3, F3, Or.inr ⟨rfl, gchs_no h3⟩⟩
      show fX2_choose_b16 M3 q p ((mI M2 208 3).toNat : Int) = _
      unfold fX2_choose_b16
      rw [cnt M3 F3, if_neg (by omega)]
  obtain ⟨r, e, M', F, rr⟩ := key
  refine ⟨M', ?_, gWays_fr w1 F (fun k j z => by unfold sK; omega), gBr_fr B2 F (fun k j z => by unfold sK; omega), F2.trans (F.mono (fun k j z => by unfold sK at z; unfold sC; omega))⟩
  unfold fX2_choose
  rw [e1, bd1_s, e2, bd1_s, e]
  rcases rr with rfl | ⟨rfl, z⟩
  · rfl
  · rw [z]; rfl
/-- the model's side -/
theorem Q_found {M0 : ax_M} (P : Md M w h o) (G : gPl M0 q) (F : Fr sMv M0 M) {i : Int} (i0 : 0 ≤ i) (i1 : i < mI M0 208 3) (hv : ∀ n : Int, mI M0 212 i.toNat ≤ n → n < mI M0 213 i.toNat → mI M 232 n.toNat = gvl M0 w h o n) : ∃ M', fX14_found M i = some (gcel M0 w h o i, M') ∧ Fr sMv M0 M' := by
  have hN := gOk_le P.1
  have f : ∀ k j, 208 ≤ k → k ≤ 219 → mI M k j = mI M0 k j := fun k j a b => F.2 k j (by unfold sMv; omega)
  obtain ⟨hq, g1, g2, g3, g4⟩ := G
  obtain ⟨⟨kd, k1, k2, k3, k4⟩, ⟨p2, p2'⟩, p3, p4, p5, p6, p7⟩ := g4 i i0 i1
  have i17 : 0 ≤ i ∧ i < 17 := by omega
  unfold fX14_found gcel
  rw [if_pos i17, f 211 _ (by omega) (by omega), f 210 _ (by omega) (by omega), k4]
  rcases gkm5 k2 k3 with ⟨rfl, e⟩ | ⟨rfl, e⟩ | ⟨rfl, e⟩ | ⟨rfl, e⟩ | ⟨rfl, e⟩
  · obtain ⟨M2, e2, F2⟩ := Q_winning1 P p2'
    rw [e, if_pos rfl, if_pos rfl, e2, bd2_s]
    exact ⟨M2, rfl, F.trans (F2.mono sM_v)⟩
  · obtain ⟨M2, e2, F2⟩ := Q_winning1 P (p := 1 - mI M0 210 i.toNat) (by omega)
    rw [e, if_neg (by decide), if_pos rfl, if_neg (by decide), if_pos rfl, wr_eq (x := 1 - mI M0 210 i.toNat) (by omega) (by omega), e2, bd2_s]
    exact ⟨M2, rfl, F.trans (F2.mono sM_v)⟩
  · obtain ⟨v, e2, hv2⟩ := Q_saved P p2'
    rw [e, if_neg (by decide), if_neg (by decide), if_pos rfl, if_neg (by decide), if_neg (by decide), if_pos rfl, e2, bd1_s, gsav_is hv2]
    exact ⟨M, rfl, F⟩
  · obtain ⟨M2, e2, F2⟩ := Q_nearest P p2'
    rw [e, if_neg (by decide), if_neg (by decide), if_neg (by decide), if_pos rfl, if_neg (by decide), if_neg (by decide), if_neg (by decide), if_pos rfl, e2, bd2_s]
    exact ⟨M2, rfl, F.trans (F2.mono sM_v)⟩
  · rw [e, if_neg (by decide), if_neg (by decide), if_neg (by decide), if_neg (by decide)]
    obtain ⟨⟨f1, x1⟩, x2, ⟨f2, x3⟩, x4⟩ := p6 (k4.trans e)
    have l1 := (gEx_lt f1 _ _ _ x1).2
    have l2 := (gEx_lt f2 _ _ _ x3).2
    have a1 : 0 ≤ mI M0 214 i.toNat ∧ mI M0 214 i.toNat < 800 := by omega
    have a2 : 0 ≤ mI M0 215 i.toNat ∧ mI M0 215 i.toNat < 800 := by omega
    obtain ⟨kk1, kk2, kk3, kk4⟩ := P.1
    have in1 : ax_in (gvl M0 w h o (mI M0 214 i.toNat)) := gE_in P.1 P.2.1 p4.1 p5 _ _ (Nat.lt_succ_self _) l1 x2
    have in2 : ax_in (gvl M0 w h o (mI M0 215 i.toNat)) := gE_in P.1 P.2.1 p4.1 p5 _ _ (Nat.lt_succ_self _) l2 x4
    have z : 0 ≤ gvl M0 w h o (mI M0 214 i.toNat) % w ∧ gvl M0 w h o (mI M0 214 i.toNat) % w < w ∧ 0 ≤ gvl M0 w h o (mI M0 215 i.toNat) % h ∧ gvl M0 w h o (mI M0 215 i.toNat) % h < h := ⟨Int.emod_nonneg _ (by omega), Int.emod_lt_of_pos _ (by omega), Int.emod_nonneg _ (by omega), Int.emod_lt_of_pos _ (by omega)⟩
    obtain ⟨q1, q2, q3, _⟩ := gC_on P.1 z.1 z.2.1 z.2.2.1 z.2.2.2
    refine ⟨M, ?_, F⟩
    rw [f 214 _ (by omega) (by omega), f 215 _ (by omega) (by omega), if_pos a1, hv _ l1 x2, P.2.2.1, fmod_eq M in1 kk1 kk2, bd1_s, if_pos a2, hv _ l2 x4, P.2.2.2.1, fmod_eq M in2 kk3 kk4, bd1_s, Q_at P z, if_pos (show 0 ≤ gCell w h (gvl M0 w h o (mI M0 214 i.toNat) % w) (gvl M0 w h o (mI M0 215 i.toNat) % h) ∧ gCell w h (gvl M0 w h o (mI M0 214 i.toNat) % w) (gvl M0 w h o (mI M0 215 i.toNat) % h) < 81 by omega), P.2.2.2.2 _ q2 (by omega), if_neg (show ¬ ((10 : Int) = 6) by decide), if_neg (show ¬ ((10 : Int) = 7) by decide), if_neg (show ¬ ((10 : Int) = 8) by decide), if_neg (show ¬ ((10 : Int) = 9) by decide)]
    unfold gtold
    by_cases y : o (gCell w h (gvl M0 w h o (mI M0 214 i.toNat) % w) (gvl M0 w h o (mI M0 215 i.toNat) % h)) = 0
    · rw [if_pos (by omega), if_pos y]
    · rw [if_neg (by omega), if_neg y]
theorem Q_planned (P : Md M w h o) (G : gPl M q) (p : Int) : ∃ M', fX14_planned M p = some (gchs M w h o p (mI M 208 3).toNat, M') ∧ Fr sMv M M' := by
  have g2 := G.2.2.1
  have g3 := G.2.2.2.1
  have key : ∃ r, lp (fun s => fX14_planned_b2 s.2 p s.1) lpN (0, M) = some r ∧ ∃ M', Fr sMv M M' ∧ ((r = .inl (gchs M w h o p (mI M 208 3).toNat, M')) ∨ (r = .inr M' ∧ gchs M w h o p (mI M 208 3).toNat = -1)) := by
    refine lpn (mI M 208 3).toNat (by omega) (fun i s => s.1 = (i : Int) ∧ Fr sMv M s.2 ∧ ∀ c : Int, 0 ≤ c → c < (i : Int) → ¬ gtk M w h o p c) _ _ ⟨rfl, Fr.refl _ _, fun c a b => by omega⟩ ?_ ?_
    · rintro i ⟨x, M3⟩ hi ⟨hx, F3, h3⟩
      have hx : x = (i : Int) := hx
      subst hx
      have F3 : Fr sMv M M3 := F3
      have f : ∀ M', Fr sMv M M' → ∀ k j, 208 ≤ k → k ≤ 219 → mI M' k j = mI M k j := fun M' F k j a b => F.2 k j (by unfold sMv; omega)
      have i0 : 0 ≤ (i : Int) := by omega
      have i1 : (i : Int) < mI M 208 3 := by omega
      have i17 : 0 ≤ (i : Int) ∧ (i : Int) < 17 := by omega
      obtain ⟨p1, p2, p3, p4, p5, p6, p7⟩ := G.2.2.2.2 (i : Int) i0 i1
      have next : ¬ gtk M w h o p (i : Int) → ∀ c : Int, 0 ≤ c → c < ((i + 1 : Nat) : Int) → ¬ gtk M w h o p c := fun z c a b => by
        by_cases e : c = (i : Int)
        · rw [e]; exact z
        · exact h3 c a (by omega)
      show (∃ r, fX14_planned_b2 M3 p (i : Int) = some (.inr r) ∧ _) ∨ (∃ s', fX14_planned_b2 M3 p (i : Int) = some (.inl s') ∧ _)
      unfold fX14_planned_b2
      rw [f M3 F3 208 _ (by omega) (by omega), if_pos i1, if_pos i17, f M3 F3 210 _ (by omega) (by omega)]
      by_cases z1 : mI M 210 (i : Int).toNat = p
      · have s217 : (fun j : Int => mI M3 217 j.toNat) = gPS M := funext (fun j => f M3 F3 217 _ (by omega) (by omega))
        have s218 : (fun j : Int => mI M3 218 j.toNat) = gPL M := funext (fun j => f M3 F3 218 _ (by omega) (by omega))
        have s219 : (fun j : Int => mI M3 219 j.toNat) = gPR M := funext (fun j => f M3 F3 219 _ (by omega) (by omega))
        obtain ⟨M4, e4, F4, h4⟩ := Q_eval (i := (i : Int)) (P.fr F3 sMv_pond) p i17.1 i17.2 rfl rfl (by rw [f M3 F3 212 _ (by omega) (by omega)]; exact p4.1) (by rw [f M3 F3 212 _ (by omega) (by omega), f M3 F3 213 _ (by omega) (by omega)]; exact p4.2.1) (by rw [f M3 F3 213 _ (by omega) (by omega)]; exact p4.2.2) (by
          rw [s217, s218, s219, f M3 F3 212 _ (by omega) (by omega), f M3 F3 213 _ (by omega) (by omega)]
          exact p5)
        rw [s217, s218, s219, f M3 F3 212 _ (by omega) (by omega), f M3 F3 213 _ (by omega) (by omega)] at h4
        rw [f M3 F3 212 _ (by omega) (by omega)] at e4
        have F34 := F3.trans F4
        have P4 := P.fr F34 sMv_pond
        obtain ⟨M5, e5, F5⟩ := Q_found P4 G F34 i0 i1 h4
        rw [if_pos z1, f M3 F3 212 _ (by omega) (by omega), e4, bd1_s, f M4 F34 216 _ (by omega) (by omega), e5, bd2_s]
        rcases p7 with ⟨a, b⟩ | ⟨⟨f3, a⟩, b⟩
        · rw [if_pos a]
          by_cases z3 : gcel M w h o (i : Int) = -1
          · rw [if_pos z3]
            exact Or.inr ⟨(_, _), rfl, rfl, F5, next (fun z => z.2.2 z3)⟩
          · rw [if_neg z3]
            exact Or.inl ⟨_, rfl, M5, F5, Or.inl (by rw [gchs_at ⟨z1, Or.inl a, z3⟩ h3 (by omega)])⟩
        · have l1 := (gEx_lt f3 _ _ _ a).2
          rw [if_neg (by omega), if_pos (show 0 ≤ mI M 216 (i : Int).toNat ∧ mI M 216 (i : Int).toNat < 800 by omega), h4 _ l1 b]
          by_cases z2 : gE w h o (gPS M) (gPL M) (gPR M) (mI M 216 (i : Int).toNat) = 0
          · rw [if_pos z2]
            refine Or.inr ⟨(_, _), rfl, rfl, F34, next (fun z => ?_)⟩
            rcases z.2.1 with y | y
            · omega
            · exact y z2
          · rw [if_neg z2]
            by_cases z3 : gcel M w h o (i : Int) = -1
            · rw [if_pos z3]
              exact Or.inr ⟨(_, _), rfl, rfl, F5, next (fun z => z.2.2 z3)⟩
            · rw [if_neg z3]
              exact Or.inl ⟨_, rfl, M5, F5, Or.inl (by rw [gchs_at ⟨z1, Or.inr z2, z3⟩ h3 (by omega)])⟩
      · rw [if_neg z1]
        exact Or.inr ⟨(_, _), rfl, rfl, F3, next (fun z => z1 z.1)⟩
    · rintro ⟨x, M3⟩ ⟨hx, F3, h3⟩
      have hx : x = ((mI M 208 3).toNat : Int) := hx
      subst hx
      have F3 : Fr sMv M M3 := F3
      refine ⟨(Sum.inr M3 : (Int × ax_M) ⊕ ax_M), ?_, M3, F3, Or.inr ⟨rfl, gchs_no h3⟩⟩
      show fX14_planned_b2 M3 p ((mI M 208 3).toNat : Int) = _
      unfold fX14_planned_b2
      rw [F3.2 208 _ (by unfold sMv; omega), if_neg (by omega)]
  obtain ⟨r, e, M', F, rr⟩ := key
  refine ⟨M', ?_, F⟩
  unfold fX14_planned
  rw [e]
  rcases rr with rfl | ⟨rfl, z⟩
  · rfl
  · rw [z]; rfl
end CHO
