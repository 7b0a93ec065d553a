/-! part C: the calls, one by one: the best cell, the mean of the groups -/
section NNN
theorem dd_ok (s n : Int) (hn : Int32.ofInt n ≠ 0) : FP.ddiv (idl s) (idl n) &&& (0x7fffffffffffffff : UInt64) ≤ (0x7ff0000000000000 : UInt64) := by
  have h1 : FP.Core.dIsNaN (FP.Core.ddiv (FP.Core.i2d (Int32.ofInt s)) (FP.Core.i2d (Int32.ofInt n))) = false := by
    refine FP.Core.ddiv_out (FP.Core.i2d_fin _).notNaN (FP.Core.i2d_fin _) (fun z => ?_)
    exact FP.Core.i2d_ne_zero hn ((FP.Core.zero_bits2 _).mp z)
  have h2 : ¬ (9218868437227405312 < (FP.ddiv (idl s) (idl n)).toNat % 2 ^ 63) := fun z => by
    have := (FP.Core.isNaN_bits _).mpr z
    rw [show FP.Core.dIsNaN (FP.ddiv (idl s) (idl n)) = false from h1] at this
    cases this
  generalize FP.ddiv (idl s) (idl n) = r at h2
  rw [UInt64.le_iff_toNat_le, UInt64.toNat_and]
  have e1 : (0x7fffffffffffffff : UInt64).toNat = 2 ^ 63 - 1 := by decide
  have e2 : (0x7ff0000000000000 : UInt64).toNat = 9218868437227405312 := by decide
  rw [e1, e2, Nat.and_two_pow_sub_one_eq_mod]
  omega
end NNN
theorem gput_back {o : Int → Int} {c v : Int} (hc : o c = 0) : gput (gput o c v) c 0 = o := by
  funext x
  by_cases e : x = c
  · rw [e, gput_s, hc]
  · rw [gput_n e, gput_n e]
noncomputable def glead (w h : Int) (o : Int → Int) (t c : Int) : Int := gneed w h (gput o c (t + 1)) (1 - t) - gneed w h (gput o c (t + 1)) t
noncomputable def gbst (w h : Int) (o : Int → Int) (t : Int) : Nat → Int × Int
  | 0 => (-1, 0)
  | n + 1 => if o (n : Int) = 0 then (if (gbst w h o t n).1 = -1 then ((n : Int), glead w h o t n) else if (gbst w h o t n).2 < glead w h o t n then ((n : Int), glead w h o t n) else gbst w h o t n) else gbst w h o t n
def sBs : Nat → Nat → Prop := fun k j => k = 170 ∨ k = 174 ∨ (k = 169 ∧ j = 9) ∨ (183 ≤ k ∧ k ≤ 191)
section CL7
variable {M M1 M2 N N' R : ax_M} {q q' : Nat} {w h : Int} {o o' : Int → Int} {k T e : Int} {b : Int → Int} {p x y c v u t n : Int}
theorem C_lead (P : Pd R w h o) (W : gWays R w h o) (B : gBr R w h o) (ht : t = 0 ∨ t = 1) (c0 : 0 ≤ c) (c1 : c < w * h) (hc : o c = 0) (hch : 0 ≤ mI R 169 9 ∧ mI R 169 9 < 1500000000) : ∃ R', fX12_leadWith R c t = some (glead w h o t c, R') ∧ Pd R' w h o ∧ gWays R' w h o ∧ gBr R' w h o ∧ Fr sBs R R' ∧ mI R' 169 9 = mI R 169 9 + 2 := by
  obtain ⟨R1, r1, P1, f1, h1⟩ := C_put P (v := t + 1) c0 c1 (by omega) (by omega)
  have W1 : gWays R1 w h (gput o c (t + 1)) := gWays_new W f1 (fun k j z => by unfold sP; omega) (by omega)
  obtain ⟨R2, r2, W2, f2, hn⟩ := C_waysF P1 W1
  have P2 := P1.fr f2 sU_pond
  have h2 : mI R2 169 9 = mI R1 169 9 := f2.2 169 9 sU9
  obtain ⟨R3, r3, P3, f3, h3⟩ := C_put P2 (v := 0) c0 c1 (by omega) (by omega)
  rw [gput_back hc] at P3
  have F : Fr sBs R R3 := ((f1.mono (fun k j z => by unfold sP at z; unfold sBs; omega)).trans (f2.mono (fun k j z => by unfold sU at z; unfold sBs; omega))).trans (f3.mono (fun k j z => by unfold sP at z; unfold sBs; omega))
  have b0 := gneed_b P1 (p := 1 - t) (by omega)
  have b1 := gneed_b P1 (p := t) (by omega)
  refine ⟨R3, ?_, P3, gWays_new W2 f3 (fun k j z => by unfold sP; omega) (by omega), gBr_new B F (fun k j z => by unfold sBs; omega) (by omega), F, by omega⟩
  unfold fX12_leadWith glead fX11_needed
  rw [wr_eq (x := t + 1) (by omega) (by omega), r1, bd1_s, r2, bd1_s, r3, bd1_s, wr_eq (x := 1 - t) (by omega) (by omega), if_neg (show ¬ 1 - t < 0 by omega), if_pos (show 1 - t < 2 by omega), if_neg (show ¬ t < 0 by omega), if_pos (show t < 2 by omega), hn (1 - t) (by omega), hn t ht, wr_eq (by omega) (by omega)]
theorem C_best (P : Pd N w h o) (W : gWays N w h o) (B : gBr N w h o) (ht : t = 0 ∨ t = 1) (hch : 0 ≤ mI N 169 9 ∧ mI N 169 9 < 1100000000) : ∃ N', lp (fun s => fX12_bestCell_b19 s.2.2.2 t s.1 s.2.1 s.2.2.1) lpN ((-1), 0, 0, N) = some ((gbst w h o t (w * h).toNat).1, N') ∧ Pd N' w h o ∧ gWays N' w h o ∧ gBr N' w h o ∧ Fr sBs N N' ∧ mI N 169 9 ≤ mI N' 169 9 ∧ mI N' 169 9 ≤ mI N 169 9 + 162 := by
  have hk := gOk_le P.k
  have key : ∃ r, lp (fun s : Int × Int × Int × ax_M => fX12_bestCell_b19 s.2.2.2 t s.1 s.2.1 s.2.2.1) lpN ((-1), 0, 0, N) = some r ∧ (r.1 = (gbst w h o t (w * h).toNat).1 ∧ Pd r.2 w h o ∧ gWays r.2 w h o ∧ gBr r.2 w h o ∧ Fr sBs N r.2 ∧ mI N 169 9 ≤ mI r.2 169 9 ∧ mI r.2 169 9 ≤ mI N 169 9 + 162) := by
    refine lpn (w * h).toNat (by omega) (fun i s => (s.1 = (gbst w h o t i).1 ∧ s.2.1 = (gbst w h o t i).2 ∧ s.2.2.1 = (i : Int)) ∧ Pd s.2.2.2 w h o ∧ gWays s.2.2.2 w h o ∧ gBr s.2.2.2 w h o ∧ Fr sBs N s.2.2.2 ∧ mI N 169 9 ≤ mI s.2.2.2 169 9 ∧ mI s.2.2.2 169 9 ≤ mI N 169 9 + 2 * i) _ _ ?_ ?_ ?_
    · exact ⟨⟨rfl, rfl, rfl⟩, P, W, B, Fr.refl _ _, Int.le_refl _, by show mI N 169 9 ≤ mI N 169 9 + 2 * ((0 : Nat) : Int); omega⟩
    · rintro i ⟨x1, x2, x3, R⟩ hi ⟨⟨e1, e2, e3⟩, PR, WR, BR, f, l0, l1⟩
      have e1 : x1 = (gbst w h o t i).1 := e1
      have e2 : x2 = (gbst w h o t i).2 := e2
      have e3 : x3 = (i : Int) := e3
      have PR : Pd R w h o := PR
      have WR : gWays R w h o := WR
      have BR : gBr R w h o := BR
      have f : Fr sBs N R := f
      have l0 : mI N 169 9 ≤ mI R 169 9 := l0
      have l1 : mI R 169 9 ≤ mI N 169 9 + 2 * i := l1
      right
      have es : gbst w h o t (i + 1) = if o (i : Int) = 0 then (if (gbst w h o t i).1 = -1 then ((i : Int), glead w h o t i) else if (gbst w h o t i).2 < glead w h o t i then ((i : Int), glead w h o t i) else gbst w h o t i) else gbst w h o t i := rfl
      by_cases ho : o (i : Int) = 0
      · obtain ⟨R', r, P', W', B', f', h'⟩ := C_lead PR WR BR ht (c := (i : Int)) (by omega) (by omega) ho (by omega)
        rw [if_pos ho] at es
        have red : fX12_bestCell_b19 R t x1 x2 x3 = (if x1 = (-1) then (some (.inl ((i : Int), glead w h o t i, (i : Int) + 1, R'))) else (if x2 < glead w h o t i then (some (.inl ((i : Int), glead w h o t i, (i : Int) + 1, R'))) else (some (.inl (x1, x2, (i : Int) + 1, R'))))) := by
          unfold fX12_bestCell_b19
          rw [e3, P_cells PR.1, if_pos (by omega), P_own PR, if_pos ho, r, bd2_s]
        rw [← e1, ← e2] at es
        by_cases z1 : x1 = -1
        · rw [if_pos z1] at red es
          exact ⟨_, red, ⟨by rw [es], by rw [es], rfl⟩, P', W', B', f.trans f', by show mI N 169 9 ≤ mI R' 169 9; omega, by show mI R' 169 9 ≤ mI N 169 9 + 2 * ((i + 1 : Nat) : Int); omega⟩
        · rw [if_neg z1] at red es
          by_cases z2 : x2 < glead w h o t i
          · rw [if_pos z2] at red es
            exact ⟨_, red, ⟨by rw [es], by rw [es], rfl⟩, P', W', B', f.trans f', by show mI N 169 9 ≤ mI R' 169 9; omega, by show mI R' 169 9 ≤ mI N 169 9 + 2 * ((i + 1 : Nat) : Int); omega⟩
          · rw [if_neg z2] at red es
            exact ⟨_, red, ⟨by rw [es]; exact e1, by rw [es]; exact e2, rfl⟩, P', W', B', f.trans f', by show mI N 169 9 ≤ mI R' 169 9; omega, by show mI R' 169 9 ≤ mI N 169 9 + 2 * ((i + 1 : Nat) : Int); omega⟩
      · rw [if_neg ho] at es
        refine ⟨(x1, x2, (i : Int) + 1, R), ?_, ⟨by rw [es]; exact e1, by rw [es]; exact e2, rfl⟩, PR, WR, BR, f, l0, by show mI R 169 9 ≤ mI N 169 9 + 2 * ((i + 1 : Nat) : Int); omega⟩
        show fX12_bestCell_b19 R t x1 x2 x3 = _
        unfold fX12_bestCell_b19
        rw [e3, P_cells PR.1, if_pos (by omega), P_own PR, if_neg ho]
    · rintro ⟨x1, x2, x3, R⟩ ⟨⟨e1, e2, e3⟩, PR, WR, BR, f, l0, l1⟩
      have e3 : x3 = ((w * h).toNat : Int) := e3
      have PR : Pd R w h o := PR
      have l1 : mI R 169 9 ≤ mI N 169 9 + 2 * ((w * h).toNat : Int) := l1
      refine ⟨(x1, R), ?_, e1, PR, WR, BR, f, l0, by show mI R 169 9 ≤ mI N 169 9 + 162; omega⟩
      show fX12_bestCell_b19 R t x1 x2 x3 = _
      unfold fX12_bestCell_b19
      rw [e3, P_cells PR.1, if_neg (by omega)]
  obtain ⟨r, h1, h2, h3⟩ := key
  obtain ⟨r1, r2⟩ := r
  have h2 : r1 = _ := h2
  subst h2
  exact ⟨r2, h1, h3⟩
theorem Q_best (P : Md M w h o) (ht : t = 0 ∨ t = 1) : ∃ M', fX14_best M t = some ((gbst w h o t (w * h).toNat).1, M') ∧ Md M' w h o ∧ Fr (fun k j => sM k j ∨ k = 233) M M' := by
  have hk := gOk_le P.1
  have key : ∃ r, lp (fun s : Int × Int × Int × ax_M => fX14_best_b7 s.2.2.2 t s.1 s.2.1 s.2.2.1) lpN ((-1), 0, 0, M) = some r ∧ (r.1 = (gbst w h o t (w * h).toNat).1 ∧ Md r.2 w h o ∧ Fr (fun k j => sM k j ∨ k = 233) M r.2) := by
    refine lpn (w * h).toNat (by omega) (fun i s => (s.1 = (gbst w h o t i).1 ∧ s.2.1 = (gbst w h o t i).2 ∧ s.2.2.1 = (i : Int)) ∧ Md s.2.2.2 w h o ∧ Fr (fun k j => sM k j ∨ k = 233) M s.2.2.2) _ _ ?_ ?_ ?_
    · exact ⟨⟨rfl, rfl, rfl⟩, P, Fr.refl _ _⟩
    · rintro i ⟨x1, x2, x3, R⟩ hi ⟨⟨e1, e2, e3⟩, PR, f⟩
      have e1 : x1 = (gbst w h o t i).1 := e1
      have e2 : x2 = (gbst w h o t i).2 := e2
      have e3 : x3 = (i : Int) := e3
      have PR : Md R w h o := PR
      have f : Fr (fun k j => sM k j ∨ k = 233) M R := f
      right
      have es : gbst w h o t (i + 1) = if o (i : Int) = 0 then (if (gbst w h o t i).1 = -1 then ((i : Int), glead w h o t i) else if (gbst w h o t i).2 < glead w h o t i then ((i : Int), glead w h o t i) else gbst w h o t i) else gbst w h o t i := rfl
      have i233 : mI R 233 (Int.toNat (i : Int)) = o i - 1 := PR.2.2.2.2 (i : Int) (by omega) (by omega)
      by_cases ho : o (i : Int) = 0
      · have P1 := Md_put PR (c := (i : Int)) (v := t) (by omega) (by omega) (by omega)
        obtain ⟨R1, r1, g1⟩ := Q_needs P1 (p := 1 - t) (by omega)
        have P2 := P1.fr g1 sM_pond
        obtain ⟨R2, r2, g2⟩ := Q_needs P2 ht
        have P3 := P2.fr g2 sM_pond
        have P4 := Md_put P3 (c := (i : Int)) (v := -1) (by omega) (by omega) (by omega)
        rw [show (-1 : Int) + 1 = 0 from rfl, gput_back ho] at P4
        obtain ⟨M0, Q0⟩ := Pd_ex PR.1 (gput_own PR.2.1 (c := (i : Int)) (v := t + 1) (by omega) (by omega) (by omega))
        have b0 := gneed_b Q0 (p := 1 - t) (by omega)
        have b1 := gneed_b Q0 (p := t) (by omega)
        have F : Fr (fun k j => sM k j ∨ k = 233) M (mUI R2 233 (Int.toNat (i : Int)) (-1)) := (((f.up (Or.inr rfl)).trans (g1.mono (fun k j z => Or.inl z))).trans (g2.mono (fun k j z => Or.inl z))).up (Or.inr rfl)
        rw [if_pos ho] at es
        have ld : wr (gneed w h (gput o (i : Int) (t + 1)) (1 - t) - gneed w h (gput o (i : Int) (t + 1)) t) = glead w h o t i := wr_eq (by omega) (by omega)
        have red : fX14_best_b7 R t x1 x2 x3 = (if x1 = (-1) then (some (.inl ((i : Int), glead w h o t i, (i : Int) + 1, mUI R2 233 (Int.toNat (i : Int)) (-1)))) else (if x2 < glead w h o t i then (some (.inl ((i : Int), glead w h o t i, (i : Int) + 1, mUI R2 233 (Int.toNat (i : Int)) (-1)))) else (some (.inl (x1, x2, (i : Int) + 1, mUI R2 233 (Int.toNat (i : Int)) (-1)))))) := by
          unfold fX14_best_b7
          rw [e3, Q_cells PR, if_pos (by omega), if_pos (by omega), i233, if_pos (by omega), wr_eq (x := 1 - t) (by omega) (by omega), r1, bd2_s, r2, bd2_s, ld]
        rw [← e1, ← e2] at es
        by_cases z1 : x1 = -1
        · rw [if_pos z1] at red es
          exact ⟨_, red, ⟨by rw [es], by rw [es], rfl⟩, P4, F⟩
        · rw [if_neg z1] at red es
          by_cases z2 : x2 < glead w h o t i
          · rw [if_pos z2] at red es
            exact ⟨_, red, ⟨by rw [es], by rw [es], rfl⟩, P4, F⟩
          · rw [if_neg z2] at red es
            exact ⟨_, red, ⟨by rw [es]; exact e1, by rw [es]; exact e2, rfl⟩, P4, F⟩
      · rw [if_neg ho] at es
        refine ⟨(x1, x2, (i : Int) + 1, R), ?_, ⟨by rw [es]; exact e1, by rw [es]; exact e2, rfl⟩, PR, f⟩
        show fX14_best_b7 R t x1 x2 x3 = _
        unfold fX14_best_b7
        rw [e3, Q_cells PR, if_pos (by omega), if_pos (by omega), i233, if_neg (by omega)]
    · rintro ⟨x1, x2, x3, R⟩ ⟨⟨e1, e2, e3⟩, PR, f⟩
      have e3 : x3 = ((w * h).toNat : Int) := e3
      have PR : Md R w h o := PR
      refine ⟨(x1, R), ?_, e1, PR, f⟩
      show fX14_best_b7 R t x1 x2 x3 = _
      unfold fX14_best_b7
      rw [e3, Q_cells PR, if_neg (by omega)]
  obtain ⟨r, h1, h2, h3⟩ := key
  obtain ⟨r1, r2⟩ := r
  have h2 : r1 = _ := h2
  subst h2
  refine ⟨r2, ?_, h3.1, h3.2⟩
  unfold fX14_best
  rw [h1, bd1_s]
/-- what changes and is changed back -/
theorem gI.same {S : Nat → Nat → Prop} (I : gI M q q' w h o k b T e) (f : Fx S M N) (hS : ∀ k j, S k j → sFr q k j ∨ k = 170 ∨ k = 174 ∨ k = 233) (P : Pd N w h o) (Q : Md N w h o) (W : gWays N w h o) (B : gBr N w h o) : gI N q q' w h o k b T e := by
  obtain ⟨i1, i2, i3, i4, i5, i6, i7, ⟨i8, i9⟩, i10, i11⟩ := I
  have hq : q = 157 ∨ q = 194 := by have := i1.1; omega
  have nS : ∀ k j, ¬ sFr q k j → k ≠ 170 → k ≠ 174 → k ≠ 233 → ¬ S k j := fun k j a b c d z => by
    rcases hS k j z with y | y | y | y
    · exact a y
    · exact b y
    · exact c y
    · exact d y
  refine ⟨i1.x f (fun k j z => nS k j (by unfold sFr; omega) (by omega) (by omega) (by omega)), P, Q, W, B, (i6.x f (fun k j z => nS k j (by unfold sFr; omega) (by omega) (by omega) (by omega))).1, i7.x f (fun k j z => nS k j (by unfold sFr; omega) (by omega) (by omega) (by omega)), ⟨i8.x f (fun k j z => nS k j (by unfold sFr; omega) (by omega) (by omega) (by omega)), i9.x f (fun k j z => nS k j (by unfold sFr; omega) (by omega) (by omega) (by omega))⟩, ?_, ?_⟩
  · rw [(f 150 11 (by omega) (nS _ _ (by unfold sFr; omega) (by omega) (by omega) (by omega))).1]; exact i10
  · rw [(f 203 3 (by omega) (nS _ _ (by unfold sFr; omega) (by omega) (by omega) (by omega))).1]; exact i11
theorem K_bestCell (I : gI M q q' w h o k b T e) (hz : 94 ≤ mSz M) (hch : 0 ≤ mI M 169 9 ∧ mI M 169 9 < 1000000000) : gCx M (fL_bestCell M) fX14_bestCell il := by
  refine K_on I hz 1 (by decide) (fun N r => ?_) (fun M1 M2 _ r => ?_) (fun N IN f A r hO y => ?_)
  · unfold fL_bestCell fX12_bestCell
    rw [r, bdT_r, bdC_r, if_pos rfl]
  · unfold fX14_bestCell
    rw [r, bd2_s, if_neg (by decide)]
    rfl
  · have hq : q = 157 ∨ q = 194 := by have := I.1.1; omega
    have n9 := f.2 169 9 sU9
    have tb := gturn_b o
    obtain ⟨N2, r2, P2, W2, B2, f2, l0, l1⟩ := C_best IN.2.1 IN.2.2.2.1 IN.2.2.2.2.1 tb (by omega)
    have Md2 : Md N2 w h o := IN.2.2.1.fr f2 (fun k j z => by unfold sBs; omega)
    have I2 : gI N2 q q' w h o k b T e := IN.same f2.x (fun k j z => by unfold sBs at z; unfold sFr; omega) P2 Md2 W2 B2
    obtain ⟨M1, e1⟩ : ∃ M1, M1 = mUJ N2 243 0 (il (gbst w h o (gturn o) (w * h).toNat).1) := ⟨_, rfl⟩
    have I1 : gI M1 q q' w h o k b T e := by rw [e1]; exact I2.jl _
    obtain ⟨M2, r3, f3, e0⟩ := hO M1 I1
    have I3 := I1.mo f3
    obtain ⟨M3, r4, Q4, f4⟩ := Q_best I3.2.2.1 tb
    have I4 : gI M3 q q' w h o k b T e := I3.same f4.x (fun k j z => by unfold sM at z; unfold sFr; omega) (I3.2.1.fr f4 (fun k j z => by unfold sM; omega)) Q4 (I3.2.2.2.1.x f4.x (fun k j z => by unfold sM; omega)) (I3.2.2.2.2.1.x f4.x (fun k j z => by unfold sM; omega))
    have z3 : M3.2 = M1.2 := by rw [f4.1, f3.1]
    have zs : M3.2.2.2 = M.2.2.2 := by
      rw [z3, e1]
      show N2.2.2.2 = M.2.2.2
      rw [f2.1, f.1]
    have m9 : mI M3 169 9 = mI N2 169 9 := by rw [f4.2 169 9 (by unfold sM; omega), mo_9 f3, e1]
    refine ⟨0, M1, (gbst w h o (gturn o) (w * h).toNat).1, M3, ?_, ?_, ?_, fun _ => ?_, ⟨q, q', w, h, _, _, b, T, e, I4⟩, ?_, ?_, ?_, by omega, by omega⟩
    · unfold fL_bestCell fX12_bestCell
      rw [r, bdT_l, C_turn IN.2.1, r2, bd1_s, bdC_l, e1]
    · unfold fX14_bestCell
      rw [r3, bd2_s, if_pos rfl, Q_turn I3.2.2.1, bd1_s, r4, bd2_s]
    · rw [f4.2 203 0 (by unfold sM; omega)]; exact e0
    · show M3.2.2.1 243 0 = _
      rw [z3, e1]
      show ax_up (mJ N2) 243 0 (il (gbst w h o (gturn o) (w * h).toNat).1) 243 0 = _
      exact ax_up_s
    · show M.2.2.2.1 ≤ M3.2.2.2.1; rw [zs]; exact Nat.le_refl _
    · show M3.2.2.2.1 ≤ M.2.2.2.1 + 2; rw [zs]; omega
    · show M3.2.2.2.2.1 ≤ M.2.2.2.2.1 + 20; rw [zs]; omega
theorem i32_ne {n : Int} (h0 : n ≠ 0) (h1 : -1000 < n) (h2 : n < 1000) : Int32.ofInt n ≠ 0 := fun z => by
  have h := congrArg Int32.toInt z
  rw [Int32.toInt_ofInt_of_le (by omega) (by omega)] at h
  exact h0 h
theorem K_meanGroup (I : gI M q q' w h o k b T e) : gCy M (fX12_meanGroup M) fX14_meanGroup := by
  have hk := gOk_le I.2.1.k
  obtain ⟨N1, r1, f1, c1, _⟩ := C_look I.2.1 (p := 0) (Or.inl rfl)
  have I1 := I.cg f1
  obtain ⟨N2, r2, f2, c2, _⟩ := C_look I1.2.1 (p := 1) (Or.inr rfl)
  have I2 := I1.cg f2
  obtain ⟨M3, r3, f3⟩ := Q_groups (I2.z 0).2.2.1 (p := 0) (Or.inl rfl)
  have I3 := (I2.z 0).mo (sM_mm f3)
  obtain ⟨M4, r4, f4⟩ := Q_groups I3.2.2.1 (p := 1) (Or.inr rfl)
  have I4 := I3.mo (sM_mm f4)
  have g0 := gcn_b (gnew w h o (0 + 1)) (w * h).toNat
  have g1 := gcn_b (gnew w h o (1 + 1)) (w * h).toNat
  obtain ⟨a, ha⟩ : ∃ a, gcn (gnew w h o (0 + 1)) (w * h).toNat = a := ⟨_, rfl⟩
  obtain ⟨d, hd⟩ : ∃ d, gcn (gnew w h o (1 + 1)) (w * h).toNat = d := ⟨_, rfl⟩
  rw [ha] at c1 r3 g0
  rw [hd] at c2 r4 g1
  have s0 := gcn_b (fun c => o c = 1) 81
  have s1 := gcn_b (fun c => o c = 2) 81
  have st := C_stones I2.2.1
  have q0 : fX14_count M4 0 = some (gcn (fun c => o c = 1) 81) := Q_countP I4.2.2.1 (p := 0) (Or.inl rfl)
  have q1 : fX14_count M4 1 = some (gcn (fun c => o c = 2) 81) := Q_countP I4.2.2.1 (p := 1) (Or.inr rfl)
  obtain ⟨sv, hsv⟩ : ∃ sv, gcn (fun c => o c = 1) 81 + gcn (fun c => o c = 2) 81 = sv := ⟨_, rfl⟩
  rw [hsv] at st
  have wa : wr (a + d) = a + d := wr_eq (by omega) (by omega)
  have ws : wr (gcn (fun c => o c = 1) 81 + gcn (fun c => o c = 2) 81) = sv := by rw [wr_eq (by omega) (by omega), hsv]
  have cl : fX12_meanGroup M = (if a + d = 0 then (some (0, N2)) else (if FP.ddiv (idl sv) (idl (a + d)) &&& (0x7fffffffffffffff : UInt64) ≤ (0x7ff0000000000000 : UInt64) then (some ((FP.ddiv (idl sv) (idl (a + d))), N2)) else none)) := by
    unfold fX12_meanGroup fX4_count
    rw [r1, bd1_s, r2, bd1_s, c1, c2, wa, st]
  have ml : fX14_meanGroup N2 = (if a + d = 0 then (some (0, M4)) else (if FP.ddiv (idl sv) (idl (a + d)) &&& (0x7fffffffffffffff : UInt64) ≤ (0x7ff0000000000000 : UInt64) then (some ((FP.ddiv (idl sv) (idl (a + d))), M4)) else none)) := by
    unfold fX14_meanGroup
    rw [r3, bd2_s, r4, bd2_s, wa, q0, bd1_s, q1, bd1_s, ws]
  have nx : gNx M M4 := nx_2 I2 (f1.trans f2) sG9 (((sMm_z N2 0).trans (sM_mm f3)).trans (sM_mm f4))
  by_cases z : a + d = 0
  · rw [if_pos z] at cl ml
    exact ⟨_, N2, M4, cl, ml, nx⟩
  · have ok := dd_ok sv (a + d) (i32_ne z (by omega) (by omega))
    rw [if_neg z, if_pos ok] at cl ml
    exact ⟨_, N2, M4, cl, ml, nx⟩
end CL7
