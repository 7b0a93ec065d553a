/-! part C: the class's ways: distances from a shore -/
def sW (K : Nat) : Nat → Nat → Prop := fun k j => k = K ∨ k = 191 ∨ (k = 183 ∧ (j = 5 ∨ j = 6))
theorem sW_pond {K : Nat} (hK : 185 ≤ K) : ∀ k j, (k = 169 ∧ j < 2) ∨ 170 ≤ k ∧ k ≤ 174 → ¬ sW K k j := by
  intro k j h1 h2
  unfold sW at h2
  omega
/-- what is known of a cell that has been gone on from -/
def gdn (M : ax_M) (w h : Int) (o : Int → Int) (p : Int) (K : Nat) (c : Int) : Prop := ∀ t : Int, 0 ≤ t → t < 6 → gal w h o p (gbs w h c t) → mI M K (gbs w h c t).toNat ≠ 1000 ∧ mI M K (gbs w h c t).toNat ≤ mI M K c.toNat + gcost o (gbs w h c t)
/-- while distances are found: n cells have left the queue, the latest one at distance x; b is gone on from -/
def gJ (M : ax_M) (w h : Int) (o : Int → Int) (p s : Int) (K : Nat) (x n b : Int) : Prop :=
  (∀ c : Int, 0 ≤ c → c < 81 → mI M K c.toNat = 1000 ∨ (c < w * h ∧ gW w h o p s c (mI M K c.toNat) ∧ mI M K c.toNat ≤ x + 1 ∧ (o c ≠ 0 → mI M K c.toNat ≤ x))) ∧
  (∀ j : Int, mI M 183 5 ≤ j → j < mI M 183 6 → 0 ≤ mI M 191 j.toNat ∧ mI M 191 j.toNat < w * h ∧ mI M K (mI M 191 j.toNat).toNat ≠ 1000 ∧ x ≤ mI M K (mI M 191 j.toNat).toNat) ∧
  (∀ j j' : Int, mI M 183 5 ≤ j → j < j' → j' < mI M 183 6 → mI M K (mI M 191 j.toNat).toNat ≤ mI M K (mI M 191 j'.toNat).toNat) ∧
  (gcn (fun c => mI M K c.toNat ≠ 1000) 81 = n + (mI M 183 6 - mI M 183 5) ∧ 81 - gcn (fun c => mI M K c.toNat ≠ 1000) 81 ≤ mI M 183 5 ∧ mI M 183 5 ≤ mI M 183 6 ∧ mI M 183 6 ≤ 81 + gcn (fun c => mI M K c.toNat ≠ 1000) 81) ∧
  (∀ c : Int, 0 ≤ c → c < w * h → mI M K c.toNat ≠ 1000 → (∃ j : Int, mI M 183 5 ≤ j ∧ j < mI M 183 6 ∧ mI M 191 j.toNat = c) ∨ gdn M w h o p K c ∨ c = b)
section CRE
variable {M : ax_M} {w h : Int} {o : Int → Int} {p s x n b : Int} {K : Nat}
theorem C_reach_x {c : Int} (hc : c < 0 ∨ 81 ≤ c ∨ mI M K c.toNat ≠ 1000) : fX11_reach M p K c x = some M := by
  unfold fX11_reach
  by_cases c0 : c < 0
  · rw [if_pos c0]
  · rw [if_neg c0]
    by_cases c1 : c < 81
    · rw [if_pos c1, if_neg (by omega)]
    · rw [if_neg c1]
theorem C_reach_r (P : Pd M w h o) {c : Int} (ho : o c ≠ 0) (ho2 : o c ≠ p + 1) (hp : 0 ≤ p ∧ p ≤ 1) : fX11_reach M p K c x = some M := by
  unfold fX11_reach
  rw [P_own P, if_neg ho, wr_eq (by omega) (by omega), if_neg ho2]
  by_cases c0 : c < 0
  · rw [if_pos c0]
  · rw [if_neg c0]
    by_cases c1 : c < 81
    · rw [if_pos c1]
      by_cases a : mI M K c.toNat = 1000
      · rw [if_pos a]
      · rw [if_neg a]
    · rw [if_neg c1]
theorem C_reach_e (P : Pd M w h o) (hK : 185 ≤ K ∧ K < 189) {c qe : Int} (c0 : 0 ≤ c) (c1 : c < 81) (ha : mI M K c.toNat = 1000) (ho : o c = 0) (hq : mI M 183 6 = qe) (q0 : 0 ≤ qe) (q1 : qe < 162) (x0 : 0 ≤ x) (x1 : x ≤ 82) : fX11_reach M p K c x = some (mUI (mUI (mUI M K c.toNat (x + 1)) 191 qe.toNat c) 183 6 (qe + 1)) := by
  have e1 : mI (mUI M K c.toNat (x + 1)) 183 6 = qe := by rw [mI_Un (by omega)]; exact hq
  have e2 : mI (mUI (mUI M K c.toNat (x + 1)) 191 qe.toNat c) 183 6 = qe := by rw [mI_Un (by omega)]; exact e1
  unfold fX11_reach
  rw [P_own P, if_neg (by omega), if_pos c1, if_pos ha, if_pos ho, hq, if_neg (by omega), if_pos q1, wr_eq (x := x + 1) (by omega) (by omega), e1, if_pos ⟨q0, q1⟩, e2, wr_eq (x := qe + 1) (by omega) (by omega)]
theorem C_reach_o (P : Pd M w h o) (hK : 185 ≤ K ∧ K < 189) {c qf : Int} (c0 : 0 ≤ c) (c1 : c < 81) (ha : mI M K c.toNat = 1000) (ho : o c = p + 1) (hp : 0 ≤ p ∧ p ≤ 1) (hq : mI M 183 5 = qf) (q0 : 0 < qf) (q1 : qf ≤ 162) : fX11_reach M p K c x = some (mUI (mUI (mUI M K c.toNat x) 183 5 (qf - 1)) 191 (qf - 1).toNat c) := by
  have e1 : mI (mUI M K c.toNat x) 183 5 = qf := by rw [mI_Un (by omega)]; exact hq
  have e2 : mI (mUI (mUI M K c.toNat x) 183 5 (qf - 1)) 183 5 = qf - 1 := mI_Us _ _ _ _
  unfold fX11_reach
  rw [P_own P, if_neg (by omega), if_pos c1, if_pos ha, if_neg (by omega), wr_eq (x := p + 1) (by omega) (by omega), if_pos ho, hq, if_pos q0, if_neg (by omega), e1, wr_eq (x := qf - 1) (by omega) (by omega), e2, if_pos (by omega)]
theorem gJ_reach {c : Int} (P : Pd M w h o) (hK : 185 ≤ K ∧ K < 189) (hp : 0 ≤ p ∧ p ≤ 1) (x0 : 0 ≤ x) (x1 : x ≤ 82) (n0 : 0 ≤ n) (H : gJ M w h o p s K x n b) (hc : c < w * h) (hw : gal w h o p c → gW w h o p s c (x + gcost o c)) :
    ∃ M', fX11_reach M p K c x = some M' ∧ gJ M' w h o p s K x n b ∧ Fr (sW K) M M' ∧ (∀ c : Int, 0 ≤ c → mI M K c.toNat ≠ 1000 → mI M' K c.toNat = mI M K c.toNat) ∧ (gal w h o p c → mI M' K c.toNat ≠ 1000 ∧ mI M' K c.toNat ≤ x + gcost o c) := by
  have hN := P.n
  by_cases hx : c < 0 ∨ mI M K c.toNat ≠ 1000
  · refine ⟨M, C_reach_x (by omega), H, Fr.refl _ _, fun _ _ _ => rfl, fun ha => ?_⟩
    obtain ⟨a0, a1, a2⟩ := ha
    have ha : mI M K c.toNat ≠ 1000 := by omega
    rcases H.1 c a0 (by omega) with z | ⟨z1, z2, z3, z4⟩
    · exact absurd z ha
    · refine ⟨ha, ?_⟩
      rcases gcost_b o c with y | y
      · omega
      · have := z4 y.2; omega
  · have c0 : 0 ≤ c := by omega
    have ha : mI M K c.toNat = 1000 := by omega
    have hob := P.2.1.2 c
    obtain ⟨j1, j2, j3, ⟨j4, j5, j6, j7⟩, j8⟩ := H
    have hlt := gcn_lt (P := fun c => mI M K c.toNat ≠ 1000) 81 c0 (by omega) (fun z => z ha)
    generalize hqf : mI M 183 5 = qf at *
    generalize hqe : mI M 183 6 = qe at *
    generalize hcnt : gcn (fun c => mI M K c.toNat ≠ 1000) 81 = cnt at *
    by_cases he : o c = 0
    · have hcost : gcost o c = 1 := by rcases gcost_b o c with y | y <;> omega
      have hgal : gal w h o p c := ⟨c0, hc, Or.inl he⟩
      have hw := hw hgal
      rw [hcost] at hw
      refine ⟨_, C_reach_e P hK c0 (by omega) ha he hqe (by omega) (by omega) x0 x1, ?_⟩
      generalize eM : mUI (mUI (mUI M K c.toNat (x + 1)) 191 qe.toNat c) 183 6 (qe + 1) = M'
      have rK : ∀ d : Int, 0 ≤ d → mI M' K d.toNat = if d = c then x + 1 else mI M K d.toNat := fun d hd => by
        rw [← eM, mI_Un (by omega), mI_Un (by omega), mI_Z _ _ _ c0 hd]
      have rq : ∀ j : Int, 0 ≤ j → mI M' 191 j.toNat = if j = qe then c else mI M 191 j.toNat := fun j hj => by
        rw [← eM, mI_Un (by omega), mI_Z _ _ _ (by omega) hj, mI_Un (by omega)]
      have rf : mI M' 183 5 = qf := by rw [← eM, mI_Un (by omega), mI_Un (by omega), mI_Un (by omega)]; exact hqf
      have re : mI M' 183 6 = qe + 1 := by rw [← eM, mI_Us]
      have old : ∀ d : Int, 0 ≤ d → mI M K d.toNat ≠ 1000 → mI M' K d.toNat = mI M K d.toNat := fun d hd hz => by
        rw [rK d hd, if_neg (fun e => hz (by rw [e]; exact ha))]
      have new : mI M' K c.toNat = x + 1 := by rw [rK c c0, if_pos rfl]
      have rq1 : ∀ j : Int, qf ≤ j → j < qe → mI M' 191 j.toNat = mI M 191 j.toNat := fun j a b => by rw [rq j (by omega), if_neg (by omega)]
      have rq2 : mI M' 191 qe.toNat = c := by rw [rq qe (by omega), if_pos rfl]
      refine ⟨⟨fun d d0 d1 => ?_, fun j a b => ?_, fun j j' a b d => ?_, ?_, fun d d0 d1 hd => ?_⟩, ?_, old, fun _ => ⟨by omega, by omega⟩⟩
      · by_cases e : d = c
        · subst e
          right
          rw [new]
          exact ⟨hc, hw, Int.le_refl _, fun z => absurd he z⟩
        · rw [rK d d0, if_neg e]
          exact j1 d d0 d1
      · rw [rf] at a; rw [re] at b
        by_cases e : j = qe
        · rw [e, rq2, new]; exact ⟨c0, hc, by omega, by omega⟩
        · obtain ⟨y1, y2, y3, y4⟩ := j2 j a (by omega)
          rw [rq1 j a (by omega), old _ y1 y3]; exact ⟨y1, y2, y3, y4⟩
      · rw [rf] at a; rw [re] at d
        obtain ⟨y1, y2, y3, y4⟩ := j2 j a (by omega)
        rw [rq1 j a (by omega), old _ y1 y3]
        by_cases e : j' = qe
        · rw [e, rq2, new]
          rcases j1 _ y1 (by omega) with z | z
          · exact absurd z y3
          · exact z.2.2.1
        · obtain ⟨u1, u2, u3, u4⟩ := j2 j' (by omega) (by omega)
          rw [rq1 j' (by omega) (by omega), old _ u1 u3]
          exact j3 j j' a b (by omega)
      · have e : gcn (fun c => mI M' K c.toNat ≠ 1000) 81 = cnt + 1 := by
          rw [← hcnt]
          exact gcn_add (c0 := c) 81 c0 (by omega) (fun z => z ha) (by rw [new]; omega) (fun d d0 d1 e => by rw [rK d d0, if_neg e])
        rw [e, rf, re]
        omega
      · rw [rf, re]
        by_cases e : d = c
        · exact Or.inl ⟨qe, by omega, by omega, by rw [rq2, e]⟩
        · have hd' : mI M K d.toNat ≠ 1000 := by rw [rK d d0, if_neg e] at hd; exact hd
          rcases j8 d d0 d1 hd' with ⟨j, a, b', z⟩ | z | z
          · exact Or.inl ⟨j, a, by omega, by rw [rq1 j a b']; exact z⟩
          · refine Or.inr (Or.inl (fun t t0 t1 hg => ?_))
            obtain ⟨u1, u2⟩ := z t t0 t1 hg
            rw [old _ hg.1 u1, old d d0 hd']
            exact ⟨u1, u2⟩
          · exact Or.inr (Or.inr z)
      · subst eM
        exact (((Fr.refl _ _).up (Or.inl rfl)).up (Or.inr (Or.inl rfl))).up (Or.inr (Or.inr ⟨rfl, Or.inr rfl⟩))
    · by_cases ho : o c = p + 1
      · have hcost : gcost o c = 0 := gcost0 he
        have hgal : gal w h o p c := ⟨c0, hc, Or.inr ho⟩
        have hw := hw hgal
        rw [hcost, Int.add_zero] at hw
        refine ⟨_, C_reach_o P hK c0 (by omega) ha ho hp hqf (by omega) (by omega), ?_⟩
        generalize eM : mUI (mUI (mUI M K c.toNat x) 183 5 (qf - 1)) 191 (qf - 1).toNat c = M'
        have rK : ∀ d : Int, 0 ≤ d → mI M' K d.toNat = if d = c then x else mI M K d.toNat := fun d hd => by
          rw [← eM, mI_Un (by omega), mI_Un (by omega), mI_Z _ _ _ c0 hd]
        have rq : ∀ j : Int, 0 ≤ j → mI M' 191 j.toNat = if j = qf - 1 then c else mI M 191 j.toNat := fun j hj => by
          rw [← eM, mI_Z _ _ _ (by omega) hj, mI_Un (by omega), mI_Un (by omega)]
        have rf : mI M' 183 5 = qf - 1 := by rw [← eM, mI_Un (by omega), mI_Us]
        have re : mI M' 183 6 = qe := by rw [← eM, mI_Un (by omega), mI_Un (by omega), mI_Un (by omega)]; exact hqe
        have old : ∀ d : Int, 0 ≤ d → mI M K d.toNat ≠ 1000 → mI M' K d.toNat = mI M K d.toNat := fun d hd hz => by
          rw [rK d hd, if_neg (fun e => hz (by rw [e]; exact ha))]
        have new : mI M' K c.toNat = x := by rw [rK c c0, if_pos rfl]
        have rq1 : ∀ j : Int, qf ≤ j → j < qe → mI M' 191 j.toNat = mI M 191 j.toNat := fun j a b => by rw [rq j (by omega), if_neg (by omega)]
        have rq2 : mI M' 191 (qf - 1).toNat = c := by rw [rq (qf - 1) (by omega), if_pos rfl]
        refine ⟨⟨fun d d0 d1 => ?_, fun j a b => ?_, fun j j' a b d => ?_, ?_, fun d d0 d1 hd => ?_⟩, ?_, old, fun _ => ⟨by omega, by omega⟩⟩
        · by_cases e : d = c
          · subst e
            right
            rw [new]
            exact ⟨hc, hw, by omega, fun _ => Int.le_refl _⟩
          · rw [rK d d0, if_neg e]
            exact j1 d d0 d1
        · rw [rf] at a; rw [re] at b
          by_cases e : j = qf - 1
          · rw [e, rq2, new]; exact ⟨c0, hc, by omega, Int.le_refl _⟩
          · obtain ⟨y1, y2, y3, y4⟩ := j2 j (by omega) b
            rw [rq1 j (by omega) b, old _ y1 y3]; exact ⟨y1, y2, y3, y4⟩
        · rw [rf] at a; rw [re] at d
          obtain ⟨u1, u2, u3, u4⟩ := j2 j' (by omega) d
          rw [rq1 j' (by omega) d, old _ u1 u3]
          by_cases e : j = qf - 1
          · rw [e, rq2, new]; exact u4
          · obtain ⟨y1, y2, y3, y4⟩ := j2 j (by omega) (by omega)
            rw [rq1 j (by omega) (by omega), old _ y1 y3]
            exact j3 j j' (by omega) b d
        · have e : gcn (fun c => mI M' K c.toNat ≠ 1000) 81 = cnt + 1 := by
            rw [← hcnt]
            exact gcn_add (c0 := c) 81 c0 (by omega) (fun z => z ha) (by rw [new]; omega) (fun d d0 d1 e => by rw [rK d d0, if_neg e])
          rw [e, rf, re]
          omega
        · rw [rf, re]
          by_cases e : d = c
          · exact Or.inl ⟨qf - 1, by omega, by omega, by rw [rq2, e]⟩
          · have hd' : mI M K d.toNat ≠ 1000 := by rw [rK d d0, if_neg e] at hd; exact hd
            rcases j8 d d0 d1 hd' with ⟨j, a, b', z⟩ | z | z
            · exact Or.inl ⟨j, by omega, b', by rw [rq1 j a b']; exact z⟩
            · refine Or.inr (Or.inl (fun t t0 t1 hg => ?_))
              obtain ⟨u1, u2⟩ := z t t0 t1 hg
              rw [old _ hg.1 u1, old d d0 hd']
              exact ⟨u1, u2⟩
            · exact Or.inr (Or.inr z)
        · subst eM
          exact (((Fr.refl _ _).up (Or.inl rfl)).up (Or.inr (Or.inr ⟨rfl, Or.inl rfl⟩))).up (Or.inr (Or.inl rfl))
      · refine ⟨M, C_reach_r P he ho hp, ?_, Fr.refl _ _, fun _ _ _ => rfl, fun ha => ?_⟩
        · rw [← hqf] at j2 j3 j4 j5 j6 j8
          rw [← hqe] at j2 j3 j4 j6 j7 j8
          rw [← hcnt] at j4 j5 j7
          exact ⟨j1, j2, j3, ⟨j4, j5, j6, j7⟩, j8⟩
        · obtain ⟨_, _, z⟩ := ha
          omega
end CRE
